/-! Large worlds: a world as a list of pieces, taken apart and put together by pieces. -/
theorem vaP_mem {D : va_G} {cl : List vw_C} {ws : va_W} {H : Heap} : va_P D cl ws H ↔ ∀ q ∈ ws, va_at D cl q H := by
  constructor
  · intro h q hq
    obtain ⟨k, hk⟩ := List.getElem?_of_mem hq
    exact h k q hk
  · intro h k q hk
    exact h q (List.mem_of_getElem? hk)
theorem vaD_iff {A : Nat → Prop} {ws : va_W} : va_D A ws ↔ (ws.map (fun q => q.1)).Nodup ∧ ∀ q ∈ ws, A q.1 := by
  constructor
  · intro h
    refine ⟨?_, fun q hq => ?_⟩
    · show List.Pairwise _ _
      rw [List.pairwise_iff_getElem]
      intro i j hi hj hij he
      simp only [List.length_map] at hi hj
      simp only [List.getElem_map] at he
      have := h.1 i j _ _ (List.getElem?_eq_getElem hi) (List.getElem?_eq_getElem hj) he
      omega
    · obtain ⟨k, hk⟩ := List.getElem?_of_mem hq
      exact h.2 k q hk
  · intro h
    refine ⟨fun i j p q hi hj hpq => ?_, fun k q hk => h.2 q (List.mem_of_getElem? hk)⟩
    have h1 : List.Pairwise _ _ := h.1
    rw [List.pairwise_iff_getElem] at h1
    obtain ⟨hil, ei⟩ := List.getElem?_eq_some_iff.mp hi
    obtain ⟨hjl, ej⟩ := List.getElem?_eq_some_iff.mp hj
    rcases Nat.lt_trichotomy i j with hl | hl | hl
    · have h2 := h1 i j (by simpa using hil) (by simpa using hjl) hl
      simp only [List.getElem_map] at h2
      rw [ei, ej] at h2
      exact absurd hpq h2
    · exact hl
    · have h2 := h1 j i (by simpa using hjl) (by simpa using hil) hl
      simp only [List.getElem_map] at h2
      rw [ei, ej] at h2
      exact absurd hpq.symm h2
theorem vaP_perm {D : va_G} {cl : List vw_C} {ws ws' : va_W} {H : Heap} (hp : ws.Perm ws') (h : va_P D cl ws H) : va_P D cl ws' H := vaP_mem.mpr fun q hq => vaP_mem.mp h q (hp.mem_iff.mpr hq)
theorem vaD_perm {A : Nat → Prop} {ws ws' : va_W} (hp : ws.Perm ws') (h : va_D A ws) : va_D A ws' := by
  rw [vaD_iff] at h ⊢
  exact ⟨(hp.map _).nodup_iff.mp h.1, fun q hq => h.2 q (hp.mem_iff.mpr hq)⟩
theorem vaP_app {D : va_G} {cl : List vw_C} {a b : va_W} {H : Heap} : va_P D cl (a ++ b) H ↔ va_P D cl a H ∧ va_P D cl b H := by
  simp only [vaP_mem, List.mem_append]
  exact ⟨fun h => ⟨fun q hq => h q (Or.inl hq), fun q hq => h q (Or.inr hq)⟩, fun h q hq => hq.elim (h.1 q) (h.2 q)⟩
theorem vaD_left {A : Nat → Prop} {a b : va_W} (h : va_D A (a ++ b)) : va_D A a := by
  rw [vaD_iff] at h ⊢
  rw [List.map_append, List.nodup_append] at h
  exact ⟨h.1.1, fun q hq => h.2 q (List.mem_append_left _ hq)⟩
theorem range_get {α : Type} : ∀ cs : List α, (List.range cs.length).filterMap (fun i => cs[i]?) = cs
  | [] => rfl
  | x :: t => by
    have h := range_get t
    rw [List.length_cons, List.range_succ_eq_map, List.filterMap_cons]
    simp only [List.getElem?_cons_zero]
    rw [List.filterMap_map]
    show x :: List.filterMap (fun i => t[i]?) _ = _
    rw [h]
/-- pieces of a list of pieces, by their places, in another order -/
theorem pieces_perm {α : Type} {cs : List (List α)} (is : List Nat) (h : is.Perm (List.range cs.length)) : cs.flatten.Perm (is.filterMap (fun i => cs[i]?)).flatten := by
  have h1 := ((h.symm.filterMap (fun i => cs[i]?)).flatten)
  rw [range_get] at h1
  exact h1
section FR
variable {p : Program} {l : Launch} {e : Env} {R : Room} {s : State} {m : MethodId} {args : Array Value} {below : List Frame} {meth : Method} {c : Code} {H : Heap} {locs : List Loc} {cells slots mc ms : Nat} {Q : State → Prop}
variable {cc : ByteArray} {pc : Nat} {ls : Array Slot} {rest st0 : List Value} {A : Nat → Prop} {H0 : Heap} {D : va_G} {cl : List vw_C} {tys : List (ClassId × FieldType)} {wc wr w1 : va_W} {rv : Option Value}
/-- behind a call over wc, beside wr -/
theorem ct_goP {a : Array Value} (hr : va_Run p l e R s m args below meth c H locs cells slots mc ms (F0 m pc ls st0) rest (Qs D cl tys rv w1 (va_A wc H.size) a) (va_A wc H.size))
    (hP : va_P D cl (wc ++ wr) H) (hD : va_D A (wc ++ wr)) (hS : va_S A H0 H locs) (hA : ∀ q, H0.size ≤ q → A q)
    (kk : ∀ (H1 : Heap) (locs1 : List Loc), va_P D cl (w1 ++ wr) H1 → va_D A (w1 ++ wr) → va_S A H0 H1 locs1 → W p l e R s m args below meth c H1 locs1 (cells + mc) (slots + ms) Q (F0 m (pc + 3) ls (rv.toList ++ rest))) : W p l e R s m args below meth c H locs cells slots Q (F0 m pc ls st0) := by
  have hF : ∀ q, va_A wc H.size q → A q := by
    intro q h
    rcases h with ⟨k, e, h⟩ | h
    · exact (vaD_iff.mp hD).2 (q, e) (List.mem_append_left _ (List.mem_of_getElem? h))
    · exact hA q (Nat.le_trans hS.1 h)
  intro T hT X
  obtain ⟨v, st₀, t, T', L, h0, X', hL, e1, e2, ⟨⟨hv, hP1, hK1, hD1⟩, hz, hk⟩, st⟩ := hr T hT X
  cases hv
  rw [h0] at hz hk
  have hk1 : ∀ q : Nat, q < H.size → ¬ va_A wc H.size q → T'.heap[q]? = H[q]? := fun q h1 h2 => by rw [e1]; exact hk q h1 h2
  have hPr := (vaP_app.mp hP).2
  have hD' := vaD_iff.mp hD
  rw [List.map_append, List.nodup_append] at hD'
  have apart : ∀ q ∈ wr, ¬ va_A wc H.size q.1 := by
    intro q hq h
    rcases h with ⟨k, e, h⟩ | h
    · exact hD'.1.2.2 q.1 (List.mem_map.mpr ⟨(q.1, e), List.mem_of_getElem? h, rfl⟩) q.1 (List.mem_map.mpr ⟨q, hq, rfl⟩) rfl
    · obtain ⟨k, hk⟩ := List.getElem?_of_mem hq
      have := (hPr k q hk).lt
      omega
  have hPr1 : va_P D cl wr T'.heap := hPr.kept (fun k q hq => hk1 q.1 (hPr k q hq).lt (apart q (List.mem_of_getElem? hq)))
  have hD1' := vaD_iff.mp hD1
  have hDj : va_D A (w1 ++ wr) := by
    rw [vaD_iff]
    refine ⟨?_, fun q hq => ?_⟩
    · rw [List.map_append, List.nodup_append]
      refine ⟨hD1'.1, hD'.1.2.1, fun x hx y hy hxy => ?_⟩
      obtain ⟨q1, hq1, rfl⟩ := List.mem_map.mp hx
      obtain ⟨q2, hq2, rfl⟩ := List.mem_map.mp hy
      exact apart q2 hq2 (by rw [← hxy]; exact hD1'.2 q1 hq1)
    · rcases List.mem_append.mp hq with h | h
      · exact hF q.1 (hD1'.2 q h)
      · exact hD'.2 q (List.mem_append_right _ h)
  obtain ⟨t2, a1, b1⟩ := kk T'.heap (locs ++ L) (vaP_app.mpr ⟨by rw [e1]; exact hP1, hPr1⟩) hDj ⟨Nat.le_trans hS.1 (by rw [e1]; exact hz), fun q h1 h2 => by rw [hk1 q (Nat.lt_of_lt_of_le h1 hS.1) (fun z => h2 (hF q z))]; exact hS.2.1 q h1 h2, fun q hq => by
      rcases List.mem_append.mp hq with h | h
      · exact hS.2.2 q h
      · exact hF _ (hL q h)⟩ T' rfl X'
  exact ⟨t2, st t2 a1, b1⟩
end FR
theorem pieces_split {cs : List va_W} (isC isR : List Nat) (h : (isC ++ isR).Perm (List.range cs.length)) : cs.flatten.Perm ((isC.filterMap (fun i => cs[i]?)).flatten ++ (isR.filterMap (fun i => cs[i]?)).flatten) := by
  have h1 := pieces_perm (cs := cs) (isC ++ isR) h
  rwa [List.filterMap_append, List.flatten_append] at h1
section FS
variable {p : Program} {l : Launch} {e : Env} {R : Room} {s : State} {m : MethodId} {args : Array Value} {below : List Frame} {meth : Method} {c : Code} {H : Heap} {locs : List Loc} {cells slots mc ms : Nat} {Q : State → Prop}
variable {cc : ByteArray} {pc : Nat} {ls : Array Slot} {rest st0 : List Value} {A : Nat → Prop} {H0 : Heap} {D : va_G} {cl : List vw_C} {tys : List (ClassId × FieldType)} {wc wr w1 : va_W} {rv : Option Value}
theorem ct_goF {a : Array Value} (hr : va_Run p l e R s m args below meth c H locs cells slots mc ms (F0 m pc ls st0) rest (Qs D cl tys rv w1 (va_A wc H.size) a) (va_A wc H.size)) (cs cs' : List va_W) (isC isR : List Nat)
    (hp : (isC ++ isR).Perm (List.range cs.length)) (hlen : cs'.length = cs.length) (eC : (isC.filterMap (fun i => cs[i]?)).flatten = wc) (eC' : (isC.filterMap (fun i => cs'[i]?)).flatten = w1) (eR : isR.filterMap (fun i => cs'[i]?) = isR.filterMap (fun i => cs[i]?))
    (hP : va_P D cl cs.flatten H) (hD : va_D A cs.flatten) (hS : va_S A H0 H locs) (hA : ∀ q, H0.size ≤ q → A q)
    (kk : ∀ (H1 : Heap) (locs1 : List Loc), va_P D cl cs'.flatten H1 → va_D A cs'.flatten → va_S A H0 H1 locs1 → W p l e R s m args below meth c H1 locs1 (cells + mc) (slots + ms) Q (F0 m (pc + 3) ls (rv.toList ++ rest))) : W p l e R s m args below meth c H locs cells slots Q (F0 m pc ls st0) := by
  have q1 := pieces_split (cs := cs) isC isR hp
  have q2 := pieces_split (cs := cs') isC isR (by rw [hlen]; exact hp)
  rw [eC] at q1
  rw [eC', eR] at q2
  refine ct_goP hr (vaP_perm q1 hP) (vaD_perm q1 hD) hS hA (fun H1 locs1 h1 h2 h3 => kk H1 locs1 (vaP_perm q2.symm h1) (vaD_perm q2.symm h2) h3)
/-- the part of a world that a call needs -/
theorem part_P {cs : List va_W} (isC isR : List Nat) (hp : (isC ++ isR).Perm (List.range cs.length)) (eC : (isC.filterMap (fun i => cs[i]?)).flatten = wc) (hP : va_P D cl cs.flatten H) : va_P D cl wc H := by
  have q1 := pieces_split (cs := cs) isC isR hp
  rw [eC] at q1
  exact (vaP_app.mp (vaP_perm q1 hP)).1
theorem part_D {cs : List va_W} (isC isR : List Nat) (hp : (isC ++ isR).Perm (List.range cs.length)) (eC : (isC.filterMap (fun i => cs[i]?)).flatten = wc) (hD : va_D A cs.flatten) : va_D A wc := by
  have q1 := pieces_split (cs := cs) isC isR hp
  rw [eC] at q1
  exact vaD_left (vaD_perm q1 hD)
/-- invokevirtual, large world -/
theorem ct_VF {nL index n maxL b ci : Nat} {y : MethodName} {bytes : ByteArray} {ret : Option FieldType} {rm : Room} {own C : String} {As : List Value} {k0 : Cond} {fs : List Value} {q : vw_C}
    (S : CallFix p m c cc nL s args (k0 :: ga) own) (hF : Fm y bytes maxL ret n) (hC : Ctr l y (Cond.code y bytes maxL ret :: ga) rm D cl tys (.ref b :: As) wc rv w1)
    (m1 : Cond.methodLink own index y ∈ ga) (m2 : Cond.instanceMethod y ∈ ga) (m3 : Cond.selects C y y ∈ ga)
    (hR : rm.frames + 1 ≤ R.frames ∧ 8 + (maxL + 11) + rm.locals ≤ R.locals) (hrc : rm.cells = 0) (hrs : rm.slots = 0) (hcs : cells ≤ R.cells ∧ slots ≤ R.slots)
    (hK : va_K D cl tys s) (hN : nw s) (cs cs' : List va_W) (isC isR : List Nat) (hp : (isC ++ isR).Perm (List.range cs.length)) (hlen : cs'.length = cs.length) (eC : (isC.filterMap (fun i => cs[i]?)).flatten = wc) (eC' : (isC.filterMap (fun i => cs'[i]?)).flatten = w1) (eR : isR.filterMap (fun i => cs'[i]?) = isR.filterMap (fun i => cs[i]?))
    (hP : va_P D cl cs.flatten H) (hD : va_D A cs.flatten) (hS : va_S A H0 H locs) (hA : ∀ q, H0.size ≤ q → A q)
    (hc : cl[ci]? = some q) (hq : q.1 = C) (he : wc[0]? = some (b, .inr (ci, fs)))
    (hn : As.length = n) (hsize : ls.size = nL) (hst : st0 = As.reverse ++ .ref b :: rest) (hW : (rest.map fun v => v.category).sum ≤ 8) (hdg : decode cc pc = .ok (.invokevirtual index, 3))
    (kk : ∀ (H1 : Heap) (locs1 : List Loc), va_P D cl cs'.flatten H1 → va_D A cs'.flatten → va_S A H0 H1 locs1 → W p l e R s m args below meth c H1 locs1 cells slots Q (F0 m (pc + 3) ls (rv.toList ++ rest))) : W p l e R s m args below meth c H locs cells slots Q (F0 m pc ls st0) := by
  have hts := S.2.2.2.2
  have tb : ∀ {w : Cond}, w ∈ ga → w.before args s = true := fun h => hts _ (List.mem_cons_of_mem _ h)
  subst hq
  have hPc := part_P isC isR hp eC hP
  exact ct_goF (va_runV (C := q.1) (As := As) S (hC H.size) ⟨callB_of n hts (ga_good hF.1) rfl hrc hrs (tb hF.2.1) (tb m1) hF.2.2 hR, tb m2, tb m3⟩ ⟨Ps_blind, va_recv hK hPc hc he, ct_pre hK hN hPc (part_D isC isR hp eC hD)⟩ rfl hn hsize hst (lv_room hW) hdg hcs) cs cs' isC isR hp hlen eC eC' eR hP hD hS hA kk
/-- the same, of a method that changes nothing -/
theorem ct_VFR {nL index n maxL b ci : Nat} {y : MethodName} {bytes : ByteArray} {ret : Option FieldType} {rm : Room} {own C : String} {As : List Value} {k0 : Cond} {fs : List Value} {q : vw_C}
    (S : CallFix p m c cc nL s args (k0 :: ga) own) (hF : Fm y bytes maxL ret n) (hC : CtrR l y (Cond.code y bytes maxL ret :: ga) rm D cl tys (.ref b :: As) wc rv)
    (m1 : Cond.methodLink own index y ∈ ga) (m2 : Cond.instanceMethod y ∈ ga) (m3 : Cond.selects C y y ∈ ga)
    (hR : rm.frames + 1 ≤ R.frames ∧ 8 + (maxL + 11) + rm.locals ≤ R.locals) (hrc : rm.cells = 0) (hrs : rm.slots = 0) (hcs : cells ≤ R.cells ∧ slots ≤ R.slots)
    (hK : va_K D cl tys s) (hN : nw s) (cs : List va_W) (isC isR : List Nat) (hp : (isC ++ isR).Perm (List.range cs.length)) (eC : (isC.filterMap (fun i => cs[i]?)).flatten = wc)
    (hP : va_P D cl cs.flatten H) (hD : va_D A cs.flatten)
    (hc : cl[ci]? = some q) (hq : q.1 = C) (he : wc[0]? = some (b, .inr (ci, fs)))
    (hn : As.length = n) (hsize : ls.size = nL) (hst : st0 = As.reverse ++ .ref b :: rest) (hW : (rest.map fun v => v.category).sum ≤ 8) (hdg : decode cc pc = .ok (.invokevirtual index, 3))
    (kk : W p l e R s m args below meth c H locs cells slots Q (F0 m (pc + 3) ls (rv.toList ++ rest))) : W p l e R s m args below meth c H locs cells slots Q (F0 m pc ls st0) := by
  have hts := S.2.2.2.2
  have tb : ∀ {w : Cond}, w ∈ ga → w.before args s = true := fun h => hts _ (List.mem_cons_of_mem _ h)
  subst hq
  have hPc := part_P isC isR hp eC hP
  exact ct_goR (va_runV (C := q.1) (As := As) S (hC H.size) ⟨callB_of n hts (ga_good hF.1) rfl hrc hrs (tb hF.2.1) (tb m1) hF.2.2 hR, tb m2, tb m3⟩ ⟨Ps_blind, va_recv hK hPc hc he, ct_pre hK hN hPc (part_D isC isR hp eC hD)⟩ rfl hn hsize hst (lv_room hW) hdg hcs) kk
/-- what a caller of a method with handlers needs of the tables -/
def FmW (y : MethodName) (bytes : ByteArray) (maxL : Nat) (ret : Option FieldType) (hh : List (Nat × Nat × Nat × Nat)) (n : Nat) : Prop :=
  Cond.codeWith y bytes maxL ret hh ∈ ga ∧ Cond.initialized y.cls ∈ ga ∧ (y.cls ≠ "java/lang/invoke/MethodHandle" ∧ y.cls ≠ "java/lang/invoke/VarHandle") ∧ (parseMethodDescriptor y.desc).map (fun d => d.parameters.length) = some n
/-- invokestatic of one of the law's own calls, large world -/
theorem ct_SG {nL index n maxL : Nat} {y : MethodName} {bytes : ByteArray} {ret : Option FieldType} {hh : List (Nat × Nat × Nat × Nat)} {rm : Room} {own : String} {As : List Value} {k0 : Cond}
    (S : CallFix p m c cc nL s args (k0 :: ga) own) (hF : FmW y bytes maxL ret hh n) (hC : CtG l y (Cond.codeWith y bytes maxL ret hh :: ga) rm D cl tys As wc rv w1)
    (m1 : Cond.methodLink own index y ∈ ga) (m2 : Cond.static y ∈ ga)
    (hR : rm.frames + 1 ≤ R.frames ∧ 8 + (maxL + 11) + rm.locals ≤ R.locals) (hrc : rm.cells = 1) (hrs : rm.slots = 6) (hcs : cells + 1 ≤ R.cells ∧ slots + 6 ≤ R.slots)
    (hK : va_K D cl tys s) (hN : nw s) (hZ : thS A s H) (hT0 : thT s) (hNc : thN s) (cs cs' : List va_W) (isC isR : List Nat) (hp : (isC ++ isR).Perm (List.range cs.length)) (hlen : cs'.length = cs.length) (eC : (isC.filterMap (fun i => cs[i]?)).flatten = wc) (eC' : (isC.filterMap (fun i => cs'[i]?)).flatten = w1) (eR : isR.filterMap (fun i => cs'[i]?) = isR.filterMap (fun i => cs[i]?))
    (hP : va_P D cl cs.flatten H) (hD : va_D A cs.flatten) (hS : va_S A H0 H locs) (hA : ∀ q, H0.size ≤ q → A q)
    (hn : As.length = n) (hsize : ls.size = nL) (hst : st0 = As.reverse ++ rest) (hW : (rest.map fun v => v.category).sum ≤ 8) (hdg : decode cc pc = .ok (.invokestatic index, 3))
    (kk : ∀ (H1 : Heap) (locs1 : List Loc), va_P D cl cs'.flatten H1 → va_D A cs'.flatten → va_S A H0 H1 locs1 → W p l e R s m args below meth c H1 locs1 (cells + 1) (slots + 6) Q (F0 m (pc + 3) ls (rv.toList ++ rest))) : W p l e R s m args below meth c H locs cells slots Q (F0 m pc ls st0) := by
  have hts := S.2.2.2.2
  have tb : ∀ {w : Cond}, w ∈ ga → w.before args s = true := fun h => hts _ (List.mem_cons_of_mem _ h)
  have hPc := part_P isC isR hp eC hP
  have hDc := part_D isC isR hp eC hD
  have hFc : ∀ q, va_A wc H.size q → A q := by
    intro q h
    rcases h with ⟨k, e, h⟩ | h
    · exact hDc.2 k (q, e) h
    · exact hA q (Nat.le_trans hS.1 h)
  have hpre : ∀ U : State, U.heap = H → s.WarmedH U.vm → PsL D cl tys As wc H.size As.toArray U := by
    intro U hU hW
    refine ⟨⟨ct_pre hK hN hPc hDc U hU hW, ?_, hT0.warm hW⟩, hNc.moved hW.alike⟩
    rw [hU]
    exact (hZ.narrow hFc).moved hW.alike
  refine ct_goF (a := As.toArray) (tys := tys) (mc := 1) (ms := 6) ?_ cs cs' isC isR hp hlen eC eC' eR hP hD hS hA kk
  have hK9 : Back l R p e below s args y 3 8 (PreOf R 1 6 (PsL D cl tys As wc H.size)) (PostOf (Qs D cl tys rv w1 (va_A wc H.size)) 1 6 (va_A wc H.size)) :=
    va_backW (hh := hh) (bytes := bytes) (maxL := maxL) (ret := ret) (hC H.size) PsL_blind hrc hrs hR.1 hR.2 (pay_in hts (ga_good hF.1)) List.mem_cons_self (fun a' U hW => word_at hW (ga_ok hF.2.1) (tb hF.2.1))
  obtain ⟨hx, hb, hml, hown, -⟩ := S
  intro T hT X
  obtain ⟨mk, methM, cM, hnamed, hmethM, -, -, -, -, -, -, hsigM⟩ := Cond.codeWith_spec (tb hF.1)
  have hstatic : methM.isStatic = true := Cond.static_spec hnamed hmethM (tb m2)
  obtain ⟨kP, hkP, -⟩ := className_of_methodNamed hnamed
  have hinitP : kP.init = .initialized := Cond.initialized_spec (findClass_of_methodNamed hnamed) hkP (tb hF.2.1)
  have hlen2 : As.length = methM.sig.parameters.length := by
    have h2 := hF.2.2.2
    rw [hsigM] at h2
    rw [hn]; exact (Option.some.inj h2).symm
  obtain ⟨vm₁, X₁, hstep₁⟩ := X.invokestatic hx hown (tb m1) hnamed hmethM hstatic hkP hinitP hF.2.2.1 (g := F0 m pc ls st0) rfl (argsL := As) (rest := rest) hlen2 hst (by rw [hb]; exact hdg)
  obtain ⟨v, B9, X', hpost, hsteps⟩ := hK9 m meth c ⟨T.setVm vm₁, locs, cells, slots⟩ { F0 m pc ls st0 with stack := rest } (.invokestatic index) mk As.toArray X₁ rfl (hsize.trans hml.symm) (by rw [hb]; exact hdg) (lv_room hW) (X₁.named hnamed) ⟨hcs.1, hcs.2, hpre (T.setVm vm₁) hT X₁.warmed⟩
  obtain ⟨g', mk', t, L, e1, e2, hq, h1, hL, h2, h3⟩ := hpost
  obtain ⟨U', l2, c2, s2⟩ := B9
  dsimp only [Pt.U, Pt.locs, Pt.cells, Pt.slots] at X' e1 e2 h1 h2 h3 hsteps
  subst h1; subst h2; subst h3
  exact ⟨v, (T.setVm vm₁).calling g' mk' As.toArray, t, U', L, hT, X', hL, e1, e2, hq, fun target h => hstep₁ _ fun acts => by rw [doInvoke_state]; exact hsteps.trans h⟩
end FS
