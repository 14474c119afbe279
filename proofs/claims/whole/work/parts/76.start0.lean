/-! the law: its first and last rows, what stands around its cases (written by a program of mine) -/
theorem d_Law_law_0 : decode code 0 = .ok (.new 8, 3) := by decide +kernel
theorem d_Law_law_3 : decode code 3 = .ok (.dup, 1) := by decide +kernel
theorem d_Law_law_4 : decode code 4 = .ok (.invokespecial 63, 3) := by decide +kernel
theorem d_Law_law_7 : decode code 7 = .ok (.astore_n 1, 1) := by decide +kernel
theorem d_Law_law_8 : decode code 8 = .ok (.new 64, 3) := by decide +kernel
theorem d_Law_law_11 : decode code 11 = .ok (.dup, 1) := by decide +kernel
theorem d_Law_law_12 : decode code 12 = .ok (.invokespecial 66, 3) := by decide +kernel
theorem d_Law_law_15 : decode code 15 = .ok (.astore_n 2, 1) := by decide +kernel
theorem d_Law_law_16 : decode code 16 = .ok (.iconst 1, 1) := by decide +kernel
theorem d_Law_law_17 : decode code 17 = .ok (.newarray .long, 2) := by decide +kernel
theorem d_Law_law_19 : decode code 19 = .ok (.astore_n 3, 1) := by decide +kernel
theorem d_Law_law_20 : decode code 20 = .ok (.iconst 0, 1) := by decide +kernel
theorem d_Law_law_21 : decode code 21 = .ok (.istore 4, 2) := by decide +kernel
theorem d_Law_law_23 : decode code 23 = .ok (.iload 4, 2) := by decide +kernel
theorem d_Law_law_25 : decode code 25 = .ok (.aload_n 0, 1) := by decide +kernel
theorem d_Law_law_26 : decode code 26 = .ok (.arraylength, 1) := by decide +kernel
theorem d_Law_law_27 : decode code 27 = .ok (.iconst 3, 1) := by decide +kernel
theorem d_Law_law_28 : decode code 28 = .ok (.isub, 1) := by decide +kernel
theorem d_Law_law_29 : decode code 29 = .ok (.if_icmp .gt 853, 3) := by decide +kernel
theorem d_Law_law_32 : decode code 32 = .ok (.aload_n 0, 1) := by decide +kernel
theorem d_Law_law_33 : decode code 33 = .ok (.iload 4, 2) := by decide +kernel
theorem d_Law_law_35 : decode code 35 = .ok (.iaload, 1) := by decide +kernel
theorem d_Law_law_36 : decode code 36 = .ok (.bipush 31, 2) := by decide +kernel
theorem d_Law_law_38 : decode code 38 = .ok (.iand, 1) := by decide +kernel
theorem d_Law_law_39 : decode code 39 = .ok (.tableswitch 837 0 16 #[81, 137, 173, 186, 199, 255, 323, 336, 372, 428, 500, 556, 612, 656, 669, 713, 769], 81) := by decide +kernel
theorem d_Law_law_876 : decode code 876 = .ok (.iinc 4 3, 3) := by decide +kernel
theorem d_Law_law_879 : decode code 879 = .ok (.goto (-856), 3) := by decide +kernel
theorem d_Law_law_882 : decode code 882 = .ok (.iconst 1, 1) := by decide +kernel
theorem d_Law_law_883 : decode code 883 = .ok (.ireturn, 1) := by decide +kernel
def R_law : String := "HelpFileLaw"
def lw_P (b : Addr) (xs : List Int32) (args : Array Value) (s : State) : Prop := args = #[.ref b] ∧ s.IntsAt b xs ∧ xs.length ≤ 1536 ∧ (Jvm.Cond.and given_1 narrow_1).before args s = true
def lw_Q (_ : Array Value) (s : State) (o : Outcome) (t : State) : Prop := o = .returned (some (.int 1)) ∧ Framed s o t [] 601024 7293034
def lw_Z (below : List Frame) (a : Array Value) (s : State) : State → Prop := fun t => ∃ o, t.status = .running ∧ Ended t below o ∧ lw_Q a s o t
/-- the law's own end, with 1 on the stack, nothing written that was there before, its room as the claim has it -/
theorem lw_ret {p : Program} {l : Launch} {e : Env} {s : State} {m : MethodId} {below : List Frame} {meth : Method} {c : Code} {b : Nat} (hx : p.tables.exec = Jvm.exec) (hb : c.code = code) (hr : meth.sig.returnType = ret) (hlocks : meth.locks = false) {pc : Nat} {H : Heap} {ls : Array Slot} (hdg : decode code pc = .ok (.ireturn, 1)) : W p l e room_1 s m #[Value.ref b] below meth c H [] 601024 7293034 (lw_Z below #[Value.ref b] s) (F0 m pc ls [.int 1]) := by
  intro T hT X
  obtain ⟨fs, hret, hrun, hended, hW, hframe⟩ := X.leave (v := some (.int 1)) (hlocks := hlocks) (fun h => by rw [hr] at h; cases h)
  have hmeth' : T.vm.method? m = some meth := X.method'
  refine ⟨T.setFrames fs, ?_, .returned (some (.int 1)), hrun, hended, rfl, ⟨_, rfl⟩, hW, hframe⟩
  jvm_step X.here [X.here.top, hx, hb, hdg, hmeth', hr, ret, narrow_b1]
  (try refine ⟨rfl, ?_⟩); (try refine ⟨rfl, ?_⟩)
  first | (intro acts; rw [hret _ acts rfl rfl rfl]) | rw [hret _ _ rfl rfl rfl]
  exact Steps.refl _
/-- what holds at the law's entry: the machine, the code, the tables' words (any of lw_tbl by 'hts w (by decide +kernel)'), the script of L ints xs at the cell b, what the Statement gives of the start (any of its parts by flat_of_before) -/
def lw_At (p : Program) (s : State) (m : MethodId) (meth : Method) (c : Code) (b L : Nat) (xs : Nat → Int32) : Prop :=
  p.tables.exec = Jvm.exec ∧ c.code = code ∧ meth.sig.returnType = ret ∧ c.maxLocals = 7 ∧ s.vm.findClass R_law = some m.cls ∧ (∀ w ∈ lw_tbl, w.before #[Value.ref b] s = true) ∧ va_X b L xs s s.heap ∧ b < s.heap.size ∧ meth.locks = false ∧ (Jvm.Cond.and given_1 narrow_1).before #[Value.ref b] s = true
theorem lw_switch {p : Program} {l : Launch} {e : Env} {s : State} {m : MethodId} {below : List Frame} {meth : Method} {c : Code} {args : Array Value} {R : Room} {H : Heap} {locs : List Loc} {cells slots : Nat} {Q : State → Prop} {ls : Array Slot} (hx : p.tables.exec = Jvm.exec) (hb : c.code = code) {w : Int32} (k0 : W p l e R s m args below meth c H locs cells slots Q (F0 m 120 ls [])) (k1 : W p l e R s m args below meth c H locs cells slots Q (F0 m 176 ls [])) (k2 : W p l e R s m args below meth c H locs cells slots Q (F0 m 212 ls [])) (k3 : W p l e R s m args below meth c H locs cells slots Q (F0 m 225 ls [])) (k4 : W p l e R s m args below meth c H locs cells slots Q (F0 m 238 ls [])) (k5 : W p l e R s m args below meth c H locs cells slots Q (F0 m 294 ls [])) (k6 : W p l e R s m args below meth c H locs cells slots Q (F0 m 362 ls [])) (k7 : W p l e R s m args below meth c H locs cells slots Q (F0 m 375 ls [])) (k8 : W p l e R s m args below meth c H locs cells slots Q (F0 m 411 ls [])) (k9 : W p l e R s m args below meth c H locs cells slots Q (F0 m 467 ls [])) (k10 : W p l e R s m args below meth c H locs cells slots Q (F0 m 539 ls [])) (k11 : W p l e R s m args below meth c H locs cells slots Q (F0 m 595 ls [])) (k12 : W p l e R s m args below meth c H locs cells slots Q (F0 m 651 ls [])) (k13 : W p l e R s m args below meth c H locs cells slots Q (F0 m 695 ls [])) (k14 : W p l e R s m args below meth c H locs cells slots Q (F0 m 708 ls [])) (k15 : W p l e R s m args below meth c H locs cells slots Q (F0 m 752 ls [])) (k16 : W p l e R s m args below meth c H locs cells slots Q (F0 m 808 ls [])) (kd : W p l e R s m args below meth c H locs cells slots Q (F0 m 876 ls [])) : W p l e R s m args below meth c H locs cells slots Q (F0 m 39 ls [.int w]) := by
  by_cases h0 : w = 0
  · exact lv_tableIn (tgt := 120) (off := 81) hx hb d_Law_law_39 (by rw [h0]; decide) (by rw [h0]; decide) (by rw [h0]; rfl) (by decide) k0
  by_cases h1 : w = 1
  · exact lv_tableIn (tgt := 176) (off := 137) hx hb d_Law_law_39 (by rw [h1]; decide) (by rw [h1]; decide) (by rw [h1]; rfl) (by decide) k1
  by_cases h2 : w = 2
  · exact lv_tableIn (tgt := 212) (off := 173) hx hb d_Law_law_39 (by rw [h2]; decide) (by rw [h2]; decide) (by rw [h2]; rfl) (by decide) k2
  by_cases h3 : w = 3
  · exact lv_tableIn (tgt := 225) (off := 186) hx hb d_Law_law_39 (by rw [h3]; decide) (by rw [h3]; decide) (by rw [h3]; rfl) (by decide) k3
  by_cases h4 : w = 4
  · exact lv_tableIn (tgt := 238) (off := 199) hx hb d_Law_law_39 (by rw [h4]; decide) (by rw [h4]; decide) (by rw [h4]; rfl) (by decide) k4
  by_cases h5 : w = 5
  · exact lv_tableIn (tgt := 294) (off := 255) hx hb d_Law_law_39 (by rw [h5]; decide) (by rw [h5]; decide) (by rw [h5]; rfl) (by decide) k5
  by_cases h6 : w = 6
  · exact lv_tableIn (tgt := 362) (off := 323) hx hb d_Law_law_39 (by rw [h6]; decide) (by rw [h6]; decide) (by rw [h6]; rfl) (by decide) k6
  by_cases h7 : w = 7
  · exact lv_tableIn (tgt := 375) (off := 336) hx hb d_Law_law_39 (by rw [h7]; decide) (by rw [h7]; decide) (by rw [h7]; rfl) (by decide) k7
  by_cases h8 : w = 8
  · exact lv_tableIn (tgt := 411) (off := 372) hx hb d_Law_law_39 (by rw [h8]; decide) (by rw [h8]; decide) (by rw [h8]; rfl) (by decide) k8
  by_cases h9 : w = 9
  · exact lv_tableIn (tgt := 467) (off := 428) hx hb d_Law_law_39 (by rw [h9]; decide) (by rw [h9]; decide) (by rw [h9]; rfl) (by decide) k9
  by_cases h10 : w = 10
  · exact lv_tableIn (tgt := 539) (off := 500) hx hb d_Law_law_39 (by rw [h10]; decide) (by rw [h10]; decide) (by rw [h10]; rfl) (by decide) k10
  by_cases h11 : w = 11
  · exact lv_tableIn (tgt := 595) (off := 556) hx hb d_Law_law_39 (by rw [h11]; decide) (by rw [h11]; decide) (by rw [h11]; rfl) (by decide) k11
  by_cases h12 : w = 12
  · exact lv_tableIn (tgt := 651) (off := 612) hx hb d_Law_law_39 (by rw [h12]; decide) (by rw [h12]; decide) (by rw [h12]; rfl) (by decide) k12
  by_cases h13 : w = 13
  · exact lv_tableIn (tgt := 695) (off := 656) hx hb d_Law_law_39 (by rw [h13]; decide) (by rw [h13]; decide) (by rw [h13]; rfl) (by decide) k13
  by_cases h14 : w = 14
  · exact lv_tableIn (tgt := 708) (off := 669) hx hb d_Law_law_39 (by rw [h14]; decide) (by rw [h14]; decide) (by rw [h14]; rfl) (by decide) k14
  by_cases h15 : w = 15
  · exact lv_tableIn (tgt := 752) (off := 713) hx hb d_Law_law_39 (by rw [h15]; decide) (by rw [h15]; decide) (by rw [h15]; rfl) (by decide) k15
  by_cases h16 : w = 16
  · exact lv_tableIn (tgt := 808) (off := 769) hx hb d_Law_law_39 (by rw [h16]; decide) (by rw [h16]; decide) (by rw [h16]; rfl) (by decide) k16
  have a0 := lv_neT (a := 0) h0 (by decide)
  have a1 := lv_neT (a := 1) h1 (by decide)
  have a2 := lv_neT (a := 2) h2 (by decide)
  have a3 := lv_neT (a := 3) h3 (by decide)
  have a4 := lv_neT (a := 4) h4 (by decide)
  have a5 := lv_neT (a := 5) h5 (by decide)
  have a6 := lv_neT (a := 6) h6 (by decide)
  have a7 := lv_neT (a := 7) h7 (by decide)
  have a8 := lv_neT (a := 8) h8 (by decide)
  have a9 := lv_neT (a := 9) h9 (by decide)
  have a10 := lv_neT (a := 10) h10 (by decide)
  have a11 := lv_neT (a := 11) h11 (by decide)
  have a12 := lv_neT (a := 12) h12 (by decide)
  have a13 := lv_neT (a := 13) h13 (by decide)
  have a14 := lv_neT (a := 14) h14 (by decide)
  have a15 := lv_neT (a := 15) h15 (by decide)
  have a16 := lv_neT (a := 16) h16 (by decide)
  exact lv_tableOut (tgt := 876) hx hb d_Law_law_39 (by omega) (by decide) kd
