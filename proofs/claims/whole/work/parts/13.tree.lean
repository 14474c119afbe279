/-! 13.tree: what each method does, read off its bytecode (D_..), and its contract (c_..); written by a program of mine. -/
-- Tree.rowNodes
abbrev b_Tree_rowNodes : ByteArray := prog_10_method_2_code
def y_Tree_rowNodes : MethodName := ⟨"HelpFile$Tree", "rowNodes", "(II)I"⟩
theorem k37_methodLink : Cond.methodLink "HelpFile$Tree" 9 ⟨"java/lang/Math", "max", "(II)I"⟩ ∈ ga := ga_t 509 (by decide +kernel) rfl
theorem k38_static : Cond.static ⟨"java/lang/Math", "max", "(II)I"⟩ ∈ ga := ga_t 510 (by decide +kernel) rfl
theorem k39_initialized : Cond.initialized "java/lang/Math" ∈ ga := ga_t 19 (by decide +kernel) rfl
set_option maxRecDepth 100000 in
theorem k40_code : (Jvm.Cond.code ({ cls := "java/lang/Math", name := "max", desc := "(II)I" } : Jvm.MethodName) prog_20_method_65_code (2 : Nat) (Option.some Jvm.ClassFile.FieldType.int)) ∈ ga := ga_t 511 rfl rfl
theorem k41_initialized : Cond.initialized "HelpFile$Tree" ∈ ga := ga_t 18 (by decide +kernel) rfl
set_option maxRecDepth 100000 in
theorem fm_Tree_rowNodes : Fm y_Tree_rowNodes b_Tree_rowNodes 2 (some .int) 2 := ⟨ga_t 508 rfl rfl, k41_initialized, by decide, by decide, by decide +kernel⟩
def D_Tree_rowNodes (k0 : Int32) (k1 : Int32) (res : Int32) : Prop := (¬ (if k1 < 1 then 1 else k1) = 0 ∧ (res = ((k0 + k1) - 1) / (if k1 < 1 then 1 else k1)))
theorem d_Tree_rowNodes_0 : decode b_Tree_rowNodes 0 = .ok (.iload_n 0, 1) := by decide +kernel
theorem d_Tree_rowNodes_1 : decode b_Tree_rowNodes 1 = .ok (.iload_n 1, 1) := by decide +kernel
theorem d_Tree_rowNodes_2 : decode b_Tree_rowNodes 2 = .ok (.iadd, 1) := by decide +kernel
theorem d_Tree_rowNodes_3 : decode b_Tree_rowNodes 3 = .ok (.iconst 1, 1) := by decide +kernel
theorem d_Tree_rowNodes_4 : decode b_Tree_rowNodes 4 = .ok (.isub, 1) := by decide +kernel
theorem d_Tree_rowNodes_5 : decode b_Tree_rowNodes 5 = .ok (.iload_n 1, 1) := by decide +kernel
theorem d_Tree_rowNodes_6 : decode b_Tree_rowNodes 6 = .ok (.iconst 1, 1) := by decide +kernel
theorem d_Tree_rowNodes_7 : decode b_Tree_rowNodes 7 = .ok (.invokestatic 9, 3) := by decide +kernel
theorem d_Tree_rowNodes_10 : decode b_Tree_rowNodes 10 = .ok (.idiv, 1) := by decide +kernel
theorem d_Tree_rowNodes_11 : decode b_Tree_rowNodes 11 = .ok (.ireturn, 1) := by decide +kernel
set_option maxHeartbeats 4000000 in
set_option maxRecDepth 100000 in
theorem c_Tree_rowNodes (l : Launch) (dC : Nat → ClassId) (dI : Nat → Nat → Nat) (cI cL cZ : ClassId) (k0 : Int32) (k1 : Int32) (res : Int32) (hd : D_Tree_rowNodes k0 k1 res) : CtrR l y_Tree_rowNodes (Cond.code y_Tree_rowNodes b_Tree_rowNodes 2 (some .int) :: ga) { frames := 1, cells := 0, slots := 0, locals := 21 } (dC, dI) classes (Tys cI cL cZ) [.int k0, .int k1] (([] : va_W)) (some (.int res)) := by
  refine CtrR.ofW (by decide) (Nat.le_of_ble_eq_true rfl) ?_
  intro p e s m below meth c ls hx hb hr hml hown hlocks hts hK hN hP hD hl
  have hown : s.vm.findClass R_Tree = some m.cls := hown
  have hl : lv_has ls 2 [(0, .int k0), (1, .int k1)] := hl
  refine lv_iload_n hx hb d_Tree_rowNodes_0 rfl (lv_at hl 0 rfl) ?_
  refine lv_iload_n hx hb d_Tree_rowNodes_1 rfl (lv_at hl 1 rfl) ?_
  refine lv_iadd hx hb d_Tree_rowNodes_2 ?_
  refine lv_iconst (v := 1) hx hb d_Tree_rowNodes_3 (by decide) ?_
  refine lv_isub hx hb d_Tree_rowNodes_4 ?_
  refine lv_iload_n hx hb d_Tree_rowNodes_5 rfl (lv_at hl 1 rfl) ?_
  refine lv_iconst (v := 1) hx hb d_Tree_rowNodes_6 (by decide) ?_
  refine va_mmax hx hb (by rw [hml]; exact hl.1.symm) hown (hts _ (List.mem_cons_of_mem _ k37_methodLink)) (hts _ (List.mem_cons_of_mem _ k38_static)) (hts _ (List.mem_cons_of_mem _ k39_initialized)) (hts _ (List.mem_cons_of_mem _ k40_code)) (Nat.le_of_ble_eq_true rfl) (Nat.le_of_ble_eq_true rfl) (Nat.zero_le _) (Nat.zero_le _) d_Tree_rowNodes_7 ?_
  obtain ⟨h10, hd⟩ := hd
  refine lv_idiv hx hb d_Tree_rowNodes_10 h10 ?_
  have e0 : res = ((k0 + k1) - 1) / (if k1 < 1 then 1 else k1) := hd
  subst e0
  exact ct_iretR hx hb hr hlocks d_Tree_rowNodes_11
-- Tree.nodes
abbrev b_Tree_nodes : ByteArray := prog_10_method_3_code
def y_Tree_nodes : MethodName := ⟨"HelpFile$Tree", "nodes", "(I)I"⟩
theorem k42_methodLink : Cond.methodLink "HelpFile$Tree" 17 ⟨"HelpFile$Tree", "rowNodes", "(II)I"⟩ ∈ ga := ga_t 506 (by decide +kernel) rfl
theorem k43_static : Cond.static ⟨"HelpFile$Tree", "rowNodes", "(II)I"⟩ ∈ ga := ga_t 507 (by decide +kernel) rfl
set_option maxRecDepth 100000 in
theorem fm_Tree_nodes : Fm y_Tree_nodes b_Tree_nodes 3 (some .int) 1 := ⟨ga_t 505 rfl rfl, k41_initialized, by decide, by decide, by decide +kernel⟩
def B_Tree_nodes_8 (res : Int32) (X : Int32 → Int32 → Int32 → Prop) (x0 : Int32) (x1 : Int32) (x2 : Int32) : Prop := ((x0 ≤ x2 → (res = x1)) ∧ (¬ (x0 ≤ x2) → (∃ r18 : Int32, D_Tree_rowNodes x0 (x2 * 4) r18 ∧ X x0 (x1 + r18) (x2 * 4))))
def S_Tree_nodes (res : Int32) (X : Int32 → Int32 → Int32 → Prop) : Int32 → Int32 → Int32 → Prop := fun x0 x1 x2 => B_Tree_nodes_8 res X x0 x1 x2
def T_Tree_nodes (res : Int32) : Nat → (Int32 → Int32 → Int32 → Prop)
  | 0 => fun _ _ _ => False
  | n + 1 => S_Tree_nodes res (T_Tree_nodes res n)
def D_Tree_nodes (k0 : Int32) (res : Int32) : Prop := ∃ n : Nat, (∃ r2 : Int32, D_Tree_rowNodes k0 4 r2 ∧ T_Tree_nodes res n k0 r2 4)
theorem d_Tree_nodes_0 : decode b_Tree_nodes 0 = .ok (.iload_n 0, 1) := by decide +kernel
theorem d_Tree_nodes_1 : decode b_Tree_nodes 1 = .ok (.iconst 4, 1) := by decide +kernel
theorem d_Tree_nodes_2 : decode b_Tree_nodes 2 = .ok (.invokestatic 17, 3) := by decide +kernel
theorem d_Tree_nodes_5 : decode b_Tree_nodes 5 = .ok (.istore_n 1, 1) := by decide +kernel
theorem d_Tree_nodes_6 : decode b_Tree_nodes 6 = .ok (.iconst 4, 1) := by decide +kernel
theorem d_Tree_nodes_7 : decode b_Tree_nodes 7 = .ok (.istore_n 2, 1) := by decide +kernel
theorem d_Tree_nodes_8 : decode b_Tree_nodes 8 = .ok (.iload_n 2, 1) := by decide +kernel
theorem d_Tree_nodes_9 : decode b_Tree_nodes 9 = .ok (.iload_n 0, 1) := by decide +kernel
theorem d_Tree_nodes_10 : decode b_Tree_nodes 10 = .ok (.if_icmp .ge 20, 3) := by decide +kernel
theorem d_Tree_nodes_13 : decode b_Tree_nodes 13 = .ok (.iload_n 1, 1) := by decide +kernel
theorem d_Tree_nodes_14 : decode b_Tree_nodes 14 = .ok (.iload_n 0, 1) := by decide +kernel
theorem d_Tree_nodes_15 : decode b_Tree_nodes 15 = .ok (.iload_n 2, 1) := by decide +kernel
theorem d_Tree_nodes_16 : decode b_Tree_nodes 16 = .ok (.iconst 4, 1) := by decide +kernel
theorem d_Tree_nodes_17 : decode b_Tree_nodes 17 = .ok (.imul, 1) := by decide +kernel
theorem d_Tree_nodes_18 : decode b_Tree_nodes 18 = .ok (.invokestatic 17, 3) := by decide +kernel
theorem d_Tree_nodes_21 : decode b_Tree_nodes 21 = .ok (.iadd, 1) := by decide +kernel
theorem d_Tree_nodes_22 : decode b_Tree_nodes 22 = .ok (.istore_n 1, 1) := by decide +kernel
theorem d_Tree_nodes_23 : decode b_Tree_nodes 23 = .ok (.iload_n 2, 1) := by decide +kernel
theorem d_Tree_nodes_24 : decode b_Tree_nodes 24 = .ok (.iconst 4, 1) := by decide +kernel
theorem d_Tree_nodes_25 : decode b_Tree_nodes 25 = .ok (.imul, 1) := by decide +kernel
theorem d_Tree_nodes_26 : decode b_Tree_nodes 26 = .ok (.istore_n 2, 1) := by decide +kernel
theorem d_Tree_nodes_27 : decode b_Tree_nodes 27 = .ok (.goto (-19), 3) := by decide +kernel
theorem d_Tree_nodes_30 : decode b_Tree_nodes 30 = .ok (.iload_n 1, 1) := by decide +kernel
theorem d_Tree_nodes_31 : decode b_Tree_nodes 31 = .ok (.ireturn, 1) := by decide +kernel
set_option maxHeartbeats 4000000 in
set_option maxRecDepth 100000 in
theorem c_Tree_nodes (l : Launch) (dC : Nat → ClassId) (dI : Nat → Nat → Nat) (cI cL cZ : ClassId) (k0 : Int32) (res : Int32) (hd : D_Tree_nodes k0 res) : CtrR l y_Tree_nodes (Cond.code y_Tree_nodes b_Tree_nodes 3 (some .int) :: ga) { frames := 2, cells := 0, slots := 0, locals := 42 } (dC, dI) classes (Tys cI cL cZ) [.int k0] (([] : va_W)) (some (.int res)) := by
  refine CtrR.ofW (by decide) (Nat.le_of_ble_eq_true rfl) ?_
  intro p e s m below meth c ls hx hb hr hml hown hlocks hts hK hN hP hD hl
  have hown : s.vm.findClass R_Tree = some m.cls := hown
  have hl : lv_has ls 3 [(0, .int k0)] := hl
  have key : ∀ n : Nat, (∀ (x0 : Int32) (x1 : Int32) (x2 : Int32) (ls : Array Slot), lv_has ls 3 [(0, .int x0), (1, .int x1), (2, .int x2)] → T_Tree_nodes res n x0 x1 x2 → W p l e ({ frames := 2, cells := 0, slots := 0, locals := 42 }) s m ([.int k0] : List Value).toArray below meth c s.heap [] 0 0 (MQ below (Qr (some (.int res))) ([.int k0] : List Value).toArray s 0 0 (fun _ => False)) (F0 m 8 ls [])) := by
    intro n
    induction n with
    | zero =>
      exact fun _ _ _ _ _ hd => False.elim hd
    | succ n ih =>
      · intro x0 x1 x2 ls hl hd
        have hd : B_Tree_nodes_8 res (T_Tree_nodes res n) x0 x1 x2 := hd
        refine lv_iload_n hx hb d_Tree_nodes_8 rfl (lv_at hl 2 rfl) ?_
        refine lv_iload_n hx hb d_Tree_nodes_9 rfl (lv_at hl 0 rfl) ?_
        refine lv_icmp_ge (tgt := 30) hx hb d_Tree_nodes_10 (by decide) (fun h10 => ?_) (fun h10 => ?_)
        · have hd := hd.1 h10
          refine lv_iload_n hx hb d_Tree_nodes_30 rfl (lv_at hl 1 rfl) ?_
          have e0 : res = x1 := hd
          subst e0
          exact ct_iretR hx hb hr hlocks d_Tree_nodes_31
        · have hd := hd.2 h10
          refine lv_iload_n hx hb d_Tree_nodes_13 rfl (lv_at hl 1 rfl) ?_
          refine lv_iload_n hx hb d_Tree_nodes_14 rfl (lv_at hl 0 rfl) ?_
          refine lv_iload_n hx hb d_Tree_nodes_15 rfl (lv_at hl 2 rfl) ?_
          refine lv_iconst (v := 4) hx hb d_Tree_nodes_16 (by decide) ?_
          refine lv_imul hx hb d_Tree_nodes_17 ?_
          obtain ⟨r18, c18, hd⟩ := hd
          refine ct_SR (As := [.int x0, .int (x2 * 4)]) (rest := [.int x1]) ⟨hx, hb, hml, hown, hts⟩ fm_Tree_rowNodes (c_Tree_rowNodes l dC dI cI cL cZ x0 (x2 * 4) r18 c18) k42_methodLink k43_static ⟨Nat.le_of_ble_eq_true rfl, Nat.le_of_ble_eq_true rfl⟩ rfl rfl hK hN hP hD [] rfl rfl (by decide) rfl hl.1 rfl (Nat.le_of_ble_eq_true rfl) d_Tree_nodes_18 ?_
          refine lv_iadd hx hb d_Tree_nodes_21 ?_
          refine lv_istore_n (lv' := [(1, .int (x1 + r18)), (0, .int x0), (2, .int x2)]) hx hb d_Tree_nodes_22 rfl hl (by decide) rfl (fun ls hl => ?_)
          refine lv_iload_n hx hb d_Tree_nodes_23 rfl (lv_at hl 2 rfl) ?_
          refine lv_iconst (v := 4) hx hb d_Tree_nodes_24 (by decide) ?_
          refine lv_imul hx hb d_Tree_nodes_25 ?_
          refine lv_istore_n (lv' := [(2, .int (x2 * 4)), (1, .int (x1 + r18)), (0, .int x0)]) hx hb d_Tree_nodes_26 rfl hl (by decide) rfl (fun ls hl => ?_)
          refine lv_goto (tgt := 8) hx hb d_Tree_nodes_27 (by decide) ?_
          exact ih x0 (x1 + r18) (x2 * 4) _ (lv_sub hl [2, 1, 0] rfl) hd
  obtain ⟨n, hd⟩ := hd
  refine lv_iload_n hx hb d_Tree_nodes_0 rfl (lv_at hl 0 rfl) ?_
  refine lv_iconst (v := 4) hx hb d_Tree_nodes_1 (by decide) ?_
  obtain ⟨r2, c2, hd⟩ := hd
  refine ct_SR (As := [.int k0, .int 4]) (rest := []) ⟨hx, hb, hml, hown, hts⟩ fm_Tree_rowNodes (c_Tree_rowNodes l dC dI cI cL cZ k0 4 r2 c2) k42_methodLink k43_static ⟨Nat.le_of_ble_eq_true rfl, Nat.le_of_ble_eq_true rfl⟩ rfl rfl hK hN hP hD [] rfl rfl (by decide) rfl hl.1 rfl (Nat.le_of_ble_eq_true rfl) d_Tree_nodes_2 ?_
  refine lv_istore_n (lv' := [(1, .int r2), (0, .int k0)]) hx hb d_Tree_nodes_5 rfl hl (by decide) rfl (fun ls hl => ?_)
  refine lv_iconst (v := 4) hx hb d_Tree_nodes_6 (by decide) ?_
  refine lv_istore_n (lv' := [(2, .int 4), (1, .int r2), (0, .int k0)]) hx hb d_Tree_nodes_7 rfl hl (by decide) rfl (fun ls hl => ?_)
  exact (key n) k0 r2 4 _ (lv_sub hl [2, 1, 0] rfl) hd
-- Tree.leaves
abbrev b_Tree_leaves : ByteArray := prog_10_method_4_code
def y_Tree_leaves : MethodName := ⟨"HelpFile$Tree", "leaves", "(I)I"⟩
theorem k44_methodLink : Cond.methodLink "HelpFile$Tree" 20 ⟨"HelpFile$Tree", "nodes", "(I)I"⟩ ∈ ga := ga_t 600 (by decide +kernel) rfl
theorem k45_static : Cond.static ⟨"HelpFile$Tree", "nodes", "(I)I"⟩ ∈ ga := ga_t 504 (by decide +kernel) rfl
set_option maxRecDepth 100000 in
theorem fm_Tree_leaves : Fm y_Tree_leaves b_Tree_leaves 2 (some .int) 1 := ⟨ga_t 599 rfl rfl, k41_initialized, by decide, by decide, by decide +kernel⟩
def B_Tree_leaves_2 (res : Int32) (X : Int32 → Int32 → Prop) (x0 : Int32) (x1 : Int32) : Prop := ((63 < x1 → (res = (-1))) ∧ (¬ (63 < x1) → (∃ r11 : Int32, D_Tree_nodes (x1 * 4) r11 ∧ ((r11 = x0 → (res = x1)) ∧ (¬ (r11 = x0) → X x0 (x1 + 1))))))
def S_Tree_leaves (res : Int32) (X : Int32 → Int32 → Prop) : Int32 → Int32 → Prop := fun x0 x1 => B_Tree_leaves_2 res X x0 x1
def T_Tree_leaves (res : Int32) : Nat → (Int32 → Int32 → Prop)
  | 0 => fun _ _ => False
  | n + 1 => S_Tree_leaves res (T_Tree_leaves res n)
def D_Tree_leaves (k0 : Int32) (res : Int32) : Prop := ∃ n : Nat, T_Tree_leaves res n k0 0
theorem d_Tree_leaves_0 : decode b_Tree_leaves 0 = .ok (.iconst 0, 1) := by decide +kernel
theorem d_Tree_leaves_1 : decode b_Tree_leaves 1 = .ok (.istore_n 1, 1) := by decide +kernel
theorem d_Tree_leaves_2 : decode b_Tree_leaves 2 = .ok (.iload_n 1, 1) := by decide +kernel
theorem d_Tree_leaves_3 : decode b_Tree_leaves 3 = .ok (.bipush 63, 2) := by decide +kernel
theorem d_Tree_leaves_5 : decode b_Tree_leaves 5 = .ok (.if_icmp .gt 21, 3) := by decide +kernel
theorem d_Tree_leaves_8 : decode b_Tree_leaves 8 = .ok (.iload_n 1, 1) := by decide +kernel
theorem d_Tree_leaves_9 : decode b_Tree_leaves 9 = .ok (.iconst 4, 1) := by decide +kernel
theorem d_Tree_leaves_10 : decode b_Tree_leaves 10 = .ok (.imul, 1) := by decide +kernel
theorem d_Tree_leaves_11 : decode b_Tree_leaves 11 = .ok (.invokestatic 20, 3) := by decide +kernel
theorem d_Tree_leaves_14 : decode b_Tree_leaves 14 = .ok (.iload_n 0, 1) := by decide +kernel
theorem d_Tree_leaves_15 : decode b_Tree_leaves 15 = .ok (.if_icmp .ne 5, 3) := by decide +kernel
theorem d_Tree_leaves_18 : decode b_Tree_leaves 18 = .ok (.iload_n 1, 1) := by decide +kernel
theorem d_Tree_leaves_19 : decode b_Tree_leaves 19 = .ok (.ireturn, 1) := by decide +kernel
theorem d_Tree_leaves_20 : decode b_Tree_leaves 20 = .ok (.iinc 1 1, 3) := by decide +kernel
theorem d_Tree_leaves_23 : decode b_Tree_leaves 23 = .ok (.goto (-21), 3) := by decide +kernel
theorem d_Tree_leaves_26 : decode b_Tree_leaves 26 = .ok (.iconst (-1), 1) := by decide +kernel
theorem d_Tree_leaves_27 : decode b_Tree_leaves 27 = .ok (.ireturn, 1) := by decide +kernel
set_option maxHeartbeats 4000000 in
set_option maxRecDepth 100000 in
theorem c_Tree_leaves (l : Launch) (dC : Nat → ClassId) (dI : Nat → Nat → Nat) (cI cL cZ : ClassId) (k0 : Int32) (res : Int32) (hd : D_Tree_leaves k0 res) : CtrR l y_Tree_leaves (Cond.code y_Tree_leaves b_Tree_leaves 2 (some .int) :: ga) { frames := 3, cells := 0, slots := 0, locals := 64 } (dC, dI) classes (Tys cI cL cZ) [.int k0] (([] : va_W)) (some (.int res)) := by
  refine CtrR.ofW (by decide) (Nat.le_of_ble_eq_true rfl) ?_
  intro p e s m below meth c ls hx hb hr hml hown hlocks hts hK hN hP hD hl
  have hown : s.vm.findClass R_Tree = some m.cls := hown
  have hl : lv_has ls 2 [(0, .int k0)] := hl
  have key : ∀ n : Nat, (∀ (x0 : Int32) (x1 : Int32) (ls : Array Slot), lv_has ls 2 [(0, .int x0), (1, .int x1)] → T_Tree_leaves res n x0 x1 → W p l e ({ frames := 3, cells := 0, slots := 0, locals := 64 }) s m ([.int k0] : List Value).toArray below meth c s.heap [] 0 0 (MQ below (Qr (some (.int res))) ([.int k0] : List Value).toArray s 0 0 (fun _ => False)) (F0 m 2 ls [])) := by
    intro n
    induction n with
    | zero =>
      exact fun _ _ _ _ hd => False.elim hd
    | succ n ih =>
      · intro x0 x1 ls hl hd
        have hd : B_Tree_leaves_2 res (T_Tree_leaves res n) x0 x1 := hd
        refine lv_iload_n hx hb d_Tree_leaves_2 rfl (lv_at hl 1 rfl) ?_
        refine lv_bipush (v := 63) hx hb d_Tree_leaves_3 (by decide) ?_
        refine lv_icmp_gt (tgt := 26) hx hb d_Tree_leaves_5 (by decide) (fun h5 => ?_) (fun h5 => ?_)
        · have hd := hd.1 h5
          refine lv_iconst (v := (-1)) hx hb d_Tree_leaves_26 (by decide) ?_
          have e0 : res = (-1) := hd
          subst e0
          exact ct_iretR hx hb hr hlocks d_Tree_leaves_27
        · have hd := hd.2 h5
          refine lv_iload_n hx hb d_Tree_leaves_8 rfl (lv_at hl 1 rfl) ?_
          refine lv_iconst (v := 4) hx hb d_Tree_leaves_9 (by decide) ?_
          refine lv_imul hx hb d_Tree_leaves_10 ?_
          obtain ⟨r11, c11, hd⟩ := hd
          refine ct_SR (As := [.int (x1 * 4)]) (rest := []) ⟨hx, hb, hml, hown, hts⟩ fm_Tree_nodes (c_Tree_nodes l dC dI cI cL cZ (x1 * 4) r11 c11) k44_methodLink k45_static ⟨Nat.le_of_ble_eq_true rfl, Nat.le_of_ble_eq_true rfl⟩ rfl rfl hK hN hP hD [] rfl rfl (by decide) rfl hl.1 rfl (Nat.le_of_ble_eq_true rfl) d_Tree_leaves_11 ?_
          refine lv_iload_n hx hb d_Tree_leaves_14 rfl (lv_at hl 0 rfl) ?_
          refine lv_icmp_ne (tgt := 20) hx hb d_Tree_leaves_15 (by decide) (fun h15 => ?_) (fun h15 => ?_)
          · have hd := hd.2 h15
            refine lv_iinc (k := 1) (v := x1 + 1) (lv' := [(1, .int (x1 + 1)), (0, .int x0)]) hx hb d_Tree_leaves_20 hl rfl (congrArg (fun z => x1 + z) (by decide)) (by decide) rfl (fun ls hl => ?_)
            refine lv_goto (tgt := 2) hx hb d_Tree_leaves_23 (by decide) ?_
            exact ih x0 (x1 + 1) _ (lv_sub hl [1, 0] rfl) hd
          · have hd := hd.1 h15
            refine lv_iload_n hx hb d_Tree_leaves_18 rfl (lv_at hl 1 rfl) ?_
            have e0 : res = x1 := hd
            subst e0
            exact ct_iretR hx hb hr hlocks d_Tree_leaves_19
  obtain ⟨n, hd⟩ := hd
  refine lv_iconst (v := 0) hx hb d_Tree_leaves_0 (by decide) ?_
  refine lv_istore_n (lv' := [(1, .int 0), (0, .int k0)]) hx hb d_Tree_leaves_1 rfl hl (by decide) rfl (fun ls hl => ?_)
  exact (key n) k0 0 _ (lv_sub hl [1, 0] rfl) hd
-- Tree.lastNotBehind
abbrev b_Tree_lastNotBehind : ByteArray := prog_10_method_6_code
def y_Tree_lastNotBehind : MethodName := ⟨"HelpFile$Tree", "lastNotBehind", "(LHelpFile$WordList;JII)I"⟩
theorem k46_methodLink : Cond.methodLink "HelpFile$Tree" 24 ⟨"HelpFile$WordList", "count", "()I"⟩ ∈ ga := ga_t 927 (by decide +kernel) rfl
theorem k47_instanceMethod : Cond.instanceMethod ⟨"HelpFile$WordList", "count", "()I"⟩ ∈ ga := ga_t 500 (by decide +kernel) rfl
theorem k48_selects : Cond.selects "HelpFile$WordList" ⟨"HelpFile$WordList", "count", "()I"⟩ ⟨"HelpFile$WordList", "count", "()I"⟩ ∈ ga := ga_t 501 (by decide +kernel) rfl
theorem k49_methodLink : Cond.methodLink "HelpFile$Tree" 34 ⟨"HelpFile$WordList", "word", "(I)J"⟩ ∈ ga := ga_t 931 (by decide +kernel) rfl
theorem k50_instanceMethod : Cond.instanceMethod ⟨"HelpFile$WordList", "word", "(I)J"⟩ ∈ ga := ga_t 519 (by decide +kernel) rfl
theorem k51_selects : Cond.selects "HelpFile$WordList" ⟨"HelpFile$WordList", "word", "(I)J"⟩ ⟨"HelpFile$WordList", "word", "(I)J"⟩ ∈ ga := ga_t 520 (by decide +kernel) rfl
set_option maxRecDepth 100000 in
theorem fm_Tree_lastNotBehind : Fm y_Tree_lastNotBehind b_Tree_lastNotBehind 7 (some .int) 4 := ⟨ga_t 930 rfl rfl, k41_initialized, by decide, by decide, by decide +kernel⟩
def B_Tree_lastNotBehind_3 (wln : Nat) (wlW : Nat → Int64) (wlC : Int32) (res : Int32) (X : Int64 → Int32 → Int32 → Int32 → Prop) (y1 : Int64) (x3 : Int32) (x4 : Int32) (x5 : Int32) : Prop := ((x5 < 0 → (res = (-1))) ∧ (¬ (x5 < 0) → ((wlC ≤ (x3 + (x5 * x4)) → X y1 x3 x4 (x5 + (-1))) ∧ (¬ (wlC ≤ (x3 + (x5 * x4))) → (∃ r29 : Int64, D_WordList_word wln (x3 + (x5 * x4)) wlW wlC r29 ∧ ((0 < (lg_cmp r29 y1) → X y1 x3 x4 (x5 + (-1))) ∧ (¬ (0 < (lg_cmp r29 y1)) → (res = x3 + (x5 * x4)))))))))
def S_Tree_lastNotBehind (wln : Nat) (wlW : Nat → Int64) (wlC : Int32) (res : Int32) (X : Int64 → Int32 → Int32 → Int32 → Prop) : Int64 → Int32 → Int32 → Int32 → Prop := fun y1 x3 x4 x5 => B_Tree_lastNotBehind_3 wln wlW wlC res X y1 x3 x4 x5
def T_Tree_lastNotBehind (wln : Nat) (wlW : Nat → Int64) (wlC : Int32) (res : Int32) : Nat → (Int64 → Int32 → Int32 → Int32 → Prop)
  | 0 => fun _ _ _ _ => False
  | n + 1 => S_Tree_lastNotBehind wln wlW wlC res (T_Tree_lastNotBehind wln wlW wlC res n)
def D_Tree_lastNotBehind (wln : Nat) (w0 : Int64) (k0 : Int32) (k1 : Int32) (wlW : Nat → Int64) (wlC : Int32) (res : Int32) : Prop := ∃ n : Nat, T_Tree_lastNotBehind wln wlW wlC res n w0 k0 k1 3
theorem d_Tree_lastNotBehind_0 : decode b_Tree_lastNotBehind 0 = .ok (.iconst 3, 1) := by decide +kernel
theorem d_Tree_lastNotBehind_1 : decode b_Tree_lastNotBehind 1 = .ok (.istore 5, 2) := by decide +kernel
theorem d_Tree_lastNotBehind_3 : decode b_Tree_lastNotBehind 3 = .ok (.iload 5, 2) := by decide +kernel
theorem d_Tree_lastNotBehind_5 : decode b_Tree_lastNotBehind 5 = .ok (.ifCond .lt 41, 3) := by decide +kernel
theorem d_Tree_lastNotBehind_8 : decode b_Tree_lastNotBehind 8 = .ok (.iload_n 3, 1) := by decide +kernel
theorem d_Tree_lastNotBehind_9 : decode b_Tree_lastNotBehind 9 = .ok (.iload 5, 2) := by decide +kernel
theorem d_Tree_lastNotBehind_11 : decode b_Tree_lastNotBehind 11 = .ok (.iload 4, 2) := by decide +kernel
theorem d_Tree_lastNotBehind_13 : decode b_Tree_lastNotBehind 13 = .ok (.imul, 1) := by decide +kernel
theorem d_Tree_lastNotBehind_14 : decode b_Tree_lastNotBehind 14 = .ok (.iadd, 1) := by decide +kernel
theorem d_Tree_lastNotBehind_15 : decode b_Tree_lastNotBehind 15 = .ok (.istore 6, 2) := by decide +kernel
theorem d_Tree_lastNotBehind_17 : decode b_Tree_lastNotBehind 17 = .ok (.iload 6, 2) := by decide +kernel
theorem d_Tree_lastNotBehind_19 : decode b_Tree_lastNotBehind 19 = .ok (.aload_n 0, 1) := by decide +kernel
theorem d_Tree_lastNotBehind_20 : decode b_Tree_lastNotBehind 20 = .ok (.invokevirtual 24, 3) := by decide +kernel
theorem d_Tree_lastNotBehind_23 : decode b_Tree_lastNotBehind 23 = .ok (.if_icmp .ge 17, 3) := by decide +kernel
theorem d_Tree_lastNotBehind_26 : decode b_Tree_lastNotBehind 26 = .ok (.aload_n 0, 1) := by decide +kernel
theorem d_Tree_lastNotBehind_27 : decode b_Tree_lastNotBehind 27 = .ok (.iload 6, 2) := by decide +kernel
theorem d_Tree_lastNotBehind_29 : decode b_Tree_lastNotBehind 29 = .ok (.invokevirtual 34, 3) := by decide +kernel
theorem d_Tree_lastNotBehind_32 : decode b_Tree_lastNotBehind 32 = .ok (.lload_n 1, 1) := by decide +kernel
theorem d_Tree_lastNotBehind_33 : decode b_Tree_lastNotBehind 33 = .ok (.lcmp, 1) := by decide +kernel
theorem d_Tree_lastNotBehind_34 : decode b_Tree_lastNotBehind 34 = .ok (.ifCond .gt 6, 3) := by decide +kernel
theorem d_Tree_lastNotBehind_37 : decode b_Tree_lastNotBehind 37 = .ok (.iload 6, 2) := by decide +kernel
theorem d_Tree_lastNotBehind_39 : decode b_Tree_lastNotBehind 39 = .ok (.ireturn, 1) := by decide +kernel
theorem d_Tree_lastNotBehind_40 : decode b_Tree_lastNotBehind 40 = .ok (.iinc 5 (-1), 3) := by decide +kernel
theorem d_Tree_lastNotBehind_43 : decode b_Tree_lastNotBehind 43 = .ok (.goto (-40), 3) := by decide +kernel
theorem d_Tree_lastNotBehind_46 : decode b_Tree_lastNotBehind 46 = .ok (.iconst (-1), 1) := by decide +kernel
theorem d_Tree_lastNotBehind_47 : decode b_Tree_lastNotBehind 47 = .ok (.ireturn, 1) := by decide +kernel
set_option maxHeartbeats 4000000 in
set_option maxRecDepth 100000 in
theorem c_Tree_lastNotBehind (l : Launch) (dC : Nat → ClassId) (dI : Nat → Nat → Nat) (cI cL cZ : ClassId) (wl : Nat) (wlWa : Nat) (wln : Nat) (wlW : Nat → Int64) (wlTa : Nat) (wlT : Nat → Int32) (wlC : Int32) (w0 : Int64) (k0 : Int32) (k1 : Int32) (res : Int32) (hd : D_Tree_lastNotBehind wln w0 k0 k1 wlW wlC res) : CtrR l y_Tree_lastNotBehind (Cond.code y_Tree_lastNotBehind b_Tree_lastNotBehind 7 (some .int) :: ga) { frames := 1, cells := 0, slots := 0, locals := 21 } (dC, dI) classes (Tys cI cL cZ) [.ref wl, .long w0, .int k0, .int k1] ((sh_WordList cI cL cZ wl wlWa wln wlW wlTa wlT wlC)) (some (.int res)) := by
  refine CtrR.ofW (by decide) (Nat.le_of_ble_eq_true rfl) ?_
  intro p e s m below meth c ls hx hb hr hml hown hlocks hts hK hN hP hD hl
  have hown : s.vm.findClass R_Tree = some m.cls := hown
  have hl : lv_has ls 7 [(0, .ref wl), (1, .long w0), (3, .int k0), (4, .int k1)] := hl
  have key : ∀ n : Nat, (∀ (y1 : Int64) (x3 : Int32) (x4 : Int32) (x5 : Int32) (ls : Array Slot), lv_has ls 7 [(0, .ref wl), (1, .long y1), (3, .int x3), (4, .int x4), (5, .int x5)] → T_Tree_lastNotBehind wln wlW wlC res n y1 x3 x4 x5 → W p l e ({ frames := 1, cells := 0, slots := 0, locals := 21 }) s m ([.ref wl, .long w0, .int k0, .int k1] : List Value).toArray below meth c s.heap [] 0 0 (MQ below (Qr (some (.int res))) ([.ref wl, .long w0, .int k0, .int k1] : List Value).toArray s 0 0 (fun _ => False)) (F0 m 3 ls [])) := by
    intro n
    induction n with
    | zero =>
      exact fun _ _ _ _ _ _ hd => False.elim hd
    | succ n ih =>
      · intro y1 x3 x4 x5 ls hl hd
        have hd : B_Tree_lastNotBehind_3 wln wlW wlC res (T_Tree_lastNotBehind wln wlW wlC res n) y1 x3 x4 x5 := hd
        refine lv_iload hx hb d_Tree_lastNotBehind_3 (lv_at hl 4 rfl) ?_
        refine lv_if_lt (tgt := 46) hx hb d_Tree_lastNotBehind_5 (by decide) (fun h5 => ?_) (fun h5 => ?_)
        · have hd := hd.1 h5
          refine lv_iconst (v := (-1)) hx hb d_Tree_lastNotBehind_46 (by decide) ?_
          have e0 : res = (-1) := hd
          subst e0
          exact ct_iretR hx hb hr hlocks d_Tree_lastNotBehind_47
        · have hd := hd.2 h5
          refine lv_iload_n hx hb d_Tree_lastNotBehind_8 rfl (lv_at hl 2 rfl) ?_
          refine lv_iload hx hb d_Tree_lastNotBehind_9 (lv_at hl 4 rfl) ?_
          refine lv_iload hx hb d_Tree_lastNotBehind_11 (lv_at hl 3 rfl) ?_
          refine lv_imul hx hb d_Tree_lastNotBehind_13 ?_
          refine lv_iadd hx hb d_Tree_lastNotBehind_14 ?_
          refine lv_istore (lv' := [(6, .int (x3 + (x5 * x4))), (0, .ref wl), (1, .long y1), (3, .int x3), (4, .int x4), (5, .int x5)]) hx hb d_Tree_lastNotBehind_15 hl (by decide) rfl (fun ls hl => ?_)
          refine lv_iload hx hb d_Tree_lastNotBehind_17 (lv_at hl 0 rfl) ?_
          refine lv_aload_n hx hb d_Tree_lastNotBehind_19 rfl (lv_at hl 1 rfl) ?_
          refine ct_VR (As := []) (rest := [.int (x3 + (x5 * x4))]) (C := R_WordList) (ci := 2) (q := (R_WordList, F_WordList, 3)) ⟨hx, hb, hml, hown, hts⟩ fm_WordList_count (c_WordList_count l dC dI cI cL cZ wl wlWa wln wlW wlTa wlT wlC wlC rfl) k46_methodLink k47_instanceMethod k48_selects ⟨Nat.le_of_ble_eq_true rfl, Nat.le_of_ble_eq_true rfl⟩ rfl rfl hK hN hP hD [0, 1, 2] rfl rfl (by decide) 0 rfl rfl rfl rfl hl.1 rfl (Nat.le_of_ble_eq_true rfl) d_Tree_lastNotBehind_20 ?_
          refine lv_icmp_ge (tgt := 40) hx hb d_Tree_lastNotBehind_23 (by decide) (fun h23 => ?_) (fun h23 => ?_)
          · have hd := hd.1 h23
            refine lv_iinc (k := 5) (v := x5 + (-1)) (lv' := [(5, .int (x5 + (-1))), (6, .int (x3 + (x5 * x4))), (0, .ref wl), (1, .long y1), (3, .int x3), (4, .int x4)]) hx hb d_Tree_lastNotBehind_40 hl rfl (congrArg (fun z => x5 + z) (by decide)) (by decide) rfl (fun ls hl => ?_)
            refine lv_goto (tgt := 3) hx hb d_Tree_lastNotBehind_43 (by decide) ?_
            exact ih y1 x3 x4 (x5 + (-1)) _ (lv_sub hl [2, 3, 4, 5, 0] rfl) hd
          · have hd := hd.2 h23
            refine lv_aload_n hx hb d_Tree_lastNotBehind_26 rfl (lv_at hl 1 rfl) ?_
            refine lv_iload hx hb d_Tree_lastNotBehind_27 (lv_at hl 0 rfl) ?_
            obtain ⟨r29, c29, hd⟩ := hd
            refine ct_VR (As := [.int (x3 + (x5 * x4))]) (rest := []) (C := R_WordList) (ci := 2) (q := (R_WordList, F_WordList, 3)) ⟨hx, hb, hml, hown, hts⟩ fm_WordList_word (c_WordList_word l dC dI cI cL cZ wl wlWa wln wlW wlTa wlT wlC (x3 + (x5 * x4)) r29 c29) k49_methodLink k50_instanceMethod k51_selects ⟨Nat.le_of_ble_eq_true rfl, Nat.le_of_ble_eq_true rfl⟩ rfl rfl hK hN hP hD [0, 1, 2] rfl rfl (by decide) 0 rfl rfl rfl rfl hl.1 rfl (Nat.le_of_ble_eq_true rfl) d_Tree_lastNotBehind_29 ?_
            refine lv_lload_n hx hb d_Tree_lastNotBehind_32 rfl (lv_at hl 2 rfl) ?_
            refine W.lcmp hx hb d_Tree_lastNotBehind_33 ?_
            refine lv_if_gt (tgt := 40) hx hb d_Tree_lastNotBehind_34 (by decide) (fun h34 => ?_) (fun h34 => ?_)
            · have hd := hd.1 h34
              refine lv_iinc (k := 5) (v := x5 + (-1)) (lv' := [(5, .int (x5 + (-1))), (6, .int (x3 + (x5 * x4))), (0, .ref wl), (1, .long y1), (3, .int x3), (4, .int x4)]) hx hb d_Tree_lastNotBehind_40 hl rfl (congrArg (fun z => x5 + z) (by decide)) (by decide) rfl (fun ls hl => ?_)
              refine lv_goto (tgt := 3) hx hb d_Tree_lastNotBehind_43 (by decide) ?_
              exact ih y1 x3 x4 (x5 + (-1)) _ (lv_sub hl [2, 3, 4, 5, 0] rfl) hd
            · have hd := hd.2 h34
              refine lv_iload hx hb d_Tree_lastNotBehind_37 (lv_at hl 0 rfl) ?_
              have e0 : res = x3 + (x5 * x4) := hd
              subst e0
              exact ct_iretR hx hb hr hlocks d_Tree_lastNotBehind_39
  obtain ⟨n, hd⟩ := hd
  refine lv_iconst (v := 3) hx hb d_Tree_lastNotBehind_0 (by decide) ?_
  refine lv_istore (lv' := [(5, .int 3), (0, .ref wl), (1, .long w0), (3, .int k0), (4, .int k1)]) hx hb d_Tree_lastNotBehind_1 hl (by decide) rfl (fun ls hl => ?_)
  exact (key n) w0 k0 k1 3 _ (lv_sub hl [1, 2, 3, 4, 0] rfl) hd
-- Tree.nodesOnTheWay
abbrev b_Tree_nodesOnTheWay : ByteArray := prog_10_method_5_code
def y_Tree_nodesOnTheWay : MethodName := ⟨"HelpFile$Tree", "nodesOnTheWay", "(LHelpFile$WordList;J)I"⟩
theorem k52_methodLink : Cond.methodLink "HelpFile$Tree" 30 ⟨"HelpFile$Tree", "lastNotBehind", "(LHelpFile$WordList;JII)I"⟩ ∈ ga := ga_t 928 (by decide +kernel) rfl
theorem k53_static : Cond.static ⟨"HelpFile$Tree", "lastNotBehind", "(LHelpFile$WordList;JII)I"⟩ ∈ ga := ga_t 929 (by decide +kernel) rfl
set_option maxRecDepth 100000 in
theorem fm_Tree_nodesOnTheWay : Fm y_Tree_nodesOnTheWay b_Tree_nodesOnTheWay 6 (some .int) 2 := ⟨ga_t 926 rfl rfl, k41_initialized, by decide, by decide, by decide +kernel⟩
def B_Tree_nodesOnTheWay_2 (wln : Nat) (wlW : Nat → Int64) (wlC : Int32) (res : Int32) (X : Nat → Int64 → Int32 → Int32 → Int32 → Prop) (y1 : Int64) (x3 : Int32) : Prop := ((wlC ≤ (x3 * 4) → ((wlC = 0 → X 1 y1 x3 0 (-1)) ∧ (¬ (wlC = 0) → X 1 y1 x3 0 0))) ∧ (¬ (wlC ≤ (x3 * 4)) → X 0 y1 (x3 * 4) 0 0))
def B_Tree_nodesOnTheWay_36 (wln : Nat) (wlW : Nat → Int64) (wlC : Int32) (res : Int32) (X : Nat → Int64 → Int32 → Int32 → Int32 → Prop) (y1 : Int64) (x3 : Int32) (x4 : Int32) (x5 : Int32) : Prop := ((x3 < 1 → (res = x4)) ∧ (¬ (x3 < 1) → ((x5 = (-1) → (res = x4)) ∧ (¬ (x5 = (-1)) → (∃ r55 : Int32, D_Tree_lastNotBehind wln y1 x5 x3 wlW wlC r55 ∧ X 1 y1 (x3 / 4) (x4 + 1) r55)))))
def S_Tree_nodesOnTheWay (wln : Nat) (wlW : Nat → Int64) (wlC : Int32) (res : Int32) (X : Nat → Int64 → Int32 → Int32 → Int32 → Prop) : Nat → Int64 → Int32 → Int32 → Int32 → Prop := fun q_lab y1 x3 x4 x5 => match q_lab with | 0 => B_Tree_nodesOnTheWay_2 wln wlW wlC res X y1 x3 | 1 => B_Tree_nodesOnTheWay_36 wln wlW wlC res X y1 x3 x4 x5 | _ => False
def T_Tree_nodesOnTheWay (wln : Nat) (wlW : Nat → Int64) (wlC : Int32) (res : Int32) : Nat → (Nat → Int64 → Int32 → Int32 → Int32 → Prop)
  | 0 => fun _ _ _ _ _ => False
  | n + 1 => S_Tree_nodesOnTheWay wln wlW wlC res (T_Tree_nodesOnTheWay wln wlW wlC res n)
def D_Tree_nodesOnTheWay (wln : Nat) (w0 : Int64) (wlW : Nat → Int64) (wlC : Int32) (res : Int32) : Prop := ∃ n : Nat, T_Tree_nodesOnTheWay wln wlW wlC res n 0 w0 1 0 0
theorem d_Tree_nodesOnTheWay_0 : decode b_Tree_nodesOnTheWay 0 = .ok (.iconst 1, 1) := by decide +kernel
theorem d_Tree_nodesOnTheWay_1 : decode b_Tree_nodesOnTheWay 1 = .ok (.istore_n 3, 1) := by decide +kernel
theorem d_Tree_nodesOnTheWay_2 : decode b_Tree_nodesOnTheWay 2 = .ok (.iload_n 3, 1) := by decide +kernel
theorem d_Tree_nodesOnTheWay_3 : decode b_Tree_nodesOnTheWay 3 = .ok (.iconst 4, 1) := by decide +kernel
theorem d_Tree_nodesOnTheWay_4 : decode b_Tree_nodesOnTheWay 4 = .ok (.imul, 1) := by decide +kernel
theorem d_Tree_nodesOnTheWay_5 : decode b_Tree_nodesOnTheWay 5 = .ok (.aload_n 0, 1) := by decide +kernel
theorem d_Tree_nodesOnTheWay_6 : decode b_Tree_nodesOnTheWay 6 = .ok (.invokevirtual 24, 3) := by decide +kernel
theorem d_Tree_nodesOnTheWay_9 : decode b_Tree_nodesOnTheWay 9 = .ok (.if_icmp .ge 10, 3) := by decide +kernel
theorem d_Tree_nodesOnTheWay_12 : decode b_Tree_nodesOnTheWay 12 = .ok (.iload_n 3, 1) := by decide +kernel
theorem d_Tree_nodesOnTheWay_13 : decode b_Tree_nodesOnTheWay 13 = .ok (.iconst 4, 1) := by decide +kernel
theorem d_Tree_nodesOnTheWay_14 : decode b_Tree_nodesOnTheWay 14 = .ok (.imul, 1) := by decide +kernel
theorem d_Tree_nodesOnTheWay_15 : decode b_Tree_nodesOnTheWay 15 = .ok (.istore_n 3, 1) := by decide +kernel
theorem d_Tree_nodesOnTheWay_16 : decode b_Tree_nodesOnTheWay 16 = .ok (.goto (-14), 3) := by decide +kernel
theorem d_Tree_nodesOnTheWay_19 : decode b_Tree_nodesOnTheWay 19 = .ok (.iconst 0, 1) := by decide +kernel
theorem d_Tree_nodesOnTheWay_20 : decode b_Tree_nodesOnTheWay 20 = .ok (.istore 4, 2) := by decide +kernel
theorem d_Tree_nodesOnTheWay_22 : decode b_Tree_nodesOnTheWay 22 = .ok (.aload_n 0, 1) := by decide +kernel
theorem d_Tree_nodesOnTheWay_23 : decode b_Tree_nodesOnTheWay 23 = .ok (.invokevirtual 24, 3) := by decide +kernel
theorem d_Tree_nodesOnTheWay_26 : decode b_Tree_nodesOnTheWay 26 = .ok (.ifCond .ne 7, 3) := by decide +kernel
theorem d_Tree_nodesOnTheWay_29 : decode b_Tree_nodesOnTheWay 29 = .ok (.iconst (-1), 1) := by decide +kernel
theorem d_Tree_nodesOnTheWay_30 : decode b_Tree_nodesOnTheWay 30 = .ok (.goto 4, 3) := by decide +kernel
theorem d_Tree_nodesOnTheWay_33 : decode b_Tree_nodesOnTheWay 33 = .ok (.iconst 0, 1) := by decide +kernel
theorem d_Tree_nodesOnTheWay_34 : decode b_Tree_nodesOnTheWay 34 = .ok (.istore 5, 2) := by decide +kernel
theorem d_Tree_nodesOnTheWay_36 : decode b_Tree_nodesOnTheWay 36 = .ok (.iload_n 3, 1) := by decide +kernel
theorem d_Tree_nodesOnTheWay_37 : decode b_Tree_nodesOnTheWay 37 = .ok (.iconst 1, 1) := by decide +kernel
theorem d_Tree_nodesOnTheWay_38 : decode b_Tree_nodesOnTheWay 38 = .ok (.if_icmp .lt 29, 3) := by decide +kernel
theorem d_Tree_nodesOnTheWay_41 : decode b_Tree_nodesOnTheWay 41 = .ok (.iload 5, 2) := by decide +kernel
theorem d_Tree_nodesOnTheWay_43 : decode b_Tree_nodesOnTheWay 43 = .ok (.iconst (-1), 1) := by decide +kernel
theorem d_Tree_nodesOnTheWay_44 : decode b_Tree_nodesOnTheWay 44 = .ok (.if_icmp .eq 23, 3) := by decide +kernel
theorem d_Tree_nodesOnTheWay_47 : decode b_Tree_nodesOnTheWay 47 = .ok (.iinc 4 1, 3) := by decide +kernel
theorem d_Tree_nodesOnTheWay_50 : decode b_Tree_nodesOnTheWay 50 = .ok (.aload_n 0, 1) := by decide +kernel
theorem d_Tree_nodesOnTheWay_51 : decode b_Tree_nodesOnTheWay 51 = .ok (.lload_n 1, 1) := by decide +kernel
theorem d_Tree_nodesOnTheWay_52 : decode b_Tree_nodesOnTheWay 52 = .ok (.iload 5, 2) := by decide +kernel
theorem d_Tree_nodesOnTheWay_54 : decode b_Tree_nodesOnTheWay 54 = .ok (.iload_n 3, 1) := by decide +kernel
theorem d_Tree_nodesOnTheWay_55 : decode b_Tree_nodesOnTheWay 55 = .ok (.invokestatic 30, 3) := by decide +kernel
theorem d_Tree_nodesOnTheWay_58 : decode b_Tree_nodesOnTheWay 58 = .ok (.istore 5, 2) := by decide +kernel
theorem d_Tree_nodesOnTheWay_60 : decode b_Tree_nodesOnTheWay 60 = .ok (.iload_n 3, 1) := by decide +kernel
theorem d_Tree_nodesOnTheWay_61 : decode b_Tree_nodesOnTheWay 61 = .ok (.iconst 4, 1) := by decide +kernel
theorem d_Tree_nodesOnTheWay_62 : decode b_Tree_nodesOnTheWay 62 = .ok (.idiv, 1) := by decide +kernel
theorem d_Tree_nodesOnTheWay_63 : decode b_Tree_nodesOnTheWay 63 = .ok (.istore_n 3, 1) := by decide +kernel
theorem d_Tree_nodesOnTheWay_64 : decode b_Tree_nodesOnTheWay 64 = .ok (.goto (-28), 3) := by decide +kernel
theorem d_Tree_nodesOnTheWay_67 : decode b_Tree_nodesOnTheWay 67 = .ok (.iload 4, 2) := by decide +kernel
theorem d_Tree_nodesOnTheWay_69 : decode b_Tree_nodesOnTheWay 69 = .ok (.ireturn, 1) := by decide +kernel
set_option maxHeartbeats 4000000 in
set_option maxRecDepth 100000 in
theorem c_Tree_nodesOnTheWay (l : Launch) (dC : Nat → ClassId) (dI : Nat → Nat → Nat) (cI cL cZ : ClassId) (wl : Nat) (wlWa : Nat) (wln : Nat) (wlW : Nat → Int64) (wlTa : Nat) (wlT : Nat → Int32) (wlC : Int32) (w0 : Int64) (res : Int32) (hd : D_Tree_nodesOnTheWay wln w0 wlW wlC res) : CtrR l y_Tree_nodesOnTheWay (Cond.code y_Tree_nodesOnTheWay b_Tree_nodesOnTheWay 6 (some .int) :: ga) { frames := 2, cells := 0, slots := 0, locals := 47 } (dC, dI) classes (Tys cI cL cZ) [.ref wl, .long w0] ((sh_WordList cI cL cZ wl wlWa wln wlW wlTa wlT wlC)) (some (.int res)) := by
  refine CtrR.ofW (by decide) (Nat.le_of_ble_eq_true rfl) ?_
  intro p e s m below meth c ls hx hb hr hml hown hlocks hts hK hN hP hD hl
  have hown : s.vm.findClass R_Tree = some m.cls := hown
  have hl : lv_has ls 6 [(0, .ref wl), (1, .long w0)] := hl
  have key : ∀ n : Nat, (∀ (y1 : Int64) (x3 : Int32) (ls : Array Slot), lv_has ls 6 [(0, .ref wl), (1, .long y1), (3, .int x3)] → T_Tree_nodesOnTheWay wln wlW wlC res n 0 y1 x3 0 0 → W p l e ({ frames := 2, cells := 0, slots := 0, locals := 47 }) s m ([.ref wl, .long w0] : List Value).toArray below meth c s.heap [] 0 0 (MQ below (Qr (some (.int res))) ([.ref wl, .long w0] : List Value).toArray s 0 0 (fun _ => False)) (F0 m 2 ls [])) ∧ (∀ (y1 : Int64) (x3 : Int32) (x4 : Int32) (x5 : Int32) (ls : Array Slot), lv_has ls 6 [(0, .ref wl), (1, .long y1), (3, .int x3), (4, .int x4), (5, .int x5)] → T_Tree_nodesOnTheWay wln wlW wlC res n 1 y1 x3 x4 x5 → W p l e ({ frames := 2, cells := 0, slots := 0, locals := 47 }) s m ([.ref wl, .long w0] : List Value).toArray below meth c s.heap [] 0 0 (MQ below (Qr (some (.int res))) ([.ref wl, .long w0] : List Value).toArray s 0 0 (fun _ => False)) (F0 m 36 ls [])) := by
    intro n
    induction n with
    | zero =>
      exact ⟨fun _ _ _ _ hd => False.elim hd, fun _ _ _ _ _ _ hd => False.elim hd⟩
    | succ n ih =>
      refine ⟨?_, ?_⟩
      · intro y1 x3 ls hl hd
        have hd : B_Tree_nodesOnTheWay_2 wln wlW wlC res (T_Tree_nodesOnTheWay wln wlW wlC res n) y1 x3 := hd
        refine lv_iload_n hx hb d_Tree_nodesOnTheWay_2 rfl (lv_at hl 2 rfl) ?_
        refine lv_iconst (v := 4) hx hb d_Tree_nodesOnTheWay_3 (by decide) ?_
        refine lv_imul hx hb d_Tree_nodesOnTheWay_4 ?_
        refine lv_aload_n hx hb d_Tree_nodesOnTheWay_5 rfl (lv_at hl 0 rfl) ?_
        refine ct_VR (As := []) (rest := [.int (x3 * 4)]) (C := R_WordList) (ci := 2) (q := (R_WordList, F_WordList, 3)) ⟨hx, hb, hml, hown, hts⟩ fm_WordList_count (c_WordList_count l dC dI cI cL cZ wl wlWa wln wlW wlTa wlT wlC wlC rfl) k46_methodLink k47_instanceMethod k48_selects ⟨Nat.le_of_ble_eq_true rfl, Nat.le_of_ble_eq_true rfl⟩ rfl rfl hK hN hP hD [0, 1, 2] rfl rfl (by decide) 0 rfl rfl rfl rfl hl.1 rfl (Nat.le_of_ble_eq_true rfl) d_Tree_nodesOnTheWay_6 ?_
        refine lv_icmp_ge (tgt := 19) hx hb d_Tree_nodesOnTheWay_9 (by decide) (fun h9 => ?_) (fun h9 => ?_)
        · have hd := hd.1 h9
          refine lv_iconst (v := 0) hx hb d_Tree_nodesOnTheWay_19 (by decide) ?_
          refine lv_istore (lv' := [(4, .int 0), (0, .ref wl), (1, .long y1), (3, .int x3)]) hx hb d_Tree_nodesOnTheWay_20 hl (by decide) rfl (fun ls hl => ?_)
          refine lv_aload_n hx hb d_Tree_nodesOnTheWay_22 rfl (lv_at hl 1 rfl) ?_
          refine ct_VR (As := []) (rest := []) (C := R_WordList) (ci := 2) (q := (R_WordList, F_WordList, 3)) ⟨hx, hb, hml, hown, hts⟩ fm_WordList_count (c_WordList_count l dC dI cI cL cZ wl wlWa wln wlW wlTa wlT wlC wlC rfl) k46_methodLink k47_instanceMethod k48_selects ⟨Nat.le_of_ble_eq_true rfl, Nat.le_of_ble_eq_true rfl⟩ rfl rfl hK hN hP hD [0, 1, 2] rfl rfl (by decide) 0 rfl rfl rfl rfl hl.1 rfl (Nat.le_of_ble_eq_true rfl) d_Tree_nodesOnTheWay_23 ?_
          refine lv_if_ne (tgt := 33) hx hb d_Tree_nodesOnTheWay_26 (by decide) (fun h26 => ?_) (fun h26 => ?_)
          · have hd := hd.2 h26
            refine lv_iconst (v := 0) hx hb d_Tree_nodesOnTheWay_33 (by decide) ?_
            refine lv_istore (lv' := [(5, .int 0), (4, .int 0), (0, .ref wl), (1, .long y1), (3, .int x3)]) hx hb d_Tree_nodesOnTheWay_34 hl (by decide) rfl (fun ls hl => ?_)
            exact ih.2 y1 x3 0 0 _ (lv_sub hl [2, 3, 4, 1, 0] rfl) hd
          · have hd := hd.1 h26
            refine lv_iconst (v := (-1)) hx hb d_Tree_nodesOnTheWay_29 (by decide) ?_
            refine lv_goto (tgt := 34) hx hb d_Tree_nodesOnTheWay_30 (by decide) ?_
            refine lv_istore (lv' := [(5, .int (-1)), (4, .int 0), (0, .ref wl), (1, .long y1), (3, .int x3)]) hx hb d_Tree_nodesOnTheWay_34 hl (by decide) rfl (fun ls hl => ?_)
            exact ih.2 y1 x3 0 (-1) _ (lv_sub hl [2, 3, 4, 1, 0] rfl) hd
        · have hd := hd.2 h9
          refine lv_iload_n hx hb d_Tree_nodesOnTheWay_12 rfl (lv_at hl 2 rfl) ?_
          refine lv_iconst (v := 4) hx hb d_Tree_nodesOnTheWay_13 (by decide) ?_
          refine lv_imul hx hb d_Tree_nodesOnTheWay_14 ?_
          refine lv_istore_n (lv' := [(3, .int (x3 * 4)), (0, .ref wl), (1, .long y1)]) hx hb d_Tree_nodesOnTheWay_15 rfl hl (by decide) rfl (fun ls hl => ?_)
          refine lv_goto (tgt := 2) hx hb d_Tree_nodesOnTheWay_16 (by decide) ?_
          exact ih.1 y1 (x3 * 4) _ (lv_sub hl [1, 2, 0] rfl) hd
      · intro y1 x3 x4 x5 ls hl hd
        have hd : B_Tree_nodesOnTheWay_36 wln wlW wlC res (T_Tree_nodesOnTheWay wln wlW wlC res n) y1 x3 x4 x5 := hd
        refine lv_iload_n hx hb d_Tree_nodesOnTheWay_36 rfl (lv_at hl 2 rfl) ?_
        refine lv_iconst (v := 1) hx hb d_Tree_nodesOnTheWay_37 (by decide) ?_
        refine lv_icmp_lt (tgt := 67) hx hb d_Tree_nodesOnTheWay_38 (by decide) (fun h38 => ?_) (fun h38 => ?_)
        · have hd := hd.1 h38
          refine lv_iload hx hb d_Tree_nodesOnTheWay_67 (lv_at hl 3 rfl) ?_
          have e0 : res = x4 := hd
          subst e0
          exact ct_iretR hx hb hr hlocks d_Tree_nodesOnTheWay_69
        · have hd := hd.2 h38
          refine lv_iload hx hb d_Tree_nodesOnTheWay_41 (lv_at hl 4 rfl) ?_
          refine lv_iconst (v := (-1)) hx hb d_Tree_nodesOnTheWay_43 (by decide) ?_
          refine lv_icmp_eq (tgt := 67) hx hb d_Tree_nodesOnTheWay_44 (by decide) (fun h44 => ?_) (fun h44 => ?_)
          · have hd := hd.1 h44
            refine lv_iload hx hb d_Tree_nodesOnTheWay_67 (lv_at hl 3 rfl) ?_
            have e0 : res = x4 := hd
            subst e0
            exact ct_iretR hx hb hr hlocks d_Tree_nodesOnTheWay_69
          · have hd := hd.2 h44
            refine lv_iinc (k := 3) (v := x4 + 1) (lv' := [(4, .int (x4 + 1)), (0, .ref wl), (1, .long y1), (3, .int x3), (5, .int x5)]) hx hb d_Tree_nodesOnTheWay_47 hl rfl (congrArg (fun z => x4 + z) (by decide)) (by decide) rfl (fun ls hl => ?_)
            refine lv_aload_n hx hb d_Tree_nodesOnTheWay_50 rfl (lv_at hl 1 rfl) ?_
            refine lv_lload_n hx hb d_Tree_nodesOnTheWay_51 rfl (lv_at hl 2 rfl) ?_
            refine lv_iload hx hb d_Tree_nodesOnTheWay_52 (lv_at hl 4 rfl) ?_
            refine lv_iload_n hx hb d_Tree_nodesOnTheWay_54 rfl (lv_at hl 3 rfl) ?_
            obtain ⟨r55, c55, hd⟩ := hd
            refine ct_SR (As := [.ref wl, .long y1, .int x5, .int x3]) (rest := []) ⟨hx, hb, hml, hown, hts⟩ fm_Tree_lastNotBehind (c_Tree_lastNotBehind l dC dI cI cL cZ wl wlWa wln wlW wlTa wlT wlC y1 x5 x3 r55 c55) k52_methodLink k53_static ⟨Nat.le_of_ble_eq_true rfl, Nat.le_of_ble_eq_true rfl⟩ rfl rfl hK hN hP hD [0, 1, 2] rfl rfl (by decide) rfl hl.1 rfl (Nat.le_of_ble_eq_true rfl) d_Tree_nodesOnTheWay_55 ?_
            refine lv_istore (lv' := [(5, .int r55), (4, .int (x4 + 1)), (0, .ref wl), (1, .long y1), (3, .int x3)]) hx hb d_Tree_nodesOnTheWay_58 hl (by decide) rfl (fun ls hl => ?_)
            refine lv_iload_n hx hb d_Tree_nodesOnTheWay_60 rfl (lv_at hl 4 rfl) ?_
            refine lv_iconst (v := 4) hx hb d_Tree_nodesOnTheWay_61 (by decide) ?_
            refine lv_idiv hx hb d_Tree_nodesOnTheWay_62 (by decide) ?_
            refine lv_istore_n (lv' := [(3, .int (x3 / 4)), (5, .int r55), (4, .int (x4 + 1)), (0, .ref wl), (1, .long y1)]) hx hb d_Tree_nodesOnTheWay_63 rfl hl (by decide) rfl (fun ls hl => ?_)
            refine lv_goto (tgt := 36) hx hb d_Tree_nodesOnTheWay_64 (by decide) ?_
            exact ih.2 y1 (x3 / 4) (x4 + 1) r55 _ (lv_sub hl [3, 4, 0, 2, 1] rfl) hd
  obtain ⟨n, hd⟩ := hd
  refine lv_iconst (v := 1) hx hb d_Tree_nodesOnTheWay_0 (by decide) ?_
  refine lv_istore_n (lv' := [(3, .int 1), (0, .ref wl), (1, .long w0)]) hx hb d_Tree_nodesOnTheWay_1 rfl hl (by decide) rfl (fun ls hl => ?_)
  exact (key n).1 w0 1 _ (lv_sub hl [1, 2, 0] rfl) hd
