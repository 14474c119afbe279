/-! 10.row: what each method does, read off its bytecode (D_..), and its contract (c_..); written by a program of mine. -/
-- Row.count
abbrev b_Row_count : ByteArray := prog_8_method_2_code
def y_Row_count : MethodName := ⟨"HelpFile$Row", "count", "()I"⟩
theorem k0_fieldLink : Cond.fieldLink "HelpFile$Row" 13 "HelpFile$Row" "count" "I" ∈ ga := ga_t 39 (by decide +kernel) rfl
theorem k1_initialized : Cond.initialized "HelpFile$Row" ∈ ga := ga_t 2 (by decide +kernel) rfl
set_option maxRecDepth 100000 in
theorem fm_Row_count : Fm y_Row_count b_Row_count 1 (some .int) 0 := ⟨ga_t 296 rfl rfl, k1_initialized, by decide, by decide, by decide +kernel⟩
def D_Row_count (roC : Int32) (res : Int32) : Prop := (res = roC)
theorem d_Row_count_0 : decode b_Row_count 0 = .ok (.aload_n 0, 1) := by decide +kernel
theorem d_Row_count_1 : decode b_Row_count 1 = .ok (.getfield 13, 3) := by decide +kernel
theorem d_Row_count_4 : decode b_Row_count 4 = .ok (.ireturn, 1) := by decide +kernel
set_option maxHeartbeats 4000000 in
set_option maxRecDepth 100000 in
theorem c_Row_count (l : Launch) (dC : Nat → ClassId) (dI : Nat → Nat → Nat) (cI cL cZ : ClassId) (ro : Nat) (roEa : Nat) (ron : Nat) (roE : Nat → Int32) (roC : Int32) (roO : Bool) (res : Int32) (hd : D_Row_count roC res) : CtrR l y_Row_count (Cond.code y_Row_count b_Row_count 1 (some .int) :: ga) { frames := 0, cells := 0, slots := 0, locals := 0 } (dC, dI) classes (Tys cI cL cZ) [.ref ro] ((sh_Row cI cL cZ ro roEa ron roE roC roO)) (some (.int res)) := by
  refine CtrR.ofW (by decide) (Nat.le_of_ble_eq_true rfl) ?_
  intro p e s m below meth c ls hx hb hr hml hown hlocks hts hK hN hP hD hl
  have hown : s.vm.findClass R_Row = some m.cls := hown
  have hl : lv_has ls 1 [(0, .ref ro)] := hl
  refine lv_aload_n hx hb d_Row_count_0 rfl (lv_at hl 0 rfl) ?_
  refine va_get (D := (dC, dI)) (ci := 1) (v := .int roC) (C := R_Row) (T := F_Row) (N := 3) hx hb hts in_Row hown hK hP 0 rfl rfl 1 (by decide) (hts _ (List.mem_cons_of_mem _ k0_fieldLink)) (fun _ h9 => h9) rfl d_Row_count_1 ?_
  have e0 : res = roC := hd
  subst e0
  exact ct_iretR hx hb hr hlocks d_Row_count_4
-- Row.has
abbrev b_Row_has : ByteArray := prog_8_method_3_code
def y_Row_has : MethodName := ⟨"HelpFile$Row", "has", "(I)Z"⟩
set_option maxRecDepth 100000 in
theorem fm_Row_has : Fm y_Row_has b_Row_has 2 (some .boolean) 1 := ⟨ga_t 416 rfl rfl, k1_initialized, by decide, by decide, by decide +kernel⟩
def D_Row_has (k0 : Int32) (roC : Int32) (res : Bool) : Prop := ((k0 < 0 → (res = false)) ∧ (¬ (k0 < 0) → ((roC ≤ k0 → (res = false)) ∧ (¬ (roC ≤ k0) → (res = true)))))
theorem d_Row_has_0 : decode b_Row_has 0 = .ok (.iload_n 1, 1) := by decide +kernel
theorem d_Row_has_1 : decode b_Row_has 1 = .ok (.ifCond .lt 15, 3) := by decide +kernel
theorem d_Row_has_4 : decode b_Row_has 4 = .ok (.iload_n 1, 1) := by decide +kernel
theorem d_Row_has_5 : decode b_Row_has 5 = .ok (.aload_n 0, 1) := by decide +kernel
theorem d_Row_has_6 : decode b_Row_has 6 = .ok (.getfield 13, 3) := by decide +kernel
theorem d_Row_has_9 : decode b_Row_has 9 = .ok (.if_icmp .ge 7, 3) := by decide +kernel
theorem d_Row_has_12 : decode b_Row_has 12 = .ok (.iconst 1, 1) := by decide +kernel
theorem d_Row_has_13 : decode b_Row_has 13 = .ok (.goto 4, 3) := by decide +kernel
theorem d_Row_has_16 : decode b_Row_has 16 = .ok (.iconst 0, 1) := by decide +kernel
theorem d_Row_has_17 : decode b_Row_has 17 = .ok (.ireturn, 1) := by decide +kernel
set_option maxHeartbeats 4000000 in
set_option maxRecDepth 100000 in
theorem c_Row_has (l : Launch) (dC : Nat → ClassId) (dI : Nat → Nat → Nat) (cI cL cZ : ClassId) (ro : Nat) (roEa : Nat) (ron : Nat) (roE : Nat → Int32) (roC : Int32) (roO : Bool) (k0 : Int32) (res : Bool) (hd : D_Row_has k0 roC res) : CtrR l y_Row_has (Cond.code y_Row_has b_Row_has 2 (some .boolean) :: ga) { frames := 0, cells := 0, slots := 0, locals := 0 } (dC, dI) classes (Tys cI cL cZ) [.ref ro, .int k0] ((sh_Row cI cL cZ ro roEa ron roE roC roO)) (some (.int (bI res))) := by
  refine CtrR.ofW (by decide) (Nat.le_of_ble_eq_true rfl) ?_
  intro p e s m below meth c ls hx hb hr hml hown hlocks hts hK hN hP hD hl
  have hown : s.vm.findClass R_Row = some m.cls := hown
  have hl : lv_has ls 2 [(0, .ref ro), (1, .int k0)] := hl
  refine lv_iload_n hx hb d_Row_has_0 rfl (lv_at hl 1 rfl) ?_
  refine lv_if_lt (tgt := 16) hx hb d_Row_has_1 (by decide) (fun h1 => ?_) (fun h1 => ?_)
  · have hd := hd.1 h1
    refine lv_iconst (v := 0) hx hb d_Row_has_16 (by decide) ?_
    have e0 : res = false := hd
    subst e0
    exact ct_zretR (b := false) hx hb hr hlocks d_Row_has_17
  · have hd := hd.2 h1
    refine lv_iload_n hx hb d_Row_has_4 rfl (lv_at hl 1 rfl) ?_
    refine lv_aload_n hx hb d_Row_has_5 rfl (lv_at hl 0 rfl) ?_
    refine va_get (D := (dC, dI)) (ci := 1) (v := .int roC) (C := R_Row) (T := F_Row) (N := 3) hx hb hts in_Row hown hK hP 0 rfl rfl 1 (by decide) (hts _ (List.mem_cons_of_mem _ k0_fieldLink)) (fun _ h9 => h9) rfl d_Row_has_6 ?_
    refine lv_icmp_ge (tgt := 16) hx hb d_Row_has_9 (by decide) (fun h9 => ?_) (fun h9 => ?_)
    · have hd := hd.1 h9
      refine lv_iconst (v := 0) hx hb d_Row_has_16 (by decide) ?_
      have e0 : res = false := hd
      subst e0
      exact ct_zretR (b := false) hx hb hr hlocks d_Row_has_17
    · have hd := hd.2 h9
      refine lv_iconst (v := 1) hx hb d_Row_has_12 (by decide) ?_
      refine lv_goto (tgt := 17) hx hb d_Row_has_13 (by decide) ?_
      have e0 : res = true := hd
      subst e0
      exact ct_zretR (b := true) hx hb hr hlocks d_Row_has_17
-- Row.element
abbrev b_Row_element : ByteArray := prog_8_method_4_code
def y_Row_element : MethodName := ⟨"HelpFile$Row", "element", "(I)I"⟩
theorem k2_fieldLink : Cond.fieldLink "HelpFile$Row" 7 "HelpFile$Row" "elements" "[I" ∈ ga := ga_t 38 (by decide +kernel) rfl
set_option maxRecDepth 100000 in
theorem fm_Row_element : Fm y_Row_element b_Row_element 2 (some .int) 1 := ⟨ga_t 304 rfl rfl, k1_initialized, by decide, by decide, by decide +kernel⟩
def D_Row_element (ron : Nat) (k0 : Int32) (roE : Nat → Int32) (roC : Int32) (res : Int32) : Prop := ((k0 < 0 → (res = 0)) ∧ (¬ (k0 < 0) → ((roC ≤ k0 → (res = 0)) ∧ (¬ (roC ≤ k0) → (vp_in k0 ron ∧ (res = roE (Int32.toNatClampNeg k0)))))))
theorem d_Row_element_0 : decode b_Row_element 0 = .ok (.iload_n 1, 1) := by decide +kernel
theorem d_Row_element_1 : decode b_Row_element 1 = .ok (.ifCond .lt 20, 3) := by decide +kernel
theorem d_Row_element_4 : decode b_Row_element 4 = .ok (.iload_n 1, 1) := by decide +kernel
theorem d_Row_element_5 : decode b_Row_element 5 = .ok (.aload_n 0, 1) := by decide +kernel
theorem d_Row_element_6 : decode b_Row_element 6 = .ok (.getfield 13, 3) := by decide +kernel
theorem d_Row_element_9 : decode b_Row_element 9 = .ok (.if_icmp .ge 12, 3) := by decide +kernel
theorem d_Row_element_12 : decode b_Row_element 12 = .ok (.aload_n 0, 1) := by decide +kernel
theorem d_Row_element_13 : decode b_Row_element 13 = .ok (.getfield 7, 3) := by decide +kernel
theorem d_Row_element_16 : decode b_Row_element 16 = .ok (.iload_n 1, 1) := by decide +kernel
theorem d_Row_element_17 : decode b_Row_element 17 = .ok (.iaload, 1) := by decide +kernel
theorem d_Row_element_18 : decode b_Row_element 18 = .ok (.goto 4, 3) := by decide +kernel
theorem d_Row_element_21 : decode b_Row_element 21 = .ok (.iconst 0, 1) := by decide +kernel
theorem d_Row_element_22 : decode b_Row_element 22 = .ok (.ireturn, 1) := by decide +kernel
set_option maxHeartbeats 4000000 in
set_option maxRecDepth 100000 in
theorem c_Row_element (l : Launch) (dC : Nat → ClassId) (dI : Nat → Nat → Nat) (cI cL cZ : ClassId) (ro : Nat) (roEa : Nat) (ron : Nat) (roE : Nat → Int32) (roC : Int32) (roO : Bool) (k0 : Int32) (res : Int32) (hd : D_Row_element ron k0 roE roC res) : CtrR l y_Row_element (Cond.code y_Row_element b_Row_element 2 (some .int) :: ga) { frames := 0, cells := 0, slots := 0, locals := 0 } (dC, dI) classes (Tys cI cL cZ) [.ref ro, .int k0] ((sh_Row cI cL cZ ro roEa ron roE roC roO)) (some (.int res)) := by
  refine CtrR.ofW (by decide) (Nat.le_of_ble_eq_true rfl) ?_
  intro p e s m below meth c ls hx hb hr hml hown hlocks hts hK hN hP hD hl
  have hown : s.vm.findClass R_Row = some m.cls := hown
  have hl : lv_has ls 2 [(0, .ref ro), (1, .int k0)] := hl
  refine lv_iload_n hx hb d_Row_element_0 rfl (lv_at hl 1 rfl) ?_
  refine lv_if_lt (tgt := 21) hx hb d_Row_element_1 (by decide) (fun h1 => ?_) (fun h1 => ?_)
  · have hd := hd.1 h1
    refine lv_iconst (v := 0) hx hb d_Row_element_21 (by decide) ?_
    have e0 : res = 0 := hd
    subst e0
    exact ct_iretR hx hb hr hlocks d_Row_element_22
  · have hd := hd.2 h1
    refine lv_iload_n hx hb d_Row_element_4 rfl (lv_at hl 1 rfl) ?_
    refine lv_aload_n hx hb d_Row_element_5 rfl (lv_at hl 0 rfl) ?_
    refine va_get (D := (dC, dI)) (ci := 1) (v := .int roC) (C := R_Row) (T := F_Row) (N := 3) hx hb hts in_Row hown hK hP 0 rfl rfl 1 (by decide) (hts _ (List.mem_cons_of_mem _ k0_fieldLink)) (fun _ h9 => h9) rfl d_Row_element_6 ?_
    refine lv_icmp_ge (tgt := 21) hx hb d_Row_element_9 (by decide) (fun h9 => ?_) (fun h9 => ?_)
    · have hd := hd.1 h9
      refine lv_iconst (v := 0) hx hb d_Row_element_21 (by decide) ?_
      have e0 : res = 0 := hd
      subst e0
      exact ct_iretR hx hb hr hlocks d_Row_element_22
    · have hd := hd.2 h9
      refine lv_aload_n hx hb d_Row_element_12 rfl (lv_at hl 0 rfl) ?_
      refine va_get (D := (dC, dI)) (ci := 1) (v := .ref roEa) (C := R_Row) (T := F_Row) (N := 3) hx hb hts in_Row hown hK hP 0 rfl rfl 0 (by decide) (hts _ (List.mem_cons_of_mem _ k2_fieldLink)) (fun _ h9 => h9) rfl d_Row_element_13 ?_
      refine lv_iload_n hx hb d_Row_element_16 rfl (lv_at hl 1 rfl) ?_
      obtain ⟨h17, hd⟩ := hd
      refine va_iald hx hb hK hP 1 0 rfl rfl h17 d_Row_element_17 ?_
      refine lv_goto (tgt := 22) hx hb d_Row_element_18 (by decide) ?_
      have e0 : res = roE (Int32.toNatClampNeg k0) := hd
      subst e0
      exact ct_iretR hx hb hr hlocks d_Row_element_22
-- Row.pair
abbrev b_Row_pair : ByteArray := prog_8_method_5_code
def y_Row_pair : MethodName := ⟨"HelpFile$Row", "pair", "(I)I"⟩
theorem k3_methodLink : Cond.methodLink "HelpFile$Row" 21 ⟨"HelpFile$Row", "element", "(I)I"⟩ ∈ ga := ga_t 580 (by decide +kernel) rfl
theorem k4_instanceMethod : Cond.instanceMethod ⟨"HelpFile$Row", "element", "(I)I"⟩ ∈ ga := ga_t 302 (by decide +kernel) rfl
theorem k5_selects : Cond.selects "HelpFile$Row" ⟨"HelpFile$Row", "element", "(I)I"⟩ ⟨"HelpFile$Row", "element", "(I)I"⟩ ∈ ga := ga_t 303 (by decide +kernel) rfl
set_option maxRecDepth 100000 in
theorem fm_Row_pair : Fm y_Row_pair b_Row_pair 2 (some .int) 1 := ⟨ga_t 579 rfl rfl, k1_initialized, by decide, by decide, by decide +kernel⟩
def D_Row_pair (ron : Nat) (k0 : Int32) (roE : Nat → Int32) (roC : Int32) (res : Int32) : Prop := (∃ r2 : Int32, D_Row_element ron k0 roE roC r2 ∧ (∃ r12 : Int32, D_Row_element ron (k0 + 1) roE roC r12 ∧ (res = r2 + (256 * r12))))
theorem d_Row_pair_0 : decode b_Row_pair 0 = .ok (.aload_n 0, 1) := by decide +kernel
theorem d_Row_pair_1 : decode b_Row_pair 1 = .ok (.iload_n 1, 1) := by decide +kernel
theorem d_Row_pair_2 : decode b_Row_pair 2 = .ok (.invokevirtual 21, 3) := by decide +kernel
theorem d_Row_pair_5 : decode b_Row_pair 5 = .ok (.sipush 256, 3) := by decide +kernel
theorem d_Row_pair_8 : decode b_Row_pair 8 = .ok (.aload_n 0, 1) := by decide +kernel
theorem d_Row_pair_9 : decode b_Row_pair 9 = .ok (.iload_n 1, 1) := by decide +kernel
theorem d_Row_pair_10 : decode b_Row_pair 10 = .ok (.iconst 1, 1) := by decide +kernel
theorem d_Row_pair_11 : decode b_Row_pair 11 = .ok (.iadd, 1) := by decide +kernel
theorem d_Row_pair_12 : decode b_Row_pair 12 = .ok (.invokevirtual 21, 3) := by decide +kernel
theorem d_Row_pair_15 : decode b_Row_pair 15 = .ok (.imul, 1) := by decide +kernel
theorem d_Row_pair_16 : decode b_Row_pair 16 = .ok (.iadd, 1) := by decide +kernel
theorem d_Row_pair_17 : decode b_Row_pair 17 = .ok (.ireturn, 1) := by decide +kernel
set_option maxHeartbeats 4000000 in
set_option maxRecDepth 100000 in
theorem c_Row_pair (l : Launch) (dC : Nat → ClassId) (dI : Nat → Nat → Nat) (cI cL cZ : ClassId) (ro : Nat) (roEa : Nat) (ron : Nat) (roE : Nat → Int32) (roC : Int32) (roO : Bool) (k0 : Int32) (res : Int32) (hd : D_Row_pair ron k0 roE roC res) : CtrR l y_Row_pair (Cond.code y_Row_pair b_Row_pair 2 (some .int) :: ga) { frames := 1, cells := 0, slots := 0, locals := 21 } (dC, dI) classes (Tys cI cL cZ) [.ref ro, .int k0] ((sh_Row cI cL cZ ro roEa ron roE roC roO)) (some (.int res)) := by
  refine CtrR.ofW (by decide) (Nat.le_of_ble_eq_true rfl) ?_
  intro p e s m below meth c ls hx hb hr hml hown hlocks hts hK hN hP hD hl
  have hown : s.vm.findClass R_Row = some m.cls := hown
  have hl : lv_has ls 2 [(0, .ref ro), (1, .int k0)] := hl
  refine lv_aload_n hx hb d_Row_pair_0 rfl (lv_at hl 0 rfl) ?_
  refine lv_iload_n hx hb d_Row_pair_1 rfl (lv_at hl 1 rfl) ?_
  obtain ⟨r2, c2, hd⟩ := hd
  refine ct_VR (As := [.int k0]) (rest := []) (C := R_Row) (ci := 1) (q := (R_Row, F_Row, 3)) ⟨hx, hb, hml, hown, hts⟩ fm_Row_element (c_Row_element l dC dI cI cL cZ ro roEa ron roE roC roO k0 r2 c2) k3_methodLink k4_instanceMethod k5_selects ⟨Nat.le_of_ble_eq_true rfl, Nat.le_of_ble_eq_true rfl⟩ rfl rfl hK hN hP hD [0, 1] rfl rfl (by decide) 0 rfl rfl rfl rfl hl.1 rfl (Nat.le_of_ble_eq_true rfl) d_Row_pair_2 ?_
  refine lv_sipush (v := 256) hx hb d_Row_pair_5 (by decide) ?_
  refine lv_aload_n hx hb d_Row_pair_8 rfl (lv_at hl 0 rfl) ?_
  refine lv_iload_n hx hb d_Row_pair_9 rfl (lv_at hl 1 rfl) ?_
  refine lv_iconst (v := 1) hx hb d_Row_pair_10 (by decide) ?_
  refine lv_iadd hx hb d_Row_pair_11 ?_
  obtain ⟨r12, c12, hd⟩ := hd
  refine ct_VR (As := [.int (k0 + 1)]) (rest := [.int 256, .int r2]) (C := R_Row) (ci := 1) (q := (R_Row, F_Row, 3)) ⟨hx, hb, hml, hown, hts⟩ fm_Row_element (c_Row_element l dC dI cI cL cZ ro roEa ron roE roC roO (k0 + 1) r12 c12) k3_methodLink k4_instanceMethod k5_selects ⟨Nat.le_of_ble_eq_true rfl, Nat.le_of_ble_eq_true rfl⟩ rfl rfl hK hN hP hD [0, 1] rfl rfl (by decide) 0 rfl rfl rfl rfl hl.1 rfl (Nat.le_of_ble_eq_true rfl) d_Row_pair_12 ?_
  refine lv_imul hx hb d_Row_pair_15 ?_
  refine lv_iadd hx hb d_Row_pair_16 ?_
  have e0 : res = r2 + (256 * r12) := hd
  subst e0
  exact ct_iretR hx hb hr hlocks d_Row_pair_17
-- Row.append
abbrev b_Row_append : ByteArray := prog_8_method_6_code
def y_Row_append : MethodName := ⟨"HelpFile$Row", "append", "(I)V"⟩
theorem k6_fieldLink : Cond.fieldLink "HelpFile$Row" 17 "HelpFile$Row" "overfull" "Z" ∈ ga := ga_t 40 (by decide +kernel) rfl
set_option maxRecDepth 100000 in
theorem fm_Row_append : Fm y_Row_append b_Row_append 2 none 1 := ⟨ga_t 328 rfl rfl, k1_initialized, by decide, by decide, by decide +kernel⟩
def D_Row_append (ron : Nat) (k0 : Int32) (roE : Nat → Int32) (roC : Int32) (roO : Bool) (roE' : Nat → Int32) (roC' : Int32) (roO' : Bool) : Prop := (((nI ron) ≤ roC → (roE' = roE ∧ roC' = roC ∧ roO' = true)) ∧ (¬ ((nI ron) ≤ roC) → (vp_in roC ron ∧ (roE' = upd roE (Int32.toNatClampNeg roC) k0 ∧ roC' = roC + 1 ∧ roO' = roO))))
theorem d_Row_append_0 : decode b_Row_append 0 = .ok (.aload_n 0, 1) := by decide +kernel
theorem d_Row_append_1 : decode b_Row_append 1 = .ok (.getfield 13, 3) := by decide +kernel
theorem d_Row_append_4 : decode b_Row_append 4 = .ok (.aload_n 0, 1) := by decide +kernel
theorem d_Row_append_5 : decode b_Row_append 5 = .ok (.getfield 7, 3) := by decide +kernel
theorem d_Row_append_8 : decode b_Row_append 8 = .ok (.arraylength, 1) := by decide +kernel
theorem d_Row_append_9 : decode b_Row_append 9 = .ok (.if_icmp .ge 26, 3) := by decide +kernel
theorem d_Row_append_12 : decode b_Row_append 12 = .ok (.aload_n 0, 1) := by decide +kernel
theorem d_Row_append_13 : decode b_Row_append 13 = .ok (.getfield 7, 3) := by decide +kernel
theorem d_Row_append_16 : decode b_Row_append 16 = .ok (.aload_n 0, 1) := by decide +kernel
theorem d_Row_append_17 : decode b_Row_append 17 = .ok (.getfield 13, 3) := by decide +kernel
theorem d_Row_append_20 : decode b_Row_append 20 = .ok (.iload_n 1, 1) := by decide +kernel
theorem d_Row_append_21 : decode b_Row_append 21 = .ok (.iastore, 1) := by decide +kernel
theorem d_Row_append_22 : decode b_Row_append 22 = .ok (.aload_n 0, 1) := by decide +kernel
theorem d_Row_append_23 : decode b_Row_append 23 = .ok (.dup, 1) := by decide +kernel
theorem d_Row_append_24 : decode b_Row_append 24 = .ok (.getfield 13, 3) := by decide +kernel
theorem d_Row_append_27 : decode b_Row_append 27 = .ok (.iconst 1, 1) := by decide +kernel
theorem d_Row_append_28 : decode b_Row_append 28 = .ok (.iadd, 1) := by decide +kernel
theorem d_Row_append_29 : decode b_Row_append 29 = .ok (.putfield 13, 3) := by decide +kernel
theorem d_Row_append_32 : decode b_Row_append 32 = .ok (.goto 8, 3) := by decide +kernel
theorem d_Row_append_35 : decode b_Row_append 35 = .ok (.aload_n 0, 1) := by decide +kernel
theorem d_Row_append_36 : decode b_Row_append 36 = .ok (.iconst 1, 1) := by decide +kernel
theorem d_Row_append_37 : decode b_Row_append 37 = .ok (.putfield 17, 3) := by decide +kernel
theorem d_Row_append_40 : decode b_Row_append 40 = .ok (.return_, 1) := by decide +kernel
set_option maxHeartbeats 4000000 in
set_option maxRecDepth 100000 in
theorem c_Row_append (l : Launch) (dC : Nat → ClassId) (dI : Nat → Nat → Nat) (cI cL cZ : ClassId) (ro : Nat) (roEa : Nat) (ron : Nat) (roE : Nat → Int32) (roC : Int32) (roO : Bool) (k0 : Int32) (roE' : Nat → Int32) (roC' : Int32) (roO' : Bool) (hd : D_Row_append ron k0 roE roC roO roE' roC' roO') : Ctr l y_Row_append (Cond.code y_Row_append b_Row_append 2 none :: ga) { frames := 0, cells := 0, slots := 0, locals := 0 } (dC, dI) classes (Tys cI cL cZ) [.ref ro, .int k0] ((sh_Row cI cL cZ ro roEa ron roE roC roO)) none ((sh_Row cI cL cZ ro roEa ron roE' roC' roO')) := by
  refine Ctr.ofW (by decide) (Nat.le_of_ble_eq_true rfl) ?_
  intro p e s m below meth c A ls hx hb hr hml hown hlocks hts hK hN hA hP hD hS hl
  have hown : s.vm.findClass R_Row = some m.cls := hown
  have hl : lv_has ls 2 [(0, .ref ro), (1, .int k0)] := hl
  refine lv_aload_n hx hb d_Row_append_0 rfl (lv_at hl 0 rfl) ?_
  refine va_get (D := (dC, dI)) (ci := 1) (v := .int roC) (C := R_Row) (T := F_Row) (N := 3) hx hb hts in_Row hown hK hP 0 rfl rfl 1 (by decide) (hts _ (List.mem_cons_of_mem _ k0_fieldLink)) (fun _ h9 => h9) rfl d_Row_append_1 ?_
  refine lv_aload_n hx hb d_Row_append_4 rfl (lv_at hl 0 rfl) ?_
  refine va_get (D := (dC, dI)) (ci := 1) (v := .ref roEa) (C := R_Row) (T := F_Row) (N := 3) hx hb hts in_Row hown hK hP 0 rfl rfl 0 (by decide) (hts _ (List.mem_cons_of_mem _ k2_fieldLink)) (fun _ h9 => h9) rfl d_Row_append_5 ?_
  refine va_alen (v := nI ron) hx hb hK hP 1 0 rfl rfl rfl d_Row_append_8 ?_
  refine lv_icmp_ge (tgt := 35) hx hb d_Row_append_9 (by decide) (fun h9 => ?_) (fun h9 => ?_)
  · have hd := hd.1 h9
    refine lv_aload_n hx hb d_Row_append_35 rfl (lv_at hl 0 rfl) ?_
    refine lv_iconst (v := 1) hx hb d_Row_append_36 (by decide) ?_
    refine va_put (D := (dC, dI)) (ci := 1) (v := .int (bI true)) (ty := t_Row 2) (C := R_Row) (T := F_Row) (N := 3) hx hb hts in_Row t_Row t_Row_ok n_Row hown hK hP hD hS 0 rfl rfl 2 (by decide) (hts _ (List.mem_cons_of_mem _ k6_fieldLink)) (fun _ h9 => h9) rfl (t_Row_ok 2 (by decide)) (bI_nar _) (bI_fit _) (Nat.le_of_ble_eq_true rfl) d_Row_append_37 (fun H locs hP hD hS => ?_)
    have hP : va_P (dC, dI) classes ((sh_Row cI cL cZ ro roEa ron roE roC true)) H := hP
    have hD : va_D A ((sh_Row cI cL cZ ro roEa ron roE roC true)) := hD
    obtain ⟨e0, e1, e2⟩ := hd
    subst e0
    subst e1
    subst e2
    exact ct_vret hx hb hr hlocks hK hP hD hS d_Row_append_40
  · have hd := hd.2 h9
    refine lv_aload_n hx hb d_Row_append_12 rfl (lv_at hl 0 rfl) ?_
    refine va_get (D := (dC, dI)) (ci := 1) (v := .ref roEa) (C := R_Row) (T := F_Row) (N := 3) hx hb hts in_Row hown hK hP 0 rfl rfl 0 (by decide) (hts _ (List.mem_cons_of_mem _ k2_fieldLink)) (fun _ h9 => h9) rfl d_Row_append_13 ?_
    refine lv_aload_n hx hb d_Row_append_16 rfl (lv_at hl 0 rfl) ?_
    refine va_get (D := (dC, dI)) (ci := 1) (v := .int roC) (C := R_Row) (T := F_Row) (N := 3) hx hb hts in_Row hown hK hP 0 rfl rfl 1 (by decide) (hts _ (List.mem_cons_of_mem _ k0_fieldLink)) (fun _ h9 => h9) rfl d_Row_append_17 ?_
    refine lv_iload_n hx hb d_Row_append_20 rfl (lv_at hl 1 rfl) ?_
    obtain ⟨h21, hd⟩ := hd
    refine va_iast hx hb hK hP hD hS 1 0 rfl rfl h21 d_Row_append_21 (fun H locs hP hD hS => ?_)
    have hP : va_P (dC, dI) classes ((sh_Row cI cL cZ ro roEa ron (upd roE (Int32.toNatClampNeg roC) k0) roC roO)) H := hP
    have hD : va_D A ((sh_Row cI cL cZ ro roEa ron (upd roE (Int32.toNatClampNeg roC) k0) roC roO)) := hD
    refine lv_aload_n hx hb d_Row_append_22 rfl (lv_at hl 0 rfl) ?_
    refine lv_dup hx hb d_Row_append_23 rfl ?_
    refine va_get (D := (dC, dI)) (ci := 1) (v := .int roC) (C := R_Row) (T := F_Row) (N := 3) hx hb hts in_Row hown hK hP 0 rfl rfl 1 (by decide) (hts _ (List.mem_cons_of_mem _ k0_fieldLink)) (fun _ h9 => h9) rfl d_Row_append_24 ?_
    refine lv_iconst (v := 1) hx hb d_Row_append_27 (by decide) ?_
    refine lv_iadd hx hb d_Row_append_28 ?_
    refine va_put (D := (dC, dI)) (ci := 1) (v := .int (roC + 1)) (ty := t_Row 1) (C := R_Row) (T := F_Row) (N := 3) hx hb hts in_Row t_Row t_Row_ok n_Row hown hK hP hD hS 0 rfl rfl 1 (by decide) (hts _ (List.mem_cons_of_mem _ k0_fieldLink)) (fun _ h9 => h9) rfl (t_Row_ok 1 (by decide)) rfl rfl (Nat.le_of_ble_eq_true rfl) d_Row_append_29 (fun H locs hP hD hS => ?_)
    have hP : va_P (dC, dI) classes ((sh_Row cI cL cZ ro roEa ron (upd roE (Int32.toNatClampNeg roC) k0) (roC + 1) roO)) H := hP
    have hD : va_D A ((sh_Row cI cL cZ ro roEa ron (upd roE (Int32.toNatClampNeg roC) k0) (roC + 1) roO)) := hD
    refine lv_goto (tgt := 40) hx hb d_Row_append_32 (by decide) ?_
    obtain ⟨e0, e1, e2⟩ := hd
    subst e0
    subst e1
    subst e2
    exact ct_vret hx hb hr hlocks hK hP hD hS d_Row_append_40
-- Row.appendPair
abbrev b_Row_appendPair : ByteArray := prog_8_method_7_code
def y_Row_appendPair : MethodName := ⟨"HelpFile$Row", "appendPair", "(I)V"⟩
theorem k7_methodLink : Cond.methodLink "HelpFile$Row" 25 ⟨"HelpFile$Row", "append", "(I)V"⟩ ∈ ga := ga_t 468 (by decide +kernel) rfl
theorem k8_instanceMethod : Cond.instanceMethod ⟨"HelpFile$Row", "append", "(I)V"⟩ ∈ ga := ga_t 326 (by decide +kernel) rfl
theorem k9_selects : Cond.selects "HelpFile$Row" ⟨"HelpFile$Row", "append", "(I)V"⟩ ⟨"HelpFile$Row", "append", "(I)V"⟩ ∈ ga := ga_t 327 (by decide +kernel) rfl
set_option maxRecDepth 100000 in
theorem fm_Row_appendPair : Fm y_Row_appendPair b_Row_appendPair 2 none 1 := ⟨ga_t 467 rfl rfl, k1_initialized, by decide, by decide, by decide +kernel⟩
def D_Row_appendPair (ron : Nat) (k0 : Int32) (roE : Nat → Int32) (roC : Int32) (roO : Bool) (roE' : Nat → Int32) (roC' : Int32) (roO' : Bool) : Prop := (∃ roE_6 : Nat → Int32, ∃ roC_6 : Int32, ∃ roO_6 : Bool, D_Row_append ron (k0 &&& 255) roE roC roO roE_6 roC_6 roO_6 ∧ (∃ roE_18 : Nat → Int32, ∃ roC_18 : Int32, ∃ roO_18 : Bool, D_Row_append ron ((k0 >>> (8 &&& 31)) &&& 255) roE_6 roC_6 roO_6 roE_18 roC_18 roO_18 ∧ (roE' = roE_18 ∧ roC' = roC_18 ∧ roO' = roO_18)))
theorem d_Row_appendPair_0 : decode b_Row_appendPair 0 = .ok (.aload_n 0, 1) := by decide +kernel
theorem d_Row_appendPair_1 : decode b_Row_appendPair 1 = .ok (.iload_n 1, 1) := by decide +kernel
theorem d_Row_appendPair_2 : decode b_Row_appendPair 2 = .ok (.sipush 255, 3) := by decide +kernel
theorem d_Row_appendPair_5 : decode b_Row_appendPair 5 = .ok (.iand, 1) := by decide +kernel
theorem d_Row_appendPair_6 : decode b_Row_appendPair 6 = .ok (.invokevirtual 25, 3) := by decide +kernel
theorem d_Row_appendPair_9 : decode b_Row_appendPair 9 = .ok (.aload_n 0, 1) := by decide +kernel
theorem d_Row_appendPair_10 : decode b_Row_appendPair 10 = .ok (.iload_n 1, 1) := by decide +kernel
theorem d_Row_appendPair_11 : decode b_Row_appendPair 11 = .ok (.bipush 8, 2) := by decide +kernel
theorem d_Row_appendPair_13 : decode b_Row_appendPair 13 = .ok (.ishr, 1) := by decide +kernel
theorem d_Row_appendPair_14 : decode b_Row_appendPair 14 = .ok (.sipush 255, 3) := by decide +kernel
theorem d_Row_appendPair_17 : decode b_Row_appendPair 17 = .ok (.iand, 1) := by decide +kernel
theorem d_Row_appendPair_18 : decode b_Row_appendPair 18 = .ok (.invokevirtual 25, 3) := by decide +kernel
theorem d_Row_appendPair_21 : decode b_Row_appendPair 21 = .ok (.return_, 1) := by decide +kernel
set_option maxHeartbeats 4000000 in
set_option maxRecDepth 100000 in
theorem c_Row_appendPair (l : Launch) (dC : Nat → ClassId) (dI : Nat → Nat → Nat) (cI cL cZ : ClassId) (ro : Nat) (roEa : Nat) (ron : Nat) (roE : Nat → Int32) (roC : Int32) (roO : Bool) (k0 : Int32) (roE' : Nat → Int32) (roC' : Int32) (roO' : Bool) (hd : D_Row_appendPair ron k0 roE roC roO roE' roC' roO') : Ctr l y_Row_appendPair (Cond.code y_Row_appendPair b_Row_appendPair 2 none :: ga) { frames := 1, cells := 0, slots := 0, locals := 21 } (dC, dI) classes (Tys cI cL cZ) [.ref ro, .int k0] ((sh_Row cI cL cZ ro roEa ron roE roC roO)) none ((sh_Row cI cL cZ ro roEa ron roE' roC' roO')) := by
  refine Ctr.ofW (by decide) (Nat.le_of_ble_eq_true rfl) ?_
  intro p e s m below meth c A ls hx hb hr hml hown hlocks hts hK hN hA hP hD hS hl
  have hown : s.vm.findClass R_Row = some m.cls := hown
  have hl : lv_has ls 2 [(0, .ref ro), (1, .int k0)] := hl
  refine lv_aload_n hx hb d_Row_appendPair_0 rfl (lv_at hl 0 rfl) ?_
  refine lv_iload_n hx hb d_Row_appendPair_1 rfl (lv_at hl 1 rfl) ?_
  refine lv_sipush (v := 255) hx hb d_Row_appendPair_2 (by decide) ?_
  refine lv_iand hx hb d_Row_appendPair_5 ?_
  obtain ⟨roE_6, roC_6, roO_6, c6, hd⟩ := hd
  refine ct_V (As := [.int (k0 &&& 255)]) (rest := []) (C := R_Row) (ci := 1) (q := (R_Row, F_Row, 3)) ⟨hx, hb, hml, hown, hts⟩ fm_Row_append (c_Row_append l dC dI cI cL cZ ro roEa ron roE roC roO (k0 &&& 255) roE_6 roC_6 roO_6 c6) k7_methodLink k8_instanceMethod k9_selects ⟨Nat.le_of_ble_eq_true rfl, Nat.le_of_ble_eq_true rfl⟩ rfl rfl hK hN hP hD hS hA [0, 1] [] rfl rfl rfl (by decide) (by decide) (by decide) 0 rfl rfl rfl rfl hl.1 rfl (Nat.le_of_ble_eq_true rfl) d_Row_appendPair_6 (fun H locs hP hD hS => ?_)
  have hP : va_P (dC, dI) classes ((sh_Row cI cL cZ ro roEa ron roE_6 roC_6 roO_6)) H := hP.sub [0, 1] rfl
  have hD : va_D A ((sh_Row cI cL cZ ro roEa ron roE_6 roC_6 roO_6)) := hD.sub [0, 1] (by decide) rfl
  refine lv_aload_n hx hb d_Row_appendPair_9 rfl (lv_at hl 0 rfl) ?_
  refine lv_iload_n hx hb d_Row_appendPair_10 rfl (lv_at hl 1 rfl) ?_
  refine lv_bipush (v := 8) hx hb d_Row_appendPair_11 (by decide) ?_
  refine lv_ishr hx hb d_Row_appendPair_13 ?_
  refine lv_sipush (v := 255) hx hb d_Row_appendPair_14 (by decide) ?_
  refine lv_iand hx hb d_Row_appendPair_17 ?_
  obtain ⟨roE_18, roC_18, roO_18, c18, hd⟩ := hd
  refine ct_V (As := [.int ((k0 >>> (8 &&& 31)) &&& 255)]) (rest := []) (C := R_Row) (ci := 1) (q := (R_Row, F_Row, 3)) ⟨hx, hb, hml, hown, hts⟩ fm_Row_append (c_Row_append l dC dI cI cL cZ ro roEa ron roE_6 roC_6 roO_6 ((k0 >>> (8 &&& 31)) &&& 255) roE_18 roC_18 roO_18 c18) k7_methodLink k8_instanceMethod k9_selects ⟨Nat.le_of_ble_eq_true rfl, Nat.le_of_ble_eq_true rfl⟩ rfl rfl hK hN hP hD hS hA [0, 1] [] rfl rfl rfl (by decide) (by decide) (by decide) 0 rfl rfl rfl rfl hl.1 rfl (Nat.le_of_ble_eq_true rfl) d_Row_appendPair_18 (fun H locs hP hD hS => ?_)
  have hP : va_P (dC, dI) classes ((sh_Row cI cL cZ ro roEa ron roE_18 roC_18 roO_18)) H := hP.sub [0, 1] rfl
  have hD : va_D A ((sh_Row cI cL cZ ro roEa ron roE_18 roC_18 roO_18)) := hD.sub [0, 1] (by decide) rfl
  obtain ⟨e0, e1, e2⟩ := hd
  subst e0
  subst e1
  subst e2
  exact ct_vret hx hb hr hlocks hK hP hD hS d_Row_appendPair_21
-- Row.replace
abbrev b_Row_replace : ByteArray := prog_8_method_8_code
def y_Row_replace : MethodName := ⟨"HelpFile$Row", "replace", "(II)V"⟩
theorem k10_methodLink : Cond.methodLink "HelpFile$Row" 29 ⟨"HelpFile$Row", "has", "(I)Z"⟩ ∈ ga := ga_t 413 (by decide +kernel) rfl
theorem k11_instanceMethod : Cond.instanceMethod ⟨"HelpFile$Row", "has", "(I)Z"⟩ ∈ ga := ga_t 414 (by decide +kernel) rfl
theorem k12_selects : Cond.selects "HelpFile$Row" ⟨"HelpFile$Row", "has", "(I)Z"⟩ ⟨"HelpFile$Row", "has", "(I)Z"⟩ ∈ ga := ga_t 415 (by decide +kernel) rfl
set_option maxRecDepth 100000 in
theorem fm_Row_replace : Fm y_Row_replace b_Row_replace 3 none 2 := ⟨ga_t 412 rfl rfl, k1_initialized, by decide, by decide, by decide +kernel⟩
def D_Row_replace (ron : Nat) (k0 : Int32) (k1 : Int32) (roE : Nat → Int32) (roC : Int32) (roE' : Nat → Int32) : Prop := (∃ r2 : Bool, D_Row_has k0 roC r2 ∧ (((bI r2) = 0 → (roE' = roE)) ∧ (¬ ((bI r2) = 0) → (vp_in k0 ron ∧ (roE' = upd roE (Int32.toNatClampNeg k0) k1)))))
theorem d_Row_replace_0 : decode b_Row_replace 0 = .ok (.aload_n 0, 1) := by decide +kernel
theorem d_Row_replace_1 : decode b_Row_replace 1 = .ok (.iload_n 1, 1) := by decide +kernel
theorem d_Row_replace_2 : decode b_Row_replace 2 = .ok (.invokevirtual 29, 3) := by decide +kernel
theorem d_Row_replace_5 : decode b_Row_replace 5 = .ok (.ifCond .eq 10, 3) := by decide +kernel
theorem d_Row_replace_8 : decode b_Row_replace 8 = .ok (.aload_n 0, 1) := by decide +kernel
theorem d_Row_replace_9 : decode b_Row_replace 9 = .ok (.getfield 7, 3) := by decide +kernel
theorem d_Row_replace_12 : decode b_Row_replace 12 = .ok (.iload_n 1, 1) := by decide +kernel
theorem d_Row_replace_13 : decode b_Row_replace 13 = .ok (.iload_n 2, 1) := by decide +kernel
theorem d_Row_replace_14 : decode b_Row_replace 14 = .ok (.iastore, 1) := by decide +kernel
theorem d_Row_replace_15 : decode b_Row_replace 15 = .ok (.return_, 1) := by decide +kernel
set_option maxHeartbeats 4000000 in
set_option maxRecDepth 100000 in
theorem c_Row_replace (l : Launch) (dC : Nat → ClassId) (dI : Nat → Nat → Nat) (cI cL cZ : ClassId) (ro : Nat) (roEa : Nat) (ron : Nat) (roE : Nat → Int32) (roC : Int32) (roO : Bool) (k0 : Int32) (k1 : Int32) (roE' : Nat → Int32) (hd : D_Row_replace ron k0 k1 roE roC roE') : Ctr l y_Row_replace (Cond.code y_Row_replace b_Row_replace 3 none :: ga) { frames := 1, cells := 0, slots := 0, locals := 21 } (dC, dI) classes (Tys cI cL cZ) [.ref ro, .int k0, .int k1] ((sh_Row cI cL cZ ro roEa ron roE roC roO)) none ((sh_Row cI cL cZ ro roEa ron roE' roC roO)) := by
  refine Ctr.ofW (by decide) (Nat.le_of_ble_eq_true rfl) ?_
  intro p e s m below meth c A ls hx hb hr hml hown hlocks hts hK hN hA hP hD hS hl
  have hown : s.vm.findClass R_Row = some m.cls := hown
  have hl : lv_has ls 3 [(0, .ref ro), (1, .int k0), (2, .int k1)] := hl
  refine lv_aload_n hx hb d_Row_replace_0 rfl (lv_at hl 0 rfl) ?_
  refine lv_iload_n hx hb d_Row_replace_1 rfl (lv_at hl 1 rfl) ?_
  obtain ⟨r2, c2, hd⟩ := hd
  refine ct_VR (As := [.int k0]) (rest := []) (C := R_Row) (ci := 1) (q := (R_Row, F_Row, 3)) ⟨hx, hb, hml, hown, hts⟩ fm_Row_has (c_Row_has l dC dI cI cL cZ ro roEa ron roE roC roO k0 r2 c2) k10_methodLink k11_instanceMethod k12_selects ⟨Nat.le_of_ble_eq_true rfl, Nat.le_of_ble_eq_true rfl⟩ rfl rfl hK hN hP hD [0, 1] rfl rfl (by decide) 0 rfl rfl rfl rfl hl.1 rfl (Nat.le_of_ble_eq_true rfl) d_Row_replace_2 ?_
  refine lv_if_eq (tgt := 15) hx hb d_Row_replace_5 (by decide) (fun h5 => ?_) (fun h5 => ?_)
  · have hd := hd.1 h5
    have e0 : roE' = roE := hd
    subst e0
    exact ct_vret hx hb hr hlocks hK hP hD hS d_Row_replace_15
  · have hd := hd.2 h5
    refine lv_aload_n hx hb d_Row_replace_8 rfl (lv_at hl 0 rfl) ?_
    refine va_get (D := (dC, dI)) (ci := 1) (v := .ref roEa) (C := R_Row) (T := F_Row) (N := 3) hx hb hts in_Row hown hK hP 0 rfl rfl 0 (by decide) (hts _ (List.mem_cons_of_mem _ k2_fieldLink)) (fun _ h9 => h9) rfl d_Row_replace_9 ?_
    refine lv_iload_n hx hb d_Row_replace_12 rfl (lv_at hl 1 rfl) ?_
    refine lv_iload_n hx hb d_Row_replace_13 rfl (lv_at hl 2 rfl) ?_
    obtain ⟨h14, hd⟩ := hd
    refine va_iast hx hb hK hP hD hS 1 0 rfl rfl h14 d_Row_replace_14 (fun H locs hP hD hS => ?_)
    have hP : va_P (dC, dI) classes ((sh_Row cI cL cZ ro roEa ron (upd roE (Int32.toNatClampNeg k0) k1) roC roO)) H := hP
    have hD : va_D A ((sh_Row cI cL cZ ro roEa ron (upd roE (Int32.toNatClampNeg k0) k1) roC roO)) := hD
    have e0 : roE' = upd roE (Int32.toNatClampNeg k0) k1 := hd
    subst e0
    exact ct_vret hx hb hr hlocks hK hP hD hS d_Row_replace_15
-- Row.replacePair
abbrev b_Row_replacePair : ByteArray := prog_8_method_9_code
def y_Row_replacePair : MethodName := ⟨"HelpFile$Row", "replacePair", "(II)V"⟩
theorem k13_methodLink : Cond.methodLink "HelpFile$Row" 33 ⟨"HelpFile$Row", "replace", "(II)V"⟩ ∈ ga := ga_t 491 (by decide +kernel) rfl
theorem k14_instanceMethod : Cond.instanceMethod ⟨"HelpFile$Row", "replace", "(II)V"⟩ ∈ ga := ga_t 410 (by decide +kernel) rfl
theorem k15_selects : Cond.selects "HelpFile$Row" ⟨"HelpFile$Row", "replace", "(II)V"⟩ ⟨"HelpFile$Row", "replace", "(II)V"⟩ ∈ ga := ga_t 411 (by decide +kernel) rfl
set_option maxRecDepth 100000 in
theorem fm_Row_replacePair : Fm y_Row_replacePair b_Row_replacePair 3 none 2 := ⟨ga_t 490 rfl rfl, k1_initialized, by decide, by decide, by decide +kernel⟩
def D_Row_replacePair (ron : Nat) (k0 : Int32) (k1 : Int32) (roE : Nat → Int32) (roC : Int32) (roE' : Nat → Int32) : Prop := (∃ roE_7 : Nat → Int32, D_Row_replace ron k0 (k1 &&& 255) roE roC roE_7 ∧ (∃ roE_22 : Nat → Int32, D_Row_replace ron (k0 + 1) ((k1 >>> (8 &&& 31)) &&& 255) roE_7 roC roE_22 ∧ (roE' = roE_22)))
theorem d_Row_replacePair_0 : decode b_Row_replacePair 0 = .ok (.aload_n 0, 1) := by decide +kernel
theorem d_Row_replacePair_1 : decode b_Row_replacePair 1 = .ok (.iload_n 1, 1) := by decide +kernel
theorem d_Row_replacePair_2 : decode b_Row_replacePair 2 = .ok (.iload_n 2, 1) := by decide +kernel
theorem d_Row_replacePair_3 : decode b_Row_replacePair 3 = .ok (.sipush 255, 3) := by decide +kernel
theorem d_Row_replacePair_6 : decode b_Row_replacePair 6 = .ok (.iand, 1) := by decide +kernel
theorem d_Row_replacePair_7 : decode b_Row_replacePair 7 = .ok (.invokevirtual 33, 3) := by decide +kernel
theorem d_Row_replacePair_10 : decode b_Row_replacePair 10 = .ok (.aload_n 0, 1) := by decide +kernel
theorem d_Row_replacePair_11 : decode b_Row_replacePair 11 = .ok (.iload_n 1, 1) := by decide +kernel
theorem d_Row_replacePair_12 : decode b_Row_replacePair 12 = .ok (.iconst 1, 1) := by decide +kernel
theorem d_Row_replacePair_13 : decode b_Row_replacePair 13 = .ok (.iadd, 1) := by decide +kernel
theorem d_Row_replacePair_14 : decode b_Row_replacePair 14 = .ok (.iload_n 2, 1) := by decide +kernel
theorem d_Row_replacePair_15 : decode b_Row_replacePair 15 = .ok (.bipush 8, 2) := by decide +kernel
theorem d_Row_replacePair_17 : decode b_Row_replacePair 17 = .ok (.ishr, 1) := by decide +kernel
theorem d_Row_replacePair_18 : decode b_Row_replacePair 18 = .ok (.sipush 255, 3) := by decide +kernel
theorem d_Row_replacePair_21 : decode b_Row_replacePair 21 = .ok (.iand, 1) := by decide +kernel
theorem d_Row_replacePair_22 : decode b_Row_replacePair 22 = .ok (.invokevirtual 33, 3) := by decide +kernel
theorem d_Row_replacePair_25 : decode b_Row_replacePair 25 = .ok (.return_, 1) := by decide +kernel
set_option maxHeartbeats 4000000 in
set_option maxRecDepth 100000 in
theorem c_Row_replacePair (l : Launch) (dC : Nat → ClassId) (dI : Nat → Nat → Nat) (cI cL cZ : ClassId) (ro : Nat) (roEa : Nat) (ron : Nat) (roE : Nat → Int32) (roC : Int32) (roO : Bool) (k0 : Int32) (k1 : Int32) (roE' : Nat → Int32) (hd : D_Row_replacePair ron k0 k1 roE roC roE') : Ctr l y_Row_replacePair (Cond.code y_Row_replacePair b_Row_replacePair 3 none :: ga) { frames := 2, cells := 0, slots := 0, locals := 43 } (dC, dI) classes (Tys cI cL cZ) [.ref ro, .int k0, .int k1] ((sh_Row cI cL cZ ro roEa ron roE roC roO)) none ((sh_Row cI cL cZ ro roEa ron roE' roC roO)) := by
  refine Ctr.ofW (by decide) (Nat.le_of_ble_eq_true rfl) ?_
  intro p e s m below meth c A ls hx hb hr hml hown hlocks hts hK hN hA hP hD hS hl
  have hown : s.vm.findClass R_Row = some m.cls := hown
  have hl : lv_has ls 3 [(0, .ref ro), (1, .int k0), (2, .int k1)] := hl
  refine lv_aload_n hx hb d_Row_replacePair_0 rfl (lv_at hl 0 rfl) ?_
  refine lv_iload_n hx hb d_Row_replacePair_1 rfl (lv_at hl 1 rfl) ?_
  refine lv_iload_n hx hb d_Row_replacePair_2 rfl (lv_at hl 2 rfl) ?_
  refine lv_sipush (v := 255) hx hb d_Row_replacePair_3 (by decide) ?_
  refine lv_iand hx hb d_Row_replacePair_6 ?_
  obtain ⟨roE_7, c7, hd⟩ := hd
  refine ct_V (As := [.int k0, .int (k1 &&& 255)]) (rest := []) (C := R_Row) (ci := 1) (q := (R_Row, F_Row, 3)) ⟨hx, hb, hml, hown, hts⟩ fm_Row_replace (c_Row_replace l dC dI cI cL cZ ro roEa ron roE roC roO k0 (k1 &&& 255) roE_7 c7) k13_methodLink k14_instanceMethod k15_selects ⟨Nat.le_of_ble_eq_true rfl, Nat.le_of_ble_eq_true rfl⟩ rfl rfl hK hN hP hD hS hA [0, 1] [] rfl rfl rfl (by decide) (by decide) (by decide) 0 rfl rfl rfl rfl hl.1 rfl (Nat.le_of_ble_eq_true rfl) d_Row_replacePair_7 (fun H locs hP hD hS => ?_)
  have hP : va_P (dC, dI) classes ((sh_Row cI cL cZ ro roEa ron roE_7 roC roO)) H := hP.sub [0, 1] rfl
  have hD : va_D A ((sh_Row cI cL cZ ro roEa ron roE_7 roC roO)) := hD.sub [0, 1] (by decide) rfl
  refine lv_aload_n hx hb d_Row_replacePair_10 rfl (lv_at hl 0 rfl) ?_
  refine lv_iload_n hx hb d_Row_replacePair_11 rfl (lv_at hl 1 rfl) ?_
  refine lv_iconst (v := 1) hx hb d_Row_replacePair_12 (by decide) ?_
  refine lv_iadd hx hb d_Row_replacePair_13 ?_
  refine lv_iload_n hx hb d_Row_replacePair_14 rfl (lv_at hl 2 rfl) ?_
  refine lv_bipush (v := 8) hx hb d_Row_replacePair_15 (by decide) ?_
  refine lv_ishr hx hb d_Row_replacePair_17 ?_
  refine lv_sipush (v := 255) hx hb d_Row_replacePair_18 (by decide) ?_
  refine lv_iand hx hb d_Row_replacePair_21 ?_
  obtain ⟨roE_22, c22, hd⟩ := hd
  refine ct_V (As := [.int (k0 + 1), .int ((k1 >>> (8 &&& 31)) &&& 255)]) (rest := []) (C := R_Row) (ci := 1) (q := (R_Row, F_Row, 3)) ⟨hx, hb, hml, hown, hts⟩ fm_Row_replace (c_Row_replace l dC dI cI cL cZ ro roEa ron roE_7 roC roO (k0 + 1) ((k1 >>> (8 &&& 31)) &&& 255) roE_22 c22) k13_methodLink k14_instanceMethod k15_selects ⟨Nat.le_of_ble_eq_true rfl, Nat.le_of_ble_eq_true rfl⟩ rfl rfl hK hN hP hD hS hA [0, 1] [] rfl rfl rfl (by decide) (by decide) (by decide) 0 rfl rfl rfl rfl hl.1 rfl (Nat.le_of_ble_eq_true rfl) d_Row_replacePair_22 (fun H locs hP hD hS => ?_)
  have hP : va_P (dC, dI) classes ((sh_Row cI cL cZ ro roEa ron roE_22 roC roO)) H := hP.sub [0, 1] rfl
  have hD : va_D A ((sh_Row cI cL cZ ro roEa ron roE_22 roC roO)) := hD.sub [0, 1] (by decide) rfl
  have e0 : roE' = roE_22 := hd
  subst e0
  exact ct_vret hx hb hr hlocks hK hP hD hS d_Row_replacePair_25
-- Row.shorten
abbrev b_Row_shorten : ByteArray := prog_8_method_10_code
def y_Row_shorten : MethodName := ⟨"HelpFile$Row", "shorten", "(I)V"⟩
set_option maxRecDepth 100000 in
theorem fm_Row_shorten : Fm y_Row_shorten b_Row_shorten 2 none 1 := ⟨ga_t 288 rfl rfl, k1_initialized, by decide, by decide, by decide +kernel⟩
def D_Row_shorten (k0 : Int32) (roC : Int32) (roO : Bool) (roC' : Int32) (roO' : Bool) : Prop := ((k0 < 0 → (roC' = roC ∧ roO' = roO)) ∧ (¬ (k0 < 0) → ((roC < k0 → (roC' = roC ∧ roO' = roO)) ∧ (¬ (roC < k0) → (roC' = k0 ∧ roO' = false)))))
theorem d_Row_shorten_0 : decode b_Row_shorten 0 = .ok (.iload_n 1, 1) := by decide +kernel
theorem d_Row_shorten_1 : decode b_Row_shorten 1 = .ok (.ifCond .lt 21, 3) := by decide +kernel
theorem d_Row_shorten_4 : decode b_Row_shorten 4 = .ok (.iload_n 1, 1) := by decide +kernel
theorem d_Row_shorten_5 : decode b_Row_shorten 5 = .ok (.aload_n 0, 1) := by decide +kernel
theorem d_Row_shorten_6 : decode b_Row_shorten 6 = .ok (.getfield 13, 3) := by decide +kernel
theorem d_Row_shorten_9 : decode b_Row_shorten 9 = .ok (.if_icmp .gt 13, 3) := by decide +kernel
theorem d_Row_shorten_12 : decode b_Row_shorten 12 = .ok (.aload_n 0, 1) := by decide +kernel
theorem d_Row_shorten_13 : decode b_Row_shorten 13 = .ok (.iload_n 1, 1) := by decide +kernel
theorem d_Row_shorten_14 : decode b_Row_shorten 14 = .ok (.putfield 13, 3) := by decide +kernel
theorem d_Row_shorten_17 : decode b_Row_shorten 17 = .ok (.aload_n 0, 1) := by decide +kernel
theorem d_Row_shorten_18 : decode b_Row_shorten 18 = .ok (.iconst 0, 1) := by decide +kernel
theorem d_Row_shorten_19 : decode b_Row_shorten 19 = .ok (.putfield 17, 3) := by decide +kernel
theorem d_Row_shorten_22 : decode b_Row_shorten 22 = .ok (.return_, 1) := by decide +kernel
set_option maxHeartbeats 4000000 in
set_option maxRecDepth 100000 in
theorem c_Row_shorten (l : Launch) (dC : Nat → ClassId) (dI : Nat → Nat → Nat) (cI cL cZ : ClassId) (ro : Nat) (roEa : Nat) (ron : Nat) (roE : Nat → Int32) (roC : Int32) (roO : Bool) (k0 : Int32) (roC' : Int32) (roO' : Bool) (hd : D_Row_shorten k0 roC roO roC' roO') : Ctr l y_Row_shorten (Cond.code y_Row_shorten b_Row_shorten 2 none :: ga) { frames := 0, cells := 0, slots := 0, locals := 0 } (dC, dI) classes (Tys cI cL cZ) [.ref ro, .int k0] ((sh_Row cI cL cZ ro roEa ron roE roC roO)) none ((sh_Row cI cL cZ ro roEa ron roE roC' roO')) := by
  refine Ctr.ofW (by decide) (Nat.le_of_ble_eq_true rfl) ?_
  intro p e s m below meth c A ls hx hb hr hml hown hlocks hts hK hN hA hP hD hS hl
  have hown : s.vm.findClass R_Row = some m.cls := hown
  have hl : lv_has ls 2 [(0, .ref ro), (1, .int k0)] := hl
  refine lv_iload_n hx hb d_Row_shorten_0 rfl (lv_at hl 1 rfl) ?_
  refine lv_if_lt (tgt := 22) hx hb d_Row_shorten_1 (by decide) (fun h1 => ?_) (fun h1 => ?_)
  · have hd := hd.1 h1
    obtain ⟨e0, e1⟩ := hd
    subst e0
    subst e1
    exact ct_vret hx hb hr hlocks hK hP hD hS d_Row_shorten_22
  · have hd := hd.2 h1
    refine lv_iload_n hx hb d_Row_shorten_4 rfl (lv_at hl 1 rfl) ?_
    refine lv_aload_n hx hb d_Row_shorten_5 rfl (lv_at hl 0 rfl) ?_
    refine va_get (D := (dC, dI)) (ci := 1) (v := .int roC) (C := R_Row) (T := F_Row) (N := 3) hx hb hts in_Row hown hK hP 0 rfl rfl 1 (by decide) (hts _ (List.mem_cons_of_mem _ k0_fieldLink)) (fun _ h9 => h9) rfl d_Row_shorten_6 ?_
    refine lv_icmp_gt (tgt := 22) hx hb d_Row_shorten_9 (by decide) (fun h9 => ?_) (fun h9 => ?_)
    · have hd := hd.1 h9
      obtain ⟨e0, e1⟩ := hd
      subst e0
      subst e1
      exact ct_vret hx hb hr hlocks hK hP hD hS d_Row_shorten_22
    · have hd := hd.2 h9
      refine lv_aload_n hx hb d_Row_shorten_12 rfl (lv_at hl 0 rfl) ?_
      refine lv_iload_n hx hb d_Row_shorten_13 rfl (lv_at hl 1 rfl) ?_
      refine va_put (D := (dC, dI)) (ci := 1) (v := .int k0) (ty := t_Row 1) (C := R_Row) (T := F_Row) (N := 3) hx hb hts in_Row t_Row t_Row_ok n_Row hown hK hP hD hS 0 rfl rfl 1 (by decide) (hts _ (List.mem_cons_of_mem _ k0_fieldLink)) (fun _ h9 => h9) rfl (t_Row_ok 1 (by decide)) rfl rfl (Nat.le_of_ble_eq_true rfl) d_Row_shorten_14 (fun H locs hP hD hS => ?_)
      have hP : va_P (dC, dI) classes ((sh_Row cI cL cZ ro roEa ron roE k0 roO)) H := hP
      have hD : va_D A ((sh_Row cI cL cZ ro roEa ron roE k0 roO)) := hD
      refine lv_aload_n hx hb d_Row_shorten_17 rfl (lv_at hl 0 rfl) ?_
      refine lv_iconst (v := 0) hx hb d_Row_shorten_18 (by decide) ?_
      refine va_put (D := (dC, dI)) (ci := 1) (v := .int (bI false)) (ty := t_Row 2) (C := R_Row) (T := F_Row) (N := 3) hx hb hts in_Row t_Row t_Row_ok n_Row hown hK hP hD hS 0 rfl rfl 2 (by decide) (hts _ (List.mem_cons_of_mem _ k6_fieldLink)) (fun _ h9 => h9) rfl (t_Row_ok 2 (by decide)) (bI_nar _) (bI_fit _) (Nat.le_of_ble_eq_true rfl) d_Row_shorten_19 (fun H locs hP hD hS => ?_)
      have hP : va_P (dC, dI) classes ((sh_Row cI cL cZ ro roEa ron roE k0 false)) H := hP
      have hD : va_D A ((sh_Row cI cL cZ ro roEa ron roE k0 false)) := hD
      obtain ⟨e0, e1⟩ := hd
      subst e0
      subst e1
      exact ct_vret hx hb hr hlocks hK hP hD hS d_Row_shorten_22
-- Row.dropFirst
abbrev b_Row_dropFirst : ByteArray := prog_8_method_11_code
def y_Row_dropFirst : MethodName := ⟨"HelpFile$Row", "dropFirst", "()V"⟩
theorem k16_methodLink : Cond.methodLink "HelpFile$Row" 37 ⟨"HelpFile$Row", "shorten", "(I)V"⟩ ∈ ga := ga_t 840 (by decide +kernel) rfl
theorem k17_instanceMethod : Cond.instanceMethod ⟨"HelpFile$Row", "shorten", "(I)V"⟩ ∈ ga := ga_t 286 (by decide +kernel) rfl
theorem k18_selects : Cond.selects "HelpFile$Row" ⟨"HelpFile$Row", "shorten", "(I)V"⟩ ⟨"HelpFile$Row", "shorten", "(I)V"⟩ ∈ ga := ga_t 287 (by decide +kernel) rfl
set_option maxRecDepth 100000 in
theorem fm_Row_dropFirst : Fm y_Row_dropFirst b_Row_dropFirst 2 none 0 := ⟨ga_t 839 rfl rfl, k1_initialized, by decide, by decide, by decide +kernel⟩
def B_Row_dropFirst_2 (ron : Nat) (roE' : Nat → Int32) (roC' : Int32) (roO' : Bool) (X : Int32 → (Nat → Int32) → Int32 → Bool → Prop) (x1 : Int32) (roE : Nat → Int32) (roC : Int32) (roO : Bool) : Prop := ((roC ≤ x1 → (∃ roC_37 : Int32, ∃ roO_37 : Bool, D_Row_shorten (roC - 1) roC roO roC_37 roO_37 ∧ (roE' = roE ∧ roC' = roC_37 ∧ roO' = roO_37))) ∧ (¬ (roC ≤ x1) → (vp_in x1 ron ∧ (vp_in (x1 - 1) ron ∧ X (x1 + 1) (upd roE (Int32.toNatClampNeg (x1 - 1)) (roE (Int32.toNatClampNeg x1))) roC roO))))
def S_Row_dropFirst (ron : Nat) (roE' : Nat → Int32) (roC' : Int32) (roO' : Bool) (X : Int32 → (Nat → Int32) → Int32 → Bool → Prop) : Int32 → (Nat → Int32) → Int32 → Bool → Prop := fun x1 roE roC roO => B_Row_dropFirst_2 ron roE' roC' roO' X x1 roE roC roO
def T_Row_dropFirst (ron : Nat) (roE' : Nat → Int32) (roC' : Int32) (roO' : Bool) : Nat → (Int32 → (Nat → Int32) → Int32 → Bool → Prop)
  | 0 => fun _ _ _ _ => False
  | n + 1 => S_Row_dropFirst ron roE' roC' roO' (T_Row_dropFirst ron roE' roC' roO' n)
def D_Row_dropFirst (ron : Nat) (roE : Nat → Int32) (roC : Int32) (roO : Bool) (roE' : Nat → Int32) (roC' : Int32) (roO' : Bool) : Prop := ∃ n : Nat, T_Row_dropFirst ron roE' roC' roO' n 1 roE roC roO
theorem d_Row_dropFirst_0 : decode b_Row_dropFirst 0 = .ok (.iconst 1, 1) := by decide +kernel
theorem d_Row_dropFirst_1 : decode b_Row_dropFirst 1 = .ok (.istore_n 1, 1) := by decide +kernel
theorem d_Row_dropFirst_2 : decode b_Row_dropFirst 2 = .ok (.iload_n 1, 1) := by decide +kernel
theorem d_Row_dropFirst_3 : decode b_Row_dropFirst 3 = .ok (.aload_n 0, 1) := by decide +kernel
theorem d_Row_dropFirst_4 : decode b_Row_dropFirst 4 = .ok (.getfield 13, 3) := by decide +kernel
theorem d_Row_dropFirst_7 : decode b_Row_dropFirst 7 = .ok (.if_icmp .ge 23, 3) := by decide +kernel
theorem d_Row_dropFirst_10 : decode b_Row_dropFirst 10 = .ok (.aload_n 0, 1) := by decide +kernel
theorem d_Row_dropFirst_11 : decode b_Row_dropFirst 11 = .ok (.getfield 7, 3) := by decide +kernel
theorem d_Row_dropFirst_14 : decode b_Row_dropFirst 14 = .ok (.iload_n 1, 1) := by decide +kernel
theorem d_Row_dropFirst_15 : decode b_Row_dropFirst 15 = .ok (.iconst 1, 1) := by decide +kernel
theorem d_Row_dropFirst_16 : decode b_Row_dropFirst 16 = .ok (.isub, 1) := by decide +kernel
theorem d_Row_dropFirst_17 : decode b_Row_dropFirst 17 = .ok (.aload_n 0, 1) := by decide +kernel
theorem d_Row_dropFirst_18 : decode b_Row_dropFirst 18 = .ok (.getfield 7, 3) := by decide +kernel
theorem d_Row_dropFirst_21 : decode b_Row_dropFirst 21 = .ok (.iload_n 1, 1) := by decide +kernel
theorem d_Row_dropFirst_22 : decode b_Row_dropFirst 22 = .ok (.iaload, 1) := by decide +kernel
theorem d_Row_dropFirst_23 : decode b_Row_dropFirst 23 = .ok (.iastore, 1) := by decide +kernel
theorem d_Row_dropFirst_24 : decode b_Row_dropFirst 24 = .ok (.iinc 1 1, 3) := by decide +kernel
theorem d_Row_dropFirst_27 : decode b_Row_dropFirst 27 = .ok (.goto (-25), 3) := by decide +kernel
theorem d_Row_dropFirst_30 : decode b_Row_dropFirst 30 = .ok (.aload_n 0, 1) := by decide +kernel
theorem d_Row_dropFirst_31 : decode b_Row_dropFirst 31 = .ok (.aload_n 0, 1) := by decide +kernel
theorem d_Row_dropFirst_32 : decode b_Row_dropFirst 32 = .ok (.getfield 13, 3) := by decide +kernel
theorem d_Row_dropFirst_35 : decode b_Row_dropFirst 35 = .ok (.iconst 1, 1) := by decide +kernel
theorem d_Row_dropFirst_36 : decode b_Row_dropFirst 36 = .ok (.isub, 1) := by decide +kernel
theorem d_Row_dropFirst_37 : decode b_Row_dropFirst 37 = .ok (.invokevirtual 37, 3) := by decide +kernel
theorem d_Row_dropFirst_40 : decode b_Row_dropFirst 40 = .ok (.return_, 1) := by decide +kernel
set_option maxHeartbeats 4000000 in
set_option maxRecDepth 100000 in
theorem c_Row_dropFirst (l : Launch) (dC : Nat → ClassId) (dI : Nat → Nat → Nat) (cI cL cZ : ClassId) (ro : Nat) (roEa : Nat) (ron : Nat) (roE : Nat → Int32) (roC : Int32) (roO : Bool) (roE' : Nat → Int32) (roC' : Int32) (roO' : Bool) (hd : D_Row_dropFirst ron roE roC roO roE' roC' roO') : Ctr l y_Row_dropFirst (Cond.code y_Row_dropFirst b_Row_dropFirst 2 none :: ga) { frames := 1, cells := 0, slots := 0, locals := 21 } (dC, dI) classes (Tys cI cL cZ) [.ref ro] ((sh_Row cI cL cZ ro roEa ron roE roC roO)) none ((sh_Row cI cL cZ ro roEa ron roE' roC' roO')) := by
  refine Ctr.ofW (by decide) (Nat.le_of_ble_eq_true rfl) ?_
  intro p e s m below meth c A ls hx hb hr hml hown hlocks hts hK hN hA hP hD hS hl
  have hown : s.vm.findClass R_Row = some m.cls := hown
  have hl : lv_has ls 2 [(0, .ref ro)] := hl
  have key : ∀ n : Nat, (∀ (x1 : Int32) (roE : Nat → Int32) (roC : Int32) (roO : Bool) (ls : Array Slot) (H : Heap) (locs : List Loc), lv_has ls 2 [(0, .ref ro), (1, .int x1)] → va_P (dC, dI) classes ((sh_Row cI cL cZ ro roEa ron roE roC roO)) H → va_D A ((sh_Row cI cL cZ ro roEa ron roE roC roO)) → va_S A s.heap H locs → T_Row_dropFirst ron roE' roC' roO' n x1 roE roC roO → W p l e ({ frames := 1, cells := 0, slots := 0, locals := 21 }) s m ([.ref ro] : List Value).toArray below meth c H locs 0 0 (MQ below (Qs (dC, dI) classes (Tys cI cL cZ) none ((sh_Row cI cL cZ ro roEa ron roE' roC' roO')) A) ([.ref ro] : List Value).toArray s 0 0 A) (F0 m 2 ls [])) := by
    intro n
    induction n with
    | zero =>
      exact fun _ _ _ _ _ _ _ _ _ _ _ hd => False.elim hd
    | succ n ih =>
      · intro x1 roE roC roO ls H locs hl hP hD hS hd
        have hd : B_Row_dropFirst_2 ron roE' roC' roO' (T_Row_dropFirst ron roE' roC' roO' n) x1 roE roC roO := hd
        refine lv_iload_n hx hb d_Row_dropFirst_2 rfl (lv_at hl 1 rfl) ?_
        refine lv_aload_n hx hb d_Row_dropFirst_3 rfl (lv_at hl 0 rfl) ?_
        refine va_get (D := (dC, dI)) (ci := 1) (v := .int roC) (C := R_Row) (T := F_Row) (N := 3) hx hb hts in_Row hown hK hP 0 rfl rfl 1 (by decide) (hts _ (List.mem_cons_of_mem _ k0_fieldLink)) (fun _ h9 => h9) rfl d_Row_dropFirst_4 ?_
        refine lv_icmp_ge (tgt := 30) hx hb d_Row_dropFirst_7 (by decide) (fun h7 => ?_) (fun h7 => ?_)
        · have hd := hd.1 h7
          refine lv_aload_n hx hb d_Row_dropFirst_30 rfl (lv_at hl 0 rfl) ?_
          refine lv_aload_n hx hb d_Row_dropFirst_31 rfl (lv_at hl 0 rfl) ?_
          refine va_get (D := (dC, dI)) (ci := 1) (v := .int roC) (C := R_Row) (T := F_Row) (N := 3) hx hb hts in_Row hown hK hP 0 rfl rfl 1 (by decide) (hts _ (List.mem_cons_of_mem _ k0_fieldLink)) (fun _ h9 => h9) rfl d_Row_dropFirst_32 ?_
          refine lv_iconst (v := 1) hx hb d_Row_dropFirst_35 (by decide) ?_
          refine lv_isub hx hb d_Row_dropFirst_36 ?_
          obtain ⟨roC_37, roO_37, c37, hd⟩ := hd
          refine ct_V (As := [.int (roC - 1)]) (rest := []) (C := R_Row) (ci := 1) (q := (R_Row, F_Row, 3)) ⟨hx, hb, hml, hown, hts⟩ fm_Row_shorten (c_Row_shorten l dC dI cI cL cZ ro roEa ron roE roC roO (roC - 1) roC_37 roO_37 c37) k16_methodLink k17_instanceMethod k18_selects ⟨Nat.le_of_ble_eq_true rfl, Nat.le_of_ble_eq_true rfl⟩ rfl rfl hK hN hP hD hS hA [0, 1] [] rfl rfl rfl (by decide) (by decide) (by decide) 0 rfl rfl rfl rfl hl.1 rfl (Nat.le_of_ble_eq_true rfl) d_Row_dropFirst_37 (fun H locs hP hD hS => ?_)
          have hP : va_P (dC, dI) classes ((sh_Row cI cL cZ ro roEa ron roE roC_37 roO_37)) H := hP.sub [0, 1] rfl
          have hD : va_D A ((sh_Row cI cL cZ ro roEa ron roE roC_37 roO_37)) := hD.sub [0, 1] (by decide) rfl
          obtain ⟨e0, e1, e2⟩ := hd
          subst e0
          subst e1
          subst e2
          exact ct_vret hx hb hr hlocks hK hP hD hS d_Row_dropFirst_40
        · have hd := hd.2 h7
          refine lv_aload_n hx hb d_Row_dropFirst_10 rfl (lv_at hl 0 rfl) ?_
          refine va_get (D := (dC, dI)) (ci := 1) (v := .ref roEa) (C := R_Row) (T := F_Row) (N := 3) hx hb hts in_Row hown hK hP 0 rfl rfl 0 (by decide) (hts _ (List.mem_cons_of_mem _ k2_fieldLink)) (fun _ h9 => h9) rfl d_Row_dropFirst_11 ?_
          refine lv_iload_n hx hb d_Row_dropFirst_14 rfl (lv_at hl 1 rfl) ?_
          refine lv_iconst (v := 1) hx hb d_Row_dropFirst_15 (by decide) ?_
          refine lv_isub hx hb d_Row_dropFirst_16 ?_
          refine lv_aload_n hx hb d_Row_dropFirst_17 rfl (lv_at hl 0 rfl) ?_
          refine va_get (D := (dC, dI)) (ci := 1) (v := .ref roEa) (C := R_Row) (T := F_Row) (N := 3) hx hb hts in_Row hown hK hP 0 rfl rfl 0 (by decide) (hts _ (List.mem_cons_of_mem _ k2_fieldLink)) (fun _ h9 => h9) rfl d_Row_dropFirst_18 ?_
          refine lv_iload_n hx hb d_Row_dropFirst_21 rfl (lv_at hl 1 rfl) ?_
          obtain ⟨h22, hd⟩ := hd
          refine va_iald hx hb hK hP 1 0 rfl rfl h22 d_Row_dropFirst_22 ?_
          obtain ⟨h23, hd⟩ := hd
          refine va_iast hx hb hK hP hD hS 1 0 rfl rfl h23 d_Row_dropFirst_23 (fun H locs hP hD hS => ?_)
          have hP : va_P (dC, dI) classes ((sh_Row cI cL cZ ro roEa ron (upd roE (Int32.toNatClampNeg (x1 - 1)) (roE (Int32.toNatClampNeg x1))) roC roO)) H := hP
          have hD : va_D A ((sh_Row cI cL cZ ro roEa ron (upd roE (Int32.toNatClampNeg (x1 - 1)) (roE (Int32.toNatClampNeg x1))) roC roO)) := hD
          refine lv_iinc (k := 1) (v := x1 + 1) (lv' := [(1, .int (x1 + 1)), (0, .ref ro)]) hx hb d_Row_dropFirst_24 hl rfl (congrArg (fun z => x1 + z) (by decide)) (by decide) rfl (fun ls hl => ?_)
          refine lv_goto (tgt := 2) hx hb d_Row_dropFirst_27 (by decide) ?_
          exact ih (x1 + 1) (upd roE (Int32.toNatClampNeg (x1 - 1)) (roE (Int32.toNatClampNeg x1))) roC roO _ _ _ (lv_sub hl [1, 0] rfl) hP hD hS hd
  obtain ⟨n, hd⟩ := hd
  refine lv_iconst (v := 1) hx hb d_Row_dropFirst_0 (by decide) ?_
  refine lv_istore_n (lv' := [(1, .int 1), (0, .ref ro)]) hx hb d_Row_dropFirst_1 rfl hl (by decide) rfl (fun ls hl => ?_)
  exact (key n) 1 roE roC roO _ _ _ (lv_sub hl [1, 0] rfl) hP hD hS hd
-- Row.sum
abbrev b_Row_sum : ByteArray := prog_8_method_12_code
def y_Row_sum : MethodName := ⟨"HelpFile$Row", "sum", "()I"⟩
set_option maxRecDepth 100000 in
theorem fm_Row_sum : Fm y_Row_sum b_Row_sum 3 (some .int) 0 := ⟨ga_t 555 rfl rfl, k1_initialized, by decide, by decide, by decide +kernel⟩
def B_Row_sum_4 (ron : Nat) (roE : Nat → Int32) (roC : Int32) (res : Int32) (X : Int32 → Int32 → Prop) (x1 : Int32) (x2 : Int32) : Prop := ((roC ≤ x2 → (res = x1)) ∧ (¬ (roC ≤ x2) → (vp_in x2 ron ∧ X (x1 + (roE (Int32.toNatClampNeg x2))) (x2 + 1))))
def S_Row_sum (ron : Nat) (roE : Nat → Int32) (roC : Int32) (res : Int32) (X : Int32 → Int32 → Prop) : Int32 → Int32 → Prop := fun x1 x2 => B_Row_sum_4 ron roE roC res X x1 x2
def T_Row_sum (ron : Nat) (roE : Nat → Int32) (roC : Int32) (res : Int32) : Nat → (Int32 → Int32 → Prop)
  | 0 => fun _ _ => False
  | n + 1 => S_Row_sum ron roE roC res (T_Row_sum ron roE roC res n)
def D_Row_sum (ron : Nat) (roE : Nat → Int32) (roC : Int32) (res : Int32) : Prop := ∃ n : Nat, T_Row_sum ron roE roC res n 0 0
theorem d_Row_sum_0 : decode b_Row_sum 0 = .ok (.iconst 0, 1) := by decide +kernel
theorem d_Row_sum_1 : decode b_Row_sum 1 = .ok (.istore_n 1, 1) := by decide +kernel
theorem d_Row_sum_2 : decode b_Row_sum 2 = .ok (.iconst 0, 1) := by decide +kernel
theorem d_Row_sum_3 : decode b_Row_sum 3 = .ok (.istore_n 2, 1) := by decide +kernel
theorem d_Row_sum_4 : decode b_Row_sum 4 = .ok (.iload_n 2, 1) := by decide +kernel
theorem d_Row_sum_5 : decode b_Row_sum 5 = .ok (.aload_n 0, 1) := by decide +kernel
theorem d_Row_sum_6 : decode b_Row_sum 6 = .ok (.getfield 13, 3) := by decide +kernel
theorem d_Row_sum_9 : decode b_Row_sum 9 = .ok (.if_icmp .ge 18, 3) := by decide +kernel
theorem d_Row_sum_12 : decode b_Row_sum 12 = .ok (.iload_n 1, 1) := by decide +kernel
theorem d_Row_sum_13 : decode b_Row_sum 13 = .ok (.aload_n 0, 1) := by decide +kernel
theorem d_Row_sum_14 : decode b_Row_sum 14 = .ok (.getfield 7, 3) := by decide +kernel
theorem d_Row_sum_17 : decode b_Row_sum 17 = .ok (.iload_n 2, 1) := by decide +kernel
theorem d_Row_sum_18 : decode b_Row_sum 18 = .ok (.iaload, 1) := by decide +kernel
theorem d_Row_sum_19 : decode b_Row_sum 19 = .ok (.iadd, 1) := by decide +kernel
theorem d_Row_sum_20 : decode b_Row_sum 20 = .ok (.istore_n 1, 1) := by decide +kernel
theorem d_Row_sum_21 : decode b_Row_sum 21 = .ok (.iinc 2 1, 3) := by decide +kernel
theorem d_Row_sum_24 : decode b_Row_sum 24 = .ok (.goto (-20), 3) := by decide +kernel
theorem d_Row_sum_27 : decode b_Row_sum 27 = .ok (.iload_n 1, 1) := by decide +kernel
theorem d_Row_sum_28 : decode b_Row_sum 28 = .ok (.ireturn, 1) := by decide +kernel
set_option maxHeartbeats 4000000 in
set_option maxRecDepth 100000 in
theorem c_Row_sum (l : Launch) (dC : Nat → ClassId) (dI : Nat → Nat → Nat) (cI cL cZ : ClassId) (ro : Nat) (roEa : Nat) (ron : Nat) (roE : Nat → Int32) (roC : Int32) (roO : Bool) (res : Int32) (hd : D_Row_sum ron roE roC res) : CtrR l y_Row_sum (Cond.code y_Row_sum b_Row_sum 3 (some .int) :: ga) { frames := 0, cells := 0, slots := 0, locals := 0 } (dC, dI) classes (Tys cI cL cZ) [.ref ro] ((sh_Row cI cL cZ ro roEa ron roE roC roO)) (some (.int res)) := by
  refine CtrR.ofW (by decide) (Nat.le_of_ble_eq_true rfl) ?_
  intro p e s m below meth c ls hx hb hr hml hown hlocks hts hK hN hP hD hl
  have hown : s.vm.findClass R_Row = some m.cls := hown
  have hl : lv_has ls 3 [(0, .ref ro)] := hl
  have key : ∀ n : Nat, (∀ (x1 : Int32) (x2 : Int32) (ls : Array Slot), lv_has ls 3 [(0, .ref ro), (1, .int x1), (2, .int x2)] → T_Row_sum ron roE roC res n x1 x2 → W p l e ({ frames := 0, cells := 0, slots := 0, locals := 0 }) s m ([.ref ro] : List Value).toArray below meth c s.heap [] 0 0 (MQ below (Qr (some (.int res))) ([.ref ro] : List Value).toArray s 0 0 (fun _ => False)) (F0 m 4 ls [])) := by
    intro n
    induction n with
    | zero =>
      exact fun _ _ _ _ hd => False.elim hd
    | succ n ih =>
      · intro x1 x2 ls hl hd
        have hd : B_Row_sum_4 ron roE roC res (T_Row_sum ron roE roC res n) x1 x2 := hd
        refine lv_iload_n hx hb d_Row_sum_4 rfl (lv_at hl 2 rfl) ?_
        refine lv_aload_n hx hb d_Row_sum_5 rfl (lv_at hl 0 rfl) ?_
        refine va_get (D := (dC, dI)) (ci := 1) (v := .int roC) (C := R_Row) (T := F_Row) (N := 3) hx hb hts in_Row hown hK hP 0 rfl rfl 1 (by decide) (hts _ (List.mem_cons_of_mem _ k0_fieldLink)) (fun _ h9 => h9) rfl d_Row_sum_6 ?_
        refine lv_icmp_ge (tgt := 27) hx hb d_Row_sum_9 (by decide) (fun h9 => ?_) (fun h9 => ?_)
        · have hd := hd.1 h9
          refine lv_iload_n hx hb d_Row_sum_27 rfl (lv_at hl 1 rfl) ?_
          have e0 : res = x1 := hd
          subst e0
          exact ct_iretR hx hb hr hlocks d_Row_sum_28
        · have hd := hd.2 h9
          refine lv_iload_n hx hb d_Row_sum_12 rfl (lv_at hl 1 rfl) ?_
          refine lv_aload_n hx hb d_Row_sum_13 rfl (lv_at hl 0 rfl) ?_
          refine va_get (D := (dC, dI)) (ci := 1) (v := .ref roEa) (C := R_Row) (T := F_Row) (N := 3) hx hb hts in_Row hown hK hP 0 rfl rfl 0 (by decide) (hts _ (List.mem_cons_of_mem _ k2_fieldLink)) (fun _ h9 => h9) rfl d_Row_sum_14 ?_
          refine lv_iload_n hx hb d_Row_sum_17 rfl (lv_at hl 2 rfl) ?_
          obtain ⟨h18, hd⟩ := hd
          refine va_iald hx hb hK hP 1 0 rfl rfl h18 d_Row_sum_18 ?_
          refine lv_iadd hx hb d_Row_sum_19 ?_
          refine lv_istore_n (lv' := [(1, .int (x1 + (roE (Int32.toNatClampNeg x2)))), (0, .ref ro), (2, .int x2)]) hx hb d_Row_sum_20 rfl hl (by decide) rfl (fun ls hl => ?_)
          refine lv_iinc (k := 2) (v := x2 + 1) (lv' := [(2, .int (x2 + 1)), (1, .int (x1 + (roE (Int32.toNatClampNeg x2)))), (0, .ref ro)]) hx hb d_Row_sum_21 hl rfl (congrArg (fun z => x2 + z) (by decide)) (by decide) rfl (fun ls hl => ?_)
          refine lv_goto (tgt := 4) hx hb d_Row_sum_24 (by decide) ?_
          exact ih (x1 + (roE (Int32.toNatClampNeg x2))) (x2 + 1) _ (lv_sub hl [2, 1, 0] rfl) hd
  obtain ⟨n, hd⟩ := hd
  refine lv_iconst (v := 0) hx hb d_Row_sum_0 (by decide) ?_
  refine lv_istore_n (lv' := [(1, .int 0), (0, .ref ro)]) hx hb d_Row_sum_1 rfl hl (by decide) rfl (fun ls hl => ?_)
  refine lv_iconst (v := 0) hx hb d_Row_sum_2 (by decide) ?_
  refine lv_istore_n (lv' := [(2, .int 0), (1, .int 0), (0, .ref ro)]) hx hb d_Row_sum_3 rfl hl (by decide) rfl (fun ls hl => ?_)
  exact (key n) 0 0 _ (lv_sub hl [2, 1, 0] rfl) hd
-- Row.isSameAs
abbrev b_Row_isSameAs : ByteArray := prog_8_method_13_code
def y_Row_isSameAs : MethodName := ⟨"HelpFile$Row", "isSameAs", "(LHelpFile$Row;)Z"⟩
set_option maxRecDepth 100000 in
theorem fm_Row_isSameAs : Fm y_Row_isSameAs b_Row_isSameAs 3 (some .boolean) 1 := ⟨ga_t 630 rfl rfl, k1_initialized, by decide, by decide, by decide +kernel⟩
def B_Row_isSameAs_29 (ron : Nat) (ran : Nat) (roE : Nat → Int32) (roC : Int32) (roO : Bool) (raE : Nat → Int32) (raC : Int32) (raO : Bool) (res : Bool) (X : Int32 → Prop) (x2 : Int32) : Prop := ((roC ≤ x2 → (res = true)) ∧ (¬ (roC ≤ x2) → (vp_in x2 ron ∧ (vp_in x2 ran ∧ (((roE (Int32.toNatClampNeg x2)) = (raE (Int32.toNatClampNeg x2)) → X (x2 + 1)) ∧ (¬ ((roE (Int32.toNatClampNeg x2)) = (raE (Int32.toNatClampNeg x2))) → (res = false)))))))
def S_Row_isSameAs (ron : Nat) (ran : Nat) (roE : Nat → Int32) (roC : Int32) (roO : Bool) (raE : Nat → Int32) (raC : Int32) (raO : Bool) (res : Bool) (X : Int32 → Prop) : Int32 → Prop := fun x2 => B_Row_isSameAs_29 ron ran roE roC roO raE raC raO res X x2
def T_Row_isSameAs (ron : Nat) (ran : Nat) (roE : Nat → Int32) (roC : Int32) (roO : Bool) (raE : Nat → Int32) (raC : Int32) (raO : Bool) (res : Bool) : Nat → (Int32 → Prop)
  | 0 => fun _ => False
  | n + 1 => S_Row_isSameAs ron ran roE roC roO raE raC raO res (T_Row_isSameAs ron ran roE roC roO raE raC raO res n)
def D_Row_isSameAs (ron : Nat) (ran : Nat) (roE : Nat → Int32) (roC : Int32) (roO : Bool) (raE : Nat → Int32) (raC : Int32) (raO : Bool) (res : Bool) : Prop := ∃ n : Nat, (((bI roO) = 0 → (((bI raO) = 0 → ((roC = raC → T_Row_isSameAs ron ran roE roC roO raE raC raO res n 0) ∧ (¬ (roC = raC) → (res = false)))) ∧ (¬ ((bI raO) = 0) → (res = false)))) ∧ (¬ ((bI roO) = 0) → (res = false)))
theorem d_Row_isSameAs_0 : decode b_Row_isSameAs 0 = .ok (.aload_n 0, 1) := by decide +kernel
theorem d_Row_isSameAs_1 : decode b_Row_isSameAs 1 = .ok (.getfield 17, 3) := by decide +kernel
theorem d_Row_isSameAs_4 : decode b_Row_isSameAs 4 = .ok (.ifCond .ne 21, 3) := by decide +kernel
theorem d_Row_isSameAs_7 : decode b_Row_isSameAs 7 = .ok (.aload_n 1, 1) := by decide +kernel
theorem d_Row_isSameAs_8 : decode b_Row_isSameAs 8 = .ok (.getfield 17, 3) := by decide +kernel
theorem d_Row_isSameAs_11 : decode b_Row_isSameAs 11 = .ok (.ifCond .ne 14, 3) := by decide +kernel
theorem d_Row_isSameAs_14 : decode b_Row_isSameAs 14 = .ok (.aload_n 0, 1) := by decide +kernel
theorem d_Row_isSameAs_15 : decode b_Row_isSameAs 15 = .ok (.getfield 13, 3) := by decide +kernel
theorem d_Row_isSameAs_18 : decode b_Row_isSameAs 18 = .ok (.aload_n 1, 1) := by decide +kernel
theorem d_Row_isSameAs_19 : decode b_Row_isSameAs 19 = .ok (.getfield 13, 3) := by decide +kernel
theorem d_Row_isSameAs_22 : decode b_Row_isSameAs 22 = .ok (.if_icmp .eq 5, 3) := by decide +kernel
theorem d_Row_isSameAs_25 : decode b_Row_isSameAs 25 = .ok (.iconst 0, 1) := by decide +kernel
theorem d_Row_isSameAs_26 : decode b_Row_isSameAs 26 = .ok (.ireturn, 1) := by decide +kernel
theorem d_Row_isSameAs_27 : decode b_Row_isSameAs 27 = .ok (.iconst 0, 1) := by decide +kernel
theorem d_Row_isSameAs_28 : decode b_Row_isSameAs 28 = .ok (.istore_n 2, 1) := by decide +kernel
theorem d_Row_isSameAs_29 : decode b_Row_isSameAs 29 = .ok (.iload_n 2, 1) := by decide +kernel
theorem d_Row_isSameAs_30 : decode b_Row_isSameAs 30 = .ok (.aload_n 0, 1) := by decide +kernel
theorem d_Row_isSameAs_31 : decode b_Row_isSameAs 31 = .ok (.getfield 13, 3) := by decide +kernel
theorem d_Row_isSameAs_34 : decode b_Row_isSameAs 34 = .ok (.if_icmp .ge 26, 3) := by decide +kernel
theorem d_Row_isSameAs_37 : decode b_Row_isSameAs 37 = .ok (.aload_n 0, 1) := by decide +kernel
theorem d_Row_isSameAs_38 : decode b_Row_isSameAs 38 = .ok (.getfield 7, 3) := by decide +kernel
theorem d_Row_isSameAs_41 : decode b_Row_isSameAs 41 = .ok (.iload_n 2, 1) := by decide +kernel
theorem d_Row_isSameAs_42 : decode b_Row_isSameAs 42 = .ok (.iaload, 1) := by decide +kernel
theorem d_Row_isSameAs_43 : decode b_Row_isSameAs 43 = .ok (.aload_n 1, 1) := by decide +kernel
theorem d_Row_isSameAs_44 : decode b_Row_isSameAs 44 = .ok (.getfield 7, 3) := by decide +kernel
theorem d_Row_isSameAs_47 : decode b_Row_isSameAs 47 = .ok (.iload_n 2, 1) := by decide +kernel
theorem d_Row_isSameAs_48 : decode b_Row_isSameAs 48 = .ok (.iaload, 1) := by decide +kernel
theorem d_Row_isSameAs_49 : decode b_Row_isSameAs 49 = .ok (.if_icmp .eq 5, 3) := by decide +kernel
theorem d_Row_isSameAs_52 : decode b_Row_isSameAs 52 = .ok (.iconst 0, 1) := by decide +kernel
theorem d_Row_isSameAs_53 : decode b_Row_isSameAs 53 = .ok (.ireturn, 1) := by decide +kernel
theorem d_Row_isSameAs_54 : decode b_Row_isSameAs 54 = .ok (.iinc 2 1, 3) := by decide +kernel
theorem d_Row_isSameAs_57 : decode b_Row_isSameAs 57 = .ok (.goto (-28), 3) := by decide +kernel
theorem d_Row_isSameAs_60 : decode b_Row_isSameAs 60 = .ok (.iconst 1, 1) := by decide +kernel
theorem d_Row_isSameAs_61 : decode b_Row_isSameAs 61 = .ok (.ireturn, 1) := by decide +kernel
set_option maxHeartbeats 4000000 in
set_option maxRecDepth 100000 in
theorem c_Row_isSameAs (l : Launch) (dC : Nat → ClassId) (dI : Nat → Nat → Nat) (cI cL cZ : ClassId) (ro : Nat) (roEa : Nat) (ron : Nat) (roE : Nat → Int32) (roC : Int32) (roO : Bool) (ra : Nat) (raEa : Nat) (ran : Nat) (raE : Nat → Int32) (raC : Int32) (raO : Bool) (res : Bool) (hd : D_Row_isSameAs ron ran roE roC roO raE raC raO res) : CtrR l y_Row_isSameAs (Cond.code y_Row_isSameAs b_Row_isSameAs 3 (some .boolean) :: ga) { frames := 0, cells := 0, slots := 0, locals := 0 } (dC, dI) classes (Tys cI cL cZ) [.ref ro, .ref ra] ((sh_Row cI cL cZ ro roEa ron roE roC roO) ++ ((sh_Row cI cL cZ ra raEa ran raE raC raO))) (some (.int (bI res))) := by
  refine CtrR.ofW (by decide) (Nat.le_of_ble_eq_true rfl) ?_
  intro p e s m below meth c ls hx hb hr hml hown hlocks hts hK hN hP hD hl
  have hown : s.vm.findClass R_Row = some m.cls := hown
  have hl : lv_has ls 3 [(0, .ref ro), (1, .ref ra)] := hl
  have key : ∀ n : Nat, (∀ (x2 : Int32) (ls : Array Slot), lv_has ls 3 [(0, .ref ro), (1, .ref ra), (2, .int x2)] → T_Row_isSameAs ron ran roE roC roO raE raC raO res n x2 → W p l e ({ frames := 0, cells := 0, slots := 0, locals := 0 }) s m ([.ref ro, .ref ra] : List Value).toArray below meth c s.heap [] 0 0 (MQ below (Qr (some (.int (bI res)))) ([.ref ro, .ref ra] : List Value).toArray s 0 0 (fun _ => False)) (F0 m 29 ls [])) := by
    intro n
    induction n with
    | zero =>
      exact fun _ _ _ hd => False.elim hd
    | succ n ih =>
      · intro x2 ls hl hd
        have hd : B_Row_isSameAs_29 ron ran roE roC roO raE raC raO res (T_Row_isSameAs ron ran roE roC roO raE raC raO res n) x2 := hd
        refine lv_iload_n hx hb d_Row_isSameAs_29 rfl (lv_at hl 2 rfl) ?_
        refine lv_aload_n hx hb d_Row_isSameAs_30 rfl (lv_at hl 0 rfl) ?_
        refine va_get (D := (dC, dI)) (ci := 1) (v := .int roC) (C := R_Row) (T := F_Row) (N := 3) hx hb hts in_Row hown hK hP 0 rfl rfl 1 (by decide) (hts _ (List.mem_cons_of_mem _ k0_fieldLink)) (fun _ h9 => h9) rfl d_Row_isSameAs_31 ?_
        refine lv_icmp_ge (tgt := 60) hx hb d_Row_isSameAs_34 (by decide) (fun h34 => ?_) (fun h34 => ?_)
        · have hd := hd.1 h34
          refine lv_iconst (v := 1) hx hb d_Row_isSameAs_60 (by decide) ?_
          have e0 : res = true := hd
          subst e0
          exact ct_zretR (b := true) hx hb hr hlocks d_Row_isSameAs_61
        · have hd := hd.2 h34
          refine lv_aload_n hx hb d_Row_isSameAs_37 rfl (lv_at hl 0 rfl) ?_
          refine va_get (D := (dC, dI)) (ci := 1) (v := .ref roEa) (C := R_Row) (T := F_Row) (N := 3) hx hb hts in_Row hown hK hP 0 rfl rfl 0 (by decide) (hts _ (List.mem_cons_of_mem _ k2_fieldLink)) (fun _ h9 => h9) rfl d_Row_isSameAs_38 ?_
          refine lv_iload_n hx hb d_Row_isSameAs_41 rfl (lv_at hl 2 rfl) ?_
          obtain ⟨h42, hd⟩ := hd
          refine va_iald hx hb hK hP 1 0 rfl rfl h42 d_Row_isSameAs_42 ?_
          refine lv_aload_n hx hb d_Row_isSameAs_43 rfl (lv_at hl 1 rfl) ?_
          refine va_get (D := (dC, dI)) (ci := 1) (v := .ref raEa) (C := R_Row) (T := F_Row) (N := 3) hx hb hts in_Row hown hK hP 2 rfl rfl 0 (by decide) (hts _ (List.mem_cons_of_mem _ k2_fieldLink)) (fun _ h9 => h9) rfl d_Row_isSameAs_44 ?_
          refine lv_iload_n hx hb d_Row_isSameAs_47 rfl (lv_at hl 2 rfl) ?_
          obtain ⟨h48, hd⟩ := hd
          refine va_iald hx hb hK hP 3 0 rfl rfl h48 d_Row_isSameAs_48 ?_
          refine lv_icmp_eq (tgt := 54) hx hb d_Row_isSameAs_49 (by decide) (fun h49 => ?_) (fun h49 => ?_)
          · have hd := hd.1 h49
            refine lv_iinc (k := 2) (v := x2 + 1) (lv' := [(2, .int (x2 + 1)), (0, .ref ro), (1, .ref ra)]) hx hb d_Row_isSameAs_54 hl rfl (congrArg (fun z => x2 + z) (by decide)) (by decide) rfl (fun ls hl => ?_)
            refine lv_goto (tgt := 29) hx hb d_Row_isSameAs_57 (by decide) ?_
            exact ih (x2 + 1) _ (lv_sub hl [1, 2, 0] rfl) hd
          · have hd := hd.2 h49
            refine lv_iconst (v := 0) hx hb d_Row_isSameAs_52 (by decide) ?_
            have e0 : res = false := hd
            subst e0
            exact ct_zretR (b := false) hx hb hr hlocks d_Row_isSameAs_53
  obtain ⟨n, hd⟩ := hd
  refine lv_aload_n hx hb d_Row_isSameAs_0 rfl (lv_at hl 0 rfl) ?_
  refine va_get (D := (dC, dI)) (ci := 1) (v := .int (bI roO)) (C := R_Row) (T := F_Row) (N := 3) hx hb hts in_Row hown hK hP 0 rfl rfl 2 (by decide) (hts _ (List.mem_cons_of_mem _ k6_fieldLink)) (fun _ h9 => h9) rfl d_Row_isSameAs_1 ?_
  refine lv_if_ne (tgt := 25) hx hb d_Row_isSameAs_4 (by decide) (fun h4 => ?_) (fun h4 => ?_)
  · have hd := hd.2 h4
    refine lv_iconst (v := 0) hx hb d_Row_isSameAs_25 (by decide) ?_
    have e0 : res = false := hd
    subst e0
    exact ct_zretR (b := false) hx hb hr hlocks d_Row_isSameAs_26
  · have hd := hd.1 h4
    refine lv_aload_n hx hb d_Row_isSameAs_7 rfl (lv_at hl 1 rfl) ?_
    refine va_get (D := (dC, dI)) (ci := 1) (v := .int (bI raO)) (C := R_Row) (T := F_Row) (N := 3) hx hb hts in_Row hown hK hP 2 rfl rfl 2 (by decide) (hts _ (List.mem_cons_of_mem _ k6_fieldLink)) (fun _ h9 => h9) rfl d_Row_isSameAs_8 ?_
    refine lv_if_ne (tgt := 25) hx hb d_Row_isSameAs_11 (by decide) (fun h11 => ?_) (fun h11 => ?_)
    · have hd := hd.2 h11
      refine lv_iconst (v := 0) hx hb d_Row_isSameAs_25 (by decide) ?_
      have e0 : res = false := hd
      subst e0
      exact ct_zretR (b := false) hx hb hr hlocks d_Row_isSameAs_26
    · have hd := hd.1 h11
      refine lv_aload_n hx hb d_Row_isSameAs_14 rfl (lv_at hl 0 rfl) ?_
      refine va_get (D := (dC, dI)) (ci := 1) (v := .int roC) (C := R_Row) (T := F_Row) (N := 3) hx hb hts in_Row hown hK hP 0 rfl rfl 1 (by decide) (hts _ (List.mem_cons_of_mem _ k0_fieldLink)) (fun _ h9 => h9) rfl d_Row_isSameAs_15 ?_
      refine lv_aload_n hx hb d_Row_isSameAs_18 rfl (lv_at hl 1 rfl) ?_
      refine va_get (D := (dC, dI)) (ci := 1) (v := .int raC) (C := R_Row) (T := F_Row) (N := 3) hx hb hts in_Row hown hK hP 2 rfl rfl 1 (by decide) (hts _ (List.mem_cons_of_mem _ k0_fieldLink)) (fun _ h9 => h9) rfl d_Row_isSameAs_19 ?_
      refine lv_icmp_eq (tgt := 27) hx hb d_Row_isSameAs_22 (by decide) (fun h22 => ?_) (fun h22 => ?_)
      · have hd := hd.1 h22
        refine lv_iconst (v := 0) hx hb d_Row_isSameAs_27 (by decide) ?_
        refine lv_istore_n (lv' := [(2, .int 0), (0, .ref ro), (1, .ref ra)]) hx hb d_Row_isSameAs_28 rfl hl (by decide) rfl (fun ls hl => ?_)
        exact (key n) 0 _ (lv_sub hl [1, 2, 0] rfl) hd
      · have hd := hd.2 h22
        refine lv_iconst (v := 0) hx hb d_Row_isSameAs_25 (by decide) ?_
        have e0 : res = false := hd
        subst e0
        exact ct_zretR (b := false) hx hb hr hlocks d_Row_isSameAs_26
