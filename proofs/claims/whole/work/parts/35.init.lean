/-! constructors -/
theorem k736_methodLink : Cond.methodLink "HelpFile$Row" 1 ⟨"java/lang/Object", "<init>", "()V"⟩ ∈ ga := ga_t 37 (by decide +kernel) rfl
theorem k737_instanceMethod : Cond.instanceMethod ⟨"java/lang/Object", "<init>", "()V"⟩ ∈ ga := ga_t 30 (by decide +kernel) rfl
set_option maxRecDepth 100000 in
theorem k738_code : (Jvm.Cond.code ({ cls := "java/lang/Object", name := "<init>", desc := "()V" } : Jvm.MethodName) object_method_1_code (1 : Nat) (Option.none : Option Jvm.ClassFile.FieldType)) ∈ ga := ga_t 31 rfl rfl
theorem k739_arrayClass : Cond.arrayClass .int ∈ ga := ga_t 48 (by decide +kernel) rfl
set_option maxRecDepth 100000 in
theorem dv_Row : ∀ j, j < 3 → defaultValue (t_Row j) = vp_V [.null, .int 0, .int 0] j := by
  intro j hj
  rcases (show j = 0 ∨ j = 1 ∨ j = 2 by omega) with rfl | rfl | rfl <;> rfl
abbrev b_Row_init : ByteArray := prog_8_method_1_code
def y_Row_init : MethodName := ⟨"HelpFile$Row", "<init>", "(I)V"⟩
set_option maxRecDepth 100000 in
theorem fm_Row_init : Fm y_Row_init b_Row_init 2 none 1 := ⟨ga_t 36 rfl rfl, k1_initialized, by decide, by decide, by decide +kernel⟩
theorem d_Row_init_0 : decode b_Row_init 0 = .ok (.aload_n 0, 1) := by decide +kernel
theorem d_Row_init_1 : decode b_Row_init 1 = .ok (.invokespecial 1, 3) := by decide +kernel
theorem d_Row_init_4 : decode b_Row_init 4 = .ok (.aload_n 0, 1) := by decide +kernel
theorem d_Row_init_5 : decode b_Row_init 5 = .ok (.iload_n 1, 1) := by decide +kernel
theorem d_Row_init_6 : decode b_Row_init 6 = .ok (.newarray .int, 2) := by decide +kernel
theorem d_Row_init_8 : decode b_Row_init 8 = .ok (.putfield 7, 3) := by decide +kernel
theorem d_Row_init_11 : decode b_Row_init 11 = .ok (.aload_n 0, 1) := by decide +kernel
theorem d_Row_init_12 : decode b_Row_init 12 = .ok (.iconst 0, 1) := by decide +kernel
theorem d_Row_init_13 : decode b_Row_init 13 = .ok (.putfield 13, 3) := by decide +kernel
theorem d_Row_init_16 : decode b_Row_init 16 = .ok (.aload_n 0, 1) := by decide +kernel
theorem d_Row_init_17 : decode b_Row_init 17 = .ok (.iconst 0, 1) := by decide +kernel
theorem d_Row_init_18 : decode b_Row_init 18 = .ok (.putfield 17, 3) := by decide +kernel
theorem d_Row_init_21 : decode b_Row_init 21 = .ok (.return_, 1) := by decide +kernel
set_option maxHeartbeats 4000000 in
set_option maxRecDepth 100000 in
theorem n_Row_init (l : Launch) (dC : Nat → ClassId) (dI : Nat → Nat → Nat) (cI cL cZ : ClassId) (q0 : Nat) (k0 : Int32) (N0 : Nat) (hn0 : ¬ k0 < 0) (hN0 : k0.toNatClampNeg = N0) (hb0 : N0 * 8 ≤ 536870912) : CtN l y_Row_init (Cond.code y_Row_init b_Row_init 2 none :: ga) { frames := 1, cells := 1, slots := N0, locals := 20 } (dC, dI) classes (Tys cI cL cZ) [.ref q0, .int k0] [(q0, .inr (1, [.null, .int 0, .int 0]))] (fun w9 => ∃ q6 : Nat, w9 = (sh_Row cI cL cZ q0 q6 N0 (fun _ => 0) 0 false)) 1 (N0) := by
  refine CtN.ofW (by decide) (Nat.le_of_ble_eq_true rfl) ?_
  intro p e s m below meth c A ls hx hb hr hml hown hlocks hin hts hK hN hA hP hD hS hl
  have hown : s.vm.findClass R_Row = some m.cls := hown
  have hl : lv_has ls 2 [(0, .ref q0), (1, .int k0)] := hl
  have hb1 : N0 * 4 ≤ 536870912 := by omega
  refine lv_aload_n hx hb d_Row_init_0 rfl (lv_at hl 0 rfl) ?_
  refine W.objInit hx hb hown (hts _ (List.mem_cons_of_mem _ k736_methodLink)) (hts _ (List.mem_cons_of_mem _ k737_instanceMethod)) (hts _ (List.mem_cons_of_mem _ k738_code)) rfl (by rw [hml]; exact hl.1) rfl d_Row_init_1 (Nat.le_of_ble_eq_true rfl) (Nat.le_of_ble_eq_true rfl) ?_
  refine W.eq (g2 := F0 m 4 ls []) rfl ?_
  refine lv_aload_n hx hb d_Row_init_4 rfl (lv_at hl 0 rfl) ?_
  refine lv_iload_n hx hb d_Row_init_5 rfl (lv_at hl 1 rfl) ?_
  refine ct_newI (N := N0) (k := 0) hx hb hts k739_arrayClass rfl hK hP hD hS hA hn0 hN0 hb1 (Nat.le_of_ble_eq_true rfl) (by simp) d_Row_init_6 (fun q6 H hP hD hS => ?_)
  have hP : va_P (dC, dI) classes ([(q0, .inr (1, [.null, .int 0, .int 0]))] ++ ([(q6, .inl (cI, N0, .inl (fun _ => 0)))])) H := hP
  have hD : va_D A ([(q0, .inr (1, [.null, .int 0, .int 0]))] ++ ([(q6, .inl (cI, N0, .inl (fun _ => 0)))])) := hD
  refine va_putF (D := (dC, dI)) (ci := 1) (v := .ref q6) (ty := t_Row 0) (C := R_Row) (T := F_Row) (N := 3) hx hb hts in_Row t_Row t_Row_ok n_Row hown hK hP hD hS 0 rfl rfl 0 (by decide) (hts _ (List.mem_cons_of_mem _ k2_fieldLink)) (fun _ h9 => h9) rfl hin rfl (t_Row_ok 0 (by decide)) rfl rfl (Nat.le_of_ble_eq_true rfl) d_Row_init_8 (fun H locs hP hD hS => ?_)
  have hP : va_P (dC, dI) classes ([(q0, .inr (1, [.ref q6, .int 0, .int 0]))] ++ ([(q6, .inl (cI, N0, .inl (fun _ => 0)))])) H := hP
  have hD : va_D A ([(q0, .inr (1, [.ref q6, .int 0, .int 0]))] ++ ([(q6, .inl (cI, N0, .inl (fun _ => 0)))])) := hD
  refine lv_aload_n hx hb d_Row_init_11 rfl (lv_at hl 0 rfl) ?_
  refine lv_iconst (v := 0) hx hb d_Row_init_12 (by decide) ?_
  refine va_put (D := (dC, dI)) (ci := 1) (v := .int 0) (ty := t_Row 1) (C := R_Row) (T := F_Row) (N := 3) hx hb hts in_Row t_Row t_Row_ok n_Row hown hK hP hD hS 0 rfl rfl 1 (by decide) (hts _ (List.mem_cons_of_mem _ k0_fieldLink)) (fun _ h9 => h9) rfl (t_Row_ok 1 (by decide)) rfl rfl (Nat.le_of_ble_eq_true rfl) d_Row_init_13 (fun H locs hP hD hS => ?_)
  have hP : va_P (dC, dI) classes ([(q0, .inr (1, [.ref q6, .int 0, .int 0]))] ++ ([(q6, .inl (cI, N0, .inl (fun _ => 0)))])) H := hP
  have hD : va_D A ([(q0, .inr (1, [.ref q6, .int 0, .int 0]))] ++ ([(q6, .inl (cI, N0, .inl (fun _ => 0)))])) := hD
  refine lv_aload_n hx hb d_Row_init_16 rfl (lv_at hl 0 rfl) ?_
  refine lv_iconst (v := 0) hx hb d_Row_init_17 (by decide) ?_
  refine va_put (D := (dC, dI)) (ci := 1) (v := .int (bI false)) (ty := t_Row 2) (C := R_Row) (T := F_Row) (N := 3) hx hb hts in_Row t_Row t_Row_ok n_Row hown hK hP hD hS 0 rfl rfl 2 (by decide) (hts _ (List.mem_cons_of_mem _ k6_fieldLink)) (fun _ h9 => h9) rfl (t_Row_ok 2 (by decide)) (bI_nar _) (bI_fit _) (Nat.le_of_ble_eq_true rfl) d_Row_init_18 (fun H locs hP hD hS => ?_)
  have hP : va_P (dC, dI) classes ([(q0, .inr (1, [.ref q6, .int 0, .int (bI false)]))] ++ ([(q6, .inl (cI, N0, .inl (fun _ => 0)))])) H := hP
  have hD : va_D A ([(q0, .inr (1, [.ref q6, .int 0, .int (bI false)]))] ++ ([(q6, .inl (cI, N0, .inl (fun _ => 0)))])) := hD
  have hP : va_P (dC, dI) classes ((sh_Row cI cL cZ q0 q6 N0 (fun _ => 0) 0 false)) H := hP.sub [0, 1] rfl
  have hD : va_D A ((sh_Row cI cL cZ q0 q6 N0 (fun _ => 0) 0 false)) := hD.sub [0, 1] (by decide) rfl
  refine W.cs (cells' := 1) (slots' := N0) (by first | rfl | omega) (by first | rfl | omega) ?_
  exact ct_vretN ⟨_, rfl⟩ hx hb hr hlocks hK hP hD hS d_Row_init_21
theorem k740_methodLink : Cond.methodLink "HelpFile$WordList" 1 ⟨"java/lang/Object", "<init>", "()V"⟩ ∈ ga := ga_t 196 (by decide +kernel) rfl
theorem k741_arrayClass : Cond.arrayClass .long ∈ ga := ga_t 98 (by decide +kernel) rfl
set_option maxRecDepth 100000 in
theorem dv_WordList : ∀ j, j < 3 → defaultValue (t_WordList j) = vp_V [.null, .null, .int 0] j := by
  intro j hj
  rcases (show j = 0 ∨ j = 1 ∨ j = 2 by omega) with rfl | rfl | rfl <;> rfl
abbrev b_WordList_init : ByteArray := prog_12_method_1_code
def y_WordList_init : MethodName := ⟨"HelpFile$WordList", "<init>", "(I)V"⟩
set_option maxRecDepth 100000 in
theorem fm_WordList_init : Fm y_WordList_init b_WordList_init 2 none 1 := ⟨ga_t 195 rfl rfl, k28_initialized, by decide, by decide, by decide +kernel⟩
theorem d_WordList_init_0 : decode b_WordList_init 0 = .ok (.aload_n 0, 1) := by decide +kernel
theorem d_WordList_init_1 : decode b_WordList_init 1 = .ok (.invokespecial 1, 3) := by decide +kernel
theorem d_WordList_init_4 : decode b_WordList_init 4 = .ok (.aload_n 0, 1) := by decide +kernel
theorem d_WordList_init_5 : decode b_WordList_init 5 = .ok (.iload_n 1, 1) := by decide +kernel
theorem d_WordList_init_6 : decode b_WordList_init 6 = .ok (.newarray .long, 2) := by decide +kernel
theorem d_WordList_init_8 : decode b_WordList_init 8 = .ok (.putfield 7, 3) := by decide +kernel
theorem d_WordList_init_11 : decode b_WordList_init 11 = .ok (.aload_n 0, 1) := by decide +kernel
theorem d_WordList_init_12 : decode b_WordList_init 12 = .ok (.iload_n 1, 1) := by decide +kernel
theorem d_WordList_init_13 : decode b_WordList_init 13 = .ok (.newarray .int, 2) := by decide +kernel
theorem d_WordList_init_15 : decode b_WordList_init 15 = .ok (.putfield 13, 3) := by decide +kernel
theorem d_WordList_init_18 : decode b_WordList_init 18 = .ok (.aload_n 0, 1) := by decide +kernel
theorem d_WordList_init_19 : decode b_WordList_init 19 = .ok (.iconst 0, 1) := by decide +kernel
theorem d_WordList_init_20 : decode b_WordList_init 20 = .ok (.putfield 17, 3) := by decide +kernel
theorem d_WordList_init_23 : decode b_WordList_init 23 = .ok (.return_, 1) := by decide +kernel
set_option maxHeartbeats 4000000 in
set_option maxRecDepth 100000 in
theorem n_WordList_init (l : Launch) (dC : Nat → ClassId) (dI : Nat → Nat → Nat) (cI cL cZ : ClassId) (q0 : Nat) (k0 : Int32) (N0 : Nat) (hn0 : ¬ k0 < 0) (hN0 : k0.toNatClampNeg = N0) (hb0 : N0 * 8 ≤ 536870912) : CtN l y_WordList_init (Cond.code y_WordList_init b_WordList_init 2 none :: ga) { frames := 1, cells := 2, slots := N0 + N0, locals := 20 } (dC, dI) classes (Tys cI cL cZ) [.ref q0, .int k0] [(q0, .inr (2, [.null, .null, .int 0]))] (fun w9 => ∃ q6 : Nat, ∃ q13 : Nat, w9 = (sh_WordList cI cL cZ q0 q6 N0 (fun _ => 0) q13 (fun _ => 0) 0)) 2 (N0 + N0) := by
  refine CtN.ofW (by decide) (Nat.le_of_ble_eq_true rfl) ?_
  intro p e s m below meth c A ls hx hb hr hml hown hlocks hin hts hK hN hA hP hD hS hl
  have hown : s.vm.findClass R_WordList = some m.cls := hown
  have hl : lv_has ls 2 [(0, .ref q0), (1, .int k0)] := hl
  have hb1 : N0 * 4 ≤ 536870912 := by omega
  refine lv_aload_n hx hb d_WordList_init_0 rfl (lv_at hl 0 rfl) ?_
  refine W.objInit hx hb hown (hts _ (List.mem_cons_of_mem _ k740_methodLink)) (hts _ (List.mem_cons_of_mem _ k737_instanceMethod)) (hts _ (List.mem_cons_of_mem _ k738_code)) rfl (by rw [hml]; exact hl.1) rfl d_WordList_init_1 (Nat.le_of_ble_eq_true rfl) (Nat.le_of_ble_eq_true rfl) ?_
  refine W.eq (g2 := F0 m 4 ls []) rfl ?_
  refine lv_aload_n hx hb d_WordList_init_4 rfl (lv_at hl 0 rfl) ?_
  refine lv_iload_n hx hb d_WordList_init_5 rfl (lv_at hl 1 rfl) ?_
  refine ct_newL (N := N0) (k := 1) hx hb hts k741_arrayClass rfl hK hP hD hS hA hn0 hN0 hb0 (Nat.le_of_ble_eq_true rfl) (by simp) d_WordList_init_6 (fun q6 H hP hD hS => ?_)
  have hP : va_P (dC, dI) classes ([(q0, .inr (2, [.null, .null, .int 0]))] ++ ([(q6, .inl (cL, N0, .inr (.inl (fun _ => 0))))])) H := hP
  have hD : va_D A ([(q0, .inr (2, [.null, .null, .int 0]))] ++ ([(q6, .inl (cL, N0, .inr (.inl (fun _ => 0))))])) := hD
  refine va_putF (D := (dC, dI)) (ci := 2) (v := .ref q6) (ty := t_WordList 0) (C := R_WordList) (T := F_WordList) (N := 3) hx hb hts in_WordList t_WordList t_WordList_ok n_WordList hown hK hP hD hS 0 rfl rfl 0 (by decide) (hts _ (List.mem_cons_of_mem _ k29_fieldLink)) (fun _ h9 => h9) rfl hin rfl (t_WordList_ok 0 (by decide)) rfl rfl (Nat.le_of_ble_eq_true rfl) d_WordList_init_8 (fun H locs hP hD hS => ?_)
  have hP : va_P (dC, dI) classes ([(q0, .inr (2, [.ref q6, .null, .int 0]))] ++ ([(q6, .inl (cL, N0, .inr (.inl (fun _ => 0))))])) H := hP
  have hD : va_D A ([(q0, .inr (2, [.ref q6, .null, .int 0]))] ++ ([(q6, .inl (cL, N0, .inr (.inl (fun _ => 0))))])) := hD
  refine lv_aload_n hx hb d_WordList_init_11 rfl (lv_at hl 0 rfl) ?_
  refine lv_iload_n hx hb d_WordList_init_12 rfl (lv_at hl 1 rfl) ?_
  refine ct_newI (N := N0) (k := 0) hx hb hts k739_arrayClass rfl hK hP hD hS hA hn0 hN0 hb1 (Nat.le_of_ble_eq_true rfl) (by simp) d_WordList_init_13 (fun q13 H hP hD hS => ?_)
  have hP : va_P (dC, dI) classes ([(q0, .inr (2, [.ref q6, .null, .int 0]))] ++ ([(q6, .inl (cL, N0, .inr (.inl (fun _ => 0))))] ++ ([(q13, .inl (cI, N0, .inl (fun _ => 0)))]))) H := hP.sub [0, 1, 2] rfl
  have hD : va_D A ([(q0, .inr (2, [.ref q6, .null, .int 0]))] ++ ([(q6, .inl (cL, N0, .inr (.inl (fun _ => 0))))] ++ ([(q13, .inl (cI, N0, .inl (fun _ => 0)))]))) := hD.sub [0, 1, 2] (by decide) rfl
  refine va_putF (D := (dC, dI)) (ci := 2) (v := .ref q13) (ty := t_WordList 1) (C := R_WordList) (T := F_WordList) (N := 3) hx hb hts in_WordList t_WordList t_WordList_ok n_WordList hown hK hP hD hS 0 rfl rfl 1 (by decide) (hts _ (List.mem_cons_of_mem _ k30_fieldLink)) (fun _ h9 => h9) rfl hin rfl (t_WordList_ok 1 (by decide)) rfl rfl (Nat.le_of_ble_eq_true rfl) d_WordList_init_15 (fun H locs hP hD hS => ?_)
  have hP : va_P (dC, dI) classes ([(q0, .inr (2, [.ref q6, .ref q13, .int 0]))] ++ ([(q6, .inl (cL, N0, .inr (.inl (fun _ => 0))))] ++ ([(q13, .inl (cI, N0, .inl (fun _ => 0)))]))) H := hP
  have hD : va_D A ([(q0, .inr (2, [.ref q6, .ref q13, .int 0]))] ++ ([(q6, .inl (cL, N0, .inr (.inl (fun _ => 0))))] ++ ([(q13, .inl (cI, N0, .inl (fun _ => 0)))]))) := hD
  refine lv_aload_n hx hb d_WordList_init_18 rfl (lv_at hl 0 rfl) ?_
  refine lv_iconst (v := 0) hx hb d_WordList_init_19 (by decide) ?_
  refine va_put (D := (dC, dI)) (ci := 2) (v := .int 0) (ty := t_WordList 2) (C := R_WordList) (T := F_WordList) (N := 3) hx hb hts in_WordList t_WordList t_WordList_ok n_WordList hown hK hP hD hS 0 rfl rfl 2 (by decide) (hts _ (List.mem_cons_of_mem _ k27_fieldLink)) (fun _ h9 => h9) rfl (t_WordList_ok 2 (by decide)) rfl rfl (Nat.le_of_ble_eq_true rfl) d_WordList_init_20 (fun H locs hP hD hS => ?_)
  have hP : va_P (dC, dI) classes ([(q0, .inr (2, [.ref q6, .ref q13, .int 0]))] ++ ([(q6, .inl (cL, N0, .inr (.inl (fun _ => 0))))] ++ ([(q13, .inl (cI, N0, .inl (fun _ => 0)))]))) H := hP
  have hD : va_D A ([(q0, .inr (2, [.ref q6, .ref q13, .int 0]))] ++ ([(q6, .inl (cL, N0, .inr (.inl (fun _ => 0))))] ++ ([(q13, .inl (cI, N0, .inl (fun _ => 0)))]))) := hD
  have hP : va_P (dC, dI) classes ((sh_WordList cI cL cZ q0 q6 N0 (fun _ => 0) q13 (fun _ => 0) 0)) H := hP.sub [0, 1, 2] rfl
  have hD : va_D A ((sh_WordList cI cL cZ q0 q6 N0 (fun _ => 0) q13 (fun _ => 0) 0)) := hD.sub [0, 1, 2] (by decide) rfl
  refine W.cs (cells' := 2) (slots' := N0 + N0) (by first | rfl | omega) (by first | rfl | omega) ?_
  exact ct_vretN ⟨_, _, rfl⟩ hx hb hr hlocks hK hP hD hS d_WordList_init_23
theorem k742_methodLink : Cond.methodLink "HelpFile$Book" 3 ⟨"java/lang/Object", "<init>", "()V"⟩ ∈ ga := ga_t 188 (by decide +kernel) rfl
theorem k743_classLink : Cond.classLink "HelpFile$Book" 19 "HelpFile$Row" ∈ ga := ga_t 189 (by decide +kernel) rfl
theorem k744_instantiable : Cond.instantiable "HelpFile$Row" 3 ∈ ga := ga_t 33 (by decide +kernel) rfl
theorem k745_methodLink : Cond.methodLink "HelpFile$Book" 21 ⟨"HelpFile$Row", "<init>", "(I)V"⟩ ∈ ga := ga_t 190 (by decide +kernel) rfl
theorem k746_instanceMethod : Cond.instanceMethod ⟨"HelpFile$Row", "<init>", "(I)V"⟩ ∈ ga := ga_t 35 (by decide +kernel) rfl
theorem k747_classLink : Cond.classLink "HelpFile$Book" 28 "HelpFile$WordList" ∈ ga := ga_t 191 (by decide +kernel) rfl
theorem k748_instantiable : Cond.instantiable "HelpFile$WordList" 3 ∈ ga := ga_t 192 (by decide +kernel) rfl
theorem k749_methodLink : Cond.methodLink "HelpFile$Book" 30 ⟨"HelpFile$WordList", "<init>", "(I)V"⟩ ∈ ga := ga_t 193 (by decide +kernel) rfl
theorem k750_instanceMethod : Cond.instanceMethod ⟨"HelpFile$WordList", "<init>", "(I)V"⟩ ∈ ga := ga_t 194 (by decide +kernel) rfl
set_option maxRecDepth 100000 in
theorem dv_Book : ∀ j, j < 6 → defaultValue (t_Book j) = vp_V [.null, .null, .null, .null, .null, .int 0] j := by
  intro j hj
  rcases (show j = 0 ∨ j = 1 ∨ j = 2 ∨ j = 3 ∨ j = 4 ∨ j = 5 by omega) with rfl | rfl | rfl | rfl | rfl | rfl <;> rfl
abbrev b_Book_init : ByteArray := prog_2_method_1_code
def y_Book_init : MethodName := ⟨"HelpFile$Book", "<init>", "()V"⟩
set_option maxRecDepth 100000 in
theorem fm_Book_init : Fm y_Book_init b_Book_init 1 none 0 := ⟨ga_t 187 rfl rfl, k62_initialized, by decide, by decide, by decide +kernel⟩
theorem d_Book_init_0 : decode b_Book_init 0 = .ok (.aload_n 0, 1) := by decide +kernel
theorem d_Book_init_1 : decode b_Book_init 1 = .ok (.invokespecial 3, 3) := by decide +kernel
theorem d_Book_init_4 : decode b_Book_init 4 = .ok (.aload_n 0, 1) := by decide +kernel
theorem d_Book_init_5 : decode b_Book_init 5 = .ok (.bipush 10, 2) := by decide +kernel
theorem d_Book_init_7 : decode b_Book_init 7 = .ok (.newarray .long, 2) := by decide +kernel
theorem d_Book_init_9 : decode b_Book_init 9 = .ok (.putfield 9, 3) := by decide +kernel
theorem d_Book_init_12 : decode b_Book_init 12 = .ok (.aload_n 0, 1) := by decide +kernel
theorem d_Book_init_13 : decode b_Book_init 13 = .ok (.bipush 11, 2) := by decide +kernel
theorem d_Book_init_15 : decode b_Book_init 15 = .ok (.newarray .int, 2) := by decide +kernel
theorem d_Book_init_17 : decode b_Book_init 17 = .ok (.putfield 15, 3) := by decide +kernel
theorem d_Book_init_20 : decode b_Book_init 20 = .ok (.aload_n 0, 1) := by decide +kernel
theorem d_Book_init_21 : decode b_Book_init 21 = .ok (.new 19, 3) := by decide +kernel
theorem d_Book_init_24 : decode b_Book_init 24 = .ok (.dup, 1) := by decide +kernel
theorem d_Book_init_25 : decode b_Book_init 25 = .ok (.sipush 2550, 3) := by decide +kernel
theorem d_Book_init_28 : decode b_Book_init 28 = .ok (.invokespecial 21, 3) := by decide +kernel
theorem d_Book_init_31 : decode b_Book_init 31 = .ok (.putfield 24, 3) := by decide +kernel
theorem d_Book_init_34 : decode b_Book_init 34 = .ok (.aload_n 0, 1) := by decide +kernel
theorem d_Book_init_35 : decode b_Book_init 35 = .ok (.new 28, 3) := by decide +kernel
theorem d_Book_init_38 : decode b_Book_init 38 = .ok (.dup, 1) := by decide +kernel
theorem d_Book_init_39 : decode b_Book_init 39 = .ok (.sipush 252, 3) := by decide +kernel
theorem d_Book_init_42 : decode b_Book_init 42 = .ok (.invokespecial 30, 3) := by decide +kernel
theorem d_Book_init_45 : decode b_Book_init 45 = .ok (.putfield 31, 3) := by decide +kernel
theorem d_Book_init_48 : decode b_Book_init 48 = .ok (.aload_n 0, 1) := by decide +kernel
theorem d_Book_init_49 : decode b_Book_init 49 = .ok (.new 28, 3) := by decide +kernel
theorem d_Book_init_52 : decode b_Book_init 52 = .ok (.dup, 1) := by decide +kernel
theorem d_Book_init_53 : decode b_Book_init 53 = .ok (.sipush 1275, 3) := by decide +kernel
theorem d_Book_init_56 : decode b_Book_init 56 = .ok (.invokespecial 30, 3) := by decide +kernel
theorem d_Book_init_59 : decode b_Book_init 59 = .ok (.putfield 35, 3) := by decide +kernel
theorem d_Book_init_62 : decode b_Book_init 62 = .ok (.aload_n 0, 1) := by decide +kernel
theorem d_Book_init_63 : decode b_Book_init 63 = .ok (.iconst 0, 1) := by decide +kernel
theorem d_Book_init_64 : decode b_Book_init 64 = .ok (.putfield 38, 3) := by decide +kernel
theorem d_Book_init_67 : decode b_Book_init 67 = .ok (.return_, 1) := by decide +kernel
set_option maxHeartbeats 4000000 in
set_option maxRecDepth 100000 in
theorem n_Book_init (l : Launch) (dC : Nat → ClassId) (dI : Nat → Nat → Nat) (cI cL cZ : ClassId) (q0 : Nat)   : CtN l y_Book_init (Cond.code y_Book_init b_Book_init 1 none :: ga) { frames := 2, cells := 10, slots := 5634, locals := 41 } (dC, dI) classes (Tys cI cL cZ) [.ref q0] [(q0, .inr (3, [.null, .null, .null, .null, .null, .int 0]))] (fun w9 => ∃ q7 : Nat, ∃ q15 : Nat, ∃ q21 : Nat, ∃ q21_q6 : Nat, ∃ q35 : Nat, ∃ q35_q6 : Nat, ∃ q35_q13 : Nat, ∃ q49 : Nat, ∃ q49_q6 : Nat, ∃ q49_q13 : Nat, w9 = (sh_Book cI cL cZ q0 q7 (fun _ => 0) q15 (fun _ => 0) q21 q21_q6 2550 (fun _ => 0) 0 false q35 q35_q6 252 (fun _ => 0) q35_q13 (fun _ => 0) 0 q49 q49_q6 1275 (fun _ => 0) q49_q13 (fun _ => 0) 0 0)) 10 (5634) := by
  refine CtN.ofW (by decide) (Nat.le_of_ble_eq_true rfl) ?_
  intro p e s m below meth c A ls hx hb hr hml hown hlocks hin hts hK hN hA hP hD hS hl
  have hown : s.vm.findClass R_Book = some m.cls := hown
  have hl : lv_has ls 1 [(0, .ref q0)] := hl
  refine lv_aload_n hx hb d_Book_init_0 rfl (lv_at hl 0 rfl) ?_
  refine W.objInit hx hb hown (hts _ (List.mem_cons_of_mem _ k742_methodLink)) (hts _ (List.mem_cons_of_mem _ k737_instanceMethod)) (hts _ (List.mem_cons_of_mem _ k738_code)) rfl (by rw [hml]; exact hl.1) rfl d_Book_init_1 (Nat.le_of_ble_eq_true rfl) (Nat.le_of_ble_eq_true rfl) ?_
  refine W.eq (g2 := F0 m 4 ls []) rfl ?_
  refine lv_aload_n hx hb d_Book_init_4 rfl (lv_at hl 0 rfl) ?_
  refine lv_bipush (v := 10) hx hb d_Book_init_5 (by decide) ?_
  refine ct_newL (N := 10) (k := 1) hx hb hts k741_arrayClass rfl hK hP hD hS hA (by decide) (by decide) (Nat.le_of_ble_eq_true rfl) (Nat.le_of_ble_eq_true rfl) (Nat.le_of_ble_eq_true rfl) d_Book_init_7 (fun q7 H hP hD hS => ?_)
  have hP : va_P (dC, dI) classes ([(q0, .inr (3, [.null, .null, .null, .null, .null, .int 0]))] ++ ([(q7, .inl (cL, 10, .inr (.inl (fun _ => 0))))])) H := hP
  have hD : va_D A ([(q0, .inr (3, [.null, .null, .null, .null, .null, .int 0]))] ++ ([(q7, .inl (cL, 10, .inr (.inl (fun _ => 0))))])) := hD
  refine va_putF (D := (dC, dI)) (ci := 3) (v := .ref q7) (ty := t_Book 0) (C := R_Book) (T := F_Book) (N := 6) hx hb hts in_Book t_Book t_Book_ok n_Book hown hK hP hD hS 0 rfl rfl 0 (by decide) (hts _ (List.mem_cons_of_mem _ k64_fieldLink)) (fun _ h9 => h9) rfl hin rfl (t_Book_ok 0 (by decide)) rfl rfl (Nat.le_of_ble_eq_true rfl) d_Book_init_9 (fun H locs hP hD hS => ?_)
  have hP : va_P (dC, dI) classes ([(q0, .inr (3, [.ref q7, .null, .null, .null, .null, .int 0]))] ++ ([(q7, .inl (cL, 10, .inr (.inl (fun _ => 0))))])) H := hP
  have hD : va_D A ([(q0, .inr (3, [.ref q7, .null, .null, .null, .null, .int 0]))] ++ ([(q7, .inl (cL, 10, .inr (.inl (fun _ => 0))))])) := hD
  refine lv_aload_n hx hb d_Book_init_12 rfl (lv_at hl 0 rfl) ?_
  refine lv_bipush (v := 11) hx hb d_Book_init_13 (by decide) ?_
  refine ct_newI (N := 11) (k := 0) hx hb hts k739_arrayClass rfl hK hP hD hS hA (by decide) (by decide) (Nat.le_of_ble_eq_true rfl) (Nat.le_of_ble_eq_true rfl) (Nat.le_of_ble_eq_true rfl) d_Book_init_15 (fun q15 H hP hD hS => ?_)
  have hP : va_P (dC, dI) classes ([(q0, .inr (3, [.ref q7, .null, .null, .null, .null, .int 0]))] ++ ([(q7, .inl (cL, 10, .inr (.inl (fun _ => 0))))] ++ ([(q15, .inl (cI, 11, .inl (fun _ => 0)))]))) H := hP.sub [0, 1, 2] rfl
  have hD : va_D A ([(q0, .inr (3, [.ref q7, .null, .null, .null, .null, .int 0]))] ++ ([(q7, .inl (cL, 10, .inr (.inl (fun _ => 0))))] ++ ([(q15, .inl (cI, 11, .inl (fun _ => 0)))]))) := hD.sub [0, 1, 2] (by decide) rfl
  refine va_putF (D := (dC, dI)) (ci := 3) (v := .ref q15) (ty := t_Book 1) (C := R_Book) (T := F_Book) (N := 6) hx hb hts in_Book t_Book t_Book_ok n_Book hown hK hP hD hS 0 rfl rfl 1 (by decide) (hts _ (List.mem_cons_of_mem _ k65_fieldLink)) (fun _ h9 => h9) rfl hin rfl (t_Book_ok 1 (by decide)) rfl rfl (Nat.le_of_ble_eq_true rfl) d_Book_init_17 (fun H locs hP hD hS => ?_)
  have hP : va_P (dC, dI) classes ([(q0, .inr (3, [.ref q7, .ref q15, .null, .null, .null, .int 0]))] ++ ([(q7, .inl (cL, 10, .inr (.inl (fun _ => 0))))] ++ ([(q15, .inl (cI, 11, .inl (fun _ => 0)))]))) H := hP
  have hD : va_D A ([(q0, .inr (3, [.ref q7, .ref q15, .null, .null, .null, .int 0]))] ++ ([(q7, .inl (cL, 10, .inr (.inl (fun _ => 0))))] ++ ([(q15, .inl (cI, 11, .inl (fun _ => 0)))]))) := hD
  refine lv_aload_n hx hb d_Book_init_20 rfl (lv_at hl 0 rfl) ?_
  refine va_new (D := (dC, dI)) (ci := 1) (fs := [.null, .int 0, .int 0]) (C := R_Row) (T := F_Row) (N := 3) hx hb hts in_Row t_Row t_Row_ok hown (hts _ (List.mem_cons_of_mem _ k743_classLink)) (hts _ (List.mem_cons_of_mem _ k744_instantiable)) (hts _ (List.mem_cons_of_mem _ k1_initialized)) hK hP hD hS hA rfl (dv_Row) (Nat.le_of_ble_eq_true rfl) (Nat.le_of_ble_eq_true rfl) d_Book_init_21 (fun q21 H hP hD hS => ?_)
  have hP : va_P (dC, dI) classes ([(q0, .inr (3, [.ref q7, .ref q15, .null, .null, .null, .int 0]))] ++ ([(q7, .inl (cL, 10, .inr (.inl (fun _ => 0))))] ++ ([(q15, .inl (cI, 11, .inl (fun _ => 0)))] ++ ([(q21, .inr (1, [.null, .int 0, .int 0]))])))) H := hP.sub [0, 1, 2, 3] rfl
  have hD : va_D A ([(q0, .inr (3, [.ref q7, .ref q15, .null, .null, .null, .int 0]))] ++ ([(q7, .inl (cL, 10, .inr (.inl (fun _ => 0))))] ++ ([(q15, .inl (cI, 11, .inl (fun _ => 0)))] ++ ([(q21, .inr (1, [.null, .int 0, .int 0]))])))) := hD.sub [0, 1, 2, 3] (by decide) rfl
  refine lv_dup hx hb d_Book_init_24 rfl ?_
  refine lv_sipush (v := 2550) hx hb d_Book_init_25 (by decide) ?_
  refine ct_I (As := [.int 2550]) (rest := [.ref q21, .ref q0]) (mc := 1) (ms := 2550) ⟨hx, hb, hml, hown, hts⟩ fm_Row_init rfl (n_Row_init l dC dI cI cL cZ q21 2550 2550 (by decide) (by decide) (Nat.le_of_ble_eq_true rfl)) k745_methodLink k746_instanceMethod ⟨Nat.le_of_ble_eq_true rfl, Nat.le_of_ble_eq_true rfl⟩ rfl rfl ⟨Nat.le_of_ble_eq_true rfl, Nat.le_of_ble_eq_true rfl⟩ hK hN hP hD hS hA [3] [0, 1, 2] rfl rfl rfl (by decide) (by decide) (by decide) rfl hl.1 rfl (Nat.le_of_ble_eq_true rfl) d_Book_init_28 (fun w9 H locs hw9 hP hD hS => ?_)
  obtain ⟨q21_q6, rfl⟩ := hw9
  have hP : va_P (dC, dI) classes ([(q0, .inr (3, [.ref q7, .ref q15, .null, .null, .null, .int 0]))] ++ ([(q7, .inl (cL, 10, .inr (.inl (fun _ => 0))))] ++ ([(q15, .inl (cI, 11, .inl (fun _ => 0)))] ++ ((sh_Row cI cL cZ q21 q21_q6 2550 (fun _ => 0) 0 false))))) H := hP.sub [0, 1, 2, 3, 4] rfl
  have hD : va_D A ([(q0, .inr (3, [.ref q7, .ref q15, .null, .null, .null, .int 0]))] ++ ([(q7, .inl (cL, 10, .inr (.inl (fun _ => 0))))] ++ ([(q15, .inl (cI, 11, .inl (fun _ => 0)))] ++ ((sh_Row cI cL cZ q21 q21_q6 2550 (fun _ => 0) 0 false))))) := hD.sub [0, 1, 2, 3, 4] (by decide) rfl
  refine va_putF (D := (dC, dI)) (ci := 3) (v := .ref q21) (ty := t_Book 2) (C := R_Book) (T := F_Book) (N := 6) hx hb hts in_Book t_Book t_Book_ok n_Book hown hK hP hD hS 0 rfl rfl 2 (by decide) (hts _ (List.mem_cons_of_mem _ k56_fieldLink)) (fun _ h9 => h9) rfl hin rfl (t_Book_ok 2 (by decide)) rfl rfl (Nat.le_of_ble_eq_true rfl) d_Book_init_31 (fun H locs hP hD hS => ?_)
  have hP : va_P (dC, dI) classes ([(q0, .inr (3, [.ref q7, .ref q15, .ref q21, .null, .null, .int 0]))] ++ ([(q7, .inl (cL, 10, .inr (.inl (fun _ => 0))))] ++ ([(q15, .inl (cI, 11, .inl (fun _ => 0)))] ++ ((sh_Row cI cL cZ q21 q21_q6 2550 (fun _ => 0) 0 false))))) H := hP
  have hD : va_D A ([(q0, .inr (3, [.ref q7, .ref q15, .ref q21, .null, .null, .int 0]))] ++ ([(q7, .inl (cL, 10, .inr (.inl (fun _ => 0))))] ++ ([(q15, .inl (cI, 11, .inl (fun _ => 0)))] ++ ((sh_Row cI cL cZ q21 q21_q6 2550 (fun _ => 0) 0 false))))) := hD
  refine lv_aload_n hx hb d_Book_init_34 rfl (lv_at hl 0 rfl) ?_
  refine va_new (D := (dC, dI)) (ci := 2) (fs := [.null, .null, .int 0]) (C := R_WordList) (T := F_WordList) (N := 3) hx hb hts in_WordList t_WordList t_WordList_ok hown (hts _ (List.mem_cons_of_mem _ k747_classLink)) (hts _ (List.mem_cons_of_mem _ k748_instantiable)) (hts _ (List.mem_cons_of_mem _ k28_initialized)) hK hP hD hS hA rfl (dv_WordList) (Nat.le_of_ble_eq_true rfl) (Nat.le_of_ble_eq_true rfl) d_Book_init_35 (fun q35 H hP hD hS => ?_)
  have hP : va_P (dC, dI) classes ([(q0, .inr (3, [.ref q7, .ref q15, .ref q21, .null, .null, .int 0]))] ++ ([(q7, .inl (cL, 10, .inr (.inl (fun _ => 0))))] ++ ([(q15, .inl (cI, 11, .inl (fun _ => 0)))] ++ ((sh_Row cI cL cZ q21 q21_q6 2550 (fun _ => 0) 0 false) ++ ([(q35, .inr (2, [.null, .null, .int 0]))]))))) H := hP.sub [0, 1, 2, 3, 4, 5] rfl
  have hD : va_D A ([(q0, .inr (3, [.ref q7, .ref q15, .ref q21, .null, .null, .int 0]))] ++ ([(q7, .inl (cL, 10, .inr (.inl (fun _ => 0))))] ++ ([(q15, .inl (cI, 11, .inl (fun _ => 0)))] ++ ((sh_Row cI cL cZ q21 q21_q6 2550 (fun _ => 0) 0 false) ++ ([(q35, .inr (2, [.null, .null, .int 0]))]))))) := hD.sub [0, 1, 2, 3, 4, 5] (by decide) rfl
  refine lv_dup hx hb d_Book_init_38 rfl ?_
  refine lv_sipush (v := 252) hx hb d_Book_init_39 (by decide) ?_
  refine ct_I (As := [.int 252]) (rest := [.ref q35, .ref q0]) (mc := 2) (ms := 504) ⟨hx, hb, hml, hown, hts⟩ fm_WordList_init rfl (n_WordList_init l dC dI cI cL cZ q35 252 252 (by decide) (by decide) (Nat.le_of_ble_eq_true rfl)) k749_methodLink k750_instanceMethod ⟨Nat.le_of_ble_eq_true rfl, Nat.le_of_ble_eq_true rfl⟩ rfl rfl ⟨Nat.le_of_ble_eq_true rfl, Nat.le_of_ble_eq_true rfl⟩ hK hN hP hD hS hA [5] [0, 1, 2, 3, 4] rfl rfl rfl (by decide) (by decide) (by decide) rfl hl.1 rfl (Nat.le_of_ble_eq_true rfl) d_Book_init_42 (fun w9 H locs hw9 hP hD hS => ?_)
  obtain ⟨q35_q6, q35_q13, rfl⟩ := hw9
  have hP : va_P (dC, dI) classes ([(q0, .inr (3, [.ref q7, .ref q15, .ref q21, .null, .null, .int 0]))] ++ ([(q7, .inl (cL, 10, .inr (.inl (fun _ => 0))))] ++ ([(q15, .inl (cI, 11, .inl (fun _ => 0)))] ++ ((sh_Row cI cL cZ q21 q21_q6 2550 (fun _ => 0) 0 false) ++ ((sh_WordList cI cL cZ q35 q35_q6 252 (fun _ => 0) q35_q13 (fun _ => 0) 0)))))) H := hP.sub [0, 1, 2, 3, 4, 5, 6, 7] rfl
  have hD : va_D A ([(q0, .inr (3, [.ref q7, .ref q15, .ref q21, .null, .null, .int 0]))] ++ ([(q7, .inl (cL, 10, .inr (.inl (fun _ => 0))))] ++ ([(q15, .inl (cI, 11, .inl (fun _ => 0)))] ++ ((sh_Row cI cL cZ q21 q21_q6 2550 (fun _ => 0) 0 false) ++ ((sh_WordList cI cL cZ q35 q35_q6 252 (fun _ => 0) q35_q13 (fun _ => 0) 0)))))) := hD.sub [0, 1, 2, 3, 4, 5, 6, 7] (by decide) rfl
  refine va_putF (D := (dC, dI)) (ci := 3) (v := .ref q35) (ty := t_Book 3) (C := R_Book) (T := F_Book) (N := 6) hx hb hts in_Book t_Book t_Book_ok n_Book hown hK hP hD hS 0 rfl rfl 3 (by decide) (hts _ (List.mem_cons_of_mem _ k58_fieldLink)) (fun _ h9 => h9) rfl hin rfl (t_Book_ok 3 (by decide)) rfl rfl (Nat.le_of_ble_eq_true rfl) d_Book_init_45 (fun H locs hP hD hS => ?_)
  have hP : va_P (dC, dI) classes ([(q0, .inr (3, [.ref q7, .ref q15, .ref q21, .ref q35, .null, .int 0]))] ++ ([(q7, .inl (cL, 10, .inr (.inl (fun _ => 0))))] ++ ([(q15, .inl (cI, 11, .inl (fun _ => 0)))] ++ ((sh_Row cI cL cZ q21 q21_q6 2550 (fun _ => 0) 0 false) ++ ((sh_WordList cI cL cZ q35 q35_q6 252 (fun _ => 0) q35_q13 (fun _ => 0) 0)))))) H := hP
  have hD : va_D A ([(q0, .inr (3, [.ref q7, .ref q15, .ref q21, .ref q35, .null, .int 0]))] ++ ([(q7, .inl (cL, 10, .inr (.inl (fun _ => 0))))] ++ ([(q15, .inl (cI, 11, .inl (fun _ => 0)))] ++ ((sh_Row cI cL cZ q21 q21_q6 2550 (fun _ => 0) 0 false) ++ ((sh_WordList cI cL cZ q35 q35_q6 252 (fun _ => 0) q35_q13 (fun _ => 0) 0)))))) := hD
  refine lv_aload_n hx hb d_Book_init_48 rfl (lv_at hl 0 rfl) ?_
  refine va_new (D := (dC, dI)) (ci := 2) (fs := [.null, .null, .int 0]) (C := R_WordList) (T := F_WordList) (N := 3) hx hb hts in_WordList t_WordList t_WordList_ok hown (hts _ (List.mem_cons_of_mem _ k747_classLink)) (hts _ (List.mem_cons_of_mem _ k748_instantiable)) (hts _ (List.mem_cons_of_mem _ k28_initialized)) hK hP hD hS hA rfl (dv_WordList) (Nat.le_of_ble_eq_true rfl) (Nat.le_of_ble_eq_true rfl) d_Book_init_49 (fun q49 H hP hD hS => ?_)
  have hP : va_P (dC, dI) classes ([(q0, .inr (3, [.ref q7, .ref q15, .ref q21, .ref q35, .null, .int 0]))] ++ ([(q7, .inl (cL, 10, .inr (.inl (fun _ => 0))))] ++ ([(q15, .inl (cI, 11, .inl (fun _ => 0)))] ++ ((sh_Row cI cL cZ q21 q21_q6 2550 (fun _ => 0) 0 false) ++ ((sh_WordList cI cL cZ q35 q35_q6 252 (fun _ => 0) q35_q13 (fun _ => 0) 0) ++ ([(q49, .inr (2, [.null, .null, .int 0]))])))))) H := hP.sub [0, 1, 2, 3, 4, 5, 6, 7, 8] rfl
  have hD : va_D A ([(q0, .inr (3, [.ref q7, .ref q15, .ref q21, .ref q35, .null, .int 0]))] ++ ([(q7, .inl (cL, 10, .inr (.inl (fun _ => 0))))] ++ ([(q15, .inl (cI, 11, .inl (fun _ => 0)))] ++ ((sh_Row cI cL cZ q21 q21_q6 2550 (fun _ => 0) 0 false) ++ ((sh_WordList cI cL cZ q35 q35_q6 252 (fun _ => 0) q35_q13 (fun _ => 0) 0) ++ ([(q49, .inr (2, [.null, .null, .int 0]))])))))) := hD.sub [0, 1, 2, 3, 4, 5, 6, 7, 8] (by decide) rfl
  refine lv_dup hx hb d_Book_init_52 rfl ?_
  refine lv_sipush (v := 1275) hx hb d_Book_init_53 (by decide) ?_
  refine ct_I (As := [.int 1275]) (rest := [.ref q49, .ref q0]) (mc := 2) (ms := 2550) ⟨hx, hb, hml, hown, hts⟩ fm_WordList_init rfl (n_WordList_init l dC dI cI cL cZ q49 1275 1275 (by decide) (by decide) (Nat.le_of_ble_eq_true rfl)) k749_methodLink k750_instanceMethod ⟨Nat.le_of_ble_eq_true rfl, Nat.le_of_ble_eq_true rfl⟩ rfl rfl ⟨Nat.le_of_ble_eq_true rfl, Nat.le_of_ble_eq_true rfl⟩ hK hN hP hD hS hA [8] [0, 1, 2, 3, 4, 5, 6, 7] rfl rfl rfl (by decide) (by decide) (by decide) rfl hl.1 rfl (Nat.le_of_ble_eq_true rfl) d_Book_init_56 (fun w9 H locs hw9 hP hD hS => ?_)
  obtain ⟨q49_q6, q49_q13, rfl⟩ := hw9
  have hP : va_P (dC, dI) classes ([(q0, .inr (3, [.ref q7, .ref q15, .ref q21, .ref q35, .null, .int 0]))] ++ ([(q7, .inl (cL, 10, .inr (.inl (fun _ => 0))))] ++ ([(q15, .inl (cI, 11, .inl (fun _ => 0)))] ++ ((sh_Row cI cL cZ q21 q21_q6 2550 (fun _ => 0) 0 false) ++ ((sh_WordList cI cL cZ q35 q35_q6 252 (fun _ => 0) q35_q13 (fun _ => 0) 0) ++ ((sh_WordList cI cL cZ q49 q49_q6 1275 (fun _ => 0) q49_q13 (fun _ => 0) 0))))))) H := hP.sub [0, 1, 2, 3, 4, 5, 6, 7, 8, 9, 10] rfl
  have hD : va_D A ([(q0, .inr (3, [.ref q7, .ref q15, .ref q21, .ref q35, .null, .int 0]))] ++ ([(q7, .inl (cL, 10, .inr (.inl (fun _ => 0))))] ++ ([(q15, .inl (cI, 11, .inl (fun _ => 0)))] ++ ((sh_Row cI cL cZ q21 q21_q6 2550 (fun _ => 0) 0 false) ++ ((sh_WordList cI cL cZ q35 q35_q6 252 (fun _ => 0) q35_q13 (fun _ => 0) 0) ++ ((sh_WordList cI cL cZ q49 q49_q6 1275 (fun _ => 0) q49_q13 (fun _ => 0) 0))))))) := hD.sub [0, 1, 2, 3, 4, 5, 6, 7, 8, 9, 10] (by decide) rfl
  refine va_putF (D := (dC, dI)) (ci := 3) (v := .ref q49) (ty := t_Book 4) (C := R_Book) (T := F_Book) (N := 6) hx hb hts in_Book t_Book t_Book_ok n_Book hown hK hP hD hS 0 rfl rfl 4 (by decide) (hts _ (List.mem_cons_of_mem _ k63_fieldLink)) (fun _ h9 => h9) rfl hin rfl (t_Book_ok 4 (by decide)) rfl rfl (Nat.le_of_ble_eq_true rfl) d_Book_init_59 (fun H locs hP hD hS => ?_)
  have hP : va_P (dC, dI) classes ([(q0, .inr (3, [.ref q7, .ref q15, .ref q21, .ref q35, .ref q49, .int 0]))] ++ ([(q7, .inl (cL, 10, .inr (.inl (fun _ => 0))))] ++ ([(q15, .inl (cI, 11, .inl (fun _ => 0)))] ++ ((sh_Row cI cL cZ q21 q21_q6 2550 (fun _ => 0) 0 false) ++ ((sh_WordList cI cL cZ q35 q35_q6 252 (fun _ => 0) q35_q13 (fun _ => 0) 0) ++ ((sh_WordList cI cL cZ q49 q49_q6 1275 (fun _ => 0) q49_q13 (fun _ => 0) 0))))))) H := hP
  have hD : va_D A ([(q0, .inr (3, [.ref q7, .ref q15, .ref q21, .ref q35, .ref q49, .int 0]))] ++ ([(q7, .inl (cL, 10, .inr (.inl (fun _ => 0))))] ++ ([(q15, .inl (cI, 11, .inl (fun _ => 0)))] ++ ((sh_Row cI cL cZ q21 q21_q6 2550 (fun _ => 0) 0 false) ++ ((sh_WordList cI cL cZ q35 q35_q6 252 (fun _ => 0) q35_q13 (fun _ => 0) 0) ++ ((sh_WordList cI cL cZ q49 q49_q6 1275 (fun _ => 0) q49_q13 (fun _ => 0) 0))))))) := hD
  refine lv_aload_n hx hb d_Book_init_62 rfl (lv_at hl 0 rfl) ?_
  refine lv_iconst (v := 0) hx hb d_Book_init_63 (by decide) ?_
  refine va_put (D := (dC, dI)) (ci := 3) (v := .int 0) (ty := t_Book 5) (C := R_Book) (T := F_Book) (N := 6) hx hb hts in_Book t_Book t_Book_ok n_Book hown hK hP hD hS 0 rfl rfl 5 (by decide) (hts _ (List.mem_cons_of_mem _ k55_fieldLink)) (fun _ h9 => h9) rfl (t_Book_ok 5 (by decide)) rfl rfl (Nat.le_of_ble_eq_true rfl) d_Book_init_64 (fun H locs hP hD hS => ?_)
  have hP : va_P (dC, dI) classes ([(q0, .inr (3, [.ref q7, .ref q15, .ref q21, .ref q35, .ref q49, .int 0]))] ++ ([(q7, .inl (cL, 10, .inr (.inl (fun _ => 0))))] ++ ([(q15, .inl (cI, 11, .inl (fun _ => 0)))] ++ ((sh_Row cI cL cZ q21 q21_q6 2550 (fun _ => 0) 0 false) ++ ((sh_WordList cI cL cZ q35 q35_q6 252 (fun _ => 0) q35_q13 (fun _ => 0) 0) ++ ((sh_WordList cI cL cZ q49 q49_q6 1275 (fun _ => 0) q49_q13 (fun _ => 0) 0))))))) H := hP
  have hD : va_D A ([(q0, .inr (3, [.ref q7, .ref q15, .ref q21, .ref q35, .ref q49, .int 0]))] ++ ([(q7, .inl (cL, 10, .inr (.inl (fun _ => 0))))] ++ ([(q15, .inl (cI, 11, .inl (fun _ => 0)))] ++ ((sh_Row cI cL cZ q21 q21_q6 2550 (fun _ => 0) 0 false) ++ ((sh_WordList cI cL cZ q35 q35_q6 252 (fun _ => 0) q35_q13 (fun _ => 0) 0) ++ ((sh_WordList cI cL cZ q49 q49_q6 1275 (fun _ => 0) q49_q13 (fun _ => 0) 0))))))) := hD
  have hP : va_P (dC, dI) classes ((sh_Book cI cL cZ q0 q7 (fun _ => 0) q15 (fun _ => 0) q21 q21_q6 2550 (fun _ => 0) 0 false q35 q35_q6 252 (fun _ => 0) q35_q13 (fun _ => 0) 0 q49 q49_q6 1275 (fun _ => 0) q49_q13 (fun _ => 0) 0 0)) H := hP.sub [0, 1, 2, 3, 4, 5, 6, 7, 8, 9, 10] rfl
  have hD : va_D A ((sh_Book cI cL cZ q0 q7 (fun _ => 0) q15 (fun _ => 0) q21 q21_q6 2550 (fun _ => 0) 0 false q35 q35_q6 252 (fun _ => 0) q35_q13 (fun _ => 0) 0 q49 q49_q6 1275 (fun _ => 0) q49_q13 (fun _ => 0) 0 0)) := hD.sub [0, 1, 2, 3, 4, 5, 6, 7, 8, 9, 10] (by decide) rfl
  refine W.cs (cells' := 10) (slots' := 5634) (by first | rfl | omega) (by first | rfl | omega) ?_
  exact ct_vretN ⟨_, _, _, _, _, _, _, _, _, _, rfl⟩ hx hb hr hlocks hK hP hD hS d_Book_init_67
theorem k751_methodLink : Cond.methodLink "HelpFile$Compiler" 3 ⟨"java/lang/Object", "<init>", "()V"⟩ ∈ ga := ga_t 54 (by decide +kernel) rfl
set_option maxRecDepth 100000 in
theorem dv_Compiler : ∀ j, j < 14 → defaultValue (t_Compiler j) = vp_V [.null, .null, .null, .null, .int 0, .null, .null, .int 0, .int 0, .int 0, .int 0, .int 0, .int 0, .int 0] j := by
  intro j hj
  rcases (show j = 0 ∨ j = 1 ∨ j = 2 ∨ j = 3 ∨ j = 4 ∨ j = 5 ∨ j = 6 ∨ j = 7 ∨ j = 8 ∨ j = 9 ∨ j = 10 ∨ j = 11 ∨ j = 12 ∨ j = 13 by omega) with rfl | rfl | rfl | rfl | rfl | rfl | rfl | rfl | rfl | rfl | rfl | rfl | rfl | rfl <;> rfl
abbrev b_Compiler_init : ByteArray := prog_3_method_1_code
def y_Compiler_init : MethodName := ⟨"HelpFile$Compiler", "<init>", "()V"⟩
set_option maxRecDepth 100000 in
theorem fm_Compiler_init : Fm y_Compiler_init b_Compiler_init 1 none 0 := ⟨ga_t 53 rfl rfl, k108_initialized, by decide, by decide, by decide +kernel⟩
theorem d_Compiler_init_0 : decode b_Compiler_init 0 = .ok (.aload_n 0, 1) := by decide +kernel
theorem d_Compiler_init_1 : decode b_Compiler_init 1 = .ok (.invokespecial 3, 3) := by decide +kernel
theorem d_Compiler_init_4 : decode b_Compiler_init 4 = .ok (.aload_n 0, 1) := by decide +kernel
theorem d_Compiler_init_5 : decode b_Compiler_init 5 = .ok (.bipush 10, 2) := by decide +kernel
theorem d_Compiler_init_7 : decode b_Compiler_init 7 = .ok (.newarray .int, 2) := by decide +kernel
theorem d_Compiler_init_9 : decode b_Compiler_init 9 = .ok (.putfield 9, 3) := by decide +kernel
theorem d_Compiler_init_12 : decode b_Compiler_init 12 = .ok (.aload_n 0, 1) := by decide +kernel
theorem d_Compiler_init_13 : decode b_Compiler_init 13 = .ok (.sipush 234, 3) := by decide +kernel
theorem d_Compiler_init_16 : decode b_Compiler_init 16 = .ok (.newarray .long, 2) := by decide +kernel
theorem d_Compiler_init_18 : decode b_Compiler_init 18 = .ok (.putfield 15, 3) := by decide +kernel
theorem d_Compiler_init_21 : decode b_Compiler_init 21 = .ok (.aload_n 0, 1) := by decide +kernel
theorem d_Compiler_init_22 : decode b_Compiler_init 22 = .ok (.sipush 234, 3) := by decide +kernel
theorem d_Compiler_init_25 : decode b_Compiler_init 25 = .ok (.newarray .int, 2) := by decide +kernel
theorem d_Compiler_init_27 : decode b_Compiler_init 27 = .ok (.putfield 19, 3) := by decide +kernel
theorem d_Compiler_init_30 : decode b_Compiler_init 30 = .ok (.aload_n 0, 1) := by decide +kernel
theorem d_Compiler_init_31 : decode b_Compiler_init 31 = .ok (.sipush 234, 3) := by decide +kernel
theorem d_Compiler_init_34 : decode b_Compiler_init 34 = .ok (.newarray .int, 2) := by decide +kernel
theorem d_Compiler_init_36 : decode b_Compiler_init 36 = .ok (.putfield 22, 3) := by decide +kernel
theorem d_Compiler_init_39 : decode b_Compiler_init 39 = .ok (.aload_n 0, 1) := by decide +kernel
theorem d_Compiler_init_40 : decode b_Compiler_init 40 = .ok (.aconst_null, 1) := by decide +kernel
theorem d_Compiler_init_41 : decode b_Compiler_init 41 = .ok (.putfield 25, 3) := by decide +kernel
theorem d_Compiler_init_44 : decode b_Compiler_init 44 = .ok (.aload_n 0, 1) := by decide +kernel
theorem d_Compiler_init_45 : decode b_Compiler_init 45 = .ok (.aconst_null, 1) := by decide +kernel
theorem d_Compiler_init_46 : decode b_Compiler_init 46 = .ok (.putfield 29, 3) := by decide +kernel
theorem d_Compiler_init_49 : decode b_Compiler_init 49 = .ok (.aload_n 0, 1) := by decide +kernel
theorem d_Compiler_init_50 : decode b_Compiler_init 50 = .ok (.iconst (-1), 1) := by decide +kernel
theorem d_Compiler_init_51 : decode b_Compiler_init 51 = .ok (.putfield 33, 3) := by decide +kernel
theorem d_Compiler_init_54 : decode b_Compiler_init 54 = .ok (.return_, 1) := by decide +kernel
set_option maxHeartbeats 4000000 in
set_option maxRecDepth 100000 in
theorem n_Compiler_init (l : Launch) (dC : Nat → ClassId) (dI : Nat → Nat → Nat) (cI cL cZ : ClassId) (q0 : Nat)   : CtN l y_Compiler_init (Cond.code y_Compiler_init b_Compiler_init 1 none :: ga) { frames := 1, cells := 4, slots := 712, locals := 20 } (dC, dI) classes (Tys cI cL cZ) [.ref q0] [(q0, .inr (4, [.null, .null, .null, .null, .int 0, .null, .null, .int 0, .int 0, .int 0, .int 0, .int 0, .int 0, .int 0]))] (fun w9 => ∃ q7 : Nat, ∃ q16 : Nat, ∃ q25 : Nat, ∃ q34 : Nat, w9 = (sh_Compiler cI cL cZ q0 q7 (fun _ => 0) q16 (fun _ => 0) q25 (fun _ => 0) q34 (fun _ => 0) 0 .null .null 0 (-1) 0 0 false false false)) 4 (712) := by
  refine CtN.ofW (by decide) (Nat.le_of_ble_eq_true rfl) ?_
  intro p e s m below meth c A ls hx hb hr hml hown hlocks hin hts hK hN hA hP hD hS hl
  have hown : s.vm.findClass R_Compiler = some m.cls := hown
  have hl : lv_has ls 1 [(0, .ref q0)] := hl
  refine lv_aload_n hx hb d_Compiler_init_0 rfl (lv_at hl 0 rfl) ?_
  refine W.objInit hx hb hown (hts _ (List.mem_cons_of_mem _ k751_methodLink)) (hts _ (List.mem_cons_of_mem _ k737_instanceMethod)) (hts _ (List.mem_cons_of_mem _ k738_code)) rfl (by rw [hml]; exact hl.1) rfl d_Compiler_init_1 (Nat.le_of_ble_eq_true rfl) (Nat.le_of_ble_eq_true rfl) ?_
  refine W.eq (g2 := F0 m 4 ls []) rfl ?_
  refine lv_aload_n hx hb d_Compiler_init_4 rfl (lv_at hl 0 rfl) ?_
  refine lv_bipush (v := 10) hx hb d_Compiler_init_5 (by decide) ?_
  refine ct_newI (N := 10) (k := 0) hx hb hts k739_arrayClass rfl hK hP hD hS hA (by decide) (by decide) (Nat.le_of_ble_eq_true rfl) (Nat.le_of_ble_eq_true rfl) (Nat.le_of_ble_eq_true rfl) d_Compiler_init_7 (fun q7 H hP hD hS => ?_)
  have hP : va_P (dC, dI) classes ([(q0, .inr (4, [.null, .null, .null, .null, .int 0, .null, .null, .int 0, .int 0, .int 0, .int 0, .int 0, .int 0, .int 0]))] ++ ([(q7, .inl (cI, 10, .inl (fun _ => 0)))])) H := hP
  have hD : va_D A ([(q0, .inr (4, [.null, .null, .null, .null, .int 0, .null, .null, .int 0, .int 0, .int 0, .int 0, .int 0, .int 0, .int 0]))] ++ ([(q7, .inl (cI, 10, .inl (fun _ => 0)))])) := hD
  refine va_putF (D := (dC, dI)) (ci := 4) (v := .ref q7) (ty := t_Compiler 0) (C := R_Compiler) (T := F_Compiler) (N := 14) hx hb hts in_Compiler t_Compiler t_Compiler_ok n_Compiler hown hK hP hD hS 0 rfl rfl 0 (by decide) (hts _ (List.mem_cons_of_mem _ k130_fieldLink)) (fun _ h9 => h9) rfl hin rfl (t_Compiler_ok 0 (by decide)) rfl rfl (Nat.le_of_ble_eq_true rfl) d_Compiler_init_9 (fun H locs hP hD hS => ?_)
  have hP : va_P (dC, dI) classes ([(q0, .inr (4, [.ref q7, .null, .null, .null, .int 0, .null, .null, .int 0, .int 0, .int 0, .int 0, .int 0, .int 0, .int 0]))] ++ ([(q7, .inl (cI, 10, .inl (fun _ => 0)))])) H := hP
  have hD : va_D A ([(q0, .inr (4, [.ref q7, .null, .null, .null, .int 0, .null, .null, .int 0, .int 0, .int 0, .int 0, .int 0, .int 0, .int 0]))] ++ ([(q7, .inl (cI, 10, .inl (fun _ => 0)))])) := hD
  refine lv_aload_n hx hb d_Compiler_init_12 rfl (lv_at hl 0 rfl) ?_
  refine lv_sipush (v := 234) hx hb d_Compiler_init_13 (by decide) ?_
  refine ct_newL (N := 234) (k := 1) hx hb hts k741_arrayClass rfl hK hP hD hS hA (by decide) (by decide) (Nat.le_of_ble_eq_true rfl) (Nat.le_of_ble_eq_true rfl) (Nat.le_of_ble_eq_true rfl) d_Compiler_init_16 (fun q16 H hP hD hS => ?_)
  have hP : va_P (dC, dI) classes ([(q0, .inr (4, [.ref q7, .null, .null, .null, .int 0, .null, .null, .int 0, .int 0, .int 0, .int 0, .int 0, .int 0, .int 0]))] ++ ([(q7, .inl (cI, 10, .inl (fun _ => 0)))] ++ ([(q16, .inl (cL, 234, .inr (.inl (fun _ => 0))))]))) H := hP.sub [0, 1, 2] rfl
  have hD : va_D A ([(q0, .inr (4, [.ref q7, .null, .null, .null, .int 0, .null, .null, .int 0, .int 0, .int 0, .int 0, .int 0, .int 0, .int 0]))] ++ ([(q7, .inl (cI, 10, .inl (fun _ => 0)))] ++ ([(q16, .inl (cL, 234, .inr (.inl (fun _ => 0))))]))) := hD.sub [0, 1, 2] (by decide) rfl
  refine va_putF (D := (dC, dI)) (ci := 4) (v := .ref q16) (ty := t_Compiler 1) (C := R_Compiler) (T := F_Compiler) (N := 14) hx hb hts in_Compiler t_Compiler t_Compiler_ok n_Compiler hown hK hP hD hS 0 rfl rfl 1 (by decide) (hts _ (List.mem_cons_of_mem _ k144_fieldLink)) (fun _ h9 => h9) rfl hin rfl (t_Compiler_ok 1 (by decide)) rfl rfl (Nat.le_of_ble_eq_true rfl) d_Compiler_init_18 (fun H locs hP hD hS => ?_)
  have hP : va_P (dC, dI) classes ([(q0, .inr (4, [.ref q7, .ref q16, .null, .null, .int 0, .null, .null, .int 0, .int 0, .int 0, .int 0, .int 0, .int 0, .int 0]))] ++ ([(q7, .inl (cI, 10, .inl (fun _ => 0)))] ++ ([(q16, .inl (cL, 234, .inr (.inl (fun _ => 0))))]))) H := hP
  have hD : va_D A ([(q0, .inr (4, [.ref q7, .ref q16, .null, .null, .int 0, .null, .null, .int 0, .int 0, .int 0, .int 0, .int 0, .int 0, .int 0]))] ++ ([(q7, .inl (cI, 10, .inl (fun _ => 0)))] ++ ([(q16, .inl (cL, 234, .inr (.inl (fun _ => 0))))]))) := hD
  refine lv_aload_n hx hb d_Compiler_init_21 rfl (lv_at hl 0 rfl) ?_
  refine lv_sipush (v := 234) hx hb d_Compiler_init_22 (by decide) ?_
  refine ct_newI (N := 234) (k := 0) hx hb hts k739_arrayClass rfl hK hP hD hS hA (by decide) (by decide) (Nat.le_of_ble_eq_true rfl) (Nat.le_of_ble_eq_true rfl) (Nat.le_of_ble_eq_true rfl) d_Compiler_init_25 (fun q25 H hP hD hS => ?_)
  have hP : va_P (dC, dI) classes ([(q0, .inr (4, [.ref q7, .ref q16, .null, .null, .int 0, .null, .null, .int 0, .int 0, .int 0, .int 0, .int 0, .int 0, .int 0]))] ++ ([(q7, .inl (cI, 10, .inl (fun _ => 0)))] ++ ([(q16, .inl (cL, 234, .inr (.inl (fun _ => 0))))] ++ ([(q25, .inl (cI, 234, .inl (fun _ => 0)))])))) H := hP.sub [0, 1, 2, 3] rfl
  have hD : va_D A ([(q0, .inr (4, [.ref q7, .ref q16, .null, .null, .int 0, .null, .null, .int 0, .int 0, .int 0, .int 0, .int 0, .int 0, .int 0]))] ++ ([(q7, .inl (cI, 10, .inl (fun _ => 0)))] ++ ([(q16, .inl (cL, 234, .inr (.inl (fun _ => 0))))] ++ ([(q25, .inl (cI, 234, .inl (fun _ => 0)))])))) := hD.sub [0, 1, 2, 3] (by decide) rfl
  refine va_putF (D := (dC, dI)) (ci := 4) (v := .ref q25) (ty := t_Compiler 2) (C := R_Compiler) (T := F_Compiler) (N := 14) hx hb hts in_Compiler t_Compiler t_Compiler_ok n_Compiler hown hK hP hD hS 0 rfl rfl 2 (by decide) (hts _ (List.mem_cons_of_mem _ k145_fieldLink)) (fun _ h9 => h9) rfl hin rfl (t_Compiler_ok 2 (by decide)) rfl rfl (Nat.le_of_ble_eq_true rfl) d_Compiler_init_27 (fun H locs hP hD hS => ?_)
  have hP : va_P (dC, dI) classes ([(q0, .inr (4, [.ref q7, .ref q16, .ref q25, .null, .int 0, .null, .null, .int 0, .int 0, .int 0, .int 0, .int 0, .int 0, .int 0]))] ++ ([(q7, .inl (cI, 10, .inl (fun _ => 0)))] ++ ([(q16, .inl (cL, 234, .inr (.inl (fun _ => 0))))] ++ ([(q25, .inl (cI, 234, .inl (fun _ => 0)))])))) H := hP
  have hD : va_D A ([(q0, .inr (4, [.ref q7, .ref q16, .ref q25, .null, .int 0, .null, .null, .int 0, .int 0, .int 0, .int 0, .int 0, .int 0, .int 0]))] ++ ([(q7, .inl (cI, 10, .inl (fun _ => 0)))] ++ ([(q16, .inl (cL, 234, .inr (.inl (fun _ => 0))))] ++ ([(q25, .inl (cI, 234, .inl (fun _ => 0)))])))) := hD
  refine lv_aload_n hx hb d_Compiler_init_30 rfl (lv_at hl 0 rfl) ?_
  refine lv_sipush (v := 234) hx hb d_Compiler_init_31 (by decide) ?_
  refine ct_newI (N := 234) (k := 0) hx hb hts k739_arrayClass rfl hK hP hD hS hA (by decide) (by decide) (Nat.le_of_ble_eq_true rfl) (Nat.le_of_ble_eq_true rfl) (Nat.le_of_ble_eq_true rfl) d_Compiler_init_34 (fun q34 H hP hD hS => ?_)
  have hP : va_P (dC, dI) classes ([(q0, .inr (4, [.ref q7, .ref q16, .ref q25, .null, .int 0, .null, .null, .int 0, .int 0, .int 0, .int 0, .int 0, .int 0, .int 0]))] ++ ([(q7, .inl (cI, 10, .inl (fun _ => 0)))] ++ ([(q16, .inl (cL, 234, .inr (.inl (fun _ => 0))))] ++ ([(q25, .inl (cI, 234, .inl (fun _ => 0)))] ++ ([(q34, .inl (cI, 234, .inl (fun _ => 0)))]))))) H := hP.sub [0, 1, 2, 3, 4] rfl
  have hD : va_D A ([(q0, .inr (4, [.ref q7, .ref q16, .ref q25, .null, .int 0, .null, .null, .int 0, .int 0, .int 0, .int 0, .int 0, .int 0, .int 0]))] ++ ([(q7, .inl (cI, 10, .inl (fun _ => 0)))] ++ ([(q16, .inl (cL, 234, .inr (.inl (fun _ => 0))))] ++ ([(q25, .inl (cI, 234, .inl (fun _ => 0)))] ++ ([(q34, .inl (cI, 234, .inl (fun _ => 0)))]))))) := hD.sub [0, 1, 2, 3, 4] (by decide) rfl
  refine va_putF (D := (dC, dI)) (ci := 4) (v := .ref q34) (ty := t_Compiler 3) (C := R_Compiler) (T := F_Compiler) (N := 14) hx hb hts in_Compiler t_Compiler t_Compiler_ok n_Compiler hown hK hP hD hS 0 rfl rfl 3 (by decide) (hts _ (List.mem_cons_of_mem _ k146_fieldLink)) (fun _ h9 => h9) rfl hin rfl (t_Compiler_ok 3 (by decide)) rfl rfl (Nat.le_of_ble_eq_true rfl) d_Compiler_init_36 (fun H locs hP hD hS => ?_)
  have hP : va_P (dC, dI) classes ([(q0, .inr (4, [.ref q7, .ref q16, .ref q25, .ref q34, .int 0, .null, .null, .int 0, .int 0, .int 0, .int 0, .int 0, .int 0, .int 0]))] ++ ([(q7, .inl (cI, 10, .inl (fun _ => 0)))] ++ ([(q16, .inl (cL, 234, .inr (.inl (fun _ => 0))))] ++ ([(q25, .inl (cI, 234, .inl (fun _ => 0)))] ++ ([(q34, .inl (cI, 234, .inl (fun _ => 0)))]))))) H := hP
  have hD : va_D A ([(q0, .inr (4, [.ref q7, .ref q16, .ref q25, .ref q34, .int 0, .null, .null, .int 0, .int 0, .int 0, .int 0, .int 0, .int 0, .int 0]))] ++ ([(q7, .inl (cI, 10, .inl (fun _ => 0)))] ++ ([(q16, .inl (cL, 234, .inr (.inl (fun _ => 0))))] ++ ([(q25, .inl (cI, 234, .inl (fun _ => 0)))] ++ ([(q34, .inl (cI, 234, .inl (fun _ => 0)))]))))) := hD
  refine lv_aload_n hx hb d_Compiler_init_39 rfl (lv_at hl 0 rfl) ?_
  refine lv_null hx hb d_Compiler_init_40 ?_
  refine va_put (D := (dC, dI)) (ci := 4) (v := .null) (ty := t_Compiler 5) (C := R_Compiler) (T := F_Compiler) (N := 14) hx hb hts in_Compiler t_Compiler t_Compiler_ok n_Compiler hown hK hP hD hS 0 rfl rfl 5 (by decide) (hts _ (List.mem_cons_of_mem _ k120_fieldLink)) (fun _ h9 => h9) rfl (t_Compiler_ok 5 (by decide)) rfl rfl (Nat.le_of_ble_eq_true rfl) d_Compiler_init_41 (fun H locs hP hD hS => ?_)
  have hP : va_P (dC, dI) classes ([(q0, .inr (4, [.ref q7, .ref q16, .ref q25, .ref q34, .int 0, .null, .null, .int 0, .int 0, .int 0, .int 0, .int 0, .int 0, .int 0]))] ++ ([(q7, .inl (cI, 10, .inl (fun _ => 0)))] ++ ([(q16, .inl (cL, 234, .inr (.inl (fun _ => 0))))] ++ ([(q25, .inl (cI, 234, .inl (fun _ => 0)))] ++ ([(q34, .inl (cI, 234, .inl (fun _ => 0)))]))))) H := hP
  have hD : va_D A ([(q0, .inr (4, [.ref q7, .ref q16, .ref q25, .ref q34, .int 0, .null, .null, .int 0, .int 0, .int 0, .int 0, .int 0, .int 0, .int 0]))] ++ ([(q7, .inl (cI, 10, .inl (fun _ => 0)))] ++ ([(q16, .inl (cL, 234, .inr (.inl (fun _ => 0))))] ++ ([(q25, .inl (cI, 234, .inl (fun _ => 0)))] ++ ([(q34, .inl (cI, 234, .inl (fun _ => 0)))]))))) := hD
  refine lv_aload_n hx hb d_Compiler_init_44 rfl (lv_at hl 0 rfl) ?_
  refine lv_null hx hb d_Compiler_init_45 ?_
  refine va_put (D := (dC, dI)) (ci := 4) (v := .null) (ty := t_Compiler 6) (C := R_Compiler) (T := F_Compiler) (N := 14) hx hb hts in_Compiler t_Compiler t_Compiler_ok n_Compiler hown hK hP hD hS 0 rfl rfl 6 (by decide) (hts _ (List.mem_cons_of_mem _ k110_fieldLink)) (fun _ h9 => h9) rfl (t_Compiler_ok 6 (by decide)) rfl rfl (Nat.le_of_ble_eq_true rfl) d_Compiler_init_46 (fun H locs hP hD hS => ?_)
  have hP : va_P (dC, dI) classes ([(q0, .inr (4, [.ref q7, .ref q16, .ref q25, .ref q34, .int 0, .null, .null, .int 0, .int 0, .int 0, .int 0, .int 0, .int 0, .int 0]))] ++ ([(q7, .inl (cI, 10, .inl (fun _ => 0)))] ++ ([(q16, .inl (cL, 234, .inr (.inl (fun _ => 0))))] ++ ([(q25, .inl (cI, 234, .inl (fun _ => 0)))] ++ ([(q34, .inl (cI, 234, .inl (fun _ => 0)))]))))) H := hP
  have hD : va_D A ([(q0, .inr (4, [.ref q7, .ref q16, .ref q25, .ref q34, .int 0, .null, .null, .int 0, .int 0, .int 0, .int 0, .int 0, .int 0, .int 0]))] ++ ([(q7, .inl (cI, 10, .inl (fun _ => 0)))] ++ ([(q16, .inl (cL, 234, .inr (.inl (fun _ => 0))))] ++ ([(q25, .inl (cI, 234, .inl (fun _ => 0)))] ++ ([(q34, .inl (cI, 234, .inl (fun _ => 0)))]))))) := hD
  refine lv_aload_n hx hb d_Compiler_init_49 rfl (lv_at hl 0 rfl) ?_
  refine lv_iconst (v := (-1)) hx hb d_Compiler_init_50 (by decide) ?_
  refine va_put (D := (dC, dI)) (ci := 4) (v := .int (-1)) (ty := t_Compiler 8) (C := R_Compiler) (T := F_Compiler) (N := 14) hx hb hts in_Compiler t_Compiler t_Compiler_ok n_Compiler hown hK hP hD hS 0 rfl rfl 8 (by decide) (hts _ (List.mem_cons_of_mem _ k107_fieldLink)) (fun _ h9 => h9) rfl (t_Compiler_ok 8 (by decide)) rfl rfl (Nat.le_of_ble_eq_true rfl) d_Compiler_init_51 (fun H locs hP hD hS => ?_)
  have hP : va_P (dC, dI) classes ([(q0, .inr (4, [.ref q7, .ref q16, .ref q25, .ref q34, .int 0, .null, .null, .int 0, .int (-1), .int 0, .int 0, .int 0, .int 0, .int 0]))] ++ ([(q7, .inl (cI, 10, .inl (fun _ => 0)))] ++ ([(q16, .inl (cL, 234, .inr (.inl (fun _ => 0))))] ++ ([(q25, .inl (cI, 234, .inl (fun _ => 0)))] ++ ([(q34, .inl (cI, 234, .inl (fun _ => 0)))]))))) H := hP
  have hD : va_D A ([(q0, .inr (4, [.ref q7, .ref q16, .ref q25, .ref q34, .int 0, .null, .null, .int 0, .int (-1), .int 0, .int 0, .int 0, .int 0, .int 0]))] ++ ([(q7, .inl (cI, 10, .inl (fun _ => 0)))] ++ ([(q16, .inl (cL, 234, .inr (.inl (fun _ => 0))))] ++ ([(q25, .inl (cI, 234, .inl (fun _ => 0)))] ++ ([(q34, .inl (cI, 234, .inl (fun _ => 0)))]))))) := hD
  have hP : va_P (dC, dI) classes ((sh_Compiler cI cL cZ q0 q7 (fun _ => 0) q16 (fun _ => 0) q25 (fun _ => 0) q34 (fun _ => 0) 0 .null .null 0 (-1) 0 0 false false false)) H := hP.sub [0, 1, 2, 3, 4] rfl
  have hD : va_D A ((sh_Compiler cI cL cZ q0 q7 (fun _ => 0) q16 (fun _ => 0) q25 (fun _ => 0) q34 (fun _ => 0) 0 .null .null 0 (-1) 0 0 false false false)) := hD.sub [0, 1, 2, 3, 4] (by decide) rfl
  refine W.cs (cells' := 4) (slots' := 712) (by first | rfl | omega) (by first | rfl | omega) ?_
  exact ct_vretN ⟨_, _, _, _, rfl⟩ hx hb hr hlocks hK hP hD hS d_Compiler_init_54
theorem k752_methodLink : Cond.methodLink "HelpFile$ImageReader" 3 ⟨"java/lang/Object", "<init>", "()V"⟩ ∈ ga := ga_t 104 (by decide +kernel) rfl
set_option maxRecDepth 100000 in
theorem dv_ImageReader : ∀ j, j < 3 → defaultValue (t_ImageReader j) = vp_V [.null, .null, .int 0] j := by
  intro j hj
  rcases (show j = 0 ∨ j = 1 ∨ j = 2 by omega) with rfl | rfl | rfl <;> rfl
abbrev b_ImageReader_init : ByteArray := prog_4_method_1_code
def y_ImageReader_init : MethodName := ⟨"HelpFile$ImageReader", "<init>", "()V"⟩
set_option maxRecDepth 100000 in
theorem fm_ImageReader_init : Fm y_ImageReader_init b_ImageReader_init 1 none 0 := ⟨ga_t 103 rfl rfl, k263_initialized, by decide, by decide, by decide +kernel⟩
theorem d_ImageReader_init_0 : decode b_ImageReader_init 0 = .ok (.aload_n 0, 1) := by decide +kernel
theorem d_ImageReader_init_1 : decode b_ImageReader_init 1 = .ok (.invokespecial 3, 3) := by decide +kernel
theorem d_ImageReader_init_4 : decode b_ImageReader_init 4 = .ok (.aload_n 0, 1) := by decide +kernel
theorem d_ImageReader_init_5 : decode b_ImageReader_init 5 = .ok (.aconst_null, 1) := by decide +kernel
theorem d_ImageReader_init_6 : decode b_ImageReader_init 6 = .ok (.putfield 9, 3) := by decide +kernel
theorem d_ImageReader_init_9 : decode b_ImageReader_init 9 = .ok (.aload_n 0, 1) := by decide +kernel
theorem d_ImageReader_init_10 : decode b_ImageReader_init 10 = .ok (.aconst_null, 1) := by decide +kernel
theorem d_ImageReader_init_11 : decode b_ImageReader_init 11 = .ok (.putfield 15, 3) := by decide +kernel
theorem d_ImageReader_init_14 : decode b_ImageReader_init 14 = .ok (.aload_n 0, 1) := by decide +kernel
theorem d_ImageReader_init_15 : decode b_ImageReader_init 15 = .ok (.iconst 0, 1) := by decide +kernel
theorem d_ImageReader_init_16 : decode b_ImageReader_init 16 = .ok (.putfield 19, 3) := by decide +kernel
theorem d_ImageReader_init_19 : decode b_ImageReader_init 19 = .ok (.return_, 1) := by decide +kernel
set_option maxHeartbeats 4000000 in
set_option maxRecDepth 100000 in
theorem n_ImageReader_init (l : Launch) (dC : Nat → ClassId) (dI : Nat → Nat → Nat) (cI cL cZ : ClassId) (q0 : Nat)   : CtN l y_ImageReader_init (Cond.code y_ImageReader_init b_ImageReader_init 1 none :: ga) { frames := 1, cells := 0, slots := 0, locals := 20 } (dC, dI) classes (Tys cI cL cZ) [.ref q0] [(q0, .inr (5, [.null, .null, .int 0]))] (fun w9 => w9 = (sh_ImageReader cI cL cZ q0 .null .null 0)) 0 (0) := by
  refine CtN.ofW (by decide) (Nat.le_of_ble_eq_true rfl) ?_
  intro p e s m below meth c A ls hx hb hr hml hown hlocks hin hts hK hN hA hP hD hS hl
  have hown : s.vm.findClass R_ImageReader = some m.cls := hown
  have hl : lv_has ls 1 [(0, .ref q0)] := hl
  refine lv_aload_n hx hb d_ImageReader_init_0 rfl (lv_at hl 0 rfl) ?_
  refine W.objInit hx hb hown (hts _ (List.mem_cons_of_mem _ k752_methodLink)) (hts _ (List.mem_cons_of_mem _ k737_instanceMethod)) (hts _ (List.mem_cons_of_mem _ k738_code)) rfl (by rw [hml]; exact hl.1) rfl d_ImageReader_init_1 (Nat.le_of_ble_eq_true rfl) (Nat.le_of_ble_eq_true rfl) ?_
  refine W.eq (g2 := F0 m 4 ls []) rfl ?_
  refine lv_aload_n hx hb d_ImageReader_init_4 rfl (lv_at hl 0 rfl) ?_
  refine lv_null hx hb d_ImageReader_init_5 ?_
  refine va_put (D := (dC, dI)) (ci := 5) (v := .null) (ty := t_ImageReader 0) (C := R_ImageReader) (T := F_ImageReader) (N := 3) hx hb hts in_ImageReader t_ImageReader t_ImageReader_ok n_ImageReader hown hK hP hD hS 0 rfl rfl 0 (by decide) (hts _ (List.mem_cons_of_mem _ k260_fieldLink)) (fun _ h9 => h9) rfl (t_ImageReader_ok 0 (by decide)) rfl rfl (Nat.le_of_ble_eq_true rfl) d_ImageReader_init_6 (fun H locs hP hD hS => ?_)
  have hP : va_P (dC, dI) classes ([(q0, .inr (5, [.null, .null, .int 0]))]) H := hP
  have hD : va_D A ([(q0, .inr (5, [.null, .null, .int 0]))]) := hD
  refine lv_aload_n hx hb d_ImageReader_init_9 rfl (lv_at hl 0 rfl) ?_
  refine lv_null hx hb d_ImageReader_init_10 ?_
  refine va_put (D := (dC, dI)) (ci := 5) (v := .null) (ty := t_ImageReader 1) (C := R_ImageReader) (T := F_ImageReader) (N := 3) hx hb hts in_ImageReader t_ImageReader t_ImageReader_ok n_ImageReader hown hK hP hD hS 0 rfl rfl 1 (by decide) (hts _ (List.mem_cons_of_mem _ k267_fieldLink)) (fun _ h9 => h9) rfl (t_ImageReader_ok 1 (by decide)) rfl rfl (Nat.le_of_ble_eq_true rfl) d_ImageReader_init_11 (fun H locs hP hD hS => ?_)
  have hP : va_P (dC, dI) classes ([(q0, .inr (5, [.null, .null, .int 0]))]) H := hP
  have hD : va_D A ([(q0, .inr (5, [.null, .null, .int 0]))]) := hD
  refine lv_aload_n hx hb d_ImageReader_init_14 rfl (lv_at hl 0 rfl) ?_
  refine lv_iconst (v := 0) hx hb d_ImageReader_init_15 (by decide) ?_
  refine va_put (D := (dC, dI)) (ci := 5) (v := .int 0) (ty := t_ImageReader 2) (C := R_ImageReader) (T := F_ImageReader) (N := 3) hx hb hts in_ImageReader t_ImageReader t_ImageReader_ok n_ImageReader hown hK hP hD hS 0 rfl rfl 2 (by decide) (hts _ (List.mem_cons_of_mem _ k261_fieldLink)) (fun _ h9 => h9) rfl (t_ImageReader_ok 2 (by decide)) rfl rfl (Nat.le_of_ble_eq_true rfl) d_ImageReader_init_16 (fun H locs hP hD hS => ?_)
  have hP : va_P (dC, dI) classes ([(q0, .inr (5, [.null, .null, .int 0]))]) H := hP
  have hD : va_D A ([(q0, .inr (5, [.null, .null, .int 0]))]) := hD
  have hP : va_P (dC, dI) classes ((sh_ImageReader cI cL cZ q0 .null .null 0)) H := hP.sub [0] rfl
  have hD : va_D A ((sh_ImageReader cI cL cZ q0 .null .null 0)) := hD.sub [0] (by decide) rfl
  refine W.cs (cells' := 0) (slots' := 0) (by first | rfl | omega) (by first | rfl | omega) ?_
  exact ct_vretN rfl hx hb hr hlocks hK hP hD hS d_ImageReader_init_19
theorem k753_methodLink : Cond.methodLink "HelpFile$Visits" 3 ⟨"java/lang/Object", "<init>", "()V"⟩ ∈ ga := ga_t 120 (by decide +kernel) rfl
theorem k754_classLink : Cond.classLink "HelpFile$Visits" 9 "HelpFile$Row" ∈ ga := ga_t 121 (by decide +kernel) rfl
theorem k755_methodLink : Cond.methodLink "HelpFile$Visits" 11 ⟨"HelpFile$Row", "<init>", "(I)V"⟩ ∈ ga := ga_t 122 (by decide +kernel) rfl
set_option maxRecDepth 100000 in
theorem dv_Visits : ∀ j, j < 3 → defaultValue (t_Visits j) = vp_V [.null, .null, .int 0] j := by
  intro j hj
  rcases (show j = 0 ∨ j = 1 ∨ j = 2 by omega) with rfl | rfl | rfl <;> rfl
abbrev b_Visits_init : ByteArray := prog_11_method_1_code
def y_Visits_init : MethodName := ⟨"HelpFile$Visits", "<init>", "()V"⟩
set_option maxRecDepth 100000 in
theorem fm_Visits_init : Fm y_Visits_init b_Visits_init 1 none 0 := ⟨ga_t 119 rfl rfl, k292_initialized, by decide, by decide, by decide +kernel⟩
theorem d_Visits_init_0 : decode b_Visits_init 0 = .ok (.aload_n 0, 1) := by decide +kernel
theorem d_Visits_init_1 : decode b_Visits_init 1 = .ok (.invokespecial 3, 3) := by decide +kernel
theorem d_Visits_init_4 : decode b_Visits_init 4 = .ok (.aload_n 0, 1) := by decide +kernel
theorem d_Visits_init_5 : decode b_Visits_init 5 = .ok (.new 9, 3) := by decide +kernel
theorem d_Visits_init_8 : decode b_Visits_init 8 = .ok (.dup, 1) := by decide +kernel
theorem d_Visits_init_9 : decode b_Visits_init 9 = .ok (.bipush 16, 2) := by decide +kernel
theorem d_Visits_init_11 : decode b_Visits_init 11 = .ok (.invokespecial 11, 3) := by decide +kernel
theorem d_Visits_init_14 : decode b_Visits_init 14 = .ok (.putfield 14, 3) := by decide +kernel
theorem d_Visits_init_17 : decode b_Visits_init 17 = .ok (.aload_n 0, 1) := by decide +kernel
theorem d_Visits_init_18 : decode b_Visits_init 18 = .ok (.new 9, 3) := by decide +kernel
theorem d_Visits_init_21 : decode b_Visits_init 21 = .ok (.dup, 1) := by decide +kernel
theorem d_Visits_init_22 : decode b_Visits_init 22 = .ok (.bipush 16, 2) := by decide +kernel
theorem d_Visits_init_24 : decode b_Visits_init 24 = .ok (.invokespecial 11, 3) := by decide +kernel
theorem d_Visits_init_27 : decode b_Visits_init 27 = .ok (.putfield 20, 3) := by decide +kernel
theorem d_Visits_init_30 : decode b_Visits_init 30 = .ok (.aload_n 0, 1) := by decide +kernel
theorem d_Visits_init_31 : decode b_Visits_init 31 = .ok (.iconst 0, 1) := by decide +kernel
theorem d_Visits_init_32 : decode b_Visits_init 32 = .ok (.putfield 23, 3) := by decide +kernel
theorem d_Visits_init_35 : decode b_Visits_init 35 = .ok (.return_, 1) := by decide +kernel
set_option maxHeartbeats 4000000 in
set_option maxRecDepth 100000 in
theorem n_Visits_init (l : Launch) (dC : Nat → ClassId) (dI : Nat → Nat → Nat) (cI cL cZ : ClassId) (q0 : Nat)   : CtN l y_Visits_init (Cond.code y_Visits_init b_Visits_init 1 none :: ga) { frames := 2, cells := 4, slots := 38, locals := 41 } (dC, dI) classes (Tys cI cL cZ) [.ref q0] [(q0, .inr (6, [.null, .null, .int 0]))] (fun w9 => ∃ q5 : Nat, ∃ q5_q6 : Nat, ∃ q18 : Nat, ∃ q18_q6 : Nat, w9 = (sh_Visits cI cL cZ q0 q5 q5_q6 16 (fun _ => 0) 0 false q18 q18_q6 16 (fun _ => 0) 0 false 0)) 4 (38) := by
  refine CtN.ofW (by decide) (Nat.le_of_ble_eq_true rfl) ?_
  intro p e s m below meth c A ls hx hb hr hml hown hlocks hin hts hK hN hA hP hD hS hl
  have hown : s.vm.findClass R_Visits = some m.cls := hown
  have hl : lv_has ls 1 [(0, .ref q0)] := hl
  refine lv_aload_n hx hb d_Visits_init_0 rfl (lv_at hl 0 rfl) ?_
  refine W.objInit hx hb hown (hts _ (List.mem_cons_of_mem _ k753_methodLink)) (hts _ (List.mem_cons_of_mem _ k737_instanceMethod)) (hts _ (List.mem_cons_of_mem _ k738_code)) rfl (by rw [hml]; exact hl.1) rfl d_Visits_init_1 (Nat.le_of_ble_eq_true rfl) (Nat.le_of_ble_eq_true rfl) ?_
  refine W.eq (g2 := F0 m 4 ls []) rfl ?_
  refine lv_aload_n hx hb d_Visits_init_4 rfl (lv_at hl 0 rfl) ?_
  refine va_new (D := (dC, dI)) (ci := 1) (fs := [.null, .int 0, .int 0]) (C := R_Row) (T := F_Row) (N := 3) hx hb hts in_Row t_Row t_Row_ok hown (hts _ (List.mem_cons_of_mem _ k754_classLink)) (hts _ (List.mem_cons_of_mem _ k744_instantiable)) (hts _ (List.mem_cons_of_mem _ k1_initialized)) hK hP hD hS hA rfl (dv_Row) (Nat.le_of_ble_eq_true rfl) (Nat.le_of_ble_eq_true rfl) d_Visits_init_5 (fun q5 H hP hD hS => ?_)
  have hP : va_P (dC, dI) classes ([(q0, .inr (6, [.null, .null, .int 0]))] ++ ([(q5, .inr (1, [.null, .int 0, .int 0]))])) H := hP
  have hD : va_D A ([(q0, .inr (6, [.null, .null, .int 0]))] ++ ([(q5, .inr (1, [.null, .int 0, .int 0]))])) := hD
  refine lv_dup hx hb d_Visits_init_8 rfl ?_
  refine lv_bipush (v := 16) hx hb d_Visits_init_9 (by decide) ?_
  refine ct_I (As := [.int 16]) (rest := [.ref q5, .ref q0]) (mc := 1) (ms := 16) ⟨hx, hb, hml, hown, hts⟩ fm_Row_init rfl (n_Row_init l dC dI cI cL cZ q5 16 16 (by decide) (by decide) (Nat.le_of_ble_eq_true rfl)) k755_methodLink k746_instanceMethod ⟨Nat.le_of_ble_eq_true rfl, Nat.le_of_ble_eq_true rfl⟩ rfl rfl ⟨Nat.le_of_ble_eq_true rfl, Nat.le_of_ble_eq_true rfl⟩ hK hN hP hD hS hA [1] [0] rfl rfl rfl (by decide) (by decide) (by decide) rfl hl.1 rfl (Nat.le_of_ble_eq_true rfl) d_Visits_init_11 (fun w9 H locs hw9 hP hD hS => ?_)
  obtain ⟨q5_q6, rfl⟩ := hw9
  have hP : va_P (dC, dI) classes ([(q0, .inr (6, [.null, .null, .int 0]))] ++ ((sh_Row cI cL cZ q5 q5_q6 16 (fun _ => 0) 0 false))) H := hP.sub [0, 1, 2] rfl
  have hD : va_D A ([(q0, .inr (6, [.null, .null, .int 0]))] ++ ((sh_Row cI cL cZ q5 q5_q6 16 (fun _ => 0) 0 false))) := hD.sub [0, 1, 2] (by decide) rfl
  refine va_putF (D := (dC, dI)) (ci := 6) (v := .ref q5) (ty := t_Visits 0) (C := R_Visits) (T := F_Visits) (N := 3) hx hb hts in_Visits t_Visits t_Visits_ok n_Visits hown hK hP hD hS 0 rfl rfl 0 (by decide) (hts _ (List.mem_cons_of_mem _ k288_fieldLink)) (fun _ h9 => h9) rfl hin rfl (t_Visits_ok 0 (by decide)) rfl rfl (Nat.le_of_ble_eq_true rfl) d_Visits_init_14 (fun H locs hP hD hS => ?_)
  have hP : va_P (dC, dI) classes ([(q0, .inr (6, [.ref q5, .null, .int 0]))] ++ ((sh_Row cI cL cZ q5 q5_q6 16 (fun _ => 0) 0 false))) H := hP
  have hD : va_D A ([(q0, .inr (6, [.ref q5, .null, .int 0]))] ++ ((sh_Row cI cL cZ q5 q5_q6 16 (fun _ => 0) 0 false))) := hD
  refine lv_aload_n hx hb d_Visits_init_17 rfl (lv_at hl 0 rfl) ?_
  refine va_new (D := (dC, dI)) (ci := 1) (fs := [.null, .int 0, .int 0]) (C := R_Row) (T := F_Row) (N := 3) hx hb hts in_Row t_Row t_Row_ok hown (hts _ (List.mem_cons_of_mem _ k754_classLink)) (hts _ (List.mem_cons_of_mem _ k744_instantiable)) (hts _ (List.mem_cons_of_mem _ k1_initialized)) hK hP hD hS hA rfl (dv_Row) (Nat.le_of_ble_eq_true rfl) (Nat.le_of_ble_eq_true rfl) d_Visits_init_18 (fun q18 H hP hD hS => ?_)
  have hP : va_P (dC, dI) classes ([(q0, .inr (6, [.ref q5, .null, .int 0]))] ++ ((sh_Row cI cL cZ q5 q5_q6 16 (fun _ => 0) 0 false) ++ ([(q18, .inr (1, [.null, .int 0, .int 0]))]))) H := hP.sub [0, 1, 2, 3] rfl
  have hD : va_D A ([(q0, .inr (6, [.ref q5, .null, .int 0]))] ++ ((sh_Row cI cL cZ q5 q5_q6 16 (fun _ => 0) 0 false) ++ ([(q18, .inr (1, [.null, .int 0, .int 0]))]))) := hD.sub [0, 1, 2, 3] (by decide) rfl
  refine lv_dup hx hb d_Visits_init_21 rfl ?_
  refine lv_bipush (v := 16) hx hb d_Visits_init_22 (by decide) ?_
  refine ct_I (As := [.int 16]) (rest := [.ref q18, .ref q0]) (mc := 1) (ms := 16) ⟨hx, hb, hml, hown, hts⟩ fm_Row_init rfl (n_Row_init l dC dI cI cL cZ q18 16 16 (by decide) (by decide) (Nat.le_of_ble_eq_true rfl)) k755_methodLink k746_instanceMethod ⟨Nat.le_of_ble_eq_true rfl, Nat.le_of_ble_eq_true rfl⟩ rfl rfl ⟨Nat.le_of_ble_eq_true rfl, Nat.le_of_ble_eq_true rfl⟩ hK hN hP hD hS hA [3] [0, 1, 2] rfl rfl rfl (by decide) (by decide) (by decide) rfl hl.1 rfl (Nat.le_of_ble_eq_true rfl) d_Visits_init_24 (fun w9 H locs hw9 hP hD hS => ?_)
  obtain ⟨q18_q6, rfl⟩ := hw9
  have hP : va_P (dC, dI) classes ([(q0, .inr (6, [.ref q5, .null, .int 0]))] ++ ((sh_Row cI cL cZ q5 q5_q6 16 (fun _ => 0) 0 false) ++ ((sh_Row cI cL cZ q18 q18_q6 16 (fun _ => 0) 0 false)))) H := hP.sub [0, 1, 2, 3, 4] rfl
  have hD : va_D A ([(q0, .inr (6, [.ref q5, .null, .int 0]))] ++ ((sh_Row cI cL cZ q5 q5_q6 16 (fun _ => 0) 0 false) ++ ((sh_Row cI cL cZ q18 q18_q6 16 (fun _ => 0) 0 false)))) := hD.sub [0, 1, 2, 3, 4] (by decide) rfl
  refine va_putF (D := (dC, dI)) (ci := 6) (v := .ref q18) (ty := t_Visits 1) (C := R_Visits) (T := F_Visits) (N := 3) hx hb hts in_Visits t_Visits t_Visits_ok n_Visits hown hK hP hD hS 0 rfl rfl 1 (by decide) (hts _ (List.mem_cons_of_mem _ k290_fieldLink)) (fun _ h9 => h9) rfl hin rfl (t_Visits_ok 1 (by decide)) rfl rfl (Nat.le_of_ble_eq_true rfl) d_Visits_init_27 (fun H locs hP hD hS => ?_)
  have hP : va_P (dC, dI) classes ([(q0, .inr (6, [.ref q5, .ref q18, .int 0]))] ++ ((sh_Row cI cL cZ q5 q5_q6 16 (fun _ => 0) 0 false) ++ ((sh_Row cI cL cZ q18 q18_q6 16 (fun _ => 0) 0 false)))) H := hP
  have hD : va_D A ([(q0, .inr (6, [.ref q5, .ref q18, .int 0]))] ++ ((sh_Row cI cL cZ q5 q5_q6 16 (fun _ => 0) 0 false) ++ ((sh_Row cI cL cZ q18 q18_q6 16 (fun _ => 0) 0 false)))) := hD
  refine lv_aload_n hx hb d_Visits_init_30 rfl (lv_at hl 0 rfl) ?_
  refine lv_iconst (v := 0) hx hb d_Visits_init_31 (by decide) ?_
  refine va_put (D := (dC, dI)) (ci := 6) (v := .int 0) (ty := t_Visits 2) (C := R_Visits) (T := F_Visits) (N := 3) hx hb hts in_Visits t_Visits t_Visits_ok n_Visits hown hK hP hD hS 0 rfl rfl 2 (by decide) (hts _ (List.mem_cons_of_mem _ k291_fieldLink)) (fun _ h9 => h9) rfl (t_Visits_ok 2 (by decide)) rfl rfl (Nat.le_of_ble_eq_true rfl) d_Visits_init_32 (fun H locs hP hD hS => ?_)
  have hP : va_P (dC, dI) classes ([(q0, .inr (6, [.ref q5, .ref q18, .int 0]))] ++ ((sh_Row cI cL cZ q5 q5_q6 16 (fun _ => 0) 0 false) ++ ((sh_Row cI cL cZ q18 q18_q6 16 (fun _ => 0) 0 false)))) H := hP
  have hD : va_D A ([(q0, .inr (6, [.ref q5, .ref q18, .int 0]))] ++ ((sh_Row cI cL cZ q5 q5_q6 16 (fun _ => 0) 0 false) ++ ((sh_Row cI cL cZ q18 q18_q6 16 (fun _ => 0) 0 false)))) := hD
  have hP : va_P (dC, dI) classes ((sh_Visits cI cL cZ q0 q5 q5_q6 16 (fun _ => 0) 0 false q18 q18_q6 16 (fun _ => 0) 0 false 0)) H := hP.sub [0, 1, 2, 3, 4] rfl
  have hD : va_D A ((sh_Visits cI cL cZ q0 q5 q5_q6 16 (fun _ => 0) 0 false q18 q18_q6 16 (fun _ => 0) 0 false 0)) := hD.sub [0, 1, 2, 3, 4] (by decide) rfl
  refine W.cs (cells' := 4) (slots' := 38) (by first | rfl | omega) (by first | rfl | omega) ?_
  exact ct_vretN ⟨_, _, _, _, rfl⟩ hx hb hr hlocks hK hP hD hS d_Visits_init_35
theorem k756_methodLink : Cond.methodLink "HelpFile$Query" 3 ⟨"java/lang/Object", "<init>", "()V"⟩ ∈ ga := ga_t 138 (by decide +kernel) rfl
theorem k757_arrayClass : Cond.arrayClass .boolean ∈ ga := ga_t 158 (by decide +kernel) rfl
set_option maxRecDepth 100000 in
theorem dv_Query : ∀ j, j < 6 → defaultValue (t_Query j) = vp_V [.null, .null, .null, .int 0, .int 0, .int 0] j := by
  intro j hj
  rcases (show j = 0 ∨ j = 1 ∨ j = 2 ∨ j = 3 ∨ j = 4 ∨ j = 5 by omega) with rfl | rfl | rfl | rfl | rfl | rfl <;> rfl
abbrev b_Query_init : ByteArray := prog_7_method_1_code
def y_Query_init : MethodName := ⟨"HelpFile$Query", "<init>", "()V"⟩
set_option maxRecDepth 100000 in
theorem fm_Query_init : Fm y_Query_init b_Query_init 1 none 0 := ⟨ga_t 137 rfl rfl, k308_initialized, by decide, by decide, by decide +kernel⟩
theorem d_Query_init_0 : decode b_Query_init 0 = .ok (.aload_n 0, 1) := by decide +kernel
theorem d_Query_init_1 : decode b_Query_init 1 = .ok (.invokespecial 3, 3) := by decide +kernel
theorem d_Query_init_4 : decode b_Query_init 4 = .ok (.aload_n 0, 1) := by decide +kernel
theorem d_Query_init_5 : decode b_Query_init 5 = .ok (.bipush 41, 2) := by decide +kernel
theorem d_Query_init_7 : decode b_Query_init 7 = .ok (.newarray .int, 2) := by decide +kernel
theorem d_Query_init_9 : decode b_Query_init 9 = .ok (.putfield 9, 3) := by decide +kernel
theorem d_Query_init_12 : decode b_Query_init 12 = .ok (.aload_n 0, 1) := by decide +kernel
theorem d_Query_init_13 : decode b_Query_init 13 = .ok (.bipush 41, 2) := by decide +kernel
theorem d_Query_init_15 : decode b_Query_init 15 = .ok (.newarray .int, 2) := by decide +kernel
theorem d_Query_init_17 : decode b_Query_init 17 = .ok (.putfield 15, 3) := by decide +kernel
theorem d_Query_init_20 : decode b_Query_init 20 = .ok (.aload_n 0, 1) := by decide +kernel
theorem d_Query_init_21 : decode b_Query_init 21 = .ok (.bipush 41, 2) := by decide +kernel
theorem d_Query_init_23 : decode b_Query_init 23 = .ok (.newarray .boolean, 2) := by decide +kernel
theorem d_Query_init_25 : decode b_Query_init 25 = .ok (.putfield 18, 3) := by decide +kernel
theorem d_Query_init_28 : decode b_Query_init 28 = .ok (.return_, 1) := by decide +kernel
set_option maxHeartbeats 4000000 in
set_option maxRecDepth 100000 in
theorem n_Query_init (l : Launch) (dC : Nat → ClassId) (dI : Nat → Nat → Nat) (cI cL cZ : ClassId) (q0 : Nat)   : CtN l y_Query_init (Cond.code y_Query_init b_Query_init 1 none :: ga) { frames := 1, cells := 3, slots := 123, locals := 20 } (dC, dI) classes (Tys cI cL cZ) [.ref q0] [(q0, .inr (7, [.null, .null, .null, .int 0, .int 0, .int 0]))] (fun w9 => ∃ q7 : Nat, ∃ q15 : Nat, ∃ q23 : Nat, w9 = (sh_Query cI cL cZ q0 q7 (fun _ => 0) q15 (fun _ => 0) q23 (fun _ => 0) 0 0 false)) 3 (123) := by
  refine CtN.ofW (by decide) (Nat.le_of_ble_eq_true rfl) ?_
  intro p e s m below meth c A ls hx hb hr hml hown hlocks hin hts hK hN hA hP hD hS hl
  have hown : s.vm.findClass R_Query = some m.cls := hown
  have hl : lv_has ls 1 [(0, .ref q0)] := hl
  refine lv_aload_n hx hb d_Query_init_0 rfl (lv_at hl 0 rfl) ?_
  refine W.objInit hx hb hown (hts _ (List.mem_cons_of_mem _ k756_methodLink)) (hts _ (List.mem_cons_of_mem _ k737_instanceMethod)) (hts _ (List.mem_cons_of_mem _ k738_code)) rfl (by rw [hml]; exact hl.1) rfl d_Query_init_1 (Nat.le_of_ble_eq_true rfl) (Nat.le_of_ble_eq_true rfl) ?_
  refine W.eq (g2 := F0 m 4 ls []) rfl ?_
  refine lv_aload_n hx hb d_Query_init_4 rfl (lv_at hl 0 rfl) ?_
  refine lv_bipush (v := 41) hx hb d_Query_init_5 (by decide) ?_
  refine ct_newI (N := 41) (k := 0) hx hb hts k739_arrayClass rfl hK hP hD hS hA (by decide) (by decide) (Nat.le_of_ble_eq_true rfl) (Nat.le_of_ble_eq_true rfl) (Nat.le_of_ble_eq_true rfl) d_Query_init_7 (fun q7 H hP hD hS => ?_)
  have hP : va_P (dC, dI) classes ([(q0, .inr (7, [.null, .null, .null, .int 0, .int 0, .int 0]))] ++ ([(q7, .inl (cI, 41, .inl (fun _ => 0)))])) H := hP
  have hD : va_D A ([(q0, .inr (7, [.null, .null, .null, .int 0, .int 0, .int 0]))] ++ ([(q7, .inl (cI, 41, .inl (fun _ => 0)))])) := hD
  refine va_putF (D := (dC, dI)) (ci := 7) (v := .ref q7) (ty := t_Query 0) (C := R_Query) (T := F_Query) (N := 6) hx hb hts in_Query t_Query t_Query_ok n_Query hown hK hP hD hS 0 rfl rfl 0 (by decide) (hts _ (List.mem_cons_of_mem _ k309_fieldLink)) (fun _ h9 => h9) rfl hin rfl (t_Query_ok 0 (by decide)) rfl rfl (Nat.le_of_ble_eq_true rfl) d_Query_init_9 (fun H locs hP hD hS => ?_)
  have hP : va_P (dC, dI) classes ([(q0, .inr (7, [.ref q7, .null, .null, .int 0, .int 0, .int 0]))] ++ ([(q7, .inl (cI, 41, .inl (fun _ => 0)))])) H := hP
  have hD : va_D A ([(q0, .inr (7, [.ref q7, .null, .null, .int 0, .int 0, .int 0]))] ++ ([(q7, .inl (cI, 41, .inl (fun _ => 0)))])) := hD
  refine lv_aload_n hx hb d_Query_init_12 rfl (lv_at hl 0 rfl) ?_
  refine lv_bipush (v := 41) hx hb d_Query_init_13 (by decide) ?_
  refine ct_newI (N := 41) (k := 0) hx hb hts k739_arrayClass rfl hK hP hD hS hA (by decide) (by decide) (Nat.le_of_ble_eq_true rfl) (Nat.le_of_ble_eq_true rfl) (Nat.le_of_ble_eq_true rfl) d_Query_init_15 (fun q15 H hP hD hS => ?_)
  have hP : va_P (dC, dI) classes ([(q0, .inr (7, [.ref q7, .null, .null, .int 0, .int 0, .int 0]))] ++ ([(q7, .inl (cI, 41, .inl (fun _ => 0)))] ++ ([(q15, .inl (cI, 41, .inl (fun _ => 0)))]))) H := hP.sub [0, 1, 2] rfl
  have hD : va_D A ([(q0, .inr (7, [.ref q7, .null, .null, .int 0, .int 0, .int 0]))] ++ ([(q7, .inl (cI, 41, .inl (fun _ => 0)))] ++ ([(q15, .inl (cI, 41, .inl (fun _ => 0)))]))) := hD.sub [0, 1, 2] (by decide) rfl
  refine va_putF (D := (dC, dI)) (ci := 7) (v := .ref q15) (ty := t_Query 1) (C := R_Query) (T := F_Query) (N := 6) hx hb hts in_Query t_Query t_Query_ok n_Query hown hK hP hD hS 0 rfl rfl 1 (by decide) (hts _ (List.mem_cons_of_mem _ k311_fieldLink)) (fun _ h9 => h9) rfl hin rfl (t_Query_ok 1 (by decide)) rfl rfl (Nat.le_of_ble_eq_true rfl) d_Query_init_17 (fun H locs hP hD hS => ?_)
  have hP : va_P (dC, dI) classes ([(q0, .inr (7, [.ref q7, .ref q15, .null, .int 0, .int 0, .int 0]))] ++ ([(q7, .inl (cI, 41, .inl (fun _ => 0)))] ++ ([(q15, .inl (cI, 41, .inl (fun _ => 0)))]))) H := hP
  have hD : va_D A ([(q0, .inr (7, [.ref q7, .ref q15, .null, .int 0, .int 0, .int 0]))] ++ ([(q7, .inl (cI, 41, .inl (fun _ => 0)))] ++ ([(q15, .inl (cI, 41, .inl (fun _ => 0)))]))) := hD
  refine lv_aload_n hx hb d_Query_init_20 rfl (lv_at hl 0 rfl) ?_
  refine lv_bipush (v := 41) hx hb d_Query_init_21 (by decide) ?_
  refine ct_newZ (N := 41) (k := 2) hx hb hts k757_arrayClass rfl hK hP hD hS hA (by decide) (by decide) (Nat.le_of_ble_eq_true rfl) (Nat.le_of_ble_eq_true rfl) (Nat.le_of_ble_eq_true rfl) d_Query_init_23 (fun q23 H hP hD hS => ?_)
  have hP : va_P (dC, dI) classes ([(q0, .inr (7, [.ref q7, .ref q15, .null, .int 0, .int 0, .int 0]))] ++ ([(q7, .inl (cI, 41, .inl (fun _ => 0)))] ++ ([(q15, .inl (cI, 41, .inl (fun _ => 0)))] ++ ([(q23, .inl (cZ, 41, .inl (fun _ => 0)))])))) H := hP.sub [0, 1, 2, 3] rfl
  have hD : va_D A ([(q0, .inr (7, [.ref q7, .ref q15, .null, .int 0, .int 0, .int 0]))] ++ ([(q7, .inl (cI, 41, .inl (fun _ => 0)))] ++ ([(q15, .inl (cI, 41, .inl (fun _ => 0)))] ++ ([(q23, .inl (cZ, 41, .inl (fun _ => 0)))])))) := hD.sub [0, 1, 2, 3] (by decide) rfl
  refine va_putF (D := (dC, dI)) (ci := 7) (v := .ref q23) (ty := t_Query 2) (C := R_Query) (T := F_Query) (N := 6) hx hb hts in_Query t_Query t_Query_ok n_Query hown hK hP hD hS 0 rfl rfl 2 (by decide) (hts _ (List.mem_cons_of_mem _ k313_fieldLink)) (fun _ h9 => h9) rfl hin rfl (t_Query_ok 2 (by decide)) rfl rfl (Nat.le_of_ble_eq_true rfl) d_Query_init_25 (fun H locs hP hD hS => ?_)
  have hP : va_P (dC, dI) classes ([(q0, .inr (7, [.ref q7, .ref q15, .ref q23, .int 0, .int 0, .int 0]))] ++ ([(q7, .inl (cI, 41, .inl (fun _ => 0)))] ++ ([(q15, .inl (cI, 41, .inl (fun _ => 0)))] ++ ([(q23, .inl (cZ, 41, .inl (fun _ => 0)))])))) H := hP
  have hD : va_D A ([(q0, .inr (7, [.ref q7, .ref q15, .ref q23, .int 0, .int 0, .int 0]))] ++ ([(q7, .inl (cI, 41, .inl (fun _ => 0)))] ++ ([(q15, .inl (cI, 41, .inl (fun _ => 0)))] ++ ([(q23, .inl (cZ, 41, .inl (fun _ => 0)))])))) := hD
  have hP : va_P (dC, dI) classes ((sh_Query cI cL cZ q0 q7 (fun _ => 0) q15 (fun _ => 0) q23 (fun _ => 0) 0 0 false)) H := hP.sub [0, 1, 2, 3] rfl
  have hD : va_D A ((sh_Query cI cL cZ q0 q7 (fun _ => 0) q15 (fun _ => 0) q23 (fun _ => 0) 0 0 false)) := hD.sub [0, 1, 2, 3] (by decide) rfl
  refine W.cs (cells' := 3) (slots' := 123) (by first | rfl | omega) (by first | rfl | omega) ?_
  exact ct_vretN ⟨_, _, _, rfl⟩ hx hb hr hlocks hK hP hD hS d_Query_init_28
theorem k758_methodLink : Cond.methodLink "HelpFile$Screen" 3 ⟨"java/lang/Object", "<init>", "()V"⟩ ∈ ga := ga_t 164 (by decide +kernel) rfl
theorem k759_classLink : Cond.classLink "HelpFile$Screen" 9 "HelpFile$Row" ∈ ga := ga_t 165 (by decide +kernel) rfl
theorem k760_methodLink : Cond.methodLink "HelpFile$Screen" 13 ⟨"HelpFile$Row", "<init>", "(I)V"⟩ ∈ ga := ga_t 166 (by decide +kernel) rfl
set_option maxRecDepth 100000 in
theorem dv_Screen : ∀ j, j < 5 → defaultValue (t_Screen j) = vp_V [.null, .null, .null, .int 0, .int 0] j := by
  intro j hj
  rcases (show j = 0 ∨ j = 1 ∨ j = 2 ∨ j = 3 ∨ j = 4 by omega) with rfl | rfl | rfl | rfl | rfl <;> rfl
abbrev b_Screen_init : ByteArray := prog_9_method_1_code
def y_Screen_init : MethodName := ⟨"HelpFile$Screen", "<init>", "()V"⟩
set_option maxRecDepth 100000 in
theorem fm_Screen_init : Fm y_Screen_init b_Screen_init 1 none 0 := ⟨ga_t 163 rfl rfl, k335_initialized, by decide, by decide, by decide +kernel⟩
theorem d_Screen_init_0 : decode b_Screen_init 0 = .ok (.aload_n 0, 1) := by decide +kernel
theorem d_Screen_init_1 : decode b_Screen_init 1 = .ok (.invokespecial 3, 3) := by decide +kernel
theorem d_Screen_init_4 : decode b_Screen_init 4 = .ok (.aload_n 0, 1) := by decide +kernel
theorem d_Screen_init_5 : decode b_Screen_init 5 = .ok (.new 9, 3) := by decide +kernel
theorem d_Screen_init_8 : decode b_Screen_init 8 = .ok (.dup, 1) := by decide +kernel
theorem d_Screen_init_9 : decode b_Screen_init 9 = .ok (.sipush 1024, 3) := by decide +kernel
theorem d_Screen_init_12 : decode b_Screen_init 12 = .ok (.invokespecial 13, 3) := by decide +kernel
theorem d_Screen_init_15 : decode b_Screen_init 15 = .ok (.putfield 16, 3) := by decide +kernel
theorem d_Screen_init_18 : decode b_Screen_init 18 = .ok (.aload_n 0, 1) := by decide +kernel
theorem d_Screen_init_19 : decode b_Screen_init 19 = .ok (.new 9, 3) := by decide +kernel
theorem d_Screen_init_22 : decode b_Screen_init 22 = .ok (.dup, 1) := by decide +kernel
theorem d_Screen_init_23 : decode b_Screen_init 23 = .ok (.sipush 1024, 3) := by decide +kernel
theorem d_Screen_init_26 : decode b_Screen_init 26 = .ok (.invokespecial 13, 3) := by decide +kernel
theorem d_Screen_init_29 : decode b_Screen_init 29 = .ok (.putfield 20, 3) := by decide +kernel
theorem d_Screen_init_32 : decode b_Screen_init 32 = .ok (.aload_n 0, 1) := by decide +kernel
theorem d_Screen_init_33 : decode b_Screen_init 33 = .ok (.sipush 256, 3) := by decide +kernel
theorem d_Screen_init_36 : decode b_Screen_init 36 = .ok (.newarray .int, 2) := by decide +kernel
theorem d_Screen_init_38 : decode b_Screen_init 38 = .ok (.putfield 23, 3) := by decide +kernel
theorem d_Screen_init_41 : decode b_Screen_init 41 = .ok (.aload_n 0, 1) := by decide +kernel
theorem d_Screen_init_42 : decode b_Screen_init 42 = .ok (.iconst 0, 1) := by decide +kernel
theorem d_Screen_init_43 : decode b_Screen_init 43 = .ok (.putfield 27, 3) := by decide +kernel
theorem d_Screen_init_46 : decode b_Screen_init 46 = .ok (.aload_n 0, 1) := by decide +kernel
theorem d_Screen_init_47 : decode b_Screen_init 47 = .ok (.iconst 0, 1) := by decide +kernel
theorem d_Screen_init_48 : decode b_Screen_init 48 = .ok (.putfield 31, 3) := by decide +kernel
theorem d_Screen_init_51 : decode b_Screen_init 51 = .ok (.return_, 1) := by decide +kernel
set_option maxHeartbeats 4000000 in
set_option maxRecDepth 100000 in
theorem n_Screen_init (l : Launch) (dC : Nat → ClassId) (dI : Nat → Nat → Nat) (cI cL cZ : ClassId) (q0 : Nat)   : CtN l y_Screen_init (Cond.code y_Screen_init b_Screen_init 1 none :: ga) { frames := 2, cells := 5, slots := 2310, locals := 41 } (dC, dI) classes (Tys cI cL cZ) [.ref q0] [(q0, .inr (8, [.null, .null, .null, .int 0, .int 0]))] (fun w9 => ∃ q5 : Nat, ∃ q5_q6 : Nat, ∃ q19 : Nat, ∃ q19_q6 : Nat, ∃ q36 : Nat, w9 = (sh_Screen cI cL cZ q0 q5 q5_q6 1024 (fun _ => 0) 0 false q19 q19_q6 1024 (fun _ => 0) 0 false q36 (fun _ => 0) 0 0)) 5 (2310) := by
  refine CtN.ofW (by decide) (Nat.le_of_ble_eq_true rfl) ?_
  intro p e s m below meth c A ls hx hb hr hml hown hlocks hin hts hK hN hA hP hD hS hl
  have hown : s.vm.findClass R_Screen = some m.cls := hown
  have hl : lv_has ls 1 [(0, .ref q0)] := hl
  refine lv_aload_n hx hb d_Screen_init_0 rfl (lv_at hl 0 rfl) ?_
  refine W.objInit hx hb hown (hts _ (List.mem_cons_of_mem _ k758_methodLink)) (hts _ (List.mem_cons_of_mem _ k737_instanceMethod)) (hts _ (List.mem_cons_of_mem _ k738_code)) rfl (by rw [hml]; exact hl.1) rfl d_Screen_init_1 (Nat.le_of_ble_eq_true rfl) (Nat.le_of_ble_eq_true rfl) ?_
  refine W.eq (g2 := F0 m 4 ls []) rfl ?_
  refine lv_aload_n hx hb d_Screen_init_4 rfl (lv_at hl 0 rfl) ?_
  refine va_new (D := (dC, dI)) (ci := 1) (fs := [.null, .int 0, .int 0]) (C := R_Row) (T := F_Row) (N := 3) hx hb hts in_Row t_Row t_Row_ok hown (hts _ (List.mem_cons_of_mem _ k759_classLink)) (hts _ (List.mem_cons_of_mem _ k744_instantiable)) (hts _ (List.mem_cons_of_mem _ k1_initialized)) hK hP hD hS hA rfl (dv_Row) (Nat.le_of_ble_eq_true rfl) (Nat.le_of_ble_eq_true rfl) d_Screen_init_5 (fun q5 H hP hD hS => ?_)
  have hP : va_P (dC, dI) classes ([(q0, .inr (8, [.null, .null, .null, .int 0, .int 0]))] ++ ([(q5, .inr (1, [.null, .int 0, .int 0]))])) H := hP
  have hD : va_D A ([(q0, .inr (8, [.null, .null, .null, .int 0, .int 0]))] ++ ([(q5, .inr (1, [.null, .int 0, .int 0]))])) := hD
  refine lv_dup hx hb d_Screen_init_8 rfl ?_
  refine lv_sipush (v := 1024) hx hb d_Screen_init_9 (by decide) ?_
  refine ct_I (As := [.int 1024]) (rest := [.ref q5, .ref q0]) (mc := 1) (ms := 1024) ⟨hx, hb, hml, hown, hts⟩ fm_Row_init rfl (n_Row_init l dC dI cI cL cZ q5 1024 1024 (by decide) (by decide) (Nat.le_of_ble_eq_true rfl)) k760_methodLink k746_instanceMethod ⟨Nat.le_of_ble_eq_true rfl, Nat.le_of_ble_eq_true rfl⟩ rfl rfl ⟨Nat.le_of_ble_eq_true rfl, Nat.le_of_ble_eq_true rfl⟩ hK hN hP hD hS hA [1] [0] rfl rfl rfl (by decide) (by decide) (by decide) rfl hl.1 rfl (Nat.le_of_ble_eq_true rfl) d_Screen_init_12 (fun w9 H locs hw9 hP hD hS => ?_)
  obtain ⟨q5_q6, rfl⟩ := hw9
  have hP : va_P (dC, dI) classes ([(q0, .inr (8, [.null, .null, .null, .int 0, .int 0]))] ++ ((sh_Row cI cL cZ q5 q5_q6 1024 (fun _ => 0) 0 false))) H := hP.sub [0, 1, 2] rfl
  have hD : va_D A ([(q0, .inr (8, [.null, .null, .null, .int 0, .int 0]))] ++ ((sh_Row cI cL cZ q5 q5_q6 1024 (fun _ => 0) 0 false))) := hD.sub [0, 1, 2] (by decide) rfl
  refine va_putF (D := (dC, dI)) (ci := 8) (v := .ref q5) (ty := t_Screen 0) (C := R_Screen) (T := F_Screen) (N := 5) hx hb hts in_Screen t_Screen t_Screen_ok n_Screen hown hK hP hD hS 0 rfl rfl 0 (by decide) (hts _ (List.mem_cons_of_mem _ k337_fieldLink)) (fun _ h9 => h9) rfl hin rfl (t_Screen_ok 0 (by decide)) rfl rfl (Nat.le_of_ble_eq_true rfl) d_Screen_init_15 (fun H locs hP hD hS => ?_)
  have hP : va_P (dC, dI) classes ([(q0, .inr (8, [.ref q5, .null, .null, .int 0, .int 0]))] ++ ((sh_Row cI cL cZ q5 q5_q6 1024 (fun _ => 0) 0 false))) H := hP
  have hD : va_D A ([(q0, .inr (8, [.ref q5, .null, .null, .int 0, .int 0]))] ++ ((sh_Row cI cL cZ q5 q5_q6 1024 (fun _ => 0) 0 false))) := hD
  refine lv_aload_n hx hb d_Screen_init_18 rfl (lv_at hl 0 rfl) ?_
  refine va_new (D := (dC, dI)) (ci := 1) (fs := [.null, .int 0, .int 0]) (C := R_Row) (T := F_Row) (N := 3) hx hb hts in_Row t_Row t_Row_ok hown (hts _ (List.mem_cons_of_mem _ k759_classLink)) (hts _ (List.mem_cons_of_mem _ k744_instantiable)) (hts _ (List.mem_cons_of_mem _ k1_initialized)) hK hP hD hS hA rfl (dv_Row) (Nat.le_of_ble_eq_true rfl) (Nat.le_of_ble_eq_true rfl) d_Screen_init_19 (fun q19 H hP hD hS => ?_)
  have hP : va_P (dC, dI) classes ([(q0, .inr (8, [.ref q5, .null, .null, .int 0, .int 0]))] ++ ((sh_Row cI cL cZ q5 q5_q6 1024 (fun _ => 0) 0 false) ++ ([(q19, .inr (1, [.null, .int 0, .int 0]))]))) H := hP.sub [0, 1, 2, 3] rfl
  have hD : va_D A ([(q0, .inr (8, [.ref q5, .null, .null, .int 0, .int 0]))] ++ ((sh_Row cI cL cZ q5 q5_q6 1024 (fun _ => 0) 0 false) ++ ([(q19, .inr (1, [.null, .int 0, .int 0]))]))) := hD.sub [0, 1, 2, 3] (by decide) rfl
  refine lv_dup hx hb d_Screen_init_22 rfl ?_
  refine lv_sipush (v := 1024) hx hb d_Screen_init_23 (by decide) ?_
  refine ct_I (As := [.int 1024]) (rest := [.ref q19, .ref q0]) (mc := 1) (ms := 1024) ⟨hx, hb, hml, hown, hts⟩ fm_Row_init rfl (n_Row_init l dC dI cI cL cZ q19 1024 1024 (by decide) (by decide) (Nat.le_of_ble_eq_true rfl)) k760_methodLink k746_instanceMethod ⟨Nat.le_of_ble_eq_true rfl, Nat.le_of_ble_eq_true rfl⟩ rfl rfl ⟨Nat.le_of_ble_eq_true rfl, Nat.le_of_ble_eq_true rfl⟩ hK hN hP hD hS hA [3] [0, 1, 2] rfl rfl rfl (by decide) (by decide) (by decide) rfl hl.1 rfl (Nat.le_of_ble_eq_true rfl) d_Screen_init_26 (fun w9 H locs hw9 hP hD hS => ?_)
  obtain ⟨q19_q6, rfl⟩ := hw9
  have hP : va_P (dC, dI) classes ([(q0, .inr (8, [.ref q5, .null, .null, .int 0, .int 0]))] ++ ((sh_Row cI cL cZ q5 q5_q6 1024 (fun _ => 0) 0 false) ++ ((sh_Row cI cL cZ q19 q19_q6 1024 (fun _ => 0) 0 false)))) H := hP.sub [0, 1, 2, 3, 4] rfl
  have hD : va_D A ([(q0, .inr (8, [.ref q5, .null, .null, .int 0, .int 0]))] ++ ((sh_Row cI cL cZ q5 q5_q6 1024 (fun _ => 0) 0 false) ++ ((sh_Row cI cL cZ q19 q19_q6 1024 (fun _ => 0) 0 false)))) := hD.sub [0, 1, 2, 3, 4] (by decide) rfl
  refine va_putF (D := (dC, dI)) (ci := 8) (v := .ref q19) (ty := t_Screen 1) (C := R_Screen) (T := F_Screen) (N := 5) hx hb hts in_Screen t_Screen t_Screen_ok n_Screen hown hK hP hD hS 0 rfl rfl 1 (by decide) (hts _ (List.mem_cons_of_mem _ k344_fieldLink)) (fun _ h9 => h9) rfl hin rfl (t_Screen_ok 1 (by decide)) rfl rfl (Nat.le_of_ble_eq_true rfl) d_Screen_init_29 (fun H locs hP hD hS => ?_)
  have hP : va_P (dC, dI) classes ([(q0, .inr (8, [.ref q5, .ref q19, .null, .int 0, .int 0]))] ++ ((sh_Row cI cL cZ q5 q5_q6 1024 (fun _ => 0) 0 false) ++ ((sh_Row cI cL cZ q19 q19_q6 1024 (fun _ => 0) 0 false)))) H := hP
  have hD : va_D A ([(q0, .inr (8, [.ref q5, .ref q19, .null, .int 0, .int 0]))] ++ ((sh_Row cI cL cZ q5 q5_q6 1024 (fun _ => 0) 0 false) ++ ((sh_Row cI cL cZ q19 q19_q6 1024 (fun _ => 0) 0 false)))) := hD
  refine lv_aload_n hx hb d_Screen_init_32 rfl (lv_at hl 0 rfl) ?_
  refine lv_sipush (v := 256) hx hb d_Screen_init_33 (by decide) ?_
  refine ct_newI (N := 256) (k := 0) hx hb hts k739_arrayClass rfl hK hP hD hS hA (by decide) (by decide) (Nat.le_of_ble_eq_true rfl) (Nat.le_of_ble_eq_true rfl) (Nat.le_of_ble_eq_true rfl) d_Screen_init_36 (fun q36 H hP hD hS => ?_)
  have hP : va_P (dC, dI) classes ([(q0, .inr (8, [.ref q5, .ref q19, .null, .int 0, .int 0]))] ++ ((sh_Row cI cL cZ q5 q5_q6 1024 (fun _ => 0) 0 false) ++ ((sh_Row cI cL cZ q19 q19_q6 1024 (fun _ => 0) 0 false) ++ ([(q36, .inl (cI, 256, .inl (fun _ => 0)))])))) H := hP.sub [0, 1, 2, 3, 4, 5] rfl
  have hD : va_D A ([(q0, .inr (8, [.ref q5, .ref q19, .null, .int 0, .int 0]))] ++ ((sh_Row cI cL cZ q5 q5_q6 1024 (fun _ => 0) 0 false) ++ ((sh_Row cI cL cZ q19 q19_q6 1024 (fun _ => 0) 0 false) ++ ([(q36, .inl (cI, 256, .inl (fun _ => 0)))])))) := hD.sub [0, 1, 2, 3, 4, 5] (by decide) rfl
  refine va_putF (D := (dC, dI)) (ci := 8) (v := .ref q36) (ty := t_Screen 2) (C := R_Screen) (T := F_Screen) (N := 5) hx hb hts in_Screen t_Screen t_Screen_ok n_Screen hown hK hP hD hS 0 rfl rfl 2 (by decide) (hts _ (List.mem_cons_of_mem _ k339_fieldLink)) (fun _ h9 => h9) rfl hin rfl (t_Screen_ok 2 (by decide)) rfl rfl (Nat.le_of_ble_eq_true rfl) d_Screen_init_38 (fun H locs hP hD hS => ?_)
  have hP : va_P (dC, dI) classes ([(q0, .inr (8, [.ref q5, .ref q19, .ref q36, .int 0, .int 0]))] ++ ((sh_Row cI cL cZ q5 q5_q6 1024 (fun _ => 0) 0 false) ++ ((sh_Row cI cL cZ q19 q19_q6 1024 (fun _ => 0) 0 false) ++ ([(q36, .inl (cI, 256, .inl (fun _ => 0)))])))) H := hP
  have hD : va_D A ([(q0, .inr (8, [.ref q5, .ref q19, .ref q36, .int 0, .int 0]))] ++ ((sh_Row cI cL cZ q5 q5_q6 1024 (fun _ => 0) 0 false) ++ ((sh_Row cI cL cZ q19 q19_q6 1024 (fun _ => 0) 0 false) ++ ([(q36, .inl (cI, 256, .inl (fun _ => 0)))])))) := hD
  refine lv_aload_n hx hb d_Screen_init_41 rfl (lv_at hl 0 rfl) ?_
  refine lv_iconst (v := 0) hx hb d_Screen_init_42 (by decide) ?_
  refine va_put (D := (dC, dI)) (ci := 8) (v := .int 0) (ty := t_Screen 3) (C := R_Screen) (T := F_Screen) (N := 5) hx hb hts in_Screen t_Screen t_Screen_ok n_Screen hown hK hP hD hS 0 rfl rfl 3 (by decide) (hts _ (List.mem_cons_of_mem _ k334_fieldLink)) (fun _ h9 => h9) rfl (t_Screen_ok 3 (by decide)) rfl rfl (Nat.le_of_ble_eq_true rfl) d_Screen_init_43 (fun H locs hP hD hS => ?_)
  have hP : va_P (dC, dI) classes ([(q0, .inr (8, [.ref q5, .ref q19, .ref q36, .int 0, .int 0]))] ++ ((sh_Row cI cL cZ q5 q5_q6 1024 (fun _ => 0) 0 false) ++ ((sh_Row cI cL cZ q19 q19_q6 1024 (fun _ => 0) 0 false) ++ ([(q36, .inl (cI, 256, .inl (fun _ => 0)))])))) H := hP
  have hD : va_D A ([(q0, .inr (8, [.ref q5, .ref q19, .ref q36, .int 0, .int 0]))] ++ ((sh_Row cI cL cZ q5 q5_q6 1024 (fun _ => 0) 0 false) ++ ((sh_Row cI cL cZ q19 q19_q6 1024 (fun _ => 0) 0 false) ++ ([(q36, .inl (cI, 256, .inl (fun _ => 0)))])))) := hD
  refine lv_aload_n hx hb d_Screen_init_46 rfl (lv_at hl 0 rfl) ?_
  refine lv_iconst (v := 0) hx hb d_Screen_init_47 (by decide) ?_
  refine va_put (D := (dC, dI)) (ci := 8) (v := .int 0) (ty := t_Screen 4) (C := R_Screen) (T := F_Screen) (N := 5) hx hb hts in_Screen t_Screen t_Screen_ok n_Screen hown hK hP hD hS 0 rfl rfl 4 (by decide) (hts _ (List.mem_cons_of_mem _ k336_fieldLink)) (fun _ h9 => h9) rfl (t_Screen_ok 4 (by decide)) rfl rfl (Nat.le_of_ble_eq_true rfl) d_Screen_init_48 (fun H locs hP hD hS => ?_)
  have hP : va_P (dC, dI) classes ([(q0, .inr (8, [.ref q5, .ref q19, .ref q36, .int 0, .int 0]))] ++ ((sh_Row cI cL cZ q5 q5_q6 1024 (fun _ => 0) 0 false) ++ ((sh_Row cI cL cZ q19 q19_q6 1024 (fun _ => 0) 0 false) ++ ([(q36, .inl (cI, 256, .inl (fun _ => 0)))])))) H := hP
  have hD : va_D A ([(q0, .inr (8, [.ref q5, .ref q19, .ref q36, .int 0, .int 0]))] ++ ((sh_Row cI cL cZ q5 q5_q6 1024 (fun _ => 0) 0 false) ++ ((sh_Row cI cL cZ q19 q19_q6 1024 (fun _ => 0) 0 false) ++ ([(q36, .inl (cI, 256, .inl (fun _ => 0)))])))) := hD
  have hP : va_P (dC, dI) classes ((sh_Screen cI cL cZ q0 q5 q5_q6 1024 (fun _ => 0) 0 false q19 q19_q6 1024 (fun _ => 0) 0 false q36 (fun _ => 0) 0 0)) H := hP.sub [0, 1, 2, 3, 4, 5] rfl
  have hD : va_D A ((sh_Screen cI cL cZ q0 q5 q5_q6 1024 (fun _ => 0) 0 false q19 q19_q6 1024 (fun _ => 0) 0 false q36 (fun _ => 0) 0 0)) := hD.sub [0, 1, 2, 3, 4, 5] (by decide) rfl
  refine W.cs (cells' := 5) (slots' := 2310) (by first | rfl | omega) (by first | rfl | omega) ?_
  exact ct_vretN ⟨_, _, _, _, _, rfl⟩ hx hb hr hlocks hK hP hD hS d_Screen_init_51
