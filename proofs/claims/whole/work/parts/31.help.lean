/-! 31.help: what each method does, read off its bytecode (D_..), and its contract (c_..); written by a program of mine. -/
-- HelpFile.requireOpen
abbrev b_HelpFile_requireOpen : ByteArray := prog_1_method_19_code
def y_HelpFile_requireOpen : MethodName := ⟨"HelpFile", "requireOpen", "()V"⟩
set_option maxRecDepth 100000 in
theorem fm_HelpFile_requireOpen : Fm y_HelpFile_requireOpen b_HelpFile_requireOpen 1 none 0 := ⟨ga_t 793 rfl rfl, k54_initialized, by decide, by decide, by decide +kernel⟩
def D_HelpFile_requireOpen (hfO : Bool) : Prop := (((bI hfO) = 0 → False) ∧ (¬ ((bI hfO) = 0) → True))
theorem d_HelpFile_requireOpen_0 : decode b_HelpFile_requireOpen 0 = .ok (.aload_n 0, 1) := by decide +kernel
theorem d_HelpFile_requireOpen_1 : decode b_HelpFile_requireOpen 1 = .ok (.getfield 72, 3) := by decide +kernel
theorem d_HelpFile_requireOpen_4 : decode b_HelpFile_requireOpen 4 = .ok (.ifCond .ne 13, 3) := by decide +kernel
theorem d_HelpFile_requireOpen_7 : decode b_HelpFile_requireOpen 7 = .ok (.new 238, 3) := by decide +kernel
theorem d_HelpFile_requireOpen_17 : decode b_HelpFile_requireOpen 17 = .ok (.return_, 1) := by decide +kernel
set_option maxHeartbeats 4000000 in
set_option maxRecDepth 100000 in
theorem c_HelpFile_requireOpen (l : Launch) (dC : Nat → ClassId) (dI : Nat → Nat → Nat) (cI cL cZ : ClassId) (hf : Nat) (hfS : Value) (hfI : Value) (hfR : Value) (hfT : Value) (hfC : Value) (hfE : Value) (hfV : Value) (hfQ : Value) (hfN : Value) (hfD : Value) (hfB : Value) (hfO : Bool) (hfF : Int32) (hfY : Int32) (hd : D_HelpFile_requireOpen hfO) : CtrR l y_HelpFile_requireOpen (Cond.code y_HelpFile_requireOpen b_HelpFile_requireOpen 1 none :: ga) { frames := 0, cells := 0, slots := 0, locals := 0 } (dC, dI) classes (Tys cI cL cZ) [.ref hf] ((sh_HelpFile cI cL cZ hf hfS hfI hfR hfT hfC hfE hfV hfQ hfN hfD hfB hfO hfF hfY)) none := by
  refine CtrR.ofW (by decide) (Nat.le_of_ble_eq_true rfl) ?_
  intro p e s m below meth c ls hx hb hr hml hown hlocks hts hK hN hP hD hl
  have hown : s.vm.findClass R_HelpFile = some m.cls := hown
  have hl : lv_has ls 1 [(0, .ref hf)] := hl
  refine lv_aload_n hx hb d_HelpFile_requireOpen_0 rfl (lv_at hl 0 rfl) ?_
  refine va_get (D := (dC, dI)) (ci := 0) (v := .int (bI hfO)) (C := R_HelpFile) (T := F_HelpFile) (N := 14) hx hb hts in_HelpFile hown hK hP 0 rfl rfl 11 (by decide) (hts _ (List.mem_cons_of_mem _ k401_fieldLink)) (fun _ h9 => h9) rfl d_HelpFile_requireOpen_1 ?_
  refine lv_if_ne (tgt := 17) hx hb d_HelpFile_requireOpen_4 (by decide) (fun h4 => ?_) (fun h4 => ?_)
  · have hd := hd.2 h4
    exact ct_vretR hx hb hr hlocks d_HelpFile_requireOpen_17
  · have hd := hd.1 h4
    exact False.elim hd
set_option maxRecDepth 100000 in
theorem oa_0 : thOk (Bundle.ownAtoms "HelpFile" 242 "java/lang/IllegalStateException" ["java/lang/RuntimeException", "java/lang/Exception"]) := thOk_of [11, 672, 681, 687, 690, 692, 673, 674, 30, 31, 675, 680, 688, 708, 662, 709, 664, 710, 666, 676, 678, 668, 704, 705, 707, 668, 805, 806, 807, 698, 698, 699, 700, 701, 701, 702, 703, 704, 804, 795, 797, 683, 798, 799, 800, 801, 671, 670, 802] (by decide +kernel) (by decide +kernel) (by decide +kernel)
theorem k402_classLink : Cond.classLink "HelpFile" 238 "java/lang/IllegalStateException" ∈ ga := ga_t 794 (by decide +kernel) rfl
theorem k403_instantiable : Cond.instantiable "java/lang/IllegalStateException" 6 ∈ ga := ga_t 795 (by decide +kernel) rfl
theorem k404_initialized : Cond.initialized "java/lang/IllegalStateException" ∈ ga := ga_t 22 (by decide +kernel) rfl
def X_HelpFile_requireOpen (hfO : Bool) (xc : String) : Prop := (((bI hfO) = 0 → (xc = "java/lang/IllegalStateException")) ∧ (¬ ((bI hfO) = 0) → False))
theorem d_HelpFile_requireOpen_10 : decode b_HelpFile_requireOpen 10 = .ok (.dup, 1) := by decide +kernel
theorem d_HelpFile_requireOpen_11 : decode b_HelpFile_requireOpen 11 = .ok (.ldc 240, 2) := by decide +kernel
theorem d_HelpFile_requireOpen_13 : decode b_HelpFile_requireOpen 13 = .ok (.invokespecial 242, 3) := by decide +kernel
theorem d_HelpFile_requireOpen_16 : decode b_HelpFile_requireOpen 16 = .ok (.athrow, 1) := by decide +kernel
set_option maxHeartbeats 4000000 in
set_option maxRecDepth 100000 in
theorem x_HelpFile_requireOpen (l : Launch) (htr : ∀ e : Env, l.admits e → e.platform.stackTraces = false) (dC : Nat → ClassId) (dI : Nat → Nat → Nat) (cI cL cZ : ClassId) (hf : Nat) (hfS : Value) (hfI : Value) (hfR : Value) (hfT : Value) (hfC : Value) (hfE : Value) (hfV : Value) (hfQ : Value) (hfN : Value) (hfD : Value) (hfB : Value) (hfO : Bool) (hfF : Int32) (hfY : Int32) (xc : String) (hd : X_HelpFile_requireOpen hfO xc) : CtT l y_HelpFile_requireOpen (Cond.code y_HelpFile_requireOpen b_HelpFile_requireOpen 1 none :: ga) { frames := 6, cells := 1, slots := 6, locals := 82 } (dC, dI) classes (Tys cI cL cZ) [.ref hf] ((sh_HelpFile cI cL cZ hf hfS hfI hfR hfT hfC hfE hfV hfQ hfN hfD hfB hfO hfF hfY)) xc := by
  refine CtT.ofW (by decide) (Nat.le_of_ble_eq_true rfl) ?_
  intro p e s m below meth c A ls hx hb hr hml hown hlocks hnh hts hK hN hZ hT hA hP hD hl
  have hown : s.vm.findClass R_HelpFile = some m.cls := hown
  have hl : lv_has ls 1 [(0, .ref hf)] := hl
  refine lv_aload_n hx hb d_HelpFile_requireOpen_0 rfl (lv_at hl 0 rfl) ?_
  refine va_get (D := (dC, dI)) (ci := 0) (v := .int (bI hfO)) (C := R_HelpFile) (T := F_HelpFile) (N := 14) hx hb hts in_HelpFile hown hK hP 0 rfl rfl 11 (by decide) (hts _ (List.mem_cons_of_mem _ k401_fieldLink)) (fun _ h9 => h9) rfl d_HelpFile_requireOpen_1 ?_
  refine lv_if_ne (tgt := 17) hx hb d_HelpFile_requireOpen_4 (by decide) (fun h4 => ?_) (fun h4 => ?_)
  · have hd := hd.2 h4
    exact False.elim hd
  · have hd := hd.1 h4
    have e0 : xc = "java/lang/IllegalStateException" := hd
    subst e0
    obtain ⟨q9, hq9⟩ := hT.1 (240, "nothing is open") (by decide +kernel)
    exact ct_throw htr hx hb hml hl.1 hown hlocks hnh hts hZ hT oa_0 (by decide +kernel) (by decide +kernel) k402_classLink k403_instantiable k404_initialized hq9 d_HelpFile_requireOpen_7 d_HelpFile_requireOpen_10 d_HelpFile_requireOpen_11 d_HelpFile_requireOpen_13 d_HelpFile_requireOpen_16 (by decide) (by decide) (by decide) (by decide)
-- HelpFile.put
abbrev b_HelpFile_put : ByteArray := prog_1_method_2_code
def y_HelpFile_put : MethodName := ⟨"HelpFile", "put", "(I)I"⟩
theorem k405_methodLink : Cond.methodLink "HelpFile" 94 ⟨"HelpFile$Row", "count", "()I"⟩ ∈ ga := ga_t 720 (by decide +kernel) rfl
theorem k406_methodLink : Cond.methodLink "HelpFile" 83 ⟨"HelpFile", "isTyped", "(I)Z"⟩ ∈ ga := ga_t 649 (by decide +kernel) rfl
theorem k407_methodLink : Cond.methodLink "HelpFile" 103 ⟨"HelpFile$Row", "append", "(I)V"⟩ ∈ ga := ga_t 737 (by decide +kernel) rfl
set_option maxRecDepth 100000 in
theorem fm_HelpFile_put : Fm y_HelpFile_put b_HelpFile_put 5 (some .int) 1 := ⟨ga_t 648 rfl rfl, k54_initialized, by decide, by decide, by decide +kernel⟩
def B_HelpFile_put_4 (zsn : Nat) (res : Int32) (zsE' : Nat → Int32) (zsC' : Int32) (zsO' : Bool) (X : Nat → Int32 → Int32 → Int32 → Int32 → (Nat → Int32) → Int32 → Bool → Prop) (x1 : Int32) (x2 : Int32) (x3 : Int32) (zsE : Nat → Int32) (zsC : Int32) (zsO : Bool) : Prop := ((32 ≤ x3 → (((zsC + x2) ≤ 700 → X 2 x1 0 0 0 zsE zsC zsO) ∧ (¬ ((zsC + x2) ≤ 700) → False))) ∧ (¬ (32 ≤ x3) → (((((Int32.toUInt32 x1 >>> (Int32.toUInt32 x3 &&& Int32.toUInt32 31)).toInt32) &&& 255) = 0 → X 1 x1 x2 x3 (((Int32.toUInt32 x1 >>> (Int32.toUInt32 x3 &&& Int32.toUInt32 31)).toInt32) &&& 255) zsE zsC zsO) ∧ (¬ ((((Int32.toUInt32 x1 >>> (Int32.toUInt32 x3 &&& Int32.toUInt32 31)).toInt32) &&& 255) = 0) → (((((Int32.toUInt32 x1 >>> (Int32.toUInt32 x3 &&& Int32.toUInt32 31)).toInt32) &&& 255) = 10 → X 1 x1 x2 x3 (((Int32.toUInt32 x1 >>> (Int32.toUInt32 x3 &&& Int32.toUInt32 31)).toInt32) &&& 255) zsE zsC zsO) ∧ (¬ ((((Int32.toUInt32 x1 >>> (Int32.toUInt32 x3 &&& Int32.toUInt32 31)).toInt32) &&& 255) = 10) → (∃ r33 : Bool, D_HelpFile_isTyped (((Int32.toUInt32 x1 >>> (Int32.toUInt32 x3 &&& Int32.toUInt32 31)).toInt32) &&& 255) r33 ∧ (((bI r33) = 0 → False) ∧ (¬ ((bI r33) = 0) → X 1 x1 x2 x3 (((Int32.toUInt32 x1 >>> (Int32.toUInt32 x3 &&& Int32.toUInt32 31)).toInt32) &&& 255) zsE zsC zsO)))))))))
def B_HelpFile_put_49 (zsn : Nat) (res : Int32) (zsE' : Nat → Int32) (zsC' : Int32) (zsO' : Bool) (X : Nat → Int32 → Int32 → Int32 → Int32 → (Nat → Int32) → Int32 → Bool → Prop) (x1 : Int32) (x2 : Int32) (x3 : Int32) (x4 : Int32) (zsE : Nat → Int32) (zsC : Int32) (zsO : Bool) : Prop := ((x4 = 0 → X 0 x1 (x2 + 0) (x3 + 8) 0 zsE zsC zsO) ∧ (¬ (x4 = 0) → X 0 x1 (x2 + 1) (x3 + 8) 0 zsE zsC zsO))
def B_HelpFile_put_95 (zsn : Nat) (res : Int32) (zsE' : Nat → Int32) (zsC' : Int32) (zsO' : Bool) (X : Nat → Int32 → Int32 → Int32 → Int32 → (Nat → Int32) → Int32 → Bool → Prop) (x1 : Int32) (x3 : Int32) (zsE : Nat → Int32) (zsC : Int32) (zsO : Bool) : Prop := ((32 ≤ x3 → (res = zsC ∧ zsE' = zsE ∧ zsC' = zsC ∧ zsO' = zsO)) ∧ (¬ (32 ≤ x3) → (((((Int32.toUInt32 x1 >>> (Int32.toUInt32 x3 &&& Int32.toUInt32 31)).toInt32) &&& 255) = 0 → X 2 x1 0 (x3 + 8) 0 zsE zsC zsO) ∧ (¬ ((((Int32.toUInt32 x1 >>> (Int32.toUInt32 x3 &&& Int32.toUInt32 31)).toInt32) &&& 255) = 0) → (∃ zsE_121 : Nat → Int32, ∃ zsC_121 : Int32, ∃ zsO_121 : Bool, D_Row_append zsn (((Int32.toUInt32 x1 >>> (Int32.toUInt32 x3 &&& Int32.toUInt32 31)).toInt32) &&& 255) zsE zsC zsO zsE_121 zsC_121 zsO_121 ∧ X 2 x1 0 (x3 + 8) 0 zsE_121 zsC_121 zsO_121)))))
def S_HelpFile_put (zsn : Nat) (res : Int32) (zsE' : Nat → Int32) (zsC' : Int32) (zsO' : Bool) (X : Nat → Int32 → Int32 → Int32 → Int32 → (Nat → Int32) → Int32 → Bool → Prop) : Nat → Int32 → Int32 → Int32 → Int32 → (Nat → Int32) → Int32 → Bool → Prop := fun q_lab x1 x2 x3 x4 zsE zsC zsO => match q_lab with | 0 => B_HelpFile_put_4 zsn res zsE' zsC' zsO' X x1 x2 x3 zsE zsC zsO | 1 => B_HelpFile_put_49 zsn res zsE' zsC' zsO' X x1 x2 x3 x4 zsE zsC zsO | 2 => B_HelpFile_put_95 zsn res zsE' zsC' zsO' X x1 x3 zsE zsC zsO | _ => False
def T_HelpFile_put (zsn : Nat) (res : Int32) (zsE' : Nat → Int32) (zsC' : Int32) (zsO' : Bool) : Nat → (Nat → Int32 → Int32 → Int32 → Int32 → (Nat → Int32) → Int32 → Bool → Prop)
  | 0 => fun _ _ _ _ _ _ _ _ => False
  | n + 1 => S_HelpFile_put zsn res zsE' zsC' zsO' (T_HelpFile_put zsn res zsE' zsC' zsO' n)
def D_HelpFile_put (zsn : Nat) (k0 : Int32) (zsE : Nat → Int32) (zsC : Int32) (zsO : Bool) (res : Int32) (zsE' : Nat → Int32) (zsC' : Int32) (zsO' : Bool) : Prop := ∃ n : Nat, T_HelpFile_put zsn res zsE' zsC' zsO' n 0 k0 0 0 0 zsE zsC zsO
theorem d_HelpFile_put_0 : decode b_HelpFile_put 0 = .ok (.iconst 0, 1) := by decide +kernel
theorem d_HelpFile_put_1 : decode b_HelpFile_put 1 = .ok (.istore_n 2, 1) := by decide +kernel
theorem d_HelpFile_put_2 : decode b_HelpFile_put 2 = .ok (.iconst 0, 1) := by decide +kernel
theorem d_HelpFile_put_3 : decode b_HelpFile_put 3 = .ok (.istore_n 3, 1) := by decide +kernel
theorem d_HelpFile_put_4 : decode b_HelpFile_put 4 = .ok (.iload_n 3, 1) := by decide +kernel
theorem d_HelpFile_put_5 : decode b_HelpFile_put 5 = .ok (.bipush 32, 2) := by decide +kernel
theorem d_HelpFile_put_7 : decode b_HelpFile_put 7 = .ok (.if_icmp .ge 61, 3) := by decide +kernel
theorem d_HelpFile_put_10 : decode b_HelpFile_put 10 = .ok (.iload_n 1, 1) := by decide +kernel
theorem d_HelpFile_put_11 : decode b_HelpFile_put 11 = .ok (.iload_n 3, 1) := by decide +kernel
theorem d_HelpFile_put_12 : decode b_HelpFile_put 12 = .ok (.iushr, 1) := by decide +kernel
theorem d_HelpFile_put_13 : decode b_HelpFile_put 13 = .ok (.sipush 255, 3) := by decide +kernel
theorem d_HelpFile_put_16 : decode b_HelpFile_put 16 = .ok (.iand, 1) := by decide +kernel
theorem d_HelpFile_put_17 : decode b_HelpFile_put 17 = .ok (.istore 4, 2) := by decide +kernel
theorem d_HelpFile_put_19 : decode b_HelpFile_put 19 = .ok (.iload 4, 2) := by decide +kernel
theorem d_HelpFile_put_21 : decode b_HelpFile_put 21 = .ok (.ifCond .eq 28, 3) := by decide +kernel
theorem d_HelpFile_put_24 : decode b_HelpFile_put 24 = .ok (.iload 4, 2) := by decide +kernel
theorem d_HelpFile_put_26 : decode b_HelpFile_put 26 = .ok (.bipush 10, 2) := by decide +kernel
theorem d_HelpFile_put_28 : decode b_HelpFile_put 28 = .ok (.if_icmp .eq 21, 3) := by decide +kernel
theorem d_HelpFile_put_31 : decode b_HelpFile_put 31 = .ok (.iload 4, 2) := by decide +kernel
theorem d_HelpFile_put_33 : decode b_HelpFile_put 33 = .ok (.invokestatic 83, 3) := by decide +kernel
theorem d_HelpFile_put_36 : decode b_HelpFile_put 36 = .ok (.ifCond .ne 13, 3) := by decide +kernel
theorem d_HelpFile_put_39 : decode b_HelpFile_put 39 = .ok (.new 87, 3) := by decide +kernel
theorem d_HelpFile_put_49 : decode b_HelpFile_put 49 = .ok (.iload_n 2, 1) := by decide +kernel
theorem d_HelpFile_put_50 : decode b_HelpFile_put 50 = .ok (.iload 4, 2) := by decide +kernel
theorem d_HelpFile_put_52 : decode b_HelpFile_put 52 = .ok (.ifCond .ne 7, 3) := by decide +kernel
theorem d_HelpFile_put_55 : decode b_HelpFile_put 55 = .ok (.iconst 0, 1) := by decide +kernel
theorem d_HelpFile_put_56 : decode b_HelpFile_put 56 = .ok (.goto 4, 3) := by decide +kernel
theorem d_HelpFile_put_59 : decode b_HelpFile_put 59 = .ok (.iconst 1, 1) := by decide +kernel
theorem d_HelpFile_put_60 : decode b_HelpFile_put 60 = .ok (.iadd, 1) := by decide +kernel
theorem d_HelpFile_put_61 : decode b_HelpFile_put 61 = .ok (.istore_n 2, 1) := by decide +kernel
theorem d_HelpFile_put_62 : decode b_HelpFile_put 62 = .ok (.iinc 3 8, 3) := by decide +kernel
theorem d_HelpFile_put_65 : decode b_HelpFile_put 65 = .ok (.goto (-61), 3) := by decide +kernel
theorem d_HelpFile_put_68 : decode b_HelpFile_put 68 = .ok (.aload_n 0, 1) := by decide +kernel
theorem d_HelpFile_put_69 : decode b_HelpFile_put 69 = .ok (.getfield 14, 3) := by decide +kernel
theorem d_HelpFile_put_72 : decode b_HelpFile_put 72 = .ok (.invokevirtual 94, 3) := by decide +kernel
theorem d_HelpFile_put_75 : decode b_HelpFile_put 75 = .ok (.iload_n 2, 1) := by decide +kernel
theorem d_HelpFile_put_76 : decode b_HelpFile_put 76 = .ok (.iadd, 1) := by decide +kernel
theorem d_HelpFile_put_77 : decode b_HelpFile_put 77 = .ok (.sipush 700, 3) := by decide +kernel
theorem d_HelpFile_put_80 : decode b_HelpFile_put 80 = .ok (.if_icmp .le 13, 3) := by decide +kernel
theorem d_HelpFile_put_83 : decode b_HelpFile_put 83 = .ok (.new 98, 3) := by decide +kernel
theorem d_HelpFile_put_93 : decode b_HelpFile_put 93 = .ok (.iconst 0, 1) := by decide +kernel
theorem d_HelpFile_put_94 : decode b_HelpFile_put 94 = .ok (.istore_n 3, 1) := by decide +kernel
theorem d_HelpFile_put_95 : decode b_HelpFile_put 95 = .ok (.iload_n 3, 1) := by decide +kernel
theorem d_HelpFile_put_96 : decode b_HelpFile_put 96 = .ok (.bipush 32, 2) := by decide +kernel
theorem d_HelpFile_put_98 : decode b_HelpFile_put 98 = .ok (.if_icmp .ge 32, 3) := by decide +kernel
theorem d_HelpFile_put_101 : decode b_HelpFile_put 101 = .ok (.iload_n 1, 1) := by decide +kernel
theorem d_HelpFile_put_102 : decode b_HelpFile_put 102 = .ok (.iload_n 3, 1) := by decide +kernel
theorem d_HelpFile_put_103 : decode b_HelpFile_put 103 = .ok (.iushr, 1) := by decide +kernel
theorem d_HelpFile_put_104 : decode b_HelpFile_put 104 = .ok (.sipush 255, 3) := by decide +kernel
theorem d_HelpFile_put_107 : decode b_HelpFile_put 107 = .ok (.iand, 1) := by decide +kernel
theorem d_HelpFile_put_108 : decode b_HelpFile_put 108 = .ok (.istore 4, 2) := by decide +kernel
theorem d_HelpFile_put_110 : decode b_HelpFile_put 110 = .ok (.iload 4, 2) := by decide +kernel
theorem d_HelpFile_put_112 : decode b_HelpFile_put 112 = .ok (.ifCond .eq 12, 3) := by decide +kernel
theorem d_HelpFile_put_115 : decode b_HelpFile_put 115 = .ok (.aload_n 0, 1) := by decide +kernel
theorem d_HelpFile_put_116 : decode b_HelpFile_put 116 = .ok (.getfield 14, 3) := by decide +kernel
theorem d_HelpFile_put_119 : decode b_HelpFile_put 119 = .ok (.iload 4, 2) := by decide +kernel
theorem d_HelpFile_put_121 : decode b_HelpFile_put 121 = .ok (.invokevirtual 103, 3) := by decide +kernel
theorem d_HelpFile_put_124 : decode b_HelpFile_put 124 = .ok (.iinc 3 8, 3) := by decide +kernel
theorem d_HelpFile_put_127 : decode b_HelpFile_put 127 = .ok (.goto (-32), 3) := by decide +kernel
theorem d_HelpFile_put_130 : decode b_HelpFile_put 130 = .ok (.aload_n 0, 1) := by decide +kernel
theorem d_HelpFile_put_131 : decode b_HelpFile_put 131 = .ok (.getfield 14, 3) := by decide +kernel
theorem d_HelpFile_put_134 : decode b_HelpFile_put 134 = .ok (.invokevirtual 94, 3) := by decide +kernel
theorem d_HelpFile_put_137 : decode b_HelpFile_put 137 = .ok (.ireturn, 1) := by decide +kernel
set_option maxHeartbeats 4000000 in
set_option maxRecDepth 100000 in
theorem c_HelpFile_put (l : Launch) (dC : Nat → ClassId) (dI : Nat → Nat → Nat) (cI cL cZ : ClassId) (hf : Nat) (hfI : Value) (hfR : Value) (hfT : Value) (hfC : Value) (hfE : Value) (hfV : Value) (hfQ : Value) (hfN : Value) (hfD : Value) (hfB : Value) (hfO : Bool) (hfF : Int32) (hfY : Int32) (zs : Nat) (zsEa : Nat) (zsn : Nat) (zsE : Nat → Int32) (zsC : Int32) (zsO : Bool) (k0 : Int32) (res : Int32) (zsE' : Nat → Int32) (zsC' : Int32) (zsO' : Bool) (hd : D_HelpFile_put zsn k0 zsE zsC zsO res zsE' zsC' zsO') : Ctr l y_HelpFile_put (Cond.code y_HelpFile_put b_HelpFile_put 5 (some .int) :: ga) { frames := 1, cells := 0, slots := 0, locals := 21 } (dC, dI) classes (Tys cI cL cZ) [.ref hf, .int k0] ((sh_HelpFile cI cL cZ hf (.ref zs) hfI hfR hfT hfC hfE hfV hfQ hfN hfD hfB hfO hfF hfY) ++ ((sh_Row cI cL cZ zs zsEa zsn zsE zsC zsO))) (some (.int res)) ((sh_HelpFile cI cL cZ hf (.ref zs) hfI hfR hfT hfC hfE hfV hfQ hfN hfD hfB hfO hfF hfY) ++ ((sh_Row cI cL cZ zs zsEa zsn zsE' zsC' zsO'))) := by
  refine Ctr.ofW (by decide) (Nat.le_of_ble_eq_true rfl) ?_
  intro p e s m below meth c A ls hx hb hr hml hown hlocks hts hK hN hA hP hD hS hl
  have hown : s.vm.findClass R_HelpFile = some m.cls := hown
  have hl : lv_has ls 5 [(0, .ref hf), (1, .int k0)] := hl
  have key : ∀ n : Nat, (∀ (x1 : Int32) (x2 : Int32) (x3 : Int32) (zsE : Nat → Int32) (zsC : Int32) (zsO : Bool) (ls : Array Slot) (H : Heap) (locs : List Loc), lv_has ls 5 [(0, .ref hf), (1, .int x1), (2, .int x2), (3, .int x3)] → va_P (dC, dI) classes ((sh_HelpFile cI cL cZ hf (.ref zs) hfI hfR hfT hfC hfE hfV hfQ hfN hfD hfB hfO hfF hfY) ++ ((sh_Row cI cL cZ zs zsEa zsn zsE zsC zsO))) H → va_D A ((sh_HelpFile cI cL cZ hf (.ref zs) hfI hfR hfT hfC hfE hfV hfQ hfN hfD hfB hfO hfF hfY) ++ ((sh_Row cI cL cZ zs zsEa zsn zsE zsC zsO))) → va_S A s.heap H locs → T_HelpFile_put zsn res zsE' zsC' zsO' n 0 x1 x2 x3 0 zsE zsC zsO → W p l e ({ frames := 1, cells := 0, slots := 0, locals := 21 }) s m ([.ref hf, .int k0] : List Value).toArray below meth c H locs 0 0 (MQ below (Qs (dC, dI) classes (Tys cI cL cZ) (some (.int res)) ((sh_HelpFile cI cL cZ hf (.ref zs) hfI hfR hfT hfC hfE hfV hfQ hfN hfD hfB hfO hfF hfY) ++ ((sh_Row cI cL cZ zs zsEa zsn zsE' zsC' zsO'))) A) ([.ref hf, .int k0] : List Value).toArray s 0 0 A) (F0 m 4 ls [])) ∧ (∀ (x1 : Int32) (x2 : Int32) (x3 : Int32) (x4 : Int32) (zsE : Nat → Int32) (zsC : Int32) (zsO : Bool) (ls : Array Slot) (H : Heap) (locs : List Loc), lv_has ls 5 [(0, .ref hf), (1, .int x1), (2, .int x2), (3, .int x3), (4, .int x4)] → va_P (dC, dI) classes ((sh_HelpFile cI cL cZ hf (.ref zs) hfI hfR hfT hfC hfE hfV hfQ hfN hfD hfB hfO hfF hfY) ++ ((sh_Row cI cL cZ zs zsEa zsn zsE zsC zsO))) H → va_D A ((sh_HelpFile cI cL cZ hf (.ref zs) hfI hfR hfT hfC hfE hfV hfQ hfN hfD hfB hfO hfF hfY) ++ ((sh_Row cI cL cZ zs zsEa zsn zsE zsC zsO))) → va_S A s.heap H locs → T_HelpFile_put zsn res zsE' zsC' zsO' n 1 x1 x2 x3 x4 zsE zsC zsO → W p l e ({ frames := 1, cells := 0, slots := 0, locals := 21 }) s m ([.ref hf, .int k0] : List Value).toArray below meth c H locs 0 0 (MQ below (Qs (dC, dI) classes (Tys cI cL cZ) (some (.int res)) ((sh_HelpFile cI cL cZ hf (.ref zs) hfI hfR hfT hfC hfE hfV hfQ hfN hfD hfB hfO hfF hfY) ++ ((sh_Row cI cL cZ zs zsEa zsn zsE' zsC' zsO'))) A) ([.ref hf, .int k0] : List Value).toArray s 0 0 A) (F0 m 49 ls [])) ∧ (∀ (x1 : Int32) (x3 : Int32) (zsE : Nat → Int32) (zsC : Int32) (zsO : Bool) (ls : Array Slot) (H : Heap) (locs : List Loc), lv_has ls 5 [(0, .ref hf), (1, .int x1), (3, .int x3)] → va_P (dC, dI) classes ((sh_HelpFile cI cL cZ hf (.ref zs) hfI hfR hfT hfC hfE hfV hfQ hfN hfD hfB hfO hfF hfY) ++ ((sh_Row cI cL cZ zs zsEa zsn zsE zsC zsO))) H → va_D A ((sh_HelpFile cI cL cZ hf (.ref zs) hfI hfR hfT hfC hfE hfV hfQ hfN hfD hfB hfO hfF hfY) ++ ((sh_Row cI cL cZ zs zsEa zsn zsE zsC zsO))) → va_S A s.heap H locs → T_HelpFile_put zsn res zsE' zsC' zsO' n 2 x1 0 x3 0 zsE zsC zsO → W p l e ({ frames := 1, cells := 0, slots := 0, locals := 21 }) s m ([.ref hf, .int k0] : List Value).toArray below meth c H locs 0 0 (MQ below (Qs (dC, dI) classes (Tys cI cL cZ) (some (.int res)) ((sh_HelpFile cI cL cZ hf (.ref zs) hfI hfR hfT hfC hfE hfV hfQ hfN hfD hfB hfO hfF hfY) ++ ((sh_Row cI cL cZ zs zsEa zsn zsE' zsC' zsO'))) A) ([.ref hf, .int k0] : List Value).toArray s 0 0 A) (F0 m 95 ls [])) := by
    intro n
    induction n with
    | zero =>
      exact ⟨fun _ _ _ _ _ _ _ _ _ _ _ _ _ hd => False.elim hd, fun _ _ _ _ _ _ _ _ _ _ _ _ _ _ hd => False.elim hd, fun _ _ _ _ _ _ _ _ _ _ _ _ hd => False.elim hd⟩
    | succ n ih =>
      refine ⟨?_, ?_, ?_⟩
      · intro x1 x2 x3 zsE zsC zsO ls H locs hl hP hD hS hd
        have hd : B_HelpFile_put_4 zsn res zsE' zsC' zsO' (T_HelpFile_put zsn res zsE' zsC' zsO' n) x1 x2 x3 zsE zsC zsO := hd
        refine lv_iload_n hx hb d_HelpFile_put_4 rfl (lv_at hl 3 rfl) ?_
        refine lv_bipush (v := 32) hx hb d_HelpFile_put_5 (by decide) ?_
        refine lv_icmp_ge (tgt := 68) hx hb d_HelpFile_put_7 (by decide) (fun h7 => ?_) (fun h7 => ?_)
        · have hd := hd.1 h7
          refine lv_aload_n hx hb d_HelpFile_put_68 rfl (lv_at hl 0 rfl) ?_
          refine va_get (D := (dC, dI)) (ci := 0) (v := .ref zs) (C := R_HelpFile) (T := F_HelpFile) (N := 14) hx hb hts in_HelpFile hown hK hP 0 rfl rfl 0 (by decide) (hts _ (List.mem_cons_of_mem _ k366_fieldLink)) (fun _ h9 => h9) rfl d_HelpFile_put_69 ?_
          refine ct_VR (As := []) (rest := []) (C := R_Row) (ci := 1) (q := (R_Row, F_Row, 3)) ⟨hx, hb, hml, hown, hts⟩ fm_Row_count (c_Row_count l dC dI cI cL cZ zs zsEa zsn zsE zsC zsO zsC rfl) k405_methodLink k67_instanceMethod k68_selects ⟨Nat.le_of_ble_eq_true rfl, Nat.le_of_ble_eq_true rfl⟩ rfl rfl hK hN hP hD [1, 2] rfl rfl (by decide) 1 rfl rfl rfl rfl hl.1 rfl (Nat.le_of_ble_eq_true rfl) d_HelpFile_put_72 ?_
          refine lv_iload_n hx hb d_HelpFile_put_75 rfl (lv_at hl 2 rfl) ?_
          refine lv_iadd hx hb d_HelpFile_put_76 ?_
          refine lv_sipush (v := 700) hx hb d_HelpFile_put_77 (by decide) ?_
          refine lv_icmp_le (tgt := 93) hx hb d_HelpFile_put_80 (by decide) (fun h80 => ?_) (fun h80 => ?_)
          · have hd := hd.1 h80
            refine lv_iconst (v := 0) hx hb d_HelpFile_put_93 (by decide) ?_
            refine lv_istore_n (lv' := [(3, .int 0), (0, .ref hf), (1, .int x1), (2, .int x2)]) hx hb d_HelpFile_put_94 rfl hl (by decide) rfl (fun ls hl => ?_)
            exact ih.2.2 x1 0 zsE zsC zsO _ _ _ (lv_sub hl [1, 2, 0] rfl) hP hD hS hd
          · have hd := hd.2 h80
            exact False.elim hd
        · have hd := hd.2 h7
          refine lv_iload_n hx hb d_HelpFile_put_10 rfl (lv_at hl 1 rfl) ?_
          refine lv_iload_n hx hb d_HelpFile_put_11 rfl (lv_at hl 3 rfl) ?_
          refine lv_iushr (v := (Int32.toUInt32 x1 >>> (Int32.toUInt32 x3 &&& Int32.toUInt32 31)).toInt32) hx hb d_HelpFile_put_12 rfl ?_
          refine lv_sipush (v := 255) hx hb d_HelpFile_put_13 (by decide) ?_
          refine lv_iand hx hb d_HelpFile_put_16 ?_
          refine lv_istore (lv' := [(4, .int (((Int32.toUInt32 x1 >>> (Int32.toUInt32 x3 &&& Int32.toUInt32 31)).toInt32) &&& 255)), (0, .ref hf), (1, .int x1), (2, .int x2), (3, .int x3)]) hx hb d_HelpFile_put_17 hl (by decide) rfl (fun ls hl => ?_)
          refine lv_iload hx hb d_HelpFile_put_19 (lv_at hl 0 rfl) ?_
          refine lv_if_eq (tgt := 49) hx hb d_HelpFile_put_21 (by decide) (fun h21 => ?_) (fun h21 => ?_)
          · have hd := hd.1 h21
            exact ih.2.1 x1 x2 x3 (((Int32.toUInt32 x1 >>> (Int32.toUInt32 x3 &&& Int32.toUInt32 31)).toInt32) &&& 255) zsE zsC zsO _ _ _ (lv_sub hl [1, 2, 3, 4, 0] rfl) hP hD hS hd
          · have hd := hd.2 h21
            refine lv_iload hx hb d_HelpFile_put_24 (lv_at hl 0 rfl) ?_
            refine lv_bipush (v := 10) hx hb d_HelpFile_put_26 (by decide) ?_
            refine lv_icmp_eq (tgt := 49) hx hb d_HelpFile_put_28 (by decide) (fun h28 => ?_) (fun h28 => ?_)
            · have hd := hd.1 h28
              exact ih.2.1 x1 x2 x3 (((Int32.toUInt32 x1 >>> (Int32.toUInt32 x3 &&& Int32.toUInt32 31)).toInt32) &&& 255) zsE zsC zsO _ _ _ (lv_sub hl [1, 2, 3, 4, 0] rfl) hP hD hS hd
            · have hd := hd.2 h28
              refine lv_iload hx hb d_HelpFile_put_31 (lv_at hl 0 rfl) ?_
              obtain ⟨r33, c33, hd⟩ := hd
              refine ct_SR (As := [.int (((Int32.toUInt32 x1 >>> (Int32.toUInt32 x3 &&& Int32.toUInt32 31)).toInt32) &&& 255)]) (rest := []) ⟨hx, hb, hml, hown, hts⟩ fm_HelpFile_isTyped (c_HelpFile_isTyped l dC dI cI cL cZ (((Int32.toUInt32 x1 >>> (Int32.toUInt32 x3 &&& Int32.toUInt32 31)).toInt32) &&& 255) r33 c33) k406_methodLink k87_static ⟨Nat.le_of_ble_eq_true rfl, Nat.le_of_ble_eq_true rfl⟩ rfl rfl hK hN hP hD [] rfl rfl (by decide) rfl hl.1 rfl (Nat.le_of_ble_eq_true rfl) d_HelpFile_put_33 ?_
              refine lv_if_ne (tgt := 49) hx hb d_HelpFile_put_36 (by decide) (fun h36 => ?_) (fun h36 => ?_)
              · have hd := hd.2 h36
                exact ih.2.1 x1 x2 x3 (((Int32.toUInt32 x1 >>> (Int32.toUInt32 x3 &&& Int32.toUInt32 31)).toInt32) &&& 255) zsE zsC zsO _ _ _ (lv_sub hl [1, 2, 3, 4, 0] rfl) hP hD hS hd
              · have hd := hd.1 h36
                exact False.elim hd
      · intro x1 x2 x3 x4 zsE zsC zsO ls H locs hl hP hD hS hd
        have hd : B_HelpFile_put_49 zsn res zsE' zsC' zsO' (T_HelpFile_put zsn res zsE' zsC' zsO' n) x1 x2 x3 x4 zsE zsC zsO := hd
        refine lv_iload_n hx hb d_HelpFile_put_49 rfl (lv_at hl 2 rfl) ?_
        refine lv_iload hx hb d_HelpFile_put_50 (lv_at hl 4 rfl) ?_
        refine lv_if_ne (tgt := 59) hx hb d_HelpFile_put_52 (by decide) (fun h52 => ?_) (fun h52 => ?_)
        · have hd := hd.2 h52
          refine lv_iconst (v := 1) hx hb d_HelpFile_put_59 (by decide) ?_
          refine lv_iadd hx hb d_HelpFile_put_60 ?_
          refine lv_istore_n (lv' := [(2, .int (x2 + 1)), (0, .ref hf), (1, .int x1), (3, .int x3), (4, .int x4)]) hx hb d_HelpFile_put_61 rfl hl (by decide) rfl (fun ls hl => ?_)
          refine lv_iinc (k := 3) (v := x3 + 8) (lv' := [(3, .int (x3 + 8)), (2, .int (x2 + 1)), (0, .ref hf), (1, .int x1), (4, .int x4)]) hx hb d_HelpFile_put_62 hl rfl (congrArg (fun z => x3 + z) (by decide)) (by decide) rfl (fun ls hl => ?_)
          refine lv_goto (tgt := 4) hx hb d_HelpFile_put_65 (by decide) ?_
          exact ih.1 x1 (x2 + 1) (x3 + 8) zsE zsC zsO _ _ _ (lv_sub hl [2, 3, 1, 0] rfl) hP hD hS hd
        · have hd := hd.1 h52
          refine lv_iconst (v := 0) hx hb d_HelpFile_put_55 (by decide) ?_
          refine lv_goto (tgt := 60) hx hb d_HelpFile_put_56 (by decide) ?_
          refine lv_iadd hx hb d_HelpFile_put_60 ?_
          refine lv_istore_n (lv' := [(2, .int (x2 + 0)), (0, .ref hf), (1, .int x1), (3, .int x3), (4, .int x4)]) hx hb d_HelpFile_put_61 rfl hl (by decide) rfl (fun ls hl => ?_)
          refine lv_iinc (k := 3) (v := x3 + 8) (lv' := [(3, .int (x3 + 8)), (2, .int (x2 + 0)), (0, .ref hf), (1, .int x1), (4, .int x4)]) hx hb d_HelpFile_put_62 hl rfl (congrArg (fun z => x3 + z) (by decide)) (by decide) rfl (fun ls hl => ?_)
          refine lv_goto (tgt := 4) hx hb d_HelpFile_put_65 (by decide) ?_
          exact ih.1 x1 (x2 + 0) (x3 + 8) zsE zsC zsO _ _ _ (lv_sub hl [2, 3, 1, 0] rfl) hP hD hS hd
      · intro x1 x3 zsE zsC zsO ls H locs hl hP hD hS hd
        have hd : B_HelpFile_put_95 zsn res zsE' zsC' zsO' (T_HelpFile_put zsn res zsE' zsC' zsO' n) x1 x3 zsE zsC zsO := hd
        refine lv_iload_n hx hb d_HelpFile_put_95 rfl (lv_at hl 2 rfl) ?_
        refine lv_bipush (v := 32) hx hb d_HelpFile_put_96 (by decide) ?_
        refine lv_icmp_ge (tgt := 130) hx hb d_HelpFile_put_98 (by decide) (fun h98 => ?_) (fun h98 => ?_)
        · have hd := hd.1 h98
          refine lv_aload_n hx hb d_HelpFile_put_130 rfl (lv_at hl 0 rfl) ?_
          refine va_get (D := (dC, dI)) (ci := 0) (v := .ref zs) (C := R_HelpFile) (T := F_HelpFile) (N := 14) hx hb hts in_HelpFile hown hK hP 0 rfl rfl 0 (by decide) (hts _ (List.mem_cons_of_mem _ k366_fieldLink)) (fun _ h9 => h9) rfl d_HelpFile_put_131 ?_
          refine ct_VR (As := []) (rest := []) (C := R_Row) (ci := 1) (q := (R_Row, F_Row, 3)) ⟨hx, hb, hml, hown, hts⟩ fm_Row_count (c_Row_count l dC dI cI cL cZ zs zsEa zsn zsE zsC zsO zsC rfl) k405_methodLink k67_instanceMethod k68_selects ⟨Nat.le_of_ble_eq_true rfl, Nat.le_of_ble_eq_true rfl⟩ rfl rfl hK hN hP hD [1, 2] rfl rfl (by decide) 1 rfl rfl rfl rfl hl.1 rfl (Nat.le_of_ble_eq_true rfl) d_HelpFile_put_134 ?_
          obtain ⟨e0, e1, e2, e3⟩ := hd
          subst e0
          subst e1
          subst e2
          subst e3
          exact ct_iret hx hb hr hlocks hK hP hD hS d_HelpFile_put_137
        · have hd := hd.2 h98
          refine lv_iload_n hx hb d_HelpFile_put_101 rfl (lv_at hl 1 rfl) ?_
          refine lv_iload_n hx hb d_HelpFile_put_102 rfl (lv_at hl 2 rfl) ?_
          refine lv_iushr (v := (Int32.toUInt32 x1 >>> (Int32.toUInt32 x3 &&& Int32.toUInt32 31)).toInt32) hx hb d_HelpFile_put_103 rfl ?_
          refine lv_sipush (v := 255) hx hb d_HelpFile_put_104 (by decide) ?_
          refine lv_iand hx hb d_HelpFile_put_107 ?_
          refine lv_istore (lv' := [(4, .int (((Int32.toUInt32 x1 >>> (Int32.toUInt32 x3 &&& Int32.toUInt32 31)).toInt32) &&& 255)), (0, .ref hf), (1, .int x1), (3, .int x3)]) hx hb d_HelpFile_put_108 hl (by decide) rfl (fun ls hl => ?_)
          refine lv_iload hx hb d_HelpFile_put_110 (lv_at hl 0 rfl) ?_
          refine lv_if_eq (tgt := 124) hx hb d_HelpFile_put_112 (by decide) (fun h112 => ?_) (fun h112 => ?_)
          · have hd := hd.1 h112
            refine lv_iinc (k := 3) (v := x3 + 8) (lv' := [(3, .int (x3 + 8)), (4, .int (((Int32.toUInt32 x1 >>> (Int32.toUInt32 x3 &&& Int32.toUInt32 31)).toInt32) &&& 255)), (0, .ref hf), (1, .int x1)]) hx hb d_HelpFile_put_124 hl rfl (congrArg (fun z => x3 + z) (by decide)) (by decide) rfl (fun ls hl => ?_)
            refine lv_goto (tgt := 95) hx hb d_HelpFile_put_127 (by decide) ?_
            exact ih.2.2 x1 (x3 + 8) zsE zsC zsO _ _ _ (lv_sub hl [2, 3, 0] rfl) hP hD hS hd
          · have hd := hd.2 h112
            refine lv_aload_n hx hb d_HelpFile_put_115 rfl (lv_at hl 1 rfl) ?_
            refine va_get (D := (dC, dI)) (ci := 0) (v := .ref zs) (C := R_HelpFile) (T := F_HelpFile) (N := 14) hx hb hts in_HelpFile hown hK hP 0 rfl rfl 0 (by decide) (hts _ (List.mem_cons_of_mem _ k366_fieldLink)) (fun _ h9 => h9) rfl d_HelpFile_put_116 ?_
            refine lv_iload hx hb d_HelpFile_put_119 (lv_at hl 0 rfl) ?_
            obtain ⟨zsE_121, zsC_121, zsO_121, c121, hd⟩ := hd
            refine ct_V (As := [.int (((Int32.toUInt32 x1 >>> (Int32.toUInt32 x3 &&& Int32.toUInt32 31)).toInt32) &&& 255)]) (rest := []) (C := R_Row) (ci := 1) (q := (R_Row, F_Row, 3)) ⟨hx, hb, hml, hown, hts⟩ fm_Row_append (c_Row_append l dC dI cI cL cZ zs zsEa zsn zsE zsC zsO (((Int32.toUInt32 x1 >>> (Int32.toUInt32 x3 &&& Int32.toUInt32 31)).toInt32) &&& 255) zsE_121 zsC_121 zsO_121 c121) k407_methodLink k8_instanceMethod k9_selects ⟨Nat.le_of_ble_eq_true rfl, Nat.le_of_ble_eq_true rfl⟩ rfl rfl hK hN hP hD hS hA [1, 2] [0] rfl rfl rfl (by decide) (by decide) (by decide) 1 rfl rfl rfl rfl hl.1 rfl (Nat.le_of_ble_eq_true rfl) d_HelpFile_put_121 (fun H locs hP hD hS => ?_)
            have hP : va_P (dC, dI) classes ((sh_HelpFile cI cL cZ hf (.ref zs) hfI hfR hfT hfC hfE hfV hfQ hfN hfD hfB hfO hfF hfY) ++ ((sh_Row cI cL cZ zs zsEa zsn zsE_121 zsC_121 zsO_121))) H := hP.sub [0, 1, 2] rfl
            have hD : va_D A ((sh_HelpFile cI cL cZ hf (.ref zs) hfI hfR hfT hfC hfE hfV hfQ hfN hfD hfB hfO hfF hfY) ++ ((sh_Row cI cL cZ zs zsEa zsn zsE_121 zsC_121 zsO_121))) := hD.sub [0, 1, 2] (by decide) rfl
            refine lv_iinc (k := 3) (v := x3 + 8) (lv' := [(3, .int (x3 + 8)), (4, .int (((Int32.toUInt32 x1 >>> (Int32.toUInt32 x3 &&& Int32.toUInt32 31)).toInt32) &&& 255)), (0, .ref hf), (1, .int x1)]) hx hb d_HelpFile_put_124 hl rfl (congrArg (fun z => x3 + z) (by decide)) (by decide) rfl (fun ls hl => ?_)
            refine lv_goto (tgt := 95) hx hb d_HelpFile_put_127 (by decide) ?_
            exact ih.2.2 x1 (x3 + 8) zsE_121 zsC_121 zsO_121 _ _ _ (lv_sub hl [2, 3, 0] rfl) hP hD hS hd
  obtain ⟨n, hd⟩ := hd
  refine lv_iconst (v := 0) hx hb d_HelpFile_put_0 (by decide) ?_
  refine lv_istore_n (lv' := [(2, .int 0), (0, .ref hf), (1, .int k0)]) hx hb d_HelpFile_put_1 rfl hl (by decide) rfl (fun ls hl => ?_)
  refine lv_iconst (v := 0) hx hb d_HelpFile_put_2 (by decide) ?_
  refine lv_istore_n (lv' := [(3, .int 0), (2, .int 0), (0, .ref hf), (1, .int k0)]) hx hb d_HelpFile_put_3 rfl hl (by decide) rfl (fun ls hl => ?_)
  exact (key n).1 k0 0 0 zsE zsC zsO _ _ _ (lv_sub hl [2, 3, 1, 0] rfl) hP hD hS hd
set_option maxRecDepth 100000 in
theorem oa_1 : thOk (Bundle.ownAtoms "HelpFile" 102 "java/lang/UnsupportedOperationException" ["java/lang/RuntimeException", "java/lang/Exception"]) := thOk_of [11, 672, 681, 687, 690, 692, 673, 674, 30, 31, 675, 680, 688, 708, 662, 709, 664, 710, 666, 676, 678, 668, 704, 705, 707, 668, 732, 733, 734, 698, 698, 699, 700, 701, 701, 702, 703, 704, 731, 722, 724, 685, 725, 726, 727, 728, 671, 670, 729] (by decide +kernel) (by decide +kernel) (by decide +kernel)
theorem k408_classLink : Cond.classLink "HelpFile" 98 "java/lang/UnsupportedOperationException" ∈ ga := ga_t 721 (by decide +kernel) rfl
theorem k409_instantiable : Cond.instantiable "java/lang/UnsupportedOperationException" 6 ∈ ga := ga_t 722 (by decide +kernel) rfl
theorem k410_initialized : Cond.initialized "java/lang/UnsupportedOperationException" ∈ ga := ga_t 15 (by decide +kernel) rfl
set_option maxRecDepth 100000 in
theorem oa_2 : thOk (Bundle.ownAtoms "HelpFile" 91 "java/lang/IllegalArgumentException" ["java/lang/RuntimeException", "java/lang/Exception"]) := thOk_of [11, 672, 681, 687, 690, 692, 673, 674, 30, 31, 675, 680, 688, 708, 662, 709, 664, 710, 666, 676, 678, 668, 704, 705, 707, 668, 695, 696, 697, 698, 698, 699, 700, 701, 701, 702, 703, 704, 694, 651, 659, 660, 661, 663, 665, 667, 671, 670, 669] (by decide +kernel) (by decide +kernel) (by decide +kernel)
theorem k411_classLink : Cond.classLink "HelpFile" 87 "java/lang/IllegalArgumentException" ∈ ga := ga_t 650 (by decide +kernel) rfl
theorem k412_instantiable : Cond.instantiable "java/lang/IllegalArgumentException" 6 ∈ ga := ga_t 651 (by decide +kernel) rfl
theorem k413_initialized : Cond.initialized "java/lang/IllegalArgumentException" ∈ ga := ga_t 14 (by decide +kernel) rfl
def BX_HelpFile_put_4 (zsC : Int32) (xc : String) (X : Nat → Int32 → Int32 → Int32 → Int32 → Prop) (x1 : Int32) (x2 : Int32) (x3 : Int32) : Prop := ((32 ≤ x3 → (((zsC + x2) ≤ 700 → X 2 x1 0 0 0) ∧ (¬ ((zsC + x2) ≤ 700) → (xc = "java/lang/UnsupportedOperationException")))) ∧ (¬ (32 ≤ x3) → (((((Int32.toUInt32 x1 >>> (Int32.toUInt32 x3 &&& Int32.toUInt32 31)).toInt32) &&& 255) = 0 → X 1 x1 x2 x3 (((Int32.toUInt32 x1 >>> (Int32.toUInt32 x3 &&& Int32.toUInt32 31)).toInt32) &&& 255)) ∧ (¬ ((((Int32.toUInt32 x1 >>> (Int32.toUInt32 x3 &&& Int32.toUInt32 31)).toInt32) &&& 255) = 0) → (((((Int32.toUInt32 x1 >>> (Int32.toUInt32 x3 &&& Int32.toUInt32 31)).toInt32) &&& 255) = 10 → X 1 x1 x2 x3 (((Int32.toUInt32 x1 >>> (Int32.toUInt32 x3 &&& Int32.toUInt32 31)).toInt32) &&& 255)) ∧ (¬ ((((Int32.toUInt32 x1 >>> (Int32.toUInt32 x3 &&& Int32.toUInt32 31)).toInt32) &&& 255) = 10) → (∃ r33 : Bool, D_HelpFile_isTyped (((Int32.toUInt32 x1 >>> (Int32.toUInt32 x3 &&& Int32.toUInt32 31)).toInt32) &&& 255) r33 ∧ (((bI r33) = 0 → (xc = "java/lang/IllegalArgumentException")) ∧ (¬ ((bI r33) = 0) → X 1 x1 x2 x3 (((Int32.toUInt32 x1 >>> (Int32.toUInt32 x3 &&& Int32.toUInt32 31)).toInt32) &&& 255))))))))))
def BX_HelpFile_put_49 (zsC : Int32) (xc : String) (X : Nat → Int32 → Int32 → Int32 → Int32 → Prop) (x1 : Int32) (x2 : Int32) (x3 : Int32) (x4 : Int32) : Prop := ((x4 = 0 → X 0 x1 (x2 + 0) (x3 + 8) 0) ∧ (¬ (x4 = 0) → X 0 x1 (x2 + 1) (x3 + 8) 0))
def BX_HelpFile_put_95 (zsC : Int32) (xc : String) (X : Nat → Int32 → Int32 → Int32 → Int32 → Prop) (x1 : Int32) (x3 : Int32) : Prop := ((32 ≤ x3 → False) ∧ (¬ (32 ≤ x3) → (((((Int32.toUInt32 x1 >>> (Int32.toUInt32 x3 &&& Int32.toUInt32 31)).toInt32) &&& 255) = 0 → X 2 x1 0 (x3 + 8) 0) ∧ (¬ ((((Int32.toUInt32 x1 >>> (Int32.toUInt32 x3 &&& Int32.toUInt32 31)).toInt32) &&& 255) = 0) → False))))
def SX_HelpFile_put (zsC : Int32) (xc : String) (X : Nat → Int32 → Int32 → Int32 → Int32 → Prop) : Nat → Int32 → Int32 → Int32 → Int32 → Prop := fun q_lab x1 x2 x3 x4 => match q_lab with | 0 => BX_HelpFile_put_4 zsC xc X x1 x2 x3 | 1 => BX_HelpFile_put_49 zsC xc X x1 x2 x3 x4 | 2 => BX_HelpFile_put_95 zsC xc X x1 x3 | _ => False
def TX_HelpFile_put (zsC : Int32) (xc : String) : Nat → (Nat → Int32 → Int32 → Int32 → Int32 → Prop)
  | 0 => fun _ _ _ _ _ => False
  | n + 1 => SX_HelpFile_put zsC xc (TX_HelpFile_put zsC xc n)
def X_HelpFile_put (k0 : Int32) (zsC : Int32) (xc : String) : Prop := ∃ n : Nat, TX_HelpFile_put zsC xc n 0 k0 0 0 0
theorem d_HelpFile_put_42 : decode b_HelpFile_put 42 = .ok (.dup, 1) := by decide +kernel
theorem d_HelpFile_put_43 : decode b_HelpFile_put 43 = .ok (.ldc 89, 2) := by decide +kernel
theorem d_HelpFile_put_45 : decode b_HelpFile_put 45 = .ok (.invokespecial 91, 3) := by decide +kernel
theorem d_HelpFile_put_48 : decode b_HelpFile_put 48 = .ok (.athrow, 1) := by decide +kernel
theorem d_HelpFile_put_86 : decode b_HelpFile_put 86 = .ok (.dup, 1) := by decide +kernel
theorem d_HelpFile_put_87 : decode b_HelpFile_put 87 = .ok (.ldc 100, 2) := by decide +kernel
theorem d_HelpFile_put_89 : decode b_HelpFile_put 89 = .ok (.invokespecial 102, 3) := by decide +kernel
theorem d_HelpFile_put_92 : decode b_HelpFile_put 92 = .ok (.athrow, 1) := by decide +kernel
set_option maxHeartbeats 4000000 in
set_option maxRecDepth 100000 in
theorem x_HelpFile_put (l : Launch) (htr : ∀ e : Env, l.admits e → e.platform.stackTraces = false) (dC : Nat → ClassId) (dI : Nat → Nat → Nat) (cI cL cZ : ClassId) (hf : Nat) (hfI : Value) (hfR : Value) (hfT : Value) (hfC : Value) (hfE : Value) (hfV : Value) (hfQ : Value) (hfN : Value) (hfD : Value) (hfB : Value) (hfO : Bool) (hfF : Int32) (hfY : Int32) (zs : Nat) (zsEa : Nat) (zsn : Nat) (zsE : Nat → Int32) (zsC : Int32) (zsO : Bool) (k0 : Int32) (xc : String) (hd : X_HelpFile_put k0 zsC xc) : CtT l y_HelpFile_put (Cond.code y_HelpFile_put b_HelpFile_put 5 (some .int) :: ga) { frames := 6, cells := 1, slots := 6, locals := 82 } (dC, dI) classes (Tys cI cL cZ) [.ref hf, .int k0] ((sh_HelpFile cI cL cZ hf (.ref zs) hfI hfR hfT hfC hfE hfV hfQ hfN hfD hfB hfO hfF hfY) ++ ((sh_Row cI cL cZ zs zsEa zsn zsE zsC zsO))) xc := by
  refine CtT.ofW (by decide) (Nat.le_of_ble_eq_true rfl) ?_
  intro p e s m below meth c A ls hx hb hr hml hown hlocks hnh hts hK hN hZ hT hA hP hD hl
  have hown : s.vm.findClass R_HelpFile = some m.cls := hown
  have hl : lv_has ls 5 [(0, .ref hf), (1, .int k0)] := hl
  have key : ∀ n : Nat, (∀ (x1 : Int32) (x2 : Int32) (x3 : Int32) (ls : Array Slot), lv_has ls 5 [(0, .ref hf), (1, .int x1), (2, .int x2), (3, .int x3)] → TX_HelpFile_put zsC xc n 0 x1 x2 x3 0 → W p l e ({ frames := 6, cells := 1, slots := 6, locals := 82 }) s m ([.ref hf, .int k0] : List Value).toArray below meth c s.heap [] 0 0 (MX below (QT xc) ([.ref hf, .int k0] : List Value).toArray s) (F0 m 4 ls [])) ∧ (∀ (x1 : Int32) (x2 : Int32) (x3 : Int32) (x4 : Int32) (ls : Array Slot), lv_has ls 5 [(0, .ref hf), (1, .int x1), (2, .int x2), (3, .int x3), (4, .int x4)] → TX_HelpFile_put zsC xc n 1 x1 x2 x3 x4 → W p l e ({ frames := 6, cells := 1, slots := 6, locals := 82 }) s m ([.ref hf, .int k0] : List Value).toArray below meth c s.heap [] 0 0 (MX below (QT xc) ([.ref hf, .int k0] : List Value).toArray s) (F0 m 49 ls [])) ∧ (∀ (x1 : Int32) (x3 : Int32) (ls : Array Slot), lv_has ls 5 [(0, .ref hf), (1, .int x1), (3, .int x3)] → TX_HelpFile_put zsC xc n 2 x1 0 x3 0 → W p l e ({ frames := 6, cells := 1, slots := 6, locals := 82 }) s m ([.ref hf, .int k0] : List Value).toArray below meth c s.heap [] 0 0 (MX below (QT xc) ([.ref hf, .int k0] : List Value).toArray s) (F0 m 95 ls [])) := by
    intro n
    induction n with
    | zero =>
      exact ⟨fun _ _ _ _ _ hd => False.elim hd, fun _ _ _ _ _ _ hd => False.elim hd, fun _ _ _ _ hd => False.elim hd⟩
    | succ n ih =>
      refine ⟨?_, ?_, ?_⟩
      · intro x1 x2 x3 ls hl hd
        have hd : BX_HelpFile_put_4 zsC xc (TX_HelpFile_put zsC xc n) x1 x2 x3 := hd
        refine lv_iload_n hx hb d_HelpFile_put_4 rfl (lv_at hl 3 rfl) ?_
        refine lv_bipush (v := 32) hx hb d_HelpFile_put_5 (by decide) ?_
        refine lv_icmp_ge (tgt := 68) hx hb d_HelpFile_put_7 (by decide) (fun h7 => ?_) (fun h7 => ?_)
        · have hd := hd.1 h7
          refine lv_aload_n hx hb d_HelpFile_put_68 rfl (lv_at hl 0 rfl) ?_
          refine va_get (D := (dC, dI)) (ci := 0) (v := .ref zs) (C := R_HelpFile) (T := F_HelpFile) (N := 14) hx hb hts in_HelpFile hown hK hP 0 rfl rfl 0 (by decide) (hts _ (List.mem_cons_of_mem _ k366_fieldLink)) (fun _ h9 => h9) rfl d_HelpFile_put_69 ?_
          refine ct_VR (As := []) (rest := []) (C := R_Row) (ci := 1) (q := (R_Row, F_Row, 3)) ⟨hx, hb, hml, hown, hts⟩ fm_Row_count (c_Row_count l dC dI cI cL cZ zs zsEa zsn zsE zsC zsO zsC rfl) k405_methodLink k67_instanceMethod k68_selects ⟨Nat.le_of_ble_eq_true rfl, Nat.le_of_ble_eq_true rfl⟩ rfl rfl hK hN hP hD [1, 2] rfl rfl (by decide) 1 rfl rfl rfl rfl hl.1 rfl (Nat.le_of_ble_eq_true rfl) d_HelpFile_put_72 ?_
          refine lv_iload_n hx hb d_HelpFile_put_75 rfl (lv_at hl 2 rfl) ?_
          refine lv_iadd hx hb d_HelpFile_put_76 ?_
          refine lv_sipush (v := 700) hx hb d_HelpFile_put_77 (by decide) ?_
          refine lv_icmp_le (tgt := 93) hx hb d_HelpFile_put_80 (by decide) (fun h80 => ?_) (fun h80 => ?_)
          · have hd := hd.1 h80
            refine lv_iconst (v := 0) hx hb d_HelpFile_put_93 (by decide) ?_
            refine lv_istore_n (lv' := [(3, .int 0), (0, .ref hf), (1, .int x1), (2, .int x2)]) hx hb d_HelpFile_put_94 rfl hl (by decide) rfl (fun ls hl => ?_)
            exact ih.2.2 x1 0 _ (lv_sub hl [1, 2, 0] rfl) hd
          · have hd := hd.2 h80
            have e0 : xc = "java/lang/UnsupportedOperationException" := hd
            subst e0
            obtain ⟨q9, hq9⟩ := hT.1 (100, "the source is full") (by decide +kernel)
            exact ct_throw htr hx hb hml hl.1 hown hlocks hnh hts hZ hT oa_1 (by decide +kernel) (by decide +kernel) k408_classLink k409_instantiable k410_initialized hq9 d_HelpFile_put_83 d_HelpFile_put_86 d_HelpFile_put_87 d_HelpFile_put_89 d_HelpFile_put_92 (by decide) (by decide) (by decide) (by decide)
        · have hd := hd.2 h7
          refine lv_iload_n hx hb d_HelpFile_put_10 rfl (lv_at hl 1 rfl) ?_
          refine lv_iload_n hx hb d_HelpFile_put_11 rfl (lv_at hl 3 rfl) ?_
          refine lv_iushr (v := (Int32.toUInt32 x1 >>> (Int32.toUInt32 x3 &&& Int32.toUInt32 31)).toInt32) hx hb d_HelpFile_put_12 rfl ?_
          refine lv_sipush (v := 255) hx hb d_HelpFile_put_13 (by decide) ?_
          refine lv_iand hx hb d_HelpFile_put_16 ?_
          refine lv_istore (lv' := [(4, .int (((Int32.toUInt32 x1 >>> (Int32.toUInt32 x3 &&& Int32.toUInt32 31)).toInt32) &&& 255)), (0, .ref hf), (1, .int x1), (2, .int x2), (3, .int x3)]) hx hb d_HelpFile_put_17 hl (by decide) rfl (fun ls hl => ?_)
          refine lv_iload hx hb d_HelpFile_put_19 (lv_at hl 0 rfl) ?_
          refine lv_if_eq (tgt := 49) hx hb d_HelpFile_put_21 (by decide) (fun h21 => ?_) (fun h21 => ?_)
          · have hd := hd.1 h21
            exact ih.2.1 x1 x2 x3 (((Int32.toUInt32 x1 >>> (Int32.toUInt32 x3 &&& Int32.toUInt32 31)).toInt32) &&& 255) _ (lv_sub hl [1, 2, 3, 4, 0] rfl) hd
          · have hd := hd.2 h21
            refine lv_iload hx hb d_HelpFile_put_24 (lv_at hl 0 rfl) ?_
            refine lv_bipush (v := 10) hx hb d_HelpFile_put_26 (by decide) ?_
            refine lv_icmp_eq (tgt := 49) hx hb d_HelpFile_put_28 (by decide) (fun h28 => ?_) (fun h28 => ?_)
            · have hd := hd.1 h28
              exact ih.2.1 x1 x2 x3 (((Int32.toUInt32 x1 >>> (Int32.toUInt32 x3 &&& Int32.toUInt32 31)).toInt32) &&& 255) _ (lv_sub hl [1, 2, 3, 4, 0] rfl) hd
            · have hd := hd.2 h28
              refine lv_iload hx hb d_HelpFile_put_31 (lv_at hl 0 rfl) ?_
              obtain ⟨r33, c33, hd⟩ := hd
              refine ct_SR (As := [.int (((Int32.toUInt32 x1 >>> (Int32.toUInt32 x3 &&& Int32.toUInt32 31)).toInt32) &&& 255)]) (rest := []) ⟨hx, hb, hml, hown, hts⟩ fm_HelpFile_isTyped (c_HelpFile_isTyped l dC dI cI cL cZ (((Int32.toUInt32 x1 >>> (Int32.toUInt32 x3 &&& Int32.toUInt32 31)).toInt32) &&& 255) r33 c33) k406_methodLink k87_static ⟨Nat.le_of_ble_eq_true rfl, Nat.le_of_ble_eq_true rfl⟩ rfl rfl hK hN hP hD [] rfl rfl (by decide) rfl hl.1 rfl (Nat.le_of_ble_eq_true rfl) d_HelpFile_put_33 ?_
              refine lv_if_ne (tgt := 49) hx hb d_HelpFile_put_36 (by decide) (fun h36 => ?_) (fun h36 => ?_)
              · have hd := hd.2 h36
                exact ih.2.1 x1 x2 x3 (((Int32.toUInt32 x1 >>> (Int32.toUInt32 x3 &&& Int32.toUInt32 31)).toInt32) &&& 255) _ (lv_sub hl [1, 2, 3, 4, 0] rfl) hd
              · have hd := hd.1 h36
                have e0 : xc = "java/lang/IllegalArgumentException" := hd
                subst e0
                obtain ⟨q9, hq9⟩ := hT.1 (89, "no sign of a source") (by decide +kernel)
                exact ct_throw htr hx hb hml hl.1 hown hlocks hnh hts hZ hT oa_2 (by decide +kernel) (by decide +kernel) k411_classLink k412_instantiable k413_initialized hq9 d_HelpFile_put_39 d_HelpFile_put_42 d_HelpFile_put_43 d_HelpFile_put_45 d_HelpFile_put_48 (by decide) (by decide) (by decide) (by decide)
      · intro x1 x2 x3 x4 ls hl hd
        have hd : BX_HelpFile_put_49 zsC xc (TX_HelpFile_put zsC xc n) x1 x2 x3 x4 := hd
        refine lv_iload_n hx hb d_HelpFile_put_49 rfl (lv_at hl 2 rfl) ?_
        refine lv_iload hx hb d_HelpFile_put_50 (lv_at hl 4 rfl) ?_
        refine lv_if_ne (tgt := 59) hx hb d_HelpFile_put_52 (by decide) (fun h52 => ?_) (fun h52 => ?_)
        · have hd := hd.2 h52
          refine lv_iconst (v := 1) hx hb d_HelpFile_put_59 (by decide) ?_
          refine lv_iadd hx hb d_HelpFile_put_60 ?_
          refine lv_istore_n (lv' := [(2, .int (x2 + 1)), (0, .ref hf), (1, .int x1), (3, .int x3), (4, .int x4)]) hx hb d_HelpFile_put_61 rfl hl (by decide) rfl (fun ls hl => ?_)
          refine lv_iinc (k := 3) (v := x3 + 8) (lv' := [(3, .int (x3 + 8)), (2, .int (x2 + 1)), (0, .ref hf), (1, .int x1), (4, .int x4)]) hx hb d_HelpFile_put_62 hl rfl (congrArg (fun z => x3 + z) (by decide)) (by decide) rfl (fun ls hl => ?_)
          refine lv_goto (tgt := 4) hx hb d_HelpFile_put_65 (by decide) ?_
          exact ih.1 x1 (x2 + 1) (x3 + 8) _ (lv_sub hl [2, 3, 1, 0] rfl) hd
        · have hd := hd.1 h52
          refine lv_iconst (v := 0) hx hb d_HelpFile_put_55 (by decide) ?_
          refine lv_goto (tgt := 60) hx hb d_HelpFile_put_56 (by decide) ?_
          refine lv_iadd hx hb d_HelpFile_put_60 ?_
          refine lv_istore_n (lv' := [(2, .int (x2 + 0)), (0, .ref hf), (1, .int x1), (3, .int x3), (4, .int x4)]) hx hb d_HelpFile_put_61 rfl hl (by decide) rfl (fun ls hl => ?_)
          refine lv_iinc (k := 3) (v := x3 + 8) (lv' := [(3, .int (x3 + 8)), (2, .int (x2 + 0)), (0, .ref hf), (1, .int x1), (4, .int x4)]) hx hb d_HelpFile_put_62 hl rfl (congrArg (fun z => x3 + z) (by decide)) (by decide) rfl (fun ls hl => ?_)
          refine lv_goto (tgt := 4) hx hb d_HelpFile_put_65 (by decide) ?_
          exact ih.1 x1 (x2 + 0) (x3 + 8) _ (lv_sub hl [2, 3, 1, 0] rfl) hd
      · intro x1 x3 ls hl hd
        have hd : BX_HelpFile_put_95 zsC xc (TX_HelpFile_put zsC xc n) x1 x3 := hd
        refine lv_iload_n hx hb d_HelpFile_put_95 rfl (lv_at hl 2 rfl) ?_
        refine lv_bipush (v := 32) hx hb d_HelpFile_put_96 (by decide) ?_
        refine lv_icmp_ge (tgt := 130) hx hb d_HelpFile_put_98 (by decide) (fun h98 => ?_) (fun h98 => ?_)
        · have hd := hd.1 h98
          refine lv_aload_n hx hb d_HelpFile_put_130 rfl (lv_at hl 0 rfl) ?_
          refine va_get (D := (dC, dI)) (ci := 0) (v := .ref zs) (C := R_HelpFile) (T := F_HelpFile) (N := 14) hx hb hts in_HelpFile hown hK hP 0 rfl rfl 0 (by decide) (hts _ (List.mem_cons_of_mem _ k366_fieldLink)) (fun _ h9 => h9) rfl d_HelpFile_put_131 ?_
          refine ct_VR (As := []) (rest := []) (C := R_Row) (ci := 1) (q := (R_Row, F_Row, 3)) ⟨hx, hb, hml, hown, hts⟩ fm_Row_count (c_Row_count l dC dI cI cL cZ zs zsEa zsn zsE zsC zsO zsC rfl) k405_methodLink k67_instanceMethod k68_selects ⟨Nat.le_of_ble_eq_true rfl, Nat.le_of_ble_eq_true rfl⟩ rfl rfl hK hN hP hD [1, 2] rfl rfl (by decide) 1 rfl rfl rfl rfl hl.1 rfl (Nat.le_of_ble_eq_true rfl) d_HelpFile_put_134 ?_
          exact False.elim hd
        · have hd := hd.2 h98
          refine lv_iload_n hx hb d_HelpFile_put_101 rfl (lv_at hl 1 rfl) ?_
          refine lv_iload_n hx hb d_HelpFile_put_102 rfl (lv_at hl 2 rfl) ?_
          refine lv_iushr (v := (Int32.toUInt32 x1 >>> (Int32.toUInt32 x3 &&& Int32.toUInt32 31)).toInt32) hx hb d_HelpFile_put_103 rfl ?_
          refine lv_sipush (v := 255) hx hb d_HelpFile_put_104 (by decide) ?_
          refine lv_iand hx hb d_HelpFile_put_107 ?_
          refine lv_istore (lv' := [(4, .int (((Int32.toUInt32 x1 >>> (Int32.toUInt32 x3 &&& Int32.toUInt32 31)).toInt32) &&& 255)), (0, .ref hf), (1, .int x1), (3, .int x3)]) hx hb d_HelpFile_put_108 hl (by decide) rfl (fun ls hl => ?_)
          refine lv_iload hx hb d_HelpFile_put_110 (lv_at hl 0 rfl) ?_
          refine lv_if_eq (tgt := 124) hx hb d_HelpFile_put_112 (by decide) (fun h112 => ?_) (fun h112 => ?_)
          · have hd := hd.1 h112
            refine lv_iinc (k := 3) (v := x3 + 8) (lv' := [(3, .int (x3 + 8)), (4, .int (((Int32.toUInt32 x1 >>> (Int32.toUInt32 x3 &&& Int32.toUInt32 31)).toInt32) &&& 255)), (0, .ref hf), (1, .int x1)]) hx hb d_HelpFile_put_124 hl rfl (congrArg (fun z => x3 + z) (by decide)) (by decide) rfl (fun ls hl => ?_)
            refine lv_goto (tgt := 95) hx hb d_HelpFile_put_127 (by decide) ?_
            exact ih.2.2 x1 (x3 + 8) _ (lv_sub hl [2, 3, 0] rfl) hd
          · have hd := hd.2 h112
            refine lv_aload_n hx hb d_HelpFile_put_115 rfl (lv_at hl 1 rfl) ?_
            refine va_get (D := (dC, dI)) (ci := 0) (v := .ref zs) (C := R_HelpFile) (T := F_HelpFile) (N := 14) hx hb hts in_HelpFile hown hK hP 0 rfl rfl 0 (by decide) (hts _ (List.mem_cons_of_mem _ k366_fieldLink)) (fun _ h9 => h9) rfl d_HelpFile_put_116 ?_
            refine lv_iload hx hb d_HelpFile_put_119 (lv_at hl 0 rfl) ?_
            exact False.elim hd
  obtain ⟨n, hd⟩ := hd
  refine lv_iconst (v := 0) hx hb d_HelpFile_put_0 (by decide) ?_
  refine lv_istore_n (lv' := [(2, .int 0), (0, .ref hf), (1, .int k0)]) hx hb d_HelpFile_put_1 rfl hl (by decide) rfl (fun ls hl => ?_)
  refine lv_iconst (v := 0) hx hb d_HelpFile_put_2 (by decide) ?_
  refine lv_istore_n (lv' := [(3, .int 0), (2, .int 0), (0, .ref hf), (1, .int k0)]) hx hb d_HelpFile_put_3 rfl hl (by decide) rfl (fun ls hl => ?_)
  exact (key n).1 k0 0 0 _ (lv_sub hl [2, 3, 1, 0] rfl) hd
-- HelpFile.end
abbrev b_HelpFile_end : ByteArray := prog_1_method_3_code
def y_HelpFile_end : MethodName := ⟨"HelpFile", "end", "(I)V"⟩
theorem k414_methodLink : Cond.methodLink "HelpFile" 108 ⟨"HelpFile$Row", "shorten", "(I)V"⟩ ∈ ga := ga_t 746 (by decide +kernel) rfl
set_option maxRecDepth 100000 in
theorem fm_HelpFile_end : Fm y_HelpFile_end b_HelpFile_end 2 none 1 := ⟨ga_t 744 rfl rfl, k54_initialized, by decide, by decide, by decide +kernel⟩
def D_HelpFile_end (k0 : Int32) (zsC : Int32) (zsO : Bool) (zsC' : Int32) (zsO' : Bool) : Prop := ((k0 < 0 → False) ∧ (¬ (k0 < 0) → ((k0 ≤ zsC → (∃ zsC_30 : Int32, ∃ zsO_30 : Bool, D_Row_shorten k0 zsC zsO zsC_30 zsO_30 ∧ (zsC' = zsC_30 ∧ zsO' = zsO_30))) ∧ (¬ (k0 ≤ zsC) → False))))
theorem d_HelpFile_end_0 : decode b_HelpFile_end 0 = .ok (.iload_n 1, 1) := by decide +kernel
theorem d_HelpFile_end_1 : decode b_HelpFile_end 1 = .ok (.ifCond .lt 14, 3) := by decide +kernel
theorem d_HelpFile_end_4 : decode b_HelpFile_end 4 = .ok (.iload_n 1, 1) := by decide +kernel
theorem d_HelpFile_end_5 : decode b_HelpFile_end 5 = .ok (.aload_n 0, 1) := by decide +kernel
theorem d_HelpFile_end_6 : decode b_HelpFile_end 6 = .ok (.getfield 14, 3) := by decide +kernel
theorem d_HelpFile_end_9 : decode b_HelpFile_end 9 = .ok (.invokevirtual 94, 3) := by decide +kernel
theorem d_HelpFile_end_12 : decode b_HelpFile_end 12 = .ok (.if_icmp .le 13, 3) := by decide +kernel
theorem d_HelpFile_end_15 : decode b_HelpFile_end 15 = .ok (.new 87, 3) := by decide +kernel
theorem d_HelpFile_end_25 : decode b_HelpFile_end 25 = .ok (.aload_n 0, 1) := by decide +kernel
theorem d_HelpFile_end_26 : decode b_HelpFile_end 26 = .ok (.getfield 14, 3) := by decide +kernel
theorem d_HelpFile_end_29 : decode b_HelpFile_end 29 = .ok (.iload_n 1, 1) := by decide +kernel
theorem d_HelpFile_end_30 : decode b_HelpFile_end 30 = .ok (.invokevirtual 108, 3) := by decide +kernel
theorem d_HelpFile_end_33 : decode b_HelpFile_end 33 = .ok (.return_, 1) := by decide +kernel
set_option maxHeartbeats 4000000 in
set_option maxRecDepth 100000 in
theorem c_HelpFile_end (l : Launch) (dC : Nat → ClassId) (dI : Nat → Nat → Nat) (cI cL cZ : ClassId) (hf : Nat) (hfI : Value) (hfR : Value) (hfT : Value) (hfC : Value) (hfE : Value) (hfV : Value) (hfQ : Value) (hfN : Value) (hfD : Value) (hfB : Value) (hfO : Bool) (hfF : Int32) (hfY : Int32) (zs : Nat) (zsEa : Nat) (zsn : Nat) (zsE : Nat → Int32) (zsC : Int32) (zsO : Bool) (k0 : Int32) (zsC' : Int32) (zsO' : Bool) (hd : D_HelpFile_end k0 zsC zsO zsC' zsO') : Ctr l y_HelpFile_end (Cond.code y_HelpFile_end b_HelpFile_end 2 none :: ga) { frames := 1, cells := 0, slots := 0, locals := 21 } (dC, dI) classes (Tys cI cL cZ) [.ref hf, .int k0] ((sh_HelpFile cI cL cZ hf (.ref zs) hfI hfR hfT hfC hfE hfV hfQ hfN hfD hfB hfO hfF hfY) ++ ((sh_Row cI cL cZ zs zsEa zsn zsE zsC zsO))) none ((sh_HelpFile cI cL cZ hf (.ref zs) hfI hfR hfT hfC hfE hfV hfQ hfN hfD hfB hfO hfF hfY) ++ ((sh_Row cI cL cZ zs zsEa zsn zsE zsC' zsO'))) := by
  refine Ctr.ofW (by decide) (Nat.le_of_ble_eq_true rfl) ?_
  intro p e s m below meth c A ls hx hb hr hml hown hlocks hts hK hN hA hP hD hS hl
  have hown : s.vm.findClass R_HelpFile = some m.cls := hown
  have hl : lv_has ls 2 [(0, .ref hf), (1, .int k0)] := hl
  refine lv_iload_n hx hb d_HelpFile_end_0 rfl (lv_at hl 1 rfl) ?_
  refine lv_if_lt (tgt := 15) hx hb d_HelpFile_end_1 (by decide) (fun h1 => ?_) (fun h1 => ?_)
  · have hd := hd.1 h1
    exact False.elim hd
  · have hd := hd.2 h1
    refine lv_iload_n hx hb d_HelpFile_end_4 rfl (lv_at hl 1 rfl) ?_
    refine lv_aload_n hx hb d_HelpFile_end_5 rfl (lv_at hl 0 rfl) ?_
    refine va_get (D := (dC, dI)) (ci := 0) (v := .ref zs) (C := R_HelpFile) (T := F_HelpFile) (N := 14) hx hb hts in_HelpFile hown hK hP 0 rfl rfl 0 (by decide) (hts _ (List.mem_cons_of_mem _ k366_fieldLink)) (fun _ h9 => h9) rfl d_HelpFile_end_6 ?_
    refine ct_VR (As := []) (rest := [.int k0]) (C := R_Row) (ci := 1) (q := (R_Row, F_Row, 3)) ⟨hx, hb, hml, hown, hts⟩ fm_Row_count (c_Row_count l dC dI cI cL cZ zs zsEa zsn zsE zsC zsO zsC rfl) k405_methodLink k67_instanceMethod k68_selects ⟨Nat.le_of_ble_eq_true rfl, Nat.le_of_ble_eq_true rfl⟩ rfl rfl hK hN hP hD [1, 2] rfl rfl (by decide) 1 rfl rfl rfl rfl hl.1 rfl (Nat.le_of_ble_eq_true rfl) d_HelpFile_end_9 ?_
    refine lv_icmp_le (tgt := 25) hx hb d_HelpFile_end_12 (by decide) (fun h12 => ?_) (fun h12 => ?_)
    · have hd := hd.1 h12
      refine lv_aload_n hx hb d_HelpFile_end_25 rfl (lv_at hl 0 rfl) ?_
      refine va_get (D := (dC, dI)) (ci := 0) (v := .ref zs) (C := R_HelpFile) (T := F_HelpFile) (N := 14) hx hb hts in_HelpFile hown hK hP 0 rfl rfl 0 (by decide) (hts _ (List.mem_cons_of_mem _ k366_fieldLink)) (fun _ h9 => h9) rfl d_HelpFile_end_26 ?_
      refine lv_iload_n hx hb d_HelpFile_end_29 rfl (lv_at hl 1 rfl) ?_
      obtain ⟨zsC_30, zsO_30, c30, hd⟩ := hd
      refine ct_V (As := [.int k0]) (rest := []) (C := R_Row) (ci := 1) (q := (R_Row, F_Row, 3)) ⟨hx, hb, hml, hown, hts⟩ fm_Row_shorten (c_Row_shorten l dC dI cI cL cZ zs zsEa zsn zsE zsC zsO k0 zsC_30 zsO_30 c30) k414_methodLink k17_instanceMethod k18_selects ⟨Nat.le_of_ble_eq_true rfl, Nat.le_of_ble_eq_true rfl⟩ rfl rfl hK hN hP hD hS hA [1, 2] [0] rfl rfl rfl (by decide) (by decide) (by decide) 1 rfl rfl rfl rfl hl.1 rfl (Nat.le_of_ble_eq_true rfl) d_HelpFile_end_30 (fun H locs hP hD hS => ?_)
      have hP : va_P (dC, dI) classes ((sh_HelpFile cI cL cZ hf (.ref zs) hfI hfR hfT hfC hfE hfV hfQ hfN hfD hfB hfO hfF hfY) ++ ((sh_Row cI cL cZ zs zsEa zsn zsE zsC_30 zsO_30))) H := hP.sub [0, 1, 2] rfl
      have hD : va_D A ((sh_HelpFile cI cL cZ hf (.ref zs) hfI hfR hfT hfC hfE hfV hfQ hfN hfD hfB hfO hfF hfY) ++ ((sh_Row cI cL cZ zs zsEa zsn zsE zsC_30 zsO_30))) := hD.sub [0, 1, 2] (by decide) rfl
      obtain ⟨e0, e1⟩ := hd
      subst e0
      subst e1
      exact ct_vret hx hb hr hlocks hK hP hD hS d_HelpFile_end_33
    · have hd := hd.2 h12
      exact False.elim hd
def X_HelpFile_end (k0 : Int32) (zsC : Int32) (xc : String) : Prop := ((k0 < 0 → (xc = "java/lang/IllegalArgumentException")) ∧ (¬ (k0 < 0) → ((k0 ≤ zsC → False) ∧ (¬ (k0 ≤ zsC) → (xc = "java/lang/IllegalArgumentException")))))
theorem d_HelpFile_end_18 : decode b_HelpFile_end 18 = .ok (.dup, 1) := by decide +kernel
theorem d_HelpFile_end_19 : decode b_HelpFile_end 19 = .ok (.ldc 106, 2) := by decide +kernel
theorem d_HelpFile_end_21 : decode b_HelpFile_end 21 = .ok (.invokespecial 91, 3) := by decide +kernel
theorem d_HelpFile_end_24 : decode b_HelpFile_end 24 = .ok (.athrow, 1) := by decide +kernel
set_option maxHeartbeats 4000000 in
set_option maxRecDepth 100000 in
theorem x_HelpFile_end (l : Launch) (htr : ∀ e : Env, l.admits e → e.platform.stackTraces = false) (dC : Nat → ClassId) (dI : Nat → Nat → Nat) (cI cL cZ : ClassId) (hf : Nat) (hfI : Value) (hfR : Value) (hfT : Value) (hfC : Value) (hfE : Value) (hfV : Value) (hfQ : Value) (hfN : Value) (hfD : Value) (hfB : Value) (hfO : Bool) (hfF : Int32) (hfY : Int32) (zs : Nat) (zsEa : Nat) (zsn : Nat) (zsE : Nat → Int32) (zsC : Int32) (zsO : Bool) (k0 : Int32) (xc : String) (hd : X_HelpFile_end k0 zsC xc) : CtT l y_HelpFile_end (Cond.code y_HelpFile_end b_HelpFile_end 2 none :: ga) { frames := 6, cells := 1, slots := 6, locals := 82 } (dC, dI) classes (Tys cI cL cZ) [.ref hf, .int k0] ((sh_HelpFile cI cL cZ hf (.ref zs) hfI hfR hfT hfC hfE hfV hfQ hfN hfD hfB hfO hfF hfY) ++ ((sh_Row cI cL cZ zs zsEa zsn zsE zsC zsO))) xc := by
  refine CtT.ofW (by decide) (Nat.le_of_ble_eq_true rfl) ?_
  intro p e s m below meth c A ls hx hb hr hml hown hlocks hnh hts hK hN hZ hT hA hP hD hl
  have hown : s.vm.findClass R_HelpFile = some m.cls := hown
  have hl : lv_has ls 2 [(0, .ref hf), (1, .int k0)] := hl
  refine lv_iload_n hx hb d_HelpFile_end_0 rfl (lv_at hl 1 rfl) ?_
  refine lv_if_lt (tgt := 15) hx hb d_HelpFile_end_1 (by decide) (fun h1 => ?_) (fun h1 => ?_)
  · have hd := hd.1 h1
    have e0 : xc = "java/lang/IllegalArgumentException" := hd
    subst e0
    obtain ⟨q9, hq9⟩ := hT.1 (106, "the source has not so many signs") (by decide +kernel)
    exact ct_throw htr hx hb hml hl.1 hown hlocks hnh hts hZ hT oa_2 (by decide +kernel) (by decide +kernel) k411_classLink k412_instantiable k413_initialized hq9 d_HelpFile_end_15 d_HelpFile_end_18 d_HelpFile_end_19 d_HelpFile_end_21 d_HelpFile_end_24 (by decide) (by decide) (by decide) (by decide)
  · have hd := hd.2 h1
    refine lv_iload_n hx hb d_HelpFile_end_4 rfl (lv_at hl 1 rfl) ?_
    refine lv_aload_n hx hb d_HelpFile_end_5 rfl (lv_at hl 0 rfl) ?_
    refine va_get (D := (dC, dI)) (ci := 0) (v := .ref zs) (C := R_HelpFile) (T := F_HelpFile) (N := 14) hx hb hts in_HelpFile hown hK hP 0 rfl rfl 0 (by decide) (hts _ (List.mem_cons_of_mem _ k366_fieldLink)) (fun _ h9 => h9) rfl d_HelpFile_end_6 ?_
    refine ct_VR (As := []) (rest := [.int k0]) (C := R_Row) (ci := 1) (q := (R_Row, F_Row, 3)) ⟨hx, hb, hml, hown, hts⟩ fm_Row_count (c_Row_count l dC dI cI cL cZ zs zsEa zsn zsE zsC zsO zsC rfl) k405_methodLink k67_instanceMethod k68_selects ⟨Nat.le_of_ble_eq_true rfl, Nat.le_of_ble_eq_true rfl⟩ rfl rfl hK hN hP hD [1, 2] rfl rfl (by decide) 1 rfl rfl rfl rfl hl.1 rfl (Nat.le_of_ble_eq_true rfl) d_HelpFile_end_9 ?_
    refine lv_icmp_le (tgt := 25) hx hb d_HelpFile_end_12 (by decide) (fun h12 => ?_) (fun h12 => ?_)
    · have hd := hd.1 h12
      refine lv_aload_n hx hb d_HelpFile_end_25 rfl (lv_at hl 0 rfl) ?_
      refine va_get (D := (dC, dI)) (ci := 0) (v := .ref zs) (C := R_HelpFile) (T := F_HelpFile) (N := 14) hx hb hts in_HelpFile hown hK hP 0 rfl rfl 0 (by decide) (hts _ (List.mem_cons_of_mem _ k366_fieldLink)) (fun _ h9 => h9) rfl d_HelpFile_end_26 ?_
      refine lv_iload_n hx hb d_HelpFile_end_29 rfl (lv_at hl 1 rfl) ?_
      exact False.elim hd
    · have hd := hd.2 h12
      have e0 : xc = "java/lang/IllegalArgumentException" := hd
      subst e0
      obtain ⟨q9, hq9⟩ := hT.1 (106, "the source has not so many signs") (by decide +kernel)
      exact ct_throw htr hx hb hml hl.1 hown hlocks hnh hts hZ hT oa_2 (by decide +kernel) (by decide +kernel) k411_classLink k412_instantiable k413_initialized hq9 d_HelpFile_end_15 d_HelpFile_end_18 d_HelpFile_end_19 d_HelpFile_end_21 d_HelpFile_end_24 (by decide) (by decide) (by decide) (by decide)
-- HelpFile.at
abbrev b_HelpFile_at : ByteArray := prog_1_method_6_code
def y_HelpFile_at : MethodName := ⟨"HelpFile", "at", "(I)I"⟩
theorem k415_methodLink : Cond.methodLink "HelpFile" 126 ⟨"HelpFile$Row", "has", "(I)Z"⟩ ∈ ga := ga_t 755 (by decide +kernel) rfl
theorem k416_methodLink : Cond.methodLink "HelpFile" 134 ⟨"HelpFile$Row", "element", "(I)I"⟩ ∈ ga := ga_t 772 (by decide +kernel) rfl
set_option maxRecDepth 100000 in
theorem fm_HelpFile_at : Fm y_HelpFile_at b_HelpFile_at 2 (some .int) 1 := ⟨ga_t 754 rfl rfl, k54_initialized, by decide, by decide, by decide +kernel⟩
def D_HelpFile_at (zin : Nat) (k0 : Int32) (ziE : Nat → Int32) (ziC : Int32) (res : Int32) : Prop := ((k0 = (-1) → (res = ziC)) ∧ (¬ (k0 = (-1)) → (∃ r18 : Bool, D_Row_has k0 ziC r18 ∧ (((bI r18) = 0 → False) ∧ (¬ ((bI r18) = 0) → (∃ r39 : Int32, D_Row_element zin k0 ziE ziC r39 ∧ (res = r39)))))))
theorem d_HelpFile_at_0 : decode b_HelpFile_at 0 = .ok (.iload_n 1, 1) := by decide +kernel
theorem d_HelpFile_at_1 : decode b_HelpFile_at 1 = .ok (.iconst (-1), 1) := by decide +kernel
theorem d_HelpFile_at_2 : decode b_HelpFile_at 2 = .ok (.if_icmp .ne 11, 3) := by decide +kernel
theorem d_HelpFile_at_5 : decode b_HelpFile_at 5 = .ok (.aload_n 0, 1) := by decide +kernel
theorem d_HelpFile_at_6 : decode b_HelpFile_at 6 = .ok (.getfield 18, 3) := by decide +kernel
theorem d_HelpFile_at_9 : decode b_HelpFile_at 9 = .ok (.invokevirtual 94, 3) := by decide +kernel
theorem d_HelpFile_at_12 : decode b_HelpFile_at 12 = .ok (.ireturn, 1) := by decide +kernel
theorem d_HelpFile_at_13 : decode b_HelpFile_at 13 = .ok (.aload_n 0, 1) := by decide +kernel
theorem d_HelpFile_at_14 : decode b_HelpFile_at 14 = .ok (.getfield 18, 3) := by decide +kernel
theorem d_HelpFile_at_17 : decode b_HelpFile_at 17 = .ok (.iload_n 1, 1) := by decide +kernel
theorem d_HelpFile_at_18 : decode b_HelpFile_at 18 = .ok (.invokevirtual 126, 3) := by decide +kernel
theorem d_HelpFile_at_21 : decode b_HelpFile_at 21 = .ok (.ifCond .ne 13, 3) := by decide +kernel
theorem d_HelpFile_at_24 : decode b_HelpFile_at 24 = .ok (.new 129, 3) := by decide +kernel
theorem d_HelpFile_at_34 : decode b_HelpFile_at 34 = .ok (.aload_n 0, 1) := by decide +kernel
theorem d_HelpFile_at_35 : decode b_HelpFile_at 35 = .ok (.getfield 18, 3) := by decide +kernel
theorem d_HelpFile_at_38 : decode b_HelpFile_at 38 = .ok (.iload_n 1, 1) := by decide +kernel
theorem d_HelpFile_at_39 : decode b_HelpFile_at 39 = .ok (.invokevirtual 134, 3) := by decide +kernel
theorem d_HelpFile_at_42 : decode b_HelpFile_at 42 = .ok (.ireturn, 1) := by decide +kernel
set_option maxHeartbeats 4000000 in
set_option maxRecDepth 100000 in
theorem c_HelpFile_at (l : Launch) (dC : Nat → ClassId) (dI : Nat → Nat → Nat) (cI cL cZ : ClassId) (hf : Nat) (hfS : Value) (hfR : Value) (hfT : Value) (hfC : Value) (hfE : Value) (hfV : Value) (hfQ : Value) (hfN : Value) (hfD : Value) (hfB : Value) (hfO : Bool) (hfF : Int32) (hfY : Int32) (zi : Nat) (ziEa : Nat) (zin : Nat) (ziE : Nat → Int32) (ziC : Int32) (ziO : Bool) (k0 : Int32) (res : Int32) (hd : D_HelpFile_at zin k0 ziE ziC res) : CtrR l y_HelpFile_at (Cond.code y_HelpFile_at b_HelpFile_at 2 (some .int) :: ga) { frames := 1, cells := 0, slots := 0, locals := 21 } (dC, dI) classes (Tys cI cL cZ) [.ref hf, .int k0] ((sh_HelpFile cI cL cZ hf hfS (.ref zi) hfR hfT hfC hfE hfV hfQ hfN hfD hfB hfO hfF hfY) ++ ((sh_Row cI cL cZ zi ziEa zin ziE ziC ziO))) (some (.int res)) := by
  refine CtrR.ofW (by decide) (Nat.le_of_ble_eq_true rfl) ?_
  intro p e s m below meth c ls hx hb hr hml hown hlocks hts hK hN hP hD hl
  have hown : s.vm.findClass R_HelpFile = some m.cls := hown
  have hl : lv_has ls 2 [(0, .ref hf), (1, .int k0)] := hl
  refine lv_iload_n hx hb d_HelpFile_at_0 rfl (lv_at hl 1 rfl) ?_
  refine lv_iconst (v := (-1)) hx hb d_HelpFile_at_1 (by decide) ?_
  refine lv_icmp_ne (tgt := 13) hx hb d_HelpFile_at_2 (by decide) (fun h2 => ?_) (fun h2 => ?_)
  · have hd := hd.2 h2
    refine lv_aload_n hx hb d_HelpFile_at_13 rfl (lv_at hl 0 rfl) ?_
    refine va_get (D := (dC, dI)) (ci := 0) (v := .ref zi) (C := R_HelpFile) (T := F_HelpFile) (N := 14) hx hb hts in_HelpFile hown hK hP 0 rfl rfl 1 (by decide) (hts _ (List.mem_cons_of_mem _ k378_fieldLink)) (fun _ h9 => h9) rfl d_HelpFile_at_14 ?_
    refine lv_iload_n hx hb d_HelpFile_at_17 rfl (lv_at hl 1 rfl) ?_
    obtain ⟨r18, c18, hd⟩ := hd
    refine ct_VR (As := [.int k0]) (rest := []) (C := R_Row) (ci := 1) (q := (R_Row, F_Row, 3)) ⟨hx, hb, hml, hown, hts⟩ fm_Row_has (c_Row_has l dC dI cI cL cZ zi ziEa zin ziE ziC ziO k0 r18 c18) k415_methodLink k11_instanceMethod k12_selects ⟨Nat.le_of_ble_eq_true rfl, Nat.le_of_ble_eq_true rfl⟩ rfl rfl hK hN hP hD [1, 2] rfl rfl (by decide) 1 rfl rfl rfl rfl hl.1 rfl (Nat.le_of_ble_eq_true rfl) d_HelpFile_at_18 ?_
    refine lv_if_ne (tgt := 34) hx hb d_HelpFile_at_21 (by decide) (fun h21 => ?_) (fun h21 => ?_)
    · have hd := hd.2 h21
      refine lv_aload_n hx hb d_HelpFile_at_34 rfl (lv_at hl 0 rfl) ?_
      refine va_get (D := (dC, dI)) (ci := 0) (v := .ref zi) (C := R_HelpFile) (T := F_HelpFile) (N := 14) hx hb hts in_HelpFile hown hK hP 0 rfl rfl 1 (by decide) (hts _ (List.mem_cons_of_mem _ k378_fieldLink)) (fun _ h9 => h9) rfl d_HelpFile_at_35 ?_
      refine lv_iload_n hx hb d_HelpFile_at_38 rfl (lv_at hl 1 rfl) ?_
      obtain ⟨r39, c39, hd⟩ := hd
      refine ct_VR (As := [.int k0]) (rest := []) (C := R_Row) (ci := 1) (q := (R_Row, F_Row, 3)) ⟨hx, hb, hml, hown, hts⟩ fm_Row_element (c_Row_element l dC dI cI cL cZ zi ziEa zin ziE ziC ziO k0 r39 c39) k416_methodLink k4_instanceMethod k5_selects ⟨Nat.le_of_ble_eq_true rfl, Nat.le_of_ble_eq_true rfl⟩ rfl rfl hK hN hP hD [1, 2] rfl rfl (by decide) 1 rfl rfl rfl rfl hl.1 rfl (Nat.le_of_ble_eq_true rfl) d_HelpFile_at_39 ?_
      have e0 : res = r39 := hd
      subst e0
      exact ct_iretR hx hb hr hlocks d_HelpFile_at_42
    · have hd := hd.1 h21
      exact False.elim hd
  · have hd := hd.1 h2
    refine lv_aload_n hx hb d_HelpFile_at_5 rfl (lv_at hl 0 rfl) ?_
    refine va_get (D := (dC, dI)) (ci := 0) (v := .ref zi) (C := R_HelpFile) (T := F_HelpFile) (N := 14) hx hb hts in_HelpFile hown hK hP 0 rfl rfl 1 (by decide) (hts _ (List.mem_cons_of_mem _ k378_fieldLink)) (fun _ h9 => h9) rfl d_HelpFile_at_6 ?_
    refine ct_VR (As := []) (rest := []) (C := R_Row) (ci := 1) (q := (R_Row, F_Row, 3)) ⟨hx, hb, hml, hown, hts⟩ fm_Row_count (c_Row_count l dC dI cI cL cZ zi ziEa zin ziE ziC ziO ziC rfl) k405_methodLink k67_instanceMethod k68_selects ⟨Nat.le_of_ble_eq_true rfl, Nat.le_of_ble_eq_true rfl⟩ rfl rfl hK hN hP hD [1, 2] rfl rfl (by decide) 1 rfl rfl rfl rfl hl.1 rfl (Nat.le_of_ble_eq_true rfl) d_HelpFile_at_9 ?_
    have e0 : res = ziC := hd
    subst e0
    exact ct_iretR hx hb hr hlocks d_HelpFile_at_12
set_option maxRecDepth 100000 in
theorem oa_3 : thOk (Bundle.ownAtoms "HelpFile" 133 "java/lang/IndexOutOfBoundsException" ["java/lang/RuntimeException", "java/lang/Exception"]) := thOk_of [11, 672, 681, 687, 690, 692, 673, 674, 30, 31, 675, 680, 688, 708, 662, 709, 664, 710, 666, 676, 678, 668, 704, 705, 707, 668, 767, 768, 769, 698, 698, 699, 700, 701, 701, 702, 703, 704, 766, 757, 759, 684, 760, 761, 762, 763, 671, 670, 764] (by decide +kernel) (by decide +kernel) (by decide +kernel)
theorem k417_classLink : Cond.classLink "HelpFile" 129 "java/lang/IndexOutOfBoundsException" ∈ ga := ga_t 756 (by decide +kernel) rfl
theorem k418_instantiable : Cond.instantiable "java/lang/IndexOutOfBoundsException" 6 ∈ ga := ga_t 757 (by decide +kernel) rfl
theorem k419_initialized : Cond.initialized "java/lang/IndexOutOfBoundsException" ∈ ga := ga_t 21 (by decide +kernel) rfl
def X_HelpFile_at (zin : Nat) (k0 : Int32) (ziE : Nat → Int32) (ziC : Int32) (xc : String) : Prop := ((k0 = (-1) → False) ∧ (¬ (k0 = (-1)) → (∃ r18 : Bool, D_Row_has k0 ziC r18 ∧ (((bI r18) = 0 → (xc = "java/lang/IndexOutOfBoundsException")) ∧ (¬ ((bI r18) = 0) → (∃ r39 : Int32, D_Row_element zin k0 ziE ziC r39 ∧ False))))))
theorem d_HelpFile_at_27 : decode b_HelpFile_at 27 = .ok (.dup, 1) := by decide +kernel
theorem d_HelpFile_at_28 : decode b_HelpFile_at 28 = .ok (.ldc 131, 2) := by decide +kernel
theorem d_HelpFile_at_30 : decode b_HelpFile_at 30 = .ok (.invokespecial 133, 3) := by decide +kernel
theorem d_HelpFile_at_33 : decode b_HelpFile_at 33 = .ok (.athrow, 1) := by decide +kernel
set_option maxHeartbeats 4000000 in
set_option maxRecDepth 100000 in
theorem x_HelpFile_at (l : Launch) (htr : ∀ e : Env, l.admits e → e.platform.stackTraces = false) (dC : Nat → ClassId) (dI : Nat → Nat → Nat) (cI cL cZ : ClassId) (hf : Nat) (hfS : Value) (hfR : Value) (hfT : Value) (hfC : Value) (hfE : Value) (hfV : Value) (hfQ : Value) (hfN : Value) (hfD : Value) (hfB : Value) (hfO : Bool) (hfF : Int32) (hfY : Int32) (zi : Nat) (ziEa : Nat) (zin : Nat) (ziE : Nat → Int32) (ziC : Int32) (ziO : Bool) (k0 : Int32) (xc : String) (hd : X_HelpFile_at zin k0 ziE ziC xc) : CtT l y_HelpFile_at (Cond.code y_HelpFile_at b_HelpFile_at 2 (some .int) :: ga) { frames := 6, cells := 1, slots := 6, locals := 82 } (dC, dI) classes (Tys cI cL cZ) [.ref hf, .int k0] ((sh_HelpFile cI cL cZ hf hfS (.ref zi) hfR hfT hfC hfE hfV hfQ hfN hfD hfB hfO hfF hfY) ++ ((sh_Row cI cL cZ zi ziEa zin ziE ziC ziO))) xc := by
  refine CtT.ofW (by decide) (Nat.le_of_ble_eq_true rfl) ?_
  intro p e s m below meth c A ls hx hb hr hml hown hlocks hnh hts hK hN hZ hT hA hP hD hl
  have hown : s.vm.findClass R_HelpFile = some m.cls := hown
  have hl : lv_has ls 2 [(0, .ref hf), (1, .int k0)] := hl
  refine lv_iload_n hx hb d_HelpFile_at_0 rfl (lv_at hl 1 rfl) ?_
  refine lv_iconst (v := (-1)) hx hb d_HelpFile_at_1 (by decide) ?_
  refine lv_icmp_ne (tgt := 13) hx hb d_HelpFile_at_2 (by decide) (fun h2 => ?_) (fun h2 => ?_)
  · have hd := hd.2 h2
    refine lv_aload_n hx hb d_HelpFile_at_13 rfl (lv_at hl 0 rfl) ?_
    refine va_get (D := (dC, dI)) (ci := 0) (v := .ref zi) (C := R_HelpFile) (T := F_HelpFile) (N := 14) hx hb hts in_HelpFile hown hK hP 0 rfl rfl 1 (by decide) (hts _ (List.mem_cons_of_mem _ k378_fieldLink)) (fun _ h9 => h9) rfl d_HelpFile_at_14 ?_
    refine lv_iload_n hx hb d_HelpFile_at_17 rfl (lv_at hl 1 rfl) ?_
    obtain ⟨r18, c18, hd⟩ := hd
    refine ct_VR (As := [.int k0]) (rest := []) (C := R_Row) (ci := 1) (q := (R_Row, F_Row, 3)) ⟨hx, hb, hml, hown, hts⟩ fm_Row_has (c_Row_has l dC dI cI cL cZ zi ziEa zin ziE ziC ziO k0 r18 c18) k415_methodLink k11_instanceMethod k12_selects ⟨Nat.le_of_ble_eq_true rfl, Nat.le_of_ble_eq_true rfl⟩ rfl rfl hK hN hP hD [1, 2] rfl rfl (by decide) 1 rfl rfl rfl rfl hl.1 rfl (Nat.le_of_ble_eq_true rfl) d_HelpFile_at_18 ?_
    refine lv_if_ne (tgt := 34) hx hb d_HelpFile_at_21 (by decide) (fun h21 => ?_) (fun h21 => ?_)
    · have hd := hd.2 h21
      refine lv_aload_n hx hb d_HelpFile_at_34 rfl (lv_at hl 0 rfl) ?_
      refine va_get (D := (dC, dI)) (ci := 0) (v := .ref zi) (C := R_HelpFile) (T := F_HelpFile) (N := 14) hx hb hts in_HelpFile hown hK hP 0 rfl rfl 1 (by decide) (hts _ (List.mem_cons_of_mem _ k378_fieldLink)) (fun _ h9 => h9) rfl d_HelpFile_at_35 ?_
      refine lv_iload_n hx hb d_HelpFile_at_38 rfl (lv_at hl 1 rfl) ?_
      obtain ⟨r39, c39, hd⟩ := hd
      refine ct_VR (As := [.int k0]) (rest := []) (C := R_Row) (ci := 1) (q := (R_Row, F_Row, 3)) ⟨hx, hb, hml, hown, hts⟩ fm_Row_element (c_Row_element l dC dI cI cL cZ zi ziEa zin ziE ziC ziO k0 r39 c39) k416_methodLink k4_instanceMethod k5_selects ⟨Nat.le_of_ble_eq_true rfl, Nat.le_of_ble_eq_true rfl⟩ rfl rfl hK hN hP hD [1, 2] rfl rfl (by decide) 1 rfl rfl rfl rfl hl.1 rfl (Nat.le_of_ble_eq_true rfl) d_HelpFile_at_39 ?_
      exact False.elim hd
    · have hd := hd.1 h21
      have e0 : xc = "java/lang/IndexOutOfBoundsException" := hd
      subst e0
      obtain ⟨q9, hq9⟩ := hT.1 (131, "the image has no such byte") (by decide +kernel)
      exact ct_throw htr hx hb hml hl.1 hown hlocks hnh hts hZ hT oa_3 (by decide +kernel) (by decide +kernel) k417_classLink k418_instantiable k419_initialized hq9 d_HelpFile_at_24 d_HelpFile_at_27 d_HelpFile_at_28 d_HelpFile_at_30 d_HelpFile_at_33 (by decide) (by decide) (by decide) (by decide)
  · have hd := hd.1 h2
    refine lv_aload_n hx hb d_HelpFile_at_5 rfl (lv_at hl 0 rfl) ?_
    refine va_get (D := (dC, dI)) (ci := 0) (v := .ref zi) (C := R_HelpFile) (T := F_HelpFile) (N := 14) hx hb hts in_HelpFile hown hK hP 0 rfl rfl 1 (by decide) (hts _ (List.mem_cons_of_mem _ k378_fieldLink)) (fun _ h9 => h9) rfl d_HelpFile_at_6 ?_
    refine ct_VR (As := []) (rest := []) (C := R_Row) (ci := 1) (q := (R_Row, F_Row, 3)) ⟨hx, hb, hml, hown, hts⟩ fm_Row_count (c_Row_count l dC dI cI cL cZ zi ziEa zin ziE ziC ziO ziC rfl) k405_methodLink k67_instanceMethod k68_selects ⟨Nat.le_of_ble_eq_true rfl, Nat.le_of_ble_eq_true rfl⟩ rfl rfl hK hN hP hD [1, 2] rfl rfl (by decide) 1 rfl rfl rfl rfl hl.1 rfl (Nat.le_of_ble_eq_true rfl) d_HelpFile_at_9 ?_
    exact False.elim hd
-- HelpFile.spoil
abbrev b_HelpFile_spoil : ByteArray := prog_1_method_7_code
def y_HelpFile_spoil : MethodName := ⟨"HelpFile", "spoil", "(II)I"⟩
theorem k420_methodLink : Cond.methodLink "HelpFile" 138 ⟨"HelpFile$Row", "replace", "(II)V"⟩ ∈ ga := ga_t 780 (by decide +kernel) rfl
set_option maxRecDepth 100000 in
theorem fm_HelpFile_spoil : Fm y_HelpFile_spoil b_HelpFile_spoil 4 (some .int) 2 := ⟨ga_t 779 rfl rfl, k54_initialized, by decide, by decide, by decide +kernel⟩
def D_HelpFile_spoil (zin : Nat) (k0 : Int32) (k1 : Int32) (ziE : Nat → Int32) (ziC : Int32) (res : Int32) (ziE' : Nat → Int32) : Prop := (∃ r5 : Bool, D_Row_has k0 ziC r5 ∧ (((bI r5) = 0 → False) ∧ (¬ ((bI r5) = 0) → (∃ r26 : Int32, D_Row_element zin k0 ziE ziC r26 ∧ (∃ ziE_40 : Nat → Int32, D_Row_replace zin k0 (k1 &&& 255) ziE ziC ziE_40 ∧ (res = r26 ∧ ziE' = ziE_40))))))
theorem d_HelpFile_spoil_0 : decode b_HelpFile_spoil 0 = .ok (.aload_n 0, 1) := by decide +kernel
theorem d_HelpFile_spoil_1 : decode b_HelpFile_spoil 1 = .ok (.getfield 18, 3) := by decide +kernel
theorem d_HelpFile_spoil_4 : decode b_HelpFile_spoil 4 = .ok (.iload_n 1, 1) := by decide +kernel
theorem d_HelpFile_spoil_5 : decode b_HelpFile_spoil 5 = .ok (.invokevirtual 126, 3) := by decide +kernel
theorem d_HelpFile_spoil_8 : decode b_HelpFile_spoil 8 = .ok (.ifCond .ne 13, 3) := by decide +kernel
theorem d_HelpFile_spoil_11 : decode b_HelpFile_spoil 11 = .ok (.new 129, 3) := by decide +kernel
theorem d_HelpFile_spoil_21 : decode b_HelpFile_spoil 21 = .ok (.aload_n 0, 1) := by decide +kernel
theorem d_HelpFile_spoil_22 : decode b_HelpFile_spoil 22 = .ok (.getfield 18, 3) := by decide +kernel
theorem d_HelpFile_spoil_25 : decode b_HelpFile_spoil 25 = .ok (.iload_n 1, 1) := by decide +kernel
theorem d_HelpFile_spoil_26 : decode b_HelpFile_spoil 26 = .ok (.invokevirtual 134, 3) := by decide +kernel
theorem d_HelpFile_spoil_29 : decode b_HelpFile_spoil 29 = .ok (.istore_n 3, 1) := by decide +kernel
theorem d_HelpFile_spoil_30 : decode b_HelpFile_spoil 30 = .ok (.aload_n 0, 1) := by decide +kernel
theorem d_HelpFile_spoil_31 : decode b_HelpFile_spoil 31 = .ok (.getfield 18, 3) := by decide +kernel
theorem d_HelpFile_spoil_34 : decode b_HelpFile_spoil 34 = .ok (.iload_n 1, 1) := by decide +kernel
theorem d_HelpFile_spoil_35 : decode b_HelpFile_spoil 35 = .ok (.iload_n 2, 1) := by decide +kernel
theorem d_HelpFile_spoil_36 : decode b_HelpFile_spoil 36 = .ok (.sipush 255, 3) := by decide +kernel
theorem d_HelpFile_spoil_39 : decode b_HelpFile_spoil 39 = .ok (.iand, 1) := by decide +kernel
theorem d_HelpFile_spoil_40 : decode b_HelpFile_spoil 40 = .ok (.invokevirtual 138, 3) := by decide +kernel
theorem d_HelpFile_spoil_43 : decode b_HelpFile_spoil 43 = .ok (.iload_n 3, 1) := by decide +kernel
theorem d_HelpFile_spoil_44 : decode b_HelpFile_spoil 44 = .ok (.ireturn, 1) := by decide +kernel
set_option maxHeartbeats 4000000 in
set_option maxRecDepth 100000 in
theorem c_HelpFile_spoil (l : Launch) (dC : Nat → ClassId) (dI : Nat → Nat → Nat) (cI cL cZ : ClassId) (hf : Nat) (hfS : Value) (hfR : Value) (hfT : Value) (hfC : Value) (hfE : Value) (hfV : Value) (hfQ : Value) (hfN : Value) (hfD : Value) (hfB : Value) (hfO : Bool) (hfF : Int32) (hfY : Int32) (zi : Nat) (ziEa : Nat) (zin : Nat) (ziE : Nat → Int32) (ziC : Int32) (ziO : Bool) (k0 : Int32) (k1 : Int32) (res : Int32) (ziE' : Nat → Int32) (hd : D_HelpFile_spoil zin k0 k1 ziE ziC res ziE') : Ctr l y_HelpFile_spoil (Cond.code y_HelpFile_spoil b_HelpFile_spoil 4 (some .int) :: ga) { frames := 2, cells := 0, slots := 0, locals := 43 } (dC, dI) classes (Tys cI cL cZ) [.ref hf, .int k0, .int k1] ((sh_HelpFile cI cL cZ hf hfS (.ref zi) hfR hfT hfC hfE hfV hfQ hfN hfD hfB hfO hfF hfY) ++ ((sh_Row cI cL cZ zi ziEa zin ziE ziC ziO))) (some (.int res)) ((sh_HelpFile cI cL cZ hf hfS (.ref zi) hfR hfT hfC hfE hfV hfQ hfN hfD hfB hfO hfF hfY) ++ ((sh_Row cI cL cZ zi ziEa zin ziE' ziC ziO))) := by
  refine Ctr.ofW (by decide) (Nat.le_of_ble_eq_true rfl) ?_
  intro p e s m below meth c A ls hx hb hr hml hown hlocks hts hK hN hA hP hD hS hl
  have hown : s.vm.findClass R_HelpFile = some m.cls := hown
  have hl : lv_has ls 4 [(0, .ref hf), (1, .int k0), (2, .int k1)] := hl
  refine lv_aload_n hx hb d_HelpFile_spoil_0 rfl (lv_at hl 0 rfl) ?_
  refine va_get (D := (dC, dI)) (ci := 0) (v := .ref zi) (C := R_HelpFile) (T := F_HelpFile) (N := 14) hx hb hts in_HelpFile hown hK hP 0 rfl rfl 1 (by decide) (hts _ (List.mem_cons_of_mem _ k378_fieldLink)) (fun _ h9 => h9) rfl d_HelpFile_spoil_1 ?_
  refine lv_iload_n hx hb d_HelpFile_spoil_4 rfl (lv_at hl 1 rfl) ?_
  obtain ⟨r5, c5, hd⟩ := hd
  refine ct_VR (As := [.int k0]) (rest := []) (C := R_Row) (ci := 1) (q := (R_Row, F_Row, 3)) ⟨hx, hb, hml, hown, hts⟩ fm_Row_has (c_Row_has l dC dI cI cL cZ zi ziEa zin ziE ziC ziO k0 r5 c5) k415_methodLink k11_instanceMethod k12_selects ⟨Nat.le_of_ble_eq_true rfl, Nat.le_of_ble_eq_true rfl⟩ rfl rfl hK hN hP hD [1, 2] rfl rfl (by decide) 1 rfl rfl rfl rfl hl.1 rfl (Nat.le_of_ble_eq_true rfl) d_HelpFile_spoil_5 ?_
  refine lv_if_ne (tgt := 21) hx hb d_HelpFile_spoil_8 (by decide) (fun h8 => ?_) (fun h8 => ?_)
  · have hd := hd.2 h8
    refine lv_aload_n hx hb d_HelpFile_spoil_21 rfl (lv_at hl 0 rfl) ?_
    refine va_get (D := (dC, dI)) (ci := 0) (v := .ref zi) (C := R_HelpFile) (T := F_HelpFile) (N := 14) hx hb hts in_HelpFile hown hK hP 0 rfl rfl 1 (by decide) (hts _ (List.mem_cons_of_mem _ k378_fieldLink)) (fun _ h9 => h9) rfl d_HelpFile_spoil_22 ?_
    refine lv_iload_n hx hb d_HelpFile_spoil_25 rfl (lv_at hl 1 rfl) ?_
    obtain ⟨r26, c26, hd⟩ := hd
    refine ct_VR (As := [.int k0]) (rest := []) (C := R_Row) (ci := 1) (q := (R_Row, F_Row, 3)) ⟨hx, hb, hml, hown, hts⟩ fm_Row_element (c_Row_element l dC dI cI cL cZ zi ziEa zin ziE ziC ziO k0 r26 c26) k416_methodLink k4_instanceMethod k5_selects ⟨Nat.le_of_ble_eq_true rfl, Nat.le_of_ble_eq_true rfl⟩ rfl rfl hK hN hP hD [1, 2] rfl rfl (by decide) 1 rfl rfl rfl rfl hl.1 rfl (Nat.le_of_ble_eq_true rfl) d_HelpFile_spoil_26 ?_
    refine lv_istore_n (lv' := [(3, .int r26), (0, .ref hf), (1, .int k0), (2, .int k1)]) hx hb d_HelpFile_spoil_29 rfl hl (by decide) rfl (fun ls hl => ?_)
    refine lv_aload_n hx hb d_HelpFile_spoil_30 rfl (lv_at hl 1 rfl) ?_
    refine va_get (D := (dC, dI)) (ci := 0) (v := .ref zi) (C := R_HelpFile) (T := F_HelpFile) (N := 14) hx hb hts in_HelpFile hown hK hP 0 rfl rfl 1 (by decide) (hts _ (List.mem_cons_of_mem _ k378_fieldLink)) (fun _ h9 => h9) rfl d_HelpFile_spoil_31 ?_
    refine lv_iload_n hx hb d_HelpFile_spoil_34 rfl (lv_at hl 2 rfl) ?_
    refine lv_iload_n hx hb d_HelpFile_spoil_35 rfl (lv_at hl 3 rfl) ?_
    refine lv_sipush (v := 255) hx hb d_HelpFile_spoil_36 (by decide) ?_
    refine lv_iand hx hb d_HelpFile_spoil_39 ?_
    obtain ⟨ziE_40, c40, hd⟩ := hd
    refine ct_V (As := [.int k0, .int (k1 &&& 255)]) (rest := []) (C := R_Row) (ci := 1) (q := (R_Row, F_Row, 3)) ⟨hx, hb, hml, hown, hts⟩ fm_Row_replace (c_Row_replace l dC dI cI cL cZ zi ziEa zin ziE ziC ziO k0 (k1 &&& 255) ziE_40 c40) k420_methodLink k14_instanceMethod k15_selects ⟨Nat.le_of_ble_eq_true rfl, Nat.le_of_ble_eq_true rfl⟩ rfl rfl hK hN hP hD hS hA [1, 2] [0] rfl rfl rfl (by decide) (by decide) (by decide) 1 rfl rfl rfl rfl hl.1 rfl (Nat.le_of_ble_eq_true rfl) d_HelpFile_spoil_40 (fun H locs hP hD hS => ?_)
    have hP : va_P (dC, dI) classes ((sh_HelpFile cI cL cZ hf hfS (.ref zi) hfR hfT hfC hfE hfV hfQ hfN hfD hfB hfO hfF hfY) ++ ((sh_Row cI cL cZ zi ziEa zin ziE_40 ziC ziO))) H := hP.sub [0, 1, 2] rfl
    have hD : va_D A ((sh_HelpFile cI cL cZ hf hfS (.ref zi) hfR hfT hfC hfE hfV hfQ hfN hfD hfB hfO hfF hfY) ++ ((sh_Row cI cL cZ zi ziEa zin ziE_40 ziC ziO))) := hD.sub [0, 1, 2] (by decide) rfl
    refine lv_iload_n hx hb d_HelpFile_spoil_43 rfl (lv_at hl 0 rfl) ?_
    obtain ⟨e0, e1⟩ := hd
    subst e0
    subst e1
    exact ct_iret hx hb hr hlocks hK hP hD hS d_HelpFile_spoil_44
  · have hd := hd.1 h8
    exact False.elim hd
def X_HelpFile_spoil (zin : Nat) (k0 : Int32) (k1 : Int32) (ziE : Nat → Int32) (ziC : Int32) (xc : String) : Prop := (∃ r5 : Bool, D_Row_has k0 ziC r5 ∧ (((bI r5) = 0 → (xc = "java/lang/IndexOutOfBoundsException")) ∧ (¬ ((bI r5) = 0) → (∃ r26 : Int32, D_Row_element zin k0 ziE ziC r26 ∧ False))))
theorem d_HelpFile_spoil_14 : decode b_HelpFile_spoil 14 = .ok (.dup, 1) := by decide +kernel
theorem d_HelpFile_spoil_15 : decode b_HelpFile_spoil 15 = .ok (.ldc 131, 2) := by decide +kernel
theorem d_HelpFile_spoil_17 : decode b_HelpFile_spoil 17 = .ok (.invokespecial 133, 3) := by decide +kernel
theorem d_HelpFile_spoil_20 : decode b_HelpFile_spoil 20 = .ok (.athrow, 1) := by decide +kernel
set_option maxHeartbeats 4000000 in
set_option maxRecDepth 100000 in
theorem x_HelpFile_spoil (l : Launch) (htr : ∀ e : Env, l.admits e → e.platform.stackTraces = false) (dC : Nat → ClassId) (dI : Nat → Nat → Nat) (cI cL cZ : ClassId) (hf : Nat) (hfS : Value) (hfR : Value) (hfT : Value) (hfC : Value) (hfE : Value) (hfV : Value) (hfQ : Value) (hfN : Value) (hfD : Value) (hfB : Value) (hfO : Bool) (hfF : Int32) (hfY : Int32) (zi : Nat) (ziEa : Nat) (zin : Nat) (ziE : Nat → Int32) (ziC : Int32) (ziO : Bool) (k0 : Int32) (k1 : Int32) (xc : String) (hd : X_HelpFile_spoil zin k0 k1 ziE ziC xc) : CtT l y_HelpFile_spoil (Cond.code y_HelpFile_spoil b_HelpFile_spoil 4 (some .int) :: ga) { frames := 6, cells := 1, slots := 6, locals := 82 } (dC, dI) classes (Tys cI cL cZ) [.ref hf, .int k0, .int k1] ((sh_HelpFile cI cL cZ hf hfS (.ref zi) hfR hfT hfC hfE hfV hfQ hfN hfD hfB hfO hfF hfY) ++ ((sh_Row cI cL cZ zi ziEa zin ziE ziC ziO))) xc := by
  refine CtT.ofW (by decide) (Nat.le_of_ble_eq_true rfl) ?_
  intro p e s m below meth c A ls hx hb hr hml hown hlocks hnh hts hK hN hZ hT hA hP hD hl
  have hown : s.vm.findClass R_HelpFile = some m.cls := hown
  have hl : lv_has ls 4 [(0, .ref hf), (1, .int k0), (2, .int k1)] := hl
  refine lv_aload_n hx hb d_HelpFile_spoil_0 rfl (lv_at hl 0 rfl) ?_
  refine va_get (D := (dC, dI)) (ci := 0) (v := .ref zi) (C := R_HelpFile) (T := F_HelpFile) (N := 14) hx hb hts in_HelpFile hown hK hP 0 rfl rfl 1 (by decide) (hts _ (List.mem_cons_of_mem _ k378_fieldLink)) (fun _ h9 => h9) rfl d_HelpFile_spoil_1 ?_
  refine lv_iload_n hx hb d_HelpFile_spoil_4 rfl (lv_at hl 1 rfl) ?_
  obtain ⟨r5, c5, hd⟩ := hd
  refine ct_VR (As := [.int k0]) (rest := []) (C := R_Row) (ci := 1) (q := (R_Row, F_Row, 3)) ⟨hx, hb, hml, hown, hts⟩ fm_Row_has (c_Row_has l dC dI cI cL cZ zi ziEa zin ziE ziC ziO k0 r5 c5) k415_methodLink k11_instanceMethod k12_selects ⟨Nat.le_of_ble_eq_true rfl, Nat.le_of_ble_eq_true rfl⟩ rfl rfl hK hN hP hD [1, 2] rfl rfl (by decide) 1 rfl rfl rfl rfl hl.1 rfl (Nat.le_of_ble_eq_true rfl) d_HelpFile_spoil_5 ?_
  refine lv_if_ne (tgt := 21) hx hb d_HelpFile_spoil_8 (by decide) (fun h8 => ?_) (fun h8 => ?_)
  · have hd := hd.2 h8
    refine lv_aload_n hx hb d_HelpFile_spoil_21 rfl (lv_at hl 0 rfl) ?_
    refine va_get (D := (dC, dI)) (ci := 0) (v := .ref zi) (C := R_HelpFile) (T := F_HelpFile) (N := 14) hx hb hts in_HelpFile hown hK hP 0 rfl rfl 1 (by decide) (hts _ (List.mem_cons_of_mem _ k378_fieldLink)) (fun _ h9 => h9) rfl d_HelpFile_spoil_22 ?_
    refine lv_iload_n hx hb d_HelpFile_spoil_25 rfl (lv_at hl 1 rfl) ?_
    obtain ⟨r26, c26, hd⟩ := hd
    refine ct_VR (As := [.int k0]) (rest := []) (C := R_Row) (ci := 1) (q := (R_Row, F_Row, 3)) ⟨hx, hb, hml, hown, hts⟩ fm_Row_element (c_Row_element l dC dI cI cL cZ zi ziEa zin ziE ziC ziO k0 r26 c26) k416_methodLink k4_instanceMethod k5_selects ⟨Nat.le_of_ble_eq_true rfl, Nat.le_of_ble_eq_true rfl⟩ rfl rfl hK hN hP hD [1, 2] rfl rfl (by decide) 1 rfl rfl rfl rfl hl.1 rfl (Nat.le_of_ble_eq_true rfl) d_HelpFile_spoil_26 ?_
    refine lv_istore_n (lv' := [(3, .int r26), (0, .ref hf), (1, .int k0), (2, .int k1)]) hx hb d_HelpFile_spoil_29 rfl hl (by decide) rfl (fun ls hl => ?_)
    refine lv_aload_n hx hb d_HelpFile_spoil_30 rfl (lv_at hl 1 rfl) ?_
    refine va_get (D := (dC, dI)) (ci := 0) (v := .ref zi) (C := R_HelpFile) (T := F_HelpFile) (N := 14) hx hb hts in_HelpFile hown hK hP 0 rfl rfl 1 (by decide) (hts _ (List.mem_cons_of_mem _ k378_fieldLink)) (fun _ h9 => h9) rfl d_HelpFile_spoil_31 ?_
    refine lv_iload_n hx hb d_HelpFile_spoil_34 rfl (lv_at hl 2 rfl) ?_
    refine lv_iload_n hx hb d_HelpFile_spoil_35 rfl (lv_at hl 3 rfl) ?_
    refine lv_sipush (v := 255) hx hb d_HelpFile_spoil_36 (by decide) ?_
    refine lv_iand hx hb d_HelpFile_spoil_39 ?_
    exact False.elim hd
  · have hd := hd.1 h8
    have e0 : xc = "java/lang/IndexOutOfBoundsException" := hd
    subst e0
    obtain ⟨q9, hq9⟩ := hT.1 (131, "the image has no such byte") (by decide +kernel)
    exact ct_throw htr hx hb hml hl.1 hown hlocks hnh hts hZ hT oa_3 (by decide +kernel) (by decide +kernel) k417_classLink k418_instantiable k419_initialized hq9 d_HelpFile_spoil_11 d_HelpFile_spoil_14 d_HelpFile_spoil_15 d_HelpFile_spoil_17 d_HelpFile_spoil_20 (by decide) (by decide) (by decide) (by decide)
-- HelpFile.jump
abbrev b_HelpFile_jump : ByteArray := prog_1_method_9_code
def y_HelpFile_jump : MethodName := ⟨"HelpFile", "jump", "(I)V"⟩
theorem k421_methodLink : Cond.methodLink "HelpFile" 149 ⟨"HelpFile", "requireOpen", "()V"⟩ ∈ ga := ga_t 790 (by decide +kernel) rfl
theorem k422_instanceMethod : Cond.instanceMethod ⟨"HelpFile", "requireOpen", "()V"⟩ ∈ ga := ga_t 792 (by decide +kernel) rfl
theorem k423_selects : Cond.selects "HelpFile" ⟨"HelpFile", "requireOpen", "()V"⟩ ⟨"HelpFile", "requireOpen", "()V"⟩ ∈ ga := ga_s (q := (⟨"HelpFile", "requireOpen", "()V"⟩, _)) 22 rfl
theorem k424_methodLink : Cond.methodLink "HelpFile" 152 ⟨"HelpFile$Book", "topics", "()I"⟩ ∈ ga := ga_t 810 (by decide +kernel) rfl
theorem k425_methodLink : Cond.methodLink "HelpFile" 160 ⟨"HelpFile$Visits", "visit", "(I)V"⟩ ∈ ga := ga_t 827 (by decide +kernel) rfl
theorem k426_instanceMethod : Cond.instanceMethod ⟨"HelpFile$Visits", "visit", "(I)V"⟩ ∈ ga := ga_t 828 (by decide +kernel) rfl
theorem k427_selects : Cond.selects "HelpFile$Visits" ⟨"HelpFile$Visits", "visit", "(I)V"⟩ ⟨"HelpFile$Visits", "visit", "(I)V"⟩ ∈ ga := ga_t 829 (by decide +kernel) rfl
set_option maxRecDepth 100000 in
theorem fm_HelpFile_jump : Fm y_HelpFile_jump b_HelpFile_jump 2 none 1 := ⟨ga_t 789 rfl rfl, k54_initialized, by decide, by decide, by decide +kernel⟩
def D_HelpFile_jump (zvBn : Nat) (k0 : Int32) (hfO : Bool) (zvBE : Nat → Int32) (zvBC : Int32) (zvBO : Bool) (zvFC : Int32) (zvFO : Bool) (zvT : Int32) (bbT : Int32) (zvBE' : Nat → Int32) (zvBC' : Int32) (zvBO' : Bool) (zvFC' : Int32) (zvFO' : Bool) (zvT' : Int32) : Prop := (D_HelpFile_requireOpen hfO ∧ ((k0 < 0 → False) ∧ (¬ (k0 < 0) → ((k0 < bbT → (∃ zvBE_34 : Nat → Int32, ∃ zvBC_34 : Int32, ∃ zvBO_34 : Bool, ∃ zvFC_34 : Int32, ∃ zvFO_34 : Bool, ∃ zvT_34 : Int32, D_Visits_visit zvBn k0 zvBE zvBC zvBO zvFC zvFO zvT zvBE_34 zvBC_34 zvBO_34 zvFC_34 zvFO_34 zvT_34 ∧ (zvBE' = zvBE_34 ∧ zvBC' = zvBC_34 ∧ zvBO' = zvBO_34 ∧ zvFC' = zvFC_34 ∧ zvFO' = zvFO_34 ∧ zvT' = zvT_34))) ∧ (¬ (k0 < bbT) → False)))))
theorem d_HelpFile_jump_0 : decode b_HelpFile_jump 0 = .ok (.aload_n 0, 1) := by decide +kernel
theorem d_HelpFile_jump_1 : decode b_HelpFile_jump 1 = .ok (.invokevirtual 149, 3) := by decide +kernel
theorem d_HelpFile_jump_4 : decode b_HelpFile_jump 4 = .ok (.iload_n 1, 1) := by decide +kernel
theorem d_HelpFile_jump_5 : decode b_HelpFile_jump 5 = .ok (.ifCond .lt 14, 3) := by decide +kernel
theorem d_HelpFile_jump_8 : decode b_HelpFile_jump 8 = .ok (.iload_n 1, 1) := by decide +kernel
theorem d_HelpFile_jump_9 : decode b_HelpFile_jump 9 = .ok (.aload_n 0, 1) := by decide +kernel
theorem d_HelpFile_jump_10 : decode b_HelpFile_jump 10 = .ok (.getfield 69, 3) := by decide +kernel
theorem d_HelpFile_jump_13 : decode b_HelpFile_jump 13 = .ok (.invokevirtual 152, 3) := by decide +kernel
theorem d_HelpFile_jump_16 : decode b_HelpFile_jump 16 = .ok (.if_icmp .lt 13, 3) := by decide +kernel
theorem d_HelpFile_jump_19 : decode b_HelpFile_jump 19 = .ok (.new 155, 3) := by decide +kernel
theorem d_HelpFile_jump_29 : decode b_HelpFile_jump 29 = .ok (.aload_n 0, 1) := by decide +kernel
theorem d_HelpFile_jump_30 : decode b_HelpFile_jump 30 = .ok (.getfield 44, 3) := by decide +kernel
theorem d_HelpFile_jump_33 : decode b_HelpFile_jump 33 = .ok (.iload_n 1, 1) := by decide +kernel
theorem d_HelpFile_jump_34 : decode b_HelpFile_jump 34 = .ok (.invokevirtual 160, 3) := by decide +kernel
theorem d_HelpFile_jump_37 : decode b_HelpFile_jump 37 = .ok (.return_, 1) := by decide +kernel
set_option maxHeartbeats 4000000 in
set_option maxRecDepth 100000 in
theorem c_HelpFile_jump (l : Launch) (dC : Nat → ClassId) (dI : Nat → Nat → Nat) (cI cL cZ : ClassId) (hf : Nat) (hfS : Value) (hfI : Value) (hfR : Value) (hfT : Value) (hfC : Value) (hfE : Value) (hfQ : Value) (hfN : Value) (hfD : Value) (hfO : Bool) (hfF : Int32) (hfY : Int32) (zv : Nat) (zvB : Nat) (zvBEa : Nat) (zvBn : Nat) (zvBE : Nat → Int32) (zvBC : Int32) (zvBO : Bool) (zvF : Nat) (zvFEa : Nat) (zvFn : Nat) (zvFE : Nat → Int32) (zvFC : Int32) (zvFO : Bool) (zvT : Int32) (bb : Nat) (bbNa : Nat) (bbN : Nat → Int64) (bbSa : Nat) (bbS : Nat → Int32) (bbB : Nat) (bbBEa : Nat) (bbBn : Nat) (bbBE : Nat → Int32) (bbBC : Int32) (bbBO : Bool) (bbK : Nat) (bbKWa : Nat) (bbKn : Nat) (bbKW : Nat → Int64) (bbKTa : Nat) (bbKT : Nat → Int32) (bbKC : Int32) (bbV : Nat) (bbVWa : Nat) (bbVn : Nat) (bbVW : Nat → Int64) (bbVTa : Nat) (bbVT : Nat → Int32) (bbVC : Int32) (bbT : Int32) (k0 : Int32) (zvBE' : Nat → Int32) (zvBC' : Int32) (zvBO' : Bool) (zvFC' : Int32) (zvFO' : Bool) (zvT' : Int32) (hd : D_HelpFile_jump zvBn k0 hfO zvBE zvBC zvBO zvFC zvFO zvT bbT zvBE' zvBC' zvBO' zvFC' zvFO' zvT') : Ctr l y_HelpFile_jump (Cond.code y_HelpFile_jump b_HelpFile_jump 2 none :: ga) { frames := 4, cells := 0, slots := 0, locals := 84 } (dC, dI) classes (Tys cI cL cZ) [.ref hf, .int k0] ((sh_HelpFile cI cL cZ hf hfS hfI hfR hfT hfC hfE (.ref zv) hfQ hfN hfD (.ref bb) hfO hfF hfY) ++ ((sh_Visits cI cL cZ zv zvB zvBEa zvBn zvBE zvBC zvBO zvF zvFEa zvFn zvFE zvFC zvFO zvT) ++ ((sh_Book cI cL cZ bb bbNa bbN bbSa bbS bbB bbBEa bbBn bbBE bbBC bbBO bbK bbKWa bbKn bbKW bbKTa bbKT bbKC bbV bbVWa bbVn bbVW bbVTa bbVT bbVC bbT)))) none ((sh_HelpFile cI cL cZ hf hfS hfI hfR hfT hfC hfE (.ref zv) hfQ hfN hfD (.ref bb) hfO hfF hfY) ++ ((sh_Visits cI cL cZ zv zvB zvBEa zvBn zvBE' zvBC' zvBO' zvF zvFEa zvFn zvFE zvFC' zvFO' zvT') ++ ((sh_Book cI cL cZ bb bbNa bbN bbSa bbS bbB bbBEa bbBn bbBE bbBC bbBO bbK bbKWa bbKn bbKW bbKTa bbKT bbKC bbV bbVWa bbVn bbVW bbVTa bbVT bbVC bbT)))) := by
  refine Ctr.ofW (by decide) (Nat.le_of_ble_eq_true rfl) ?_
  intro p e s m below meth c A ls hx hb hr hml hown hlocks hts hK hN hA hP hD hS hl
  have hown : s.vm.findClass R_HelpFile = some m.cls := hown
  have hl : lv_has ls 2 [(0, .ref hf), (1, .int k0)] := hl
  refine lv_aload_n hx hb d_HelpFile_jump_0 rfl (lv_at hl 0 rfl) ?_
  obtain ⟨c1, hd⟩ := hd
  refine ct_VR (As := []) (rest := []) (C := R_HelpFile) (ci := 0) (q := (R_HelpFile, F_HelpFile, 14)) ⟨hx, hb, hml, hown, hts⟩ fm_HelpFile_requireOpen (c_HelpFile_requireOpen l dC dI cI cL cZ hf hfS hfI hfR hfT hfC hfE (.ref zv) hfQ hfN hfD (.ref bb) hfO hfF hfY c1) k421_methodLink k422_instanceMethod k423_selects ⟨Nat.le_of_ble_eq_true rfl, Nat.le_of_ble_eq_true rfl⟩ rfl rfl hK hN hP hD [0] rfl rfl (by decide) 0 rfl rfl rfl rfl hl.1 rfl (Nat.le_of_ble_eq_true rfl) d_HelpFile_jump_1 ?_
  refine lv_iload_n hx hb d_HelpFile_jump_4 rfl (lv_at hl 1 rfl) ?_
  refine lv_if_lt (tgt := 19) hx hb d_HelpFile_jump_5 (by decide) (fun h5 => ?_) (fun h5 => ?_)
  · have hd := hd.1 h5
    exact False.elim hd
  · have hd := hd.2 h5
    refine lv_iload_n hx hb d_HelpFile_jump_8 rfl (lv_at hl 1 rfl) ?_
    refine lv_aload_n hx hb d_HelpFile_jump_9 rfl (lv_at hl 0 rfl) ?_
    refine va_get (D := (dC, dI)) (ci := 0) (v := .ref bb) (C := R_HelpFile) (T := F_HelpFile) (N := 14) hx hb hts in_HelpFile hown hK hP 0 rfl rfl 10 (by decide) (hts _ (List.mem_cons_of_mem _ k396_fieldLink)) (fun _ h9 => h9) rfl d_HelpFile_jump_10 ?_
    refine ct_VR (As := []) (rest := [.int k0]) (C := R_Book) (ci := 3) (q := (R_Book, F_Book, 6)) ⟨hx, hb, hml, hown, hts⟩ fm_Book_topics (c_Book_topics l dC dI cI cL cZ bb bbNa bbN bbSa bbS bbB bbBEa bbBn bbBE bbBC bbBO bbK bbKWa bbKn bbKW bbKTa bbKT bbKC bbV bbVWa bbVn bbVW bbVTa bbVT bbVC bbT bbT rfl) k424_methodLink k128_instanceMethod k129_selects ⟨Nat.le_of_ble_eq_true rfl, Nat.le_of_ble_eq_true rfl⟩ rfl rfl hK hN hP hD [6, 7, 8, 9, 10, 11, 12, 13, 14, 15, 16] rfl rfl (by decide) 6 rfl rfl rfl rfl hl.1 rfl (Nat.le_of_ble_eq_true rfl) d_HelpFile_jump_13 ?_
    refine lv_icmp_lt (tgt := 29) hx hb d_HelpFile_jump_16 (by decide) (fun h16 => ?_) (fun h16 => ?_)
    · have hd := hd.1 h16
      refine lv_aload_n hx hb d_HelpFile_jump_29 rfl (lv_at hl 0 rfl) ?_
      refine va_get (D := (dC, dI)) (ci := 0) (v := .ref zv) (C := R_HelpFile) (T := F_HelpFile) (N := 14) hx hb hts in_HelpFile hown hK hP 0 rfl rfl 6 (by decide) (hts _ (List.mem_cons_of_mem _ k397_fieldLink)) (fun _ h9 => h9) rfl d_HelpFile_jump_30 ?_
      refine lv_iload_n hx hb d_HelpFile_jump_33 rfl (lv_at hl 1 rfl) ?_
      obtain ⟨zvBE_34, zvBC_34, zvBO_34, zvFC_34, zvFO_34, zvT_34, c34, hd⟩ := hd
      refine ct_V (As := [.int k0]) (rest := []) (C := R_Visits) (ci := 6) (q := (R_Visits, F_Visits, 3)) ⟨hx, hb, hml, hown, hts⟩ fm_Visits_visit (c_Visits_visit l dC dI cI cL cZ zv zvB zvBEa zvBn zvBE zvBC zvBO zvF zvFEa zvFn zvFE zvFC zvFO zvT k0 zvBE_34 zvBC_34 zvBO_34 zvFC_34 zvFO_34 zvT_34 c34) k425_methodLink k426_instanceMethod k427_selects ⟨Nat.le_of_ble_eq_true rfl, Nat.le_of_ble_eq_true rfl⟩ rfl rfl hK hN hP hD hS hA [1, 2, 3, 4, 5] [0, 6, 7, 8, 9, 10, 11, 12, 13, 14, 15, 16] rfl rfl rfl (by decide) (by decide) (by decide) 1 rfl rfl rfl rfl hl.1 rfl (Nat.le_of_ble_eq_true rfl) d_HelpFile_jump_34 (fun H locs hP hD hS => ?_)
      have hP : va_P (dC, dI) classes ((sh_HelpFile cI cL cZ hf hfS hfI hfR hfT hfC hfE (.ref zv) hfQ hfN hfD (.ref bb) hfO hfF hfY) ++ ((sh_Visits cI cL cZ zv zvB zvBEa zvBn zvBE_34 zvBC_34 zvBO_34 zvF zvFEa zvFn zvFE zvFC_34 zvFO_34 zvT_34) ++ ((sh_Book cI cL cZ bb bbNa bbN bbSa bbS bbB bbBEa bbBn bbBE bbBC bbBO bbK bbKWa bbKn bbKW bbKTa bbKT bbKC bbV bbVWa bbVn bbVW bbVTa bbVT bbVC bbT)))) H := hP.sub [0, 12, 13, 14, 15, 16, 1, 2, 3, 4, 5, 6, 7, 8, 9, 10, 11] rfl
      have hD : va_D A ((sh_HelpFile cI cL cZ hf hfS hfI hfR hfT hfC hfE (.ref zv) hfQ hfN hfD (.ref bb) hfO hfF hfY) ++ ((sh_Visits cI cL cZ zv zvB zvBEa zvBn zvBE_34 zvBC_34 zvBO_34 zvF zvFEa zvFn zvFE zvFC_34 zvFO_34 zvT_34) ++ ((sh_Book cI cL cZ bb bbNa bbN bbSa bbS bbB bbBEa bbBn bbBE bbBC bbBO bbK bbKWa bbKn bbKW bbKTa bbKT bbKC bbV bbVWa bbVn bbVW bbVTa bbVT bbVC bbT)))) := hD.sub [0, 12, 13, 14, 15, 16, 1, 2, 3, 4, 5, 6, 7, 8, 9, 10, 11] (by decide) rfl
      obtain ⟨e0, e1, e2, e3, e4, e5⟩ := hd
      subst e0
      subst e1
      subst e2
      subst e3
      subst e4
      subst e5
      exact ct_vret hx hb hr hlocks hK hP hD hS d_HelpFile_jump_37
    · have hd := hd.2 h16
      exact False.elim hd
set_option maxRecDepth 100000 in
theorem oa_4 : thOk (ownAtomsN "HelpFile" 159 "java/util/NoSuchElementException") := thOk_of [11, 672, 681, 687, 690, 692, 673, 674, 30, 31, 675, 680, 688, 708, 662, 709, 664, 710, 666, 676, 678, 668, 704, 705, 707, 668, 822, 823, 824, 698, 698, 699, 700, 701, 701, 702, 703, 704, 821, 812, 814, 686, 815, 816, 817, 818, 671, 670, 819] (by decide +kernel) (by decide +kernel) (by decide +kernel)
theorem k428_classLink : Cond.classLink "HelpFile" 155 "java/util/NoSuchElementException" ∈ ga := ga_t 811 (by decide +kernel) rfl
theorem k429_instantiable : Cond.instantiable "java/util/NoSuchElementException" 6 ∈ ga := ga_t 812 (by decide +kernel) rfl
theorem k430_initialized : Cond.initialized "java/util/NoSuchElementException" ∈ ga := ga_t 23 (by decide +kernel) rfl
def X_HelpFile_jump (k0 : Int32) (hfO : Bool) (bbT : Int32) (xc : String) : Prop := ((D_HelpFile_requireOpen hfO ∧ ((k0 < 0 → (xc = "java/util/NoSuchElementException")) ∧ (¬ (k0 < 0) → ((k0 < bbT → False) ∧ (¬ (k0 < bbT) → (xc = "java/util/NoSuchElementException")))))) ∨ X_HelpFile_requireOpen hfO xc)
theorem d_HelpFile_jump_22 : decode b_HelpFile_jump 22 = .ok (.dup, 1) := by decide +kernel
theorem d_HelpFile_jump_23 : decode b_HelpFile_jump 23 = .ok (.ldc 157, 2) := by decide +kernel
theorem d_HelpFile_jump_25 : decode b_HelpFile_jump 25 = .ok (.invokespecial 159, 3) := by decide +kernel
theorem d_HelpFile_jump_28 : decode b_HelpFile_jump 28 = .ok (.athrow, 1) := by decide +kernel
set_option maxHeartbeats 4000000 in
set_option maxRecDepth 100000 in
theorem x_HelpFile_jump (l : Launch) (htr : ∀ e : Env, l.admits e → e.platform.stackTraces = false) (dC : Nat → ClassId) (dI : Nat → Nat → Nat) (cI cL cZ : ClassId) (hf : Nat) (hfS : Value) (hfI : Value) (hfR : Value) (hfT : Value) (hfC : Value) (hfE : Value) (hfQ : Value) (hfN : Value) (hfD : Value) (hfO : Bool) (hfF : Int32) (hfY : Int32) (zv : Nat) (zvB : Nat) (zvBEa : Nat) (zvBn : Nat) (zvBE : Nat → Int32) (zvBC : Int32) (zvBO : Bool) (zvF : Nat) (zvFEa : Nat) (zvFn : Nat) (zvFE : Nat → Int32) (zvFC : Int32) (zvFO : Bool) (zvT : Int32) (bb : Nat) (bbNa : Nat) (bbN : Nat → Int64) (bbSa : Nat) (bbS : Nat → Int32) (bbB : Nat) (bbBEa : Nat) (bbBn : Nat) (bbBE : Nat → Int32) (bbBC : Int32) (bbBO : Bool) (bbK : Nat) (bbKWa : Nat) (bbKn : Nat) (bbKW : Nat → Int64) (bbKTa : Nat) (bbKT : Nat → Int32) (bbKC : Int32) (bbV : Nat) (bbVWa : Nat) (bbVn : Nat) (bbVW : Nat → Int64) (bbVTa : Nat) (bbVT : Nat → Int32) (bbVC : Int32) (bbT : Int32) (k0 : Int32) (xc : String) (hd : X_HelpFile_jump k0 hfO bbT xc) : CtT l y_HelpFile_jump (Cond.code y_HelpFile_jump b_HelpFile_jump 2 none :: ga) { frames := 7, cells := 1, slots := 6, locals := 102 } (dC, dI) classes (Tys cI cL cZ) [.ref hf, .int k0] ((sh_HelpFile cI cL cZ hf hfS hfI hfR hfT hfC hfE (.ref zv) hfQ hfN hfD (.ref bb) hfO hfF hfY) ++ ((sh_Visits cI cL cZ zv zvB zvBEa zvBn zvBE zvBC zvBO zvF zvFEa zvFn zvFE zvFC zvFO zvT) ++ ((sh_Book cI cL cZ bb bbNa bbN bbSa bbS bbB bbBEa bbBn bbBE bbBC bbBO bbK bbKWa bbKn bbKW bbKTa bbKT bbKC bbV bbVWa bbVn bbVW bbVTa bbVT bbVC bbT)))) xc := by
  refine CtT.ofW (by decide) (Nat.le_of_ble_eq_true rfl) ?_
  intro p e s m below meth c A ls hx hb hr hml hown hlocks hnh hts hK hN hZ hT hA hP hD hl
  have hown : s.vm.findClass R_HelpFile = some m.cls := hown
  have hl : lv_has ls 2 [(0, .ref hf), (1, .int k0)] := hl
  refine lv_aload_n hx hb d_HelpFile_jump_0 rfl (lv_at hl 0 rfl) ?_
  rcases hd with hd | hd
  · skip
    obtain ⟨c1, hd⟩ := hd
    refine ct_VR (As := []) (rest := []) (C := R_HelpFile) (ci := 0) (q := (R_HelpFile, F_HelpFile, 14)) ⟨hx, hb, hml, hown, hts⟩ fm_HelpFile_requireOpen (c_HelpFile_requireOpen l dC dI cI cL cZ hf hfS hfI hfR hfT hfC hfE (.ref zv) hfQ hfN hfD (.ref bb) hfO hfF hfY c1) k421_methodLink k422_instanceMethod k423_selects ⟨Nat.le_of_ble_eq_true rfl, Nat.le_of_ble_eq_true rfl⟩ rfl rfl hK hN hP hD [0] rfl rfl (by decide) 0 rfl rfl rfl rfl hl.1 rfl (Nat.le_of_ble_eq_true rfl) d_HelpFile_jump_1 ?_
    refine lv_iload_n hx hb d_HelpFile_jump_4 rfl (lv_at hl 1 rfl) ?_
    refine lv_if_lt (tgt := 19) hx hb d_HelpFile_jump_5 (by decide) (fun h5 => ?_) (fun h5 => ?_)
    · have hd := hd.1 h5
      have e0 : xc = "java/util/NoSuchElementException" := hd
      subst e0
      obtain ⟨q9, hq9⟩ := hT.1 (157, "no such topic") (by decide +kernel)
      exact ct_throwN htr hx hb hml hl.1 hown hlocks hnh hts hZ hT oa_4 (by decide +kernel) k428_classLink k429_instantiable k430_initialized hq9 d_HelpFile_jump_19 d_HelpFile_jump_22 d_HelpFile_jump_23 d_HelpFile_jump_25 d_HelpFile_jump_28 (by decide) (by decide) (by decide) (by decide)
    · have hd := hd.2 h5
      refine lv_iload_n hx hb d_HelpFile_jump_8 rfl (lv_at hl 1 rfl) ?_
      refine lv_aload_n hx hb d_HelpFile_jump_9 rfl (lv_at hl 0 rfl) ?_
      refine va_get (D := (dC, dI)) (ci := 0) (v := .ref bb) (C := R_HelpFile) (T := F_HelpFile) (N := 14) hx hb hts in_HelpFile hown hK hP 0 rfl rfl 10 (by decide) (hts _ (List.mem_cons_of_mem _ k396_fieldLink)) (fun _ h9 => h9) rfl d_HelpFile_jump_10 ?_
      refine ct_VR (As := []) (rest := [.int k0]) (C := R_Book) (ci := 3) (q := (R_Book, F_Book, 6)) ⟨hx, hb, hml, hown, hts⟩ fm_Book_topics (c_Book_topics l dC dI cI cL cZ bb bbNa bbN bbSa bbS bbB bbBEa bbBn bbBE bbBC bbBO bbK bbKWa bbKn bbKW bbKTa bbKT bbKC bbV bbVWa bbVn bbVW bbVTa bbVT bbVC bbT bbT rfl) k424_methodLink k128_instanceMethod k129_selects ⟨Nat.le_of_ble_eq_true rfl, Nat.le_of_ble_eq_true rfl⟩ rfl rfl hK hN hP hD [6, 7, 8, 9, 10, 11, 12, 13, 14, 15, 16] rfl rfl (by decide) 6 rfl rfl rfl rfl hl.1 rfl (Nat.le_of_ble_eq_true rfl) d_HelpFile_jump_13 ?_
      refine lv_icmp_lt (tgt := 29) hx hb d_HelpFile_jump_16 (by decide) (fun h16 => ?_) (fun h16 => ?_)
      · have hd := hd.1 h16
        refine lv_aload_n hx hb d_HelpFile_jump_29 rfl (lv_at hl 0 rfl) ?_
        refine va_get (D := (dC, dI)) (ci := 0) (v := .ref zv) (C := R_HelpFile) (T := F_HelpFile) (N := 14) hx hb hts in_HelpFile hown hK hP 0 rfl rfl 6 (by decide) (hts _ (List.mem_cons_of_mem _ k397_fieldLink)) (fun _ h9 => h9) rfl d_HelpFile_jump_30 ?_
        refine lv_iload_n hx hb d_HelpFile_jump_33 rfl (lv_at hl 1 rfl) ?_
        exact False.elim hd
      · have hd := hd.2 h16
        have e0 : xc = "java/util/NoSuchElementException" := hd
        subst e0
        obtain ⟨q9, hq9⟩ := hT.1 (157, "no such topic") (by decide +kernel)
        exact ct_throwN htr hx hb hml hl.1 hown hlocks hnh hts hZ hT oa_4 (by decide +kernel) k428_classLink k429_instantiable k430_initialized hq9 d_HelpFile_jump_19 d_HelpFile_jump_22 d_HelpFile_jump_23 d_HelpFile_jump_25 d_HelpFile_jump_28 (by decide) (by decide) (by decide) (by decide)
  · exact ct_VT (As := []) (rest := []) (C := R_HelpFile) (ci := 0) (q := (R_HelpFile, F_HelpFile, 14)) ⟨hx, hb, hml, hown, hts⟩ hlocks hnh fm_HelpFile_requireOpen (x_HelpFile_requireOpen l htr dC dI cI cL cZ hf hfS hfI hfR hfT hfC hfE (.ref zv) hfQ hfN hfD (.ref bb) hfO hfF hfY xc hd) k421_methodLink k422_instanceMethod k423_selects ⟨Nat.le_of_ble_eq_true rfl, Nat.le_of_ble_eq_true rfl⟩ (by decide) (by decide) hK hN hZ hT hA hP hD [0] rfl rfl (by decide) 0 rfl rfl rfl rfl hl.1 rfl (Nat.le_of_ble_eq_true rfl) d_HelpFile_jump_1
