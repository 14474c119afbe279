/-! the law's own calls -/
abbrev b_Law_put : ByteArray := method_3_code
def y_Law_put : MethodName := ⟨"HelpFileLaw", "put", "(LHelpFile;I[J)I"⟩
theorem k789_methodLink : Cond.methodLink "HelpFileLaw" 7 ⟨"HelpFile", "put", "(I)I"⟩ ∈ ga := ga_t 645 (by decide +kernel) rfl
theorem k790_instanceMethod : Cond.instanceMethod ⟨"HelpFile", "put", "(I)I"⟩ ∈ ga := ga_t 646 (by decide +kernel) rfl
theorem k791_selects : Cond.selects "HelpFile" ⟨"HelpFile", "put", "(I)I"⟩ ⟨"HelpFile", "put", "(I)I"⟩ ∈ ga := ga_t 647 (by decide +kernel) rfl
theorem k792_classLink : Cond.classLink "HelpFileLaw" 13 "java/lang/IllegalArgumentException" ∈ ga := ga_t 643 (by decide +kernel) rfl
theorem k793_classLink : Cond.classLink "HelpFileLaw" 15 "java/lang/UnsupportedOperationException" ∈ ga := ga_t 644 (by decide +kernel) rfl
def D_Law_put (zsn : Nat) (k0 : Int32) (zsE : Nat → Int32) (zsC : Int32) (zsO : Bool) (ouV : Nat → Int64) (res : Int32) (zsE' : Nat → Int32) (zsC' : Int32) (zsO' : Bool) (ouV' : Nat → Int64) : Prop := (∃ r4 : Int32, ∃ zsE_4 : Nat → Int32, ∃ zsC_4 : Int32, ∃ zsO_4 : Bool, D_HelpFile_put zsn k0 zsE zsC zsO r4 zsE_4 zsC_4 zsO_4 ∧ (vp_in 0 1 ∧ (res = 0 ∧ zsE' = zsE_4 ∧ zsC' = zsC_4 ∧ zsO' = zsO_4 ∧ ouV' = vp_updL ouV (Int32.toNatClampNeg 0) (Int32.toInt64 r4))))
theorem d_Law_put_0 : decode b_Law_put 0 = .ok (.aload_n 2, 1) := by decide +kernel
theorem d_Law_put_1 : decode b_Law_put 1 = .ok (.iconst 0, 1) := by decide +kernel
theorem d_Law_put_2 : decode b_Law_put 2 = .ok (.aload_n 0, 1) := by decide +kernel
theorem d_Law_put_3 : decode b_Law_put 3 = .ok (.iload_n 1, 1) := by decide +kernel
theorem d_Law_put_4 : decode b_Law_put 4 = .ok (.invokevirtual 7, 3) := by decide +kernel
theorem d_Law_put_7 : decode b_Law_put 7 = .ok (.i2l, 1) := by decide +kernel
theorem d_Law_put_8 : decode b_Law_put 8 = .ok (.lastore, 1) := by decide +kernel
theorem d_Law_put_9 : decode b_Law_put 9 = .ok (.goto 9, 3) := by decide +kernel
theorem d_Law_put_18 : decode b_Law_put 18 = .ok (.iconst 0, 1) := by decide +kernel
theorem d_Law_put_19 : decode b_Law_put 19 = .ok (.ireturn, 1) := by decide +kernel
set_option maxHeartbeats 4000000 in
set_option maxRecDepth 100000 in
theorem c_Law_put (l : Launch) (dC : Nat → ClassId) (dI : Nat → Nat → Nat) (cI cL cZ : ClassId) (hf : Nat) (hfI : Value) (hfR : Value) (hfT : Value) (hfC : Value) (hfE : Value) (hfV : Value) (hfQ : Value) (hfN : Value) (hfD : Value) (hfB : Value) (hfO : Bool) (hfF : Int32) (hfY : Int32) (zs : Nat) (zsEa : Nat) (zsn : Nat) (zsE : Nat → Int32) (zsC : Int32) (zsO : Bool) (ou : Nat) (ouV : Nat → Int64) (k0 : Int32) (res : Int32) (zsE' : Nat → Int32) (zsC' : Int32) (zsO' : Bool) (ouV' : Nat → Int64) (hd : D_Law_put zsn k0 zsE zsC zsO ouV res zsE' zsC' zsO' ouV') : CtG l y_Law_put (Cond.codeWith y_Law_put b_Law_put 4 (some .int) [(0, 9, 12, 13), (0, 9, 15, 15)] :: ga) { frames := 7, cells := 1, slots := 6, locals := 106 } (dC, dI) classes (Tys cI cL cZ) [.ref hf, .int k0, .ref ou] ((sh_HelpFile cI cL cZ hf (.ref zs) hfI hfR hfT hfC hfE hfV hfQ hfN hfD hfB hfO hfF hfY) ++ ((sh_Row cI cL cZ zs zsEa zsn zsE zsC zsO) ++ ((sh_Out cI cL cZ ou ouV)))) (some (.int res)) ((sh_HelpFile cI cL cZ hf (.ref zs) hfI hfR hfT hfC hfE hfV hfQ hfN hfD hfB hfO hfF hfY) ++ ((sh_Row cI cL cZ zs zsEa zsn zsE' zsC' zsO') ++ ((sh_Out cI cL cZ ou ouV')))) := by
  refine CtG.ofW (by decide) (Nat.le_of_ble_eq_true rfl) ?_
  intro p e s m below meth c A ls hx hb hr hml hown hlocks htab hts hK hN hZ hT hNc hA hP hD hS hl
  have hown : s.vm.findClass R_Law = some m.cls := hown
  have hl : lv_has ls 4 [(0, .ref hf), (1, .int k0), (2, .ref ou)] := hl
  refine lv_aload_n hx hb d_Law_put_0 rfl (lv_at hl 2 rfl) ?_
  refine lv_iconst (v := 0) hx hb d_Law_put_1 (by decide) ?_
  refine lv_aload_n hx hb d_Law_put_2 rfl (lv_at hl 0 rfl) ?_
  refine lv_iload_n hx hb d_Law_put_3 rfl (lv_at hl 1 rfl) ?_
  obtain ⟨r4, zsE_4, zsC_4, zsO_4, c4, hd⟩ := hd
  refine ct_V (As := [.int k0]) (rest := [.int 0, .ref ou]) (C := R_HelpFile) (ci := 0) (q := (R_HelpFile, F_HelpFile, 14)) ⟨hx, hb, hml, hown, hts⟩ fm_HelpFile_put (c_HelpFile_put l dC dI cI cL cZ hf hfI hfR hfT hfC hfE hfV hfQ hfN hfD hfB hfO hfF hfY zs zsEa zsn zsE zsC zsO k0 r4 zsE_4 zsC_4 zsO_4 c4) k789_methodLink k790_instanceMethod k791_selects ⟨Nat.le_of_ble_eq_true rfl, Nat.le_of_ble_eq_true rfl⟩ rfl rfl hK hN hP hD hS hA [0, 1, 2] [3] rfl rfl rfl (by decide) (by decide) (by decide) 0 rfl rfl rfl rfl hl.1 rfl (Nat.le_of_ble_eq_true rfl) d_Law_put_4 (fun H locs hP hD hS => ?_)
  have hP : va_P (dC, dI) classes ((sh_HelpFile cI cL cZ hf (.ref zs) hfI hfR hfT hfC hfE hfV hfQ hfN hfD hfB hfO hfF hfY) ++ ((sh_Row cI cL cZ zs zsEa zsn zsE_4 zsC_4 zsO_4) ++ ((sh_Out cI cL cZ ou ouV)))) H := hP.sub [1, 2, 3, 0] rfl
  have hD : va_D A ((sh_HelpFile cI cL cZ hf (.ref zs) hfI hfR hfT hfC hfE hfV hfQ hfN hfD hfB hfO hfF hfY) ++ ((sh_Row cI cL cZ zs zsEa zsn zsE_4 zsC_4 zsO_4) ++ ((sh_Out cI cL cZ ou ouV)))) := hD.sub [1, 2, 3, 0] (by decide) rfl
  refine lv_i2l (v := Int32.toInt64 r4) hx hb d_Law_put_7 rfl ?_
  obtain ⟨h8, hd⟩ := hd
  refine va_last hx hb hK hP hD hS 3 1 rfl rfl h8 d_Law_put_8 (fun H locs hP hD hS => ?_)
  have hP : va_P (dC, dI) classes ((sh_HelpFile cI cL cZ hf (.ref zs) hfI hfR hfT hfC hfE hfV hfQ hfN hfD hfB hfO hfF hfY) ++ ((sh_Row cI cL cZ zs zsEa zsn zsE_4 zsC_4 zsO_4) ++ ((sh_Out cI cL cZ ou (vp_updL ouV (Int32.toNatClampNeg 0) (Int32.toInt64 r4)))))) H := hP
  have hD : va_D A ((sh_HelpFile cI cL cZ hf (.ref zs) hfI hfR hfT hfC hfE hfV hfQ hfN hfD hfB hfO hfF hfY) ++ ((sh_Row cI cL cZ zs zsEa zsn zsE_4 zsC_4 zsO_4) ++ ((sh_Out cI cL cZ ou (vp_updL ouV (Int32.toNatClampNeg 0) (Int32.toInt64 r4)))))) := hD
  refine lv_goto (tgt := 18) hx hb d_Law_put_9 (by decide) ?_
  refine lv_iconst (v := 0) hx hb d_Law_put_18 (by decide) ?_
  obtain ⟨e0, e1, e2, e3, e4⟩ := hd
  subst e0
  subst e1
  subst e2
  subst e3
  subst e4
  refine W.widen (k := 1) (n := 6) (by decide) (by decide) ?_
  exact ct_iretG hx hb hr hlocks hK hP hD hS d_Law_put_19
theorem d_Law_put_12 : decode b_Law_put 12 = .ok (.astore_n 3, 1) := by decide +kernel
theorem d_Law_put_13 : decode b_Law_put 13 = .ok (.iconst 1, 1) := by decide +kernel
theorem d_Law_put_14 : decode b_Law_put 14 = .ok (.ireturn, 1) := by decide +kernel
set_option maxHeartbeats 4000000 in
set_option maxRecDepth 100000 in
theorem t_Law_put_1 (l : Launch) (htr : ∀ e : Env, l.admits e → e.platform.stackTraces = false) (dC : Nat → ClassId) (dI : Nat → Nat → Nat) (cI cL cZ : ClassId) (hf : Nat) (hfI : Value) (hfR : Value) (hfT : Value) (hfC : Value) (hfE : Value) (hfV : Value) (hfQ : Value) (hfN : Value) (hfD : Value) (hfB : Value) (hfO : Bool) (hfF : Int32) (hfY : Int32) (zs : Nat) (zsEa : Nat) (zsn : Nat) (zsE : Nat → Int32) (zsC : Int32) (zsO : Bool) (ou : Nat) (ouV : Nat → Int64) (k0 : Int32) (hd : X_HelpFile_put k0 zsC "java/lang/IllegalArgumentException") : CtG l y_Law_put (Cond.codeWith y_Law_put b_Law_put 4 (some .int) [(0, 9, 12, 13), (0, 9, 15, 15)] :: ga) { frames := 7, cells := 1, slots := 6, locals := 106 } (dC, dI) classes (Tys cI cL cZ) [.ref hf, .int k0, .ref ou] ((sh_HelpFile cI cL cZ hf (.ref zs) hfI hfR hfT hfC hfE hfV hfQ hfN hfD hfB hfO hfF hfY) ++ ((sh_Row cI cL cZ zs zsEa zsn zsE zsC zsO) ++ ((sh_Out cI cL cZ ou ouV)))) (some (.int 1)) ((sh_HelpFile cI cL cZ hf (.ref zs) hfI hfR hfT hfC hfE hfV hfQ hfN hfD hfB hfO hfF hfY) ++ ((sh_Row cI cL cZ zs zsEa zsn zsE zsC zsO) ++ ((sh_Out cI cL cZ ou ouV)))) := by
  refine CtG.ofW (by decide) (Nat.le_of_ble_eq_true rfl) ?_
  intro p e s m below meth c A ls hx hb hr hml hown hlocks htab hts hK hN hZ hT hNc hA hP hD hS hl
  have hown : s.vm.findClass R_Law = some m.cls := hown
  have hl : lv_has ls 4 [(0, .ref hf), (1, .int k0), (2, .ref ou)] := hl
  refine lv_aload_n hx hb d_Law_put_0 rfl (lv_at hl 2 rfl) ?_
  refine lv_iconst (v := 0) hx hb d_Law_put_1 (by decide) ?_
  refine lv_aload_n hx hb d_Law_put_2 rfl (lv_at hl 0 rfl) ?_
  refine lv_iload_n hx hb d_Law_put_3 rfl (lv_at hl 1 rfl) ?_
  refine ct_VC (As := [.int k0]) (rest := [.int 0, .ref ou]) (C := R_HelpFile) (ci := 0) (q := (R_HelpFile, F_HelpFile, 14)) (hpc2 := 12) (N1 := "java/lang/IllegalArgumentException") ⟨hx, hb, hml, hown, hts⟩ htab (by decide) fm_HelpFile_put (x_HelpFile_put l htr dC dI cI cL cZ hf hfI hfR hfT hfC hfE hfV hfQ hfN hfD hfB hfO hfF hfY zs zsEa zsn zsE zsC zsO k0 "java/lang/IllegalArgumentException" hd) k789_methodLink k790_instanceMethod k791_selects ⟨Nat.le_of_ble_eq_true rfl, Nat.le_of_ble_eq_true rfl⟩ (by decide) (by decide) hK hN hZ hT hA hP hD [0, 1, 2] rfl rfl (by decide) 0 rfl rfl rfl rfl hl.1 rfl (Nat.le_of_ble_eq_true rfl) d_Law_put_4 k792_classLink (by decide) (Or.inl ⟨hT.2 (.castable "java/lang/IllegalArgumentException" "java/lang/IllegalArgumentException") (by simp [thWs]), rfl⟩) (fun x9 H hP hS => ?_)
  refine W.cs (cells' := 1) (slots' := 6) rfl rfl ?_
  refine lv_astore_n (lv' := [(3, .ref x9), (0, .ref hf), (1, .int k0), (2, .ref ou)]) hx hb d_Law_put_12 rfl hl (by decide) rfl (fun ls hl => ?_)
  refine lv_iconst (v := 1) hx hb d_Law_put_13 (by decide) ?_
  exact ct_iretG hx hb hr hlocks hK hP hD hS d_Law_put_14
theorem d_Law_put_15 : decode b_Law_put 15 = .ok (.astore_n 3, 1) := by decide +kernel
theorem d_Law_put_16 : decode b_Law_put 16 = .ok (.iconst 2, 1) := by decide +kernel
theorem d_Law_put_17 : decode b_Law_put 17 = .ok (.ireturn, 1) := by decide +kernel
set_option maxHeartbeats 4000000 in
set_option maxRecDepth 100000 in
theorem t_Law_put_2 (l : Launch) (htr : ∀ e : Env, l.admits e → e.platform.stackTraces = false) (dC : Nat → ClassId) (dI : Nat → Nat → Nat) (cI cL cZ : ClassId) (hf : Nat) (hfI : Value) (hfR : Value) (hfT : Value) (hfC : Value) (hfE : Value) (hfV : Value) (hfQ : Value) (hfN : Value) (hfD : Value) (hfB : Value) (hfO : Bool) (hfF : Int32) (hfY : Int32) (zs : Nat) (zsEa : Nat) (zsn : Nat) (zsE : Nat → Int32) (zsC : Int32) (zsO : Bool) (ou : Nat) (ouV : Nat → Int64) (k0 : Int32) (hd : X_HelpFile_put k0 zsC "java/lang/UnsupportedOperationException") : CtG l y_Law_put (Cond.codeWith y_Law_put b_Law_put 4 (some .int) [(0, 9, 12, 13), (0, 9, 15, 15)] :: ga) { frames := 7, cells := 1, slots := 6, locals := 106 } (dC, dI) classes (Tys cI cL cZ) [.ref hf, .int k0, .ref ou] ((sh_HelpFile cI cL cZ hf (.ref zs) hfI hfR hfT hfC hfE hfV hfQ hfN hfD hfB hfO hfF hfY) ++ ((sh_Row cI cL cZ zs zsEa zsn zsE zsC zsO) ++ ((sh_Out cI cL cZ ou ouV)))) (some (.int 2)) ((sh_HelpFile cI cL cZ hf (.ref zs) hfI hfR hfT hfC hfE hfV hfQ hfN hfD hfB hfO hfF hfY) ++ ((sh_Row cI cL cZ zs zsEa zsn zsE zsC zsO) ++ ((sh_Out cI cL cZ ou ouV)))) := by
  refine CtG.ofW (by decide) (Nat.le_of_ble_eq_true rfl) ?_
  intro p e s m below meth c A ls hx hb hr hml hown hlocks htab hts hK hN hZ hT hNc hA hP hD hS hl
  have hown : s.vm.findClass R_Law = some m.cls := hown
  have hl : lv_has ls 4 [(0, .ref hf), (1, .int k0), (2, .ref ou)] := hl
  refine lv_aload_n hx hb d_Law_put_0 rfl (lv_at hl 2 rfl) ?_
  refine lv_iconst (v := 0) hx hb d_Law_put_1 (by decide) ?_
  refine lv_aload_n hx hb d_Law_put_2 rfl (lv_at hl 0 rfl) ?_
  refine lv_iload_n hx hb d_Law_put_3 rfl (lv_at hl 1 rfl) ?_
  refine ct_VC (As := [.int k0]) (rest := [.int 0, .ref ou]) (C := R_HelpFile) (ci := 0) (q := (R_HelpFile, F_HelpFile, 14)) (hpc2 := 15) (N1 := "java/lang/IllegalArgumentException") ⟨hx, hb, hml, hown, hts⟩ htab (by decide) fm_HelpFile_put (x_HelpFile_put l htr dC dI cI cL cZ hf hfI hfR hfT hfC hfE hfV hfQ hfN hfD hfB hfO hfF hfY zs zsEa zsn zsE zsC zsO k0 "java/lang/UnsupportedOperationException" hd) k789_methodLink k790_instanceMethod k791_selects ⟨Nat.le_of_ble_eq_true rfl, Nat.le_of_ble_eq_true rfl⟩ (by decide) (by decide) hK hN hZ hT hA hP hD [0, 1, 2] rfl rfl (by decide) 0 rfl rfl rfl rfl hl.1 rfl (Nat.le_of_ble_eq_true rfl) d_Law_put_4 k792_classLink (by decide) (Or.inr ⟨hNc ("java/lang/UnsupportedOperationException", "java/lang/IllegalArgumentException") (by simp [thNl]), 15, "java/lang/UnsupportedOperationException", [], rfl, by decide, k793_classLink, hT.2 (.castable "java/lang/UnsupportedOperationException" "java/lang/UnsupportedOperationException") (by simp [thWs])⟩) (fun x9 H hP hS => ?_)
  refine W.cs (cells' := 1) (slots' := 6) rfl rfl ?_
  refine lv_astore_n (lv' := [(3, .ref x9), (0, .ref hf), (1, .int k0), (2, .ref ou)]) hx hb d_Law_put_15 rfl hl (by decide) rfl (fun ls hl => ?_)
  refine lv_iconst (v := 2) hx hb d_Law_put_16 (by decide) ?_
  exact ct_iretG hx hb hr hlocks hK hP hD hS d_Law_put_17
abbrev b_Law_end : ByteArray := method_4_code
def y_Law_end : MethodName := ⟨"HelpFileLaw", "end", "(LHelpFile;I)I"⟩
theorem k794_methodLink : Cond.methodLink "HelpFileLaw" 17 ⟨"HelpFile", "end", "(I)V"⟩ ∈ ga := ga_t 741 (by decide +kernel) rfl
theorem k795_instanceMethod : Cond.instanceMethod ⟨"HelpFile", "end", "(I)V"⟩ ∈ ga := ga_t 742 (by decide +kernel) rfl
theorem k796_selects : Cond.selects "HelpFile" ⟨"HelpFile", "end", "(I)V"⟩ ⟨"HelpFile", "end", "(I)V"⟩ ∈ ga := ga_t 743 (by decide +kernel) rfl
def D_Law_end (k0 : Int32) (zsC : Int32) (zsO : Bool) (res : Int32) (zsC' : Int32) (zsO' : Bool) : Prop := (∃ zsC_2 : Int32, ∃ zsO_2 : Bool, D_HelpFile_end k0 zsC zsO zsC_2 zsO_2 ∧ (res = 0 ∧ zsC' = zsC_2 ∧ zsO' = zsO_2))
theorem d_Law_end_0 : decode b_Law_end 0 = .ok (.aload_n 0, 1) := by decide +kernel
theorem d_Law_end_1 : decode b_Law_end 1 = .ok (.iload_n 1, 1) := by decide +kernel
theorem d_Law_end_2 : decode b_Law_end 2 = .ok (.invokevirtual 17, 3) := by decide +kernel
theorem d_Law_end_5 : decode b_Law_end 5 = .ok (.goto 6, 3) := by decide +kernel
theorem d_Law_end_11 : decode b_Law_end 11 = .ok (.iconst 0, 1) := by decide +kernel
theorem d_Law_end_12 : decode b_Law_end 12 = .ok (.ireturn, 1) := by decide +kernel
set_option maxHeartbeats 4000000 in
set_option maxRecDepth 100000 in
theorem c_Law_end (l : Launch) (dC : Nat → ClassId) (dI : Nat → Nat → Nat) (cI cL cZ : ClassId) (hf : Nat) (hfI : Value) (hfR : Value) (hfT : Value) (hfC : Value) (hfE : Value) (hfV : Value) (hfQ : Value) (hfN : Value) (hfD : Value) (hfB : Value) (hfO : Bool) (hfF : Int32) (hfY : Int32) (zs : Nat) (zsEa : Nat) (zsn : Nat) (zsE : Nat → Int32) (zsC : Int32) (zsO : Bool) (k0 : Int32) (res : Int32) (zsC' : Int32) (zsO' : Bool) (hd : D_Law_end k0 zsC zsO res zsC' zsO') : CtG l y_Law_end (Cond.codeWith y_Law_end b_Law_end 3 (some .int) [(0, 5, 8, 13)] :: ga) { frames := 7, cells := 1, slots := 6, locals := 103 } (dC, dI) classes (Tys cI cL cZ) [.ref hf, .int k0] ((sh_HelpFile cI cL cZ hf (.ref zs) hfI hfR hfT hfC hfE hfV hfQ hfN hfD hfB hfO hfF hfY) ++ ((sh_Row cI cL cZ zs zsEa zsn zsE zsC zsO))) (some (.int res)) ((sh_HelpFile cI cL cZ hf (.ref zs) hfI hfR hfT hfC hfE hfV hfQ hfN hfD hfB hfO hfF hfY) ++ ((sh_Row cI cL cZ zs zsEa zsn zsE zsC' zsO'))) := by
  refine CtG.ofW (by decide) (Nat.le_of_ble_eq_true rfl) ?_
  intro p e s m below meth c A ls hx hb hr hml hown hlocks htab hts hK hN hZ hT hNc hA hP hD hS hl
  have hown : s.vm.findClass R_Law = some m.cls := hown
  have hl : lv_has ls 3 [(0, .ref hf), (1, .int k0)] := hl
  refine lv_aload_n hx hb d_Law_end_0 rfl (lv_at hl 0 rfl) ?_
  refine lv_iload_n hx hb d_Law_end_1 rfl (lv_at hl 1 rfl) ?_
  obtain ⟨zsC_2, zsO_2, c2, hd⟩ := hd
  refine ct_V (As := [.int k0]) (rest := []) (C := R_HelpFile) (ci := 0) (q := (R_HelpFile, F_HelpFile, 14)) ⟨hx, hb, hml, hown, hts⟩ fm_HelpFile_end (c_HelpFile_end l dC dI cI cL cZ hf hfI hfR hfT hfC hfE hfV hfQ hfN hfD hfB hfO hfF hfY zs zsEa zsn zsE zsC zsO k0 zsC_2 zsO_2 c2) k794_methodLink k795_instanceMethod k796_selects ⟨Nat.le_of_ble_eq_true rfl, Nat.le_of_ble_eq_true rfl⟩ rfl rfl hK hN hP hD hS hA [0, 1, 2] [] rfl rfl rfl (by decide) (by decide) (by decide) 0 rfl rfl rfl rfl hl.1 rfl (Nat.le_of_ble_eq_true rfl) d_Law_end_2 (fun H locs hP hD hS => ?_)
  have hP : va_P (dC, dI) classes ((sh_HelpFile cI cL cZ hf (.ref zs) hfI hfR hfT hfC hfE hfV hfQ hfN hfD hfB hfO hfF hfY) ++ ((sh_Row cI cL cZ zs zsEa zsn zsE zsC_2 zsO_2))) H := hP.sub [0, 1, 2] rfl
  have hD : va_D A ((sh_HelpFile cI cL cZ hf (.ref zs) hfI hfR hfT hfC hfE hfV hfQ hfN hfD hfB hfO hfF hfY) ++ ((sh_Row cI cL cZ zs zsEa zsn zsE zsC_2 zsO_2))) := hD.sub [0, 1, 2] (by decide) rfl
  refine lv_goto (tgt := 11) hx hb d_Law_end_5 (by decide) ?_
  refine lv_iconst (v := 0) hx hb d_Law_end_11 (by decide) ?_
  obtain ⟨e0, e1, e2⟩ := hd
  subst e0
  subst e1
  subst e2
  refine W.widen (k := 1) (n := 6) (by decide) (by decide) ?_
  exact ct_iretG hx hb hr hlocks hK hP hD hS d_Law_end_12
theorem d_Law_end_8 : decode b_Law_end 8 = .ok (.astore_n 2, 1) := by decide +kernel
theorem d_Law_end_9 : decode b_Law_end 9 = .ok (.iconst 1, 1) := by decide +kernel
theorem d_Law_end_10 : decode b_Law_end 10 = .ok (.ireturn, 1) := by decide +kernel
set_option maxHeartbeats 4000000 in
set_option maxRecDepth 100000 in
theorem t_Law_end_1 (l : Launch) (htr : ∀ e : Env, l.admits e → e.platform.stackTraces = false) (dC : Nat → ClassId) (dI : Nat → Nat → Nat) (cI cL cZ : ClassId) (hf : Nat) (hfI : Value) (hfR : Value) (hfT : Value) (hfC : Value) (hfE : Value) (hfV : Value) (hfQ : Value) (hfN : Value) (hfD : Value) (hfB : Value) (hfO : Bool) (hfF : Int32) (hfY : Int32) (zs : Nat) (zsEa : Nat) (zsn : Nat) (zsE : Nat → Int32) (zsC : Int32) (zsO : Bool) (k0 : Int32) (hd : X_HelpFile_end k0 zsC "java/lang/IllegalArgumentException") : CtG l y_Law_end (Cond.codeWith y_Law_end b_Law_end 3 (some .int) [(0, 5, 8, 13)] :: ga) { frames := 7, cells := 1, slots := 6, locals := 103 } (dC, dI) classes (Tys cI cL cZ) [.ref hf, .int k0] ((sh_HelpFile cI cL cZ hf (.ref zs) hfI hfR hfT hfC hfE hfV hfQ hfN hfD hfB hfO hfF hfY) ++ ((sh_Row cI cL cZ zs zsEa zsn zsE zsC zsO))) (some (.int 1)) ((sh_HelpFile cI cL cZ hf (.ref zs) hfI hfR hfT hfC hfE hfV hfQ hfN hfD hfB hfO hfF hfY) ++ ((sh_Row cI cL cZ zs zsEa zsn zsE zsC zsO))) := by
  refine CtG.ofW (by decide) (Nat.le_of_ble_eq_true rfl) ?_
  intro p e s m below meth c A ls hx hb hr hml hown hlocks htab hts hK hN hZ hT hNc hA hP hD hS hl
  have hown : s.vm.findClass R_Law = some m.cls := hown
  have hl : lv_has ls 3 [(0, .ref hf), (1, .int k0)] := hl
  refine lv_aload_n hx hb d_Law_end_0 rfl (lv_at hl 0 rfl) ?_
  refine lv_iload_n hx hb d_Law_end_1 rfl (lv_at hl 1 rfl) ?_
  refine ct_VC (As := [.int k0]) (rest := []) (C := R_HelpFile) (ci := 0) (q := (R_HelpFile, F_HelpFile, 14)) (hpc2 := 8) (N1 := "java/lang/IllegalArgumentException") ⟨hx, hb, hml, hown, hts⟩ htab (by decide) fm_HelpFile_end (x_HelpFile_end l htr dC dI cI cL cZ hf hfI hfR hfT hfC hfE hfV hfQ hfN hfD hfB hfO hfF hfY zs zsEa zsn zsE zsC zsO k0 "java/lang/IllegalArgumentException" hd) k794_methodLink k795_instanceMethod k796_selects ⟨Nat.le_of_ble_eq_true rfl, Nat.le_of_ble_eq_true rfl⟩ (by decide) (by decide) hK hN hZ hT hA hP hD [0, 1, 2] rfl rfl (by decide) 0 rfl rfl rfl rfl hl.1 rfl (Nat.le_of_ble_eq_true rfl) d_Law_end_2 k792_classLink (by decide) (Or.inl ⟨hT.2 (.castable "java/lang/IllegalArgumentException" "java/lang/IllegalArgumentException") (by simp [thWs]), rfl⟩) (fun x9 H hP hS => ?_)
  refine W.cs (cells' := 1) (slots' := 6) rfl rfl ?_
  refine lv_astore_n (lv' := [(2, .ref x9), (0, .ref hf), (1, .int k0)]) hx hb d_Law_end_8 rfl hl (by decide) rfl (fun ls hl => ?_)
  refine lv_iconst (v := 1) hx hb d_Law_end_9 (by decide) ?_
  exact ct_iretG hx hb hr hlocks hK hP hD hS d_Law_end_10
abbrev b_Law_at : ByteArray := method_5_code
def y_Law_at : MethodName := ⟨"HelpFileLaw", "at", "(LHelpFile;I[J)I"⟩
theorem k797_methodLink : Cond.methodLink "HelpFileLaw" 21 ⟨"HelpFile", "at", "(I)I"⟩ ∈ ga := ga_t 751 (by decide +kernel) rfl
theorem k798_instanceMethod : Cond.instanceMethod ⟨"HelpFile", "at", "(I)I"⟩ ∈ ga := ga_t 752 (by decide +kernel) rfl
theorem k799_selects : Cond.selects "HelpFile" ⟨"HelpFile", "at", "(I)I"⟩ ⟨"HelpFile", "at", "(I)I"⟩ ∈ ga := ga_t 753 (by decide +kernel) rfl
theorem k800_classLink : Cond.classLink "HelpFileLaw" 24 "java/lang/IndexOutOfBoundsException" ∈ ga := ga_t 750 (by decide +kernel) rfl
def D_Law_at (zin : Nat) (k0 : Int32) (ziE : Nat → Int32) (ziC : Int32) (ouV : Nat → Int64) (res : Int32) (ouV' : Nat → Int64) : Prop := (∃ r4 : Int32, D_HelpFile_at zin k0 ziE ziC r4 ∧ (vp_in 0 1 ∧ (res = 0 ∧ ouV' = vp_updL ouV (Int32.toNatClampNeg 0) (Int32.toInt64 r4))))
theorem d_Law_at_0 : decode b_Law_at 0 = .ok (.aload_n 2, 1) := by decide +kernel
theorem d_Law_at_1 : decode b_Law_at 1 = .ok (.iconst 0, 1) := by decide +kernel
theorem d_Law_at_2 : decode b_Law_at 2 = .ok (.aload_n 0, 1) := by decide +kernel
theorem d_Law_at_3 : decode b_Law_at 3 = .ok (.iload_n 1, 1) := by decide +kernel
theorem d_Law_at_4 : decode b_Law_at 4 = .ok (.invokevirtual 21, 3) := by decide +kernel
theorem d_Law_at_7 : decode b_Law_at 7 = .ok (.i2l, 1) := by decide +kernel
theorem d_Law_at_8 : decode b_Law_at 8 = .ok (.lastore, 1) := by decide +kernel
theorem d_Law_at_9 : decode b_Law_at 9 = .ok (.goto 6, 3) := by decide +kernel
theorem d_Law_at_15 : decode b_Law_at 15 = .ok (.iconst 0, 1) := by decide +kernel
theorem d_Law_at_16 : decode b_Law_at 16 = .ok (.ireturn, 1) := by decide +kernel
set_option maxHeartbeats 4000000 in
set_option maxRecDepth 100000 in
theorem c_Law_at (l : Launch) (dC : Nat → ClassId) (dI : Nat → Nat → Nat) (cI cL cZ : ClassId) (hf : Nat) (hfS : Value) (hfR : Value) (hfT : Value) (hfC : Value) (hfE : Value) (hfV : Value) (hfQ : Value) (hfN : Value) (hfD : Value) (hfB : Value) (hfO : Bool) (hfF : Int32) (hfY : Int32) (zi : Nat) (ziEa : Nat) (zin : Nat) (ziE : Nat → Int32) (ziC : Int32) (ziO : Bool) (ou : Nat) (ouV : Nat → Int64) (k0 : Int32) (res : Int32) (ouV' : Nat → Int64) (hd : D_Law_at zin k0 ziE ziC ouV res ouV') : CtG l y_Law_at (Cond.codeWith y_Law_at b_Law_at 4 (some .int) [(0, 9, 12, 24)] :: ga) { frames := 7, cells := 1, slots := 6, locals := 103 } (dC, dI) classes (Tys cI cL cZ) [.ref hf, .int k0, .ref ou] ((sh_HelpFile cI cL cZ hf hfS (.ref zi) hfR hfT hfC hfE hfV hfQ hfN hfD hfB hfO hfF hfY) ++ ((sh_Row cI cL cZ zi ziEa zin ziE ziC ziO) ++ ((sh_Out cI cL cZ ou ouV)))) (some (.int res)) ((sh_HelpFile cI cL cZ hf hfS (.ref zi) hfR hfT hfC hfE hfV hfQ hfN hfD hfB hfO hfF hfY) ++ ((sh_Row cI cL cZ zi ziEa zin ziE ziC ziO) ++ ((sh_Out cI cL cZ ou ouV')))) := by
  refine CtG.ofW (by decide) (Nat.le_of_ble_eq_true rfl) ?_
  intro p e s m below meth c A ls hx hb hr hml hown hlocks htab hts hK hN hZ hT hNc hA hP hD hS hl
  have hown : s.vm.findClass R_Law = some m.cls := hown
  have hl : lv_has ls 4 [(0, .ref hf), (1, .int k0), (2, .ref ou)] := hl
  refine lv_aload_n hx hb d_Law_at_0 rfl (lv_at hl 2 rfl) ?_
  refine lv_iconst (v := 0) hx hb d_Law_at_1 (by decide) ?_
  refine lv_aload_n hx hb d_Law_at_2 rfl (lv_at hl 0 rfl) ?_
  refine lv_iload_n hx hb d_Law_at_3 rfl (lv_at hl 1 rfl) ?_
  obtain ⟨r4, c4, hd⟩ := hd
  refine ct_VR (As := [.int k0]) (rest := [.int 0, .ref ou]) (C := R_HelpFile) (ci := 0) (q := (R_HelpFile, F_HelpFile, 14)) ⟨hx, hb, hml, hown, hts⟩ fm_HelpFile_at (c_HelpFile_at l dC dI cI cL cZ hf hfS hfR hfT hfC hfE hfV hfQ hfN hfD hfB hfO hfF hfY zi ziEa zin ziE ziC ziO k0 r4 c4) k797_methodLink k798_instanceMethod k799_selects ⟨Nat.le_of_ble_eq_true rfl, Nat.le_of_ble_eq_true rfl⟩ rfl rfl hK hN hP hD [0, 1, 2] rfl rfl (by decide) 0 rfl rfl rfl rfl hl.1 rfl (Nat.le_of_ble_eq_true rfl) d_Law_at_4 ?_
  refine lv_i2l (v := Int32.toInt64 r4) hx hb d_Law_at_7 rfl ?_
  obtain ⟨h8, hd⟩ := hd
  refine va_last hx hb hK hP hD hS 3 1 rfl rfl h8 d_Law_at_8 (fun H locs hP hD hS => ?_)
  have hP : va_P (dC, dI) classes ((sh_HelpFile cI cL cZ hf hfS (.ref zi) hfR hfT hfC hfE hfV hfQ hfN hfD hfB hfO hfF hfY) ++ ((sh_Row cI cL cZ zi ziEa zin ziE ziC ziO) ++ ((sh_Out cI cL cZ ou (vp_updL ouV (Int32.toNatClampNeg 0) (Int32.toInt64 r4)))))) H := hP
  have hD : va_D A ((sh_HelpFile cI cL cZ hf hfS (.ref zi) hfR hfT hfC hfE hfV hfQ hfN hfD hfB hfO hfF hfY) ++ ((sh_Row cI cL cZ zi ziEa zin ziE ziC ziO) ++ ((sh_Out cI cL cZ ou (vp_updL ouV (Int32.toNatClampNeg 0) (Int32.toInt64 r4)))))) := hD
  refine lv_goto (tgt := 15) hx hb d_Law_at_9 (by decide) ?_
  refine lv_iconst (v := 0) hx hb d_Law_at_15 (by decide) ?_
  obtain ⟨e0, e1⟩ := hd
  subst e0
  subst e1
  refine W.widen (k := 1) (n := 6) (by decide) (by decide) ?_
  exact ct_iretG hx hb hr hlocks hK hP hD hS d_Law_at_16
theorem d_Law_at_12 : decode b_Law_at 12 = .ok (.astore_n 3, 1) := by decide +kernel
theorem d_Law_at_13 : decode b_Law_at 13 = .ok (.iconst 1, 1) := by decide +kernel
theorem d_Law_at_14 : decode b_Law_at 14 = .ok (.ireturn, 1) := by decide +kernel
set_option maxHeartbeats 4000000 in
set_option maxRecDepth 100000 in
theorem t_Law_at_1 (l : Launch) (htr : ∀ e : Env, l.admits e → e.platform.stackTraces = false) (dC : Nat → ClassId) (dI : Nat → Nat → Nat) (cI cL cZ : ClassId) (hf : Nat) (hfS : Value) (hfR : Value) (hfT : Value) (hfC : Value) (hfE : Value) (hfV : Value) (hfQ : Value) (hfN : Value) (hfD : Value) (hfB : Value) (hfO : Bool) (hfF : Int32) (hfY : Int32) (zi : Nat) (ziEa : Nat) (zin : Nat) (ziE : Nat → Int32) (ziC : Int32) (ziO : Bool) (ou : Nat) (ouV : Nat → Int64) (k0 : Int32) (hd : X_HelpFile_at zin k0 ziE ziC "java/lang/IndexOutOfBoundsException") : CtG l y_Law_at (Cond.codeWith y_Law_at b_Law_at 4 (some .int) [(0, 9, 12, 24)] :: ga) { frames := 7, cells := 1, slots := 6, locals := 103 } (dC, dI) classes (Tys cI cL cZ) [.ref hf, .int k0, .ref ou] ((sh_HelpFile cI cL cZ hf hfS (.ref zi) hfR hfT hfC hfE hfV hfQ hfN hfD hfB hfO hfF hfY) ++ ((sh_Row cI cL cZ zi ziEa zin ziE ziC ziO) ++ ((sh_Out cI cL cZ ou ouV)))) (some (.int 1)) ((sh_HelpFile cI cL cZ hf hfS (.ref zi) hfR hfT hfC hfE hfV hfQ hfN hfD hfB hfO hfF hfY) ++ ((sh_Row cI cL cZ zi ziEa zin ziE ziC ziO) ++ ((sh_Out cI cL cZ ou ouV)))) := by
  refine CtG.ofW (by decide) (Nat.le_of_ble_eq_true rfl) ?_
  intro p e s m below meth c A ls hx hb hr hml hown hlocks htab hts hK hN hZ hT hNc hA hP hD hS hl
  have hown : s.vm.findClass R_Law = some m.cls := hown
  have hl : lv_has ls 4 [(0, .ref hf), (1, .int k0), (2, .ref ou)] := hl
  refine lv_aload_n hx hb d_Law_at_0 rfl (lv_at hl 2 rfl) ?_
  refine lv_iconst (v := 0) hx hb d_Law_at_1 (by decide) ?_
  refine lv_aload_n hx hb d_Law_at_2 rfl (lv_at hl 0 rfl) ?_
  refine lv_iload_n hx hb d_Law_at_3 rfl (lv_at hl 1 rfl) ?_
  refine ct_VC (As := [.int k0]) (rest := [.int 0, .ref ou]) (C := R_HelpFile) (ci := 0) (q := (R_HelpFile, F_HelpFile, 14)) (hpc2 := 12) (N1 := "java/lang/IndexOutOfBoundsException") ⟨hx, hb, hml, hown, hts⟩ htab (by decide) fm_HelpFile_at (x_HelpFile_at l htr dC dI cI cL cZ hf hfS hfR hfT hfC hfE hfV hfQ hfN hfD hfB hfO hfF hfY zi ziEa zin ziE ziC ziO k0 "java/lang/IndexOutOfBoundsException" hd) k797_methodLink k798_instanceMethod k799_selects ⟨Nat.le_of_ble_eq_true rfl, Nat.le_of_ble_eq_true rfl⟩ (by decide) (by decide) hK hN hZ hT hA hP hD [0, 1, 2] rfl rfl (by decide) 0 rfl rfl rfl rfl hl.1 rfl (Nat.le_of_ble_eq_true rfl) d_Law_at_4 k800_classLink (by decide) (Or.inl ⟨hT.2 (.castable "java/lang/IndexOutOfBoundsException" "java/lang/IndexOutOfBoundsException") (by simp [thWs]), rfl⟩) (fun x9 H hP hS => ?_)
  refine W.cs (cells' := 1) (slots' := 6) rfl rfl ?_
  refine lv_astore_n (lv' := [(3, .ref x9), (0, .ref hf), (1, .int k0), (2, .ref ou)]) hx hb d_Law_at_12 rfl hl (by decide) rfl (fun ls hl => ?_)
  refine lv_iconst (v := 1) hx hb d_Law_at_13 (by decide) ?_
  exact ct_iretG hx hb hr hlocks hK hP hD hS d_Law_at_14
abbrev b_Law_spoil : ByteArray := method_6_code
def y_Law_spoil : MethodName := ⟨"HelpFileLaw", "spoil", "(LHelpFile;II[J)I"⟩
theorem k801_methodLink : Cond.methodLink "HelpFileLaw" 26 ⟨"HelpFile", "spoil", "(II)I"⟩ ∈ ga := ga_t 776 (by decide +kernel) rfl
theorem k802_instanceMethod : Cond.instanceMethod ⟨"HelpFile", "spoil", "(II)I"⟩ ∈ ga := ga_t 777 (by decide +kernel) rfl
theorem k803_selects : Cond.selects "HelpFile" ⟨"HelpFile", "spoil", "(II)I"⟩ ⟨"HelpFile", "spoil", "(II)I"⟩ ∈ ga := ga_t 778 (by decide +kernel) rfl
def D_Law_spoil (zin : Nat) (k0 : Int32) (k1 : Int32) (ziE : Nat → Int32) (ziC : Int32) (ouV : Nat → Int64) (res : Int32) (ziE' : Nat → Int32) (ouV' : Nat → Int64) : Prop := (∃ r5 : Int32, ∃ ziE_5 : Nat → Int32, D_HelpFile_spoil zin k0 k1 ziE ziC r5 ziE_5 ∧ (vp_in 0 1 ∧ (res = 0 ∧ ziE' = ziE_5 ∧ ouV' = vp_updL ouV (Int32.toNatClampNeg 0) (Int32.toInt64 r5))))
theorem d_Law_spoil_0 : decode b_Law_spoil 0 = .ok (.aload_n 3, 1) := by decide +kernel
theorem d_Law_spoil_1 : decode b_Law_spoil 1 = .ok (.iconst 0, 1) := by decide +kernel
theorem d_Law_spoil_2 : decode b_Law_spoil 2 = .ok (.aload_n 0, 1) := by decide +kernel
theorem d_Law_spoil_3 : decode b_Law_spoil 3 = .ok (.iload_n 1, 1) := by decide +kernel
theorem d_Law_spoil_4 : decode b_Law_spoil 4 = .ok (.iload_n 2, 1) := by decide +kernel
theorem d_Law_spoil_5 : decode b_Law_spoil 5 = .ok (.invokevirtual 26, 3) := by decide +kernel
theorem d_Law_spoil_8 : decode b_Law_spoil 8 = .ok (.i2l, 1) := by decide +kernel
theorem d_Law_spoil_9 : decode b_Law_spoil 9 = .ok (.lastore, 1) := by decide +kernel
theorem d_Law_spoil_10 : decode b_Law_spoil 10 = .ok (.goto 7, 3) := by decide +kernel
theorem d_Law_spoil_17 : decode b_Law_spoil 17 = .ok (.iconst 0, 1) := by decide +kernel
theorem d_Law_spoil_18 : decode b_Law_spoil 18 = .ok (.ireturn, 1) := by decide +kernel
set_option maxHeartbeats 4000000 in
set_option maxRecDepth 100000 in
theorem c_Law_spoil (l : Launch) (dC : Nat → ClassId) (dI : Nat → Nat → Nat) (cI cL cZ : ClassId) (hf : Nat) (hfS : Value) (hfR : Value) (hfT : Value) (hfC : Value) (hfE : Value) (hfV : Value) (hfQ : Value) (hfN : Value) (hfD : Value) (hfB : Value) (hfO : Bool) (hfF : Int32) (hfY : Int32) (zi : Nat) (ziEa : Nat) (zin : Nat) (ziE : Nat → Int32) (ziC : Int32) (ziO : Bool) (ou : Nat) (ouV : Nat → Int64) (k0 : Int32) (k1 : Int32) (res : Int32) (ziE' : Nat → Int32) (ouV' : Nat → Int64) (hd : D_Law_spoil zin k0 k1 ziE ziC ouV res ziE' ouV') : CtG l y_Law_spoil (Cond.codeWith y_Law_spoil b_Law_spoil 5 (some .int) [(0, 10, 13, 24)] :: ga) { frames := 7, cells := 1, slots := 6, locals := 105 } (dC, dI) classes (Tys cI cL cZ) [.ref hf, .int k0, .int k1, .ref ou] ((sh_HelpFile cI cL cZ hf hfS (.ref zi) hfR hfT hfC hfE hfV hfQ hfN hfD hfB hfO hfF hfY) ++ ((sh_Row cI cL cZ zi ziEa zin ziE ziC ziO) ++ ((sh_Out cI cL cZ ou ouV)))) (some (.int res)) ((sh_HelpFile cI cL cZ hf hfS (.ref zi) hfR hfT hfC hfE hfV hfQ hfN hfD hfB hfO hfF hfY) ++ ((sh_Row cI cL cZ zi ziEa zin ziE' ziC ziO) ++ ((sh_Out cI cL cZ ou ouV')))) := by
  refine CtG.ofW (by decide) (Nat.le_of_ble_eq_true rfl) ?_
  intro p e s m below meth c A ls hx hb hr hml hown hlocks htab hts hK hN hZ hT hNc hA hP hD hS hl
  have hown : s.vm.findClass R_Law = some m.cls := hown
  have hl : lv_has ls 5 [(0, .ref hf), (1, .int k0), (2, .int k1), (3, .ref ou)] := hl
  refine lv_aload_n hx hb d_Law_spoil_0 rfl (lv_at hl 3 rfl) ?_
  refine lv_iconst (v := 0) hx hb d_Law_spoil_1 (by decide) ?_
  refine lv_aload_n hx hb d_Law_spoil_2 rfl (lv_at hl 0 rfl) ?_
  refine lv_iload_n hx hb d_Law_spoil_3 rfl (lv_at hl 1 rfl) ?_
  refine lv_iload_n hx hb d_Law_spoil_4 rfl (lv_at hl 2 rfl) ?_
  obtain ⟨r5, ziE_5, c5, hd⟩ := hd
  refine ct_V (As := [.int k0, .int k1]) (rest := [.int 0, .ref ou]) (C := R_HelpFile) (ci := 0) (q := (R_HelpFile, F_HelpFile, 14)) ⟨hx, hb, hml, hown, hts⟩ fm_HelpFile_spoil (c_HelpFile_spoil l dC dI cI cL cZ hf hfS hfR hfT hfC hfE hfV hfQ hfN hfD hfB hfO hfF hfY zi ziEa zin ziE ziC ziO k0 k1 r5 ziE_5 c5) k801_methodLink k802_instanceMethod k803_selects ⟨Nat.le_of_ble_eq_true rfl, Nat.le_of_ble_eq_true rfl⟩ rfl rfl hK hN hP hD hS hA [0, 1, 2] [3] rfl rfl rfl (by decide) (by decide) (by decide) 0 rfl rfl rfl rfl hl.1 rfl (Nat.le_of_ble_eq_true rfl) d_Law_spoil_5 (fun H locs hP hD hS => ?_)
  have hP : va_P (dC, dI) classes ((sh_HelpFile cI cL cZ hf hfS (.ref zi) hfR hfT hfC hfE hfV hfQ hfN hfD hfB hfO hfF hfY) ++ ((sh_Row cI cL cZ zi ziEa zin ziE_5 ziC ziO) ++ ((sh_Out cI cL cZ ou ouV)))) H := hP.sub [1, 2, 3, 0] rfl
  have hD : va_D A ((sh_HelpFile cI cL cZ hf hfS (.ref zi) hfR hfT hfC hfE hfV hfQ hfN hfD hfB hfO hfF hfY) ++ ((sh_Row cI cL cZ zi ziEa zin ziE_5 ziC ziO) ++ ((sh_Out cI cL cZ ou ouV)))) := hD.sub [1, 2, 3, 0] (by decide) rfl
  refine lv_i2l (v := Int32.toInt64 r5) hx hb d_Law_spoil_8 rfl ?_
  obtain ⟨h9, hd⟩ := hd
  refine va_last hx hb hK hP hD hS 3 1 rfl rfl h9 d_Law_spoil_9 (fun H locs hP hD hS => ?_)
  have hP : va_P (dC, dI) classes ((sh_HelpFile cI cL cZ hf hfS (.ref zi) hfR hfT hfC hfE hfV hfQ hfN hfD hfB hfO hfF hfY) ++ ((sh_Row cI cL cZ zi ziEa zin ziE_5 ziC ziO) ++ ((sh_Out cI cL cZ ou (vp_updL ouV (Int32.toNatClampNeg 0) (Int32.toInt64 r5)))))) H := hP
  have hD : va_D A ((sh_HelpFile cI cL cZ hf hfS (.ref zi) hfR hfT hfC hfE hfV hfQ hfN hfD hfB hfO hfF hfY) ++ ((sh_Row cI cL cZ zi ziEa zin ziE_5 ziC ziO) ++ ((sh_Out cI cL cZ ou (vp_updL ouV (Int32.toNatClampNeg 0) (Int32.toInt64 r5)))))) := hD
  refine lv_goto (tgt := 17) hx hb d_Law_spoil_10 (by decide) ?_
  refine lv_iconst (v := 0) hx hb d_Law_spoil_17 (by decide) ?_
  obtain ⟨e0, e1, e2⟩ := hd
  subst e0
  subst e1
  subst e2
  refine W.widen (k := 1) (n := 6) (by decide) (by decide) ?_
  exact ct_iretG hx hb hr hlocks hK hP hD hS d_Law_spoil_18
theorem d_Law_spoil_13 : decode b_Law_spoil 13 = .ok (.astore 4, 2) := by decide +kernel
theorem d_Law_spoil_15 : decode b_Law_spoil 15 = .ok (.iconst 1, 1) := by decide +kernel
theorem d_Law_spoil_16 : decode b_Law_spoil 16 = .ok (.ireturn, 1) := by decide +kernel
set_option maxHeartbeats 4000000 in
set_option maxRecDepth 100000 in
theorem t_Law_spoil_1 (l : Launch) (htr : ∀ e : Env, l.admits e → e.platform.stackTraces = false) (dC : Nat → ClassId) (dI : Nat → Nat → Nat) (cI cL cZ : ClassId) (hf : Nat) (hfS : Value) (hfR : Value) (hfT : Value) (hfC : Value) (hfE : Value) (hfV : Value) (hfQ : Value) (hfN : Value) (hfD : Value) (hfB : Value) (hfO : Bool) (hfF : Int32) (hfY : Int32) (zi : Nat) (ziEa : Nat) (zin : Nat) (ziE : Nat → Int32) (ziC : Int32) (ziO : Bool) (ou : Nat) (ouV : Nat → Int64) (k0 : Int32) (k1 : Int32) (hd : X_HelpFile_spoil zin k0 k1 ziE ziC "java/lang/IndexOutOfBoundsException") : CtG l y_Law_spoil (Cond.codeWith y_Law_spoil b_Law_spoil 5 (some .int) [(0, 10, 13, 24)] :: ga) { frames := 7, cells := 1, slots := 6, locals := 105 } (dC, dI) classes (Tys cI cL cZ) [.ref hf, .int k0, .int k1, .ref ou] ((sh_HelpFile cI cL cZ hf hfS (.ref zi) hfR hfT hfC hfE hfV hfQ hfN hfD hfB hfO hfF hfY) ++ ((sh_Row cI cL cZ zi ziEa zin ziE ziC ziO) ++ ((sh_Out cI cL cZ ou ouV)))) (some (.int 1)) ((sh_HelpFile cI cL cZ hf hfS (.ref zi) hfR hfT hfC hfE hfV hfQ hfN hfD hfB hfO hfF hfY) ++ ((sh_Row cI cL cZ zi ziEa zin ziE ziC ziO) ++ ((sh_Out cI cL cZ ou ouV)))) := by
  refine CtG.ofW (by decide) (Nat.le_of_ble_eq_true rfl) ?_
  intro p e s m below meth c A ls hx hb hr hml hown hlocks htab hts hK hN hZ hT hNc hA hP hD hS hl
  have hown : s.vm.findClass R_Law = some m.cls := hown
  have hl : lv_has ls 5 [(0, .ref hf), (1, .int k0), (2, .int k1), (3, .ref ou)] := hl
  refine lv_aload_n hx hb d_Law_spoil_0 rfl (lv_at hl 3 rfl) ?_
  refine lv_iconst (v := 0) hx hb d_Law_spoil_1 (by decide) ?_
  refine lv_aload_n hx hb d_Law_spoil_2 rfl (lv_at hl 0 rfl) ?_
  refine lv_iload_n hx hb d_Law_spoil_3 rfl (lv_at hl 1 rfl) ?_
  refine lv_iload_n hx hb d_Law_spoil_4 rfl (lv_at hl 2 rfl) ?_
  refine ct_VC (As := [.int k0, .int k1]) (rest := [.int 0, .ref ou]) (C := R_HelpFile) (ci := 0) (q := (R_HelpFile, F_HelpFile, 14)) (hpc2 := 13) (N1 := "java/lang/IndexOutOfBoundsException") ⟨hx, hb, hml, hown, hts⟩ htab (by decide) fm_HelpFile_spoil (x_HelpFile_spoil l htr dC dI cI cL cZ hf hfS hfR hfT hfC hfE hfV hfQ hfN hfD hfB hfO hfF hfY zi ziEa zin ziE ziC ziO k0 k1 "java/lang/IndexOutOfBoundsException" hd) k801_methodLink k802_instanceMethod k803_selects ⟨Nat.le_of_ble_eq_true rfl, Nat.le_of_ble_eq_true rfl⟩ (by decide) (by decide) hK hN hZ hT hA hP hD [0, 1, 2] rfl rfl (by decide) 0 rfl rfl rfl rfl hl.1 rfl (Nat.le_of_ble_eq_true rfl) d_Law_spoil_5 k800_classLink (by decide) (Or.inl ⟨hT.2 (.castable "java/lang/IndexOutOfBoundsException" "java/lang/IndexOutOfBoundsException") (by simp [thWs]), rfl⟩) (fun x9 H hP hS => ?_)
  refine W.cs (cells' := 1) (slots' := 6) rfl rfl ?_
  refine lv_astore (lv' := [(4, .ref x9), (0, .ref hf), (1, .int k0), (2, .int k1), (3, .ref ou)]) hx hb d_Law_spoil_13 hl (by decide) rfl (fun ls hl => ?_)
  refine lv_iconst (v := 1) hx hb d_Law_spoil_15 (by decide) ?_
  exact ct_iretG hx hb hr hlocks hK hP hD hS d_Law_spoil_16
abbrev b_Law_jump : ByteArray := method_7_code
def y_Law_jump : MethodName := ⟨"HelpFileLaw", "jump", "(LHelpFile;I)I"⟩
theorem k804_methodLink : Cond.methodLink "HelpFileLaw" 30 ⟨"HelpFile", "jump", "(I)V"⟩ ∈ ga := ga_t 786 (by decide +kernel) rfl
theorem k805_instanceMethod : Cond.instanceMethod ⟨"HelpFile", "jump", "(I)V"⟩ ∈ ga := ga_t 787 (by decide +kernel) rfl
theorem k806_selects : Cond.selects "HelpFile" ⟨"HelpFile", "jump", "(I)V"⟩ ⟨"HelpFile", "jump", "(I)V"⟩ ∈ ga := ga_t 788 (by decide +kernel) rfl
theorem k807_classLink : Cond.classLink "HelpFileLaw" 33 "java/lang/IllegalStateException" ∈ ga := ga_t 784 (by decide +kernel) rfl
theorem k808_classLink : Cond.classLink "HelpFileLaw" 35 "java/util/NoSuchElementException" ∈ ga := ga_t 785 (by decide +kernel) rfl
def D_Law_jump (zvBn : Nat) (k0 : Int32) (hfO : Bool) (zvBE : Nat → Int32) (zvBC : Int32) (zvBO : Bool) (zvFC : Int32) (zvFO : Bool) (zvT : Int32) (bbT : Int32) (res : Int32) (zvBE' : Nat → Int32) (zvBC' : Int32) (zvBO' : Bool) (zvFC' : Int32) (zvFO' : Bool) (zvT' : Int32) : Prop := (∃ zvBE_2 : Nat → Int32, ∃ zvBC_2 : Int32, ∃ zvBO_2 : Bool, ∃ zvFC_2 : Int32, ∃ zvFO_2 : Bool, ∃ zvT_2 : Int32, D_HelpFile_jump zvBn k0 hfO zvBE zvBC zvBO zvFC zvFO zvT bbT zvBE_2 zvBC_2 zvBO_2 zvFC_2 zvFO_2 zvT_2 ∧ (res = 0 ∧ zvBE' = zvBE_2 ∧ zvBC' = zvBC_2 ∧ zvBO' = zvBO_2 ∧ zvFC' = zvFC_2 ∧ zvFO' = zvFO_2 ∧ zvT' = zvT_2))
theorem d_Law_jump_0 : decode b_Law_jump 0 = .ok (.aload_n 0, 1) := by decide +kernel
theorem d_Law_jump_1 : decode b_Law_jump 1 = .ok (.iload_n 1, 1) := by decide +kernel
theorem d_Law_jump_2 : decode b_Law_jump 2 = .ok (.invokevirtual 30, 3) := by decide +kernel
theorem d_Law_jump_5 : decode b_Law_jump 5 = .ok (.goto 9, 3) := by decide +kernel
theorem d_Law_jump_14 : decode b_Law_jump 14 = .ok (.iconst 0, 1) := by decide +kernel
theorem d_Law_jump_15 : decode b_Law_jump 15 = .ok (.ireturn, 1) := by decide +kernel
set_option maxHeartbeats 4000000 in
set_option maxRecDepth 100000 in
theorem c_Law_jump (l : Launch) (dC : Nat → ClassId) (dI : Nat → Nat → Nat) (cI cL cZ : ClassId) (hf : Nat) (hfS : Value) (hfI : Value) (hfR : Value) (hfT : Value) (hfC : Value) (hfE : Value) (hfQ : Value) (hfN : Value) (hfD : Value) (hfO : Bool) (hfF : Int32) (hfY : Int32) (zv : Nat) (zvB : Nat) (zvBEa : Nat) (zvBn : Nat) (zvBE : Nat → Int32) (zvBC : Int32) (zvBO : Bool) (zvF : Nat) (zvFEa : Nat) (zvFn : Nat) (zvFE : Nat → Int32) (zvFC : Int32) (zvFO : Bool) (zvT : Int32) (bb : Nat) (bbNa : Nat) (bbN : Nat → Int64) (bbSa : Nat) (bbS : Nat → Int32) (bbB : Nat) (bbBEa : Nat) (bbBn : Nat) (bbBE : Nat → Int32) (bbBC : Int32) (bbBO : Bool) (bbK : Nat) (bbKWa : Nat) (bbKn : Nat) (bbKW : Nat → Int64) (bbKTa : Nat) (bbKT : Nat → Int32) (bbKC : Int32) (bbV : Nat) (bbVWa : Nat) (bbVn : Nat) (bbVW : Nat → Int64) (bbVTa : Nat) (bbVT : Nat → Int32) (bbVC : Int32) (bbT : Int32) (k0 : Int32) (res : Int32) (zvBE' : Nat → Int32) (zvBC' : Int32) (zvBO' : Bool) (zvFC' : Int32) (zvFO' : Bool) (zvT' : Int32) (hd : D_Law_jump zvBn k0 hfO zvBE zvBC zvBO zvFC zvFO zvT bbT res zvBE' zvBC' zvBO' zvFC' zvFO' zvT') : CtG l y_Law_jump (Cond.codeWith y_Law_jump b_Law_jump 3 (some .int) [(0, 5, 8, 33), (0, 5, 11, 35)] :: ga) { frames := 8, cells := 1, slots := 6, locals := 123 } (dC, dI) classes (Tys cI cL cZ) [.ref hf, .int k0] ((sh_HelpFile cI cL cZ hf hfS hfI hfR hfT hfC hfE (.ref zv) hfQ hfN hfD (.ref bb) hfO hfF hfY) ++ ((sh_Visits cI cL cZ zv zvB zvBEa zvBn zvBE zvBC zvBO zvF zvFEa zvFn zvFE zvFC zvFO zvT) ++ ((sh_Book cI cL cZ bb bbNa bbN bbSa bbS bbB bbBEa bbBn bbBE bbBC bbBO bbK bbKWa bbKn bbKW bbKTa bbKT bbKC bbV bbVWa bbVn bbVW bbVTa bbVT bbVC bbT)))) (some (.int res)) ((sh_HelpFile cI cL cZ hf hfS hfI hfR hfT hfC hfE (.ref zv) hfQ hfN hfD (.ref bb) hfO hfF hfY) ++ ((sh_Visits cI cL cZ zv zvB zvBEa zvBn zvBE' zvBC' zvBO' zvF zvFEa zvFn zvFE zvFC' zvFO' zvT') ++ ((sh_Book cI cL cZ bb bbNa bbN bbSa bbS bbB bbBEa bbBn bbBE bbBC bbBO bbK bbKWa bbKn bbKW bbKTa bbKT bbKC bbV bbVWa bbVn bbVW bbVTa bbVT bbVC bbT)))) := by
  refine CtG.ofW (by decide) (Nat.le_of_ble_eq_true rfl) ?_
  intro p e s m below meth c A ls hx hb hr hml hown hlocks htab hts hK hN hZ hT hNc hA hP hD hS hl
  have hown : s.vm.findClass R_Law = some m.cls := hown
  have hl : lv_has ls 3 [(0, .ref hf), (1, .int k0)] := hl
  refine lv_aload_n hx hb d_Law_jump_0 rfl (lv_at hl 0 rfl) ?_
  refine lv_iload_n hx hb d_Law_jump_1 rfl (lv_at hl 1 rfl) ?_
  obtain ⟨zvBE_2, zvBC_2, zvBO_2, zvFC_2, zvFO_2, zvT_2, c2, hd⟩ := hd
  refine ct_V (As := [.int k0]) (rest := []) (C := R_HelpFile) (ci := 0) (q := (R_HelpFile, F_HelpFile, 14)) ⟨hx, hb, hml, hown, hts⟩ fm_HelpFile_jump (c_HelpFile_jump l dC dI cI cL cZ hf hfS hfI hfR hfT hfC hfE hfQ hfN hfD hfO hfF hfY zv zvB zvBEa zvBn zvBE zvBC zvBO zvF zvFEa zvFn zvFE zvFC zvFO zvT bb bbNa bbN bbSa bbS bbB bbBEa bbBn bbBE bbBC bbBO bbK bbKWa bbKn bbKW bbKTa bbKT bbKC bbV bbVWa bbVn bbVW bbVTa bbVT bbVC bbT k0 zvBE_2 zvBC_2 zvBO_2 zvFC_2 zvFO_2 zvT_2 c2) k804_methodLink k805_instanceMethod k806_selects ⟨Nat.le_of_ble_eq_true rfl, Nat.le_of_ble_eq_true rfl⟩ rfl rfl hK hN hP hD hS hA [0, 1, 2, 3, 4, 5, 6, 7, 8, 9, 10, 11, 12, 13, 14, 15, 16] [] rfl rfl rfl (by decide) (by decide) (by decide) 0 rfl rfl rfl rfl hl.1 rfl (Nat.le_of_ble_eq_true rfl) d_Law_jump_2 (fun H locs hP hD hS => ?_)
  have hP : va_P (dC, dI) classes ((sh_HelpFile cI cL cZ hf hfS hfI hfR hfT hfC hfE (.ref zv) hfQ hfN hfD (.ref bb) hfO hfF hfY) ++ ((sh_Visits cI cL cZ zv zvB zvBEa zvBn zvBE_2 zvBC_2 zvBO_2 zvF zvFEa zvFn zvFE zvFC_2 zvFO_2 zvT_2) ++ ((sh_Book cI cL cZ bb bbNa bbN bbSa bbS bbB bbBEa bbBn bbBE bbBC bbBO bbK bbKWa bbKn bbKW bbKTa bbKT bbKC bbV bbVWa bbVn bbVW bbVTa bbVT bbVC bbT)))) H := hP.sub [0, 1, 2, 3, 4, 5, 6, 7, 8, 9, 10, 11, 12, 13, 14, 15, 16] rfl
  have hD : va_D A ((sh_HelpFile cI cL cZ hf hfS hfI hfR hfT hfC hfE (.ref zv) hfQ hfN hfD (.ref bb) hfO hfF hfY) ++ ((sh_Visits cI cL cZ zv zvB zvBEa zvBn zvBE_2 zvBC_2 zvBO_2 zvF zvFEa zvFn zvFE zvFC_2 zvFO_2 zvT_2) ++ ((sh_Book cI cL cZ bb bbNa bbN bbSa bbS bbB bbBEa bbBn bbBE bbBC bbBO bbK bbKWa bbKn bbKW bbKTa bbKT bbKC bbV bbVWa bbVn bbVW bbVTa bbVT bbVC bbT)))) := hD.sub [0, 1, 2, 3, 4, 5, 6, 7, 8, 9, 10, 11, 12, 13, 14, 15, 16] (by decide) rfl
  refine lv_goto (tgt := 14) hx hb d_Law_jump_5 (by decide) ?_
  refine lv_iconst (v := 0) hx hb d_Law_jump_14 (by decide) ?_
  obtain ⟨e0, e1, e2, e3, e4, e5, e6⟩ := hd
  subst e0
  subst e1
  subst e2
  subst e3
  subst e4
  subst e5
  subst e6
  refine W.widen (k := 1) (n := 6) (by decide) (by decide) ?_
  exact ct_iretG hx hb hr hlocks hK hP hD hS d_Law_jump_15
theorem d_Law_jump_8 : decode b_Law_jump 8 = .ok (.astore_n 2, 1) := by decide +kernel
theorem d_Law_jump_9 : decode b_Law_jump 9 = .ok (.iconst 1, 1) := by decide +kernel
theorem d_Law_jump_10 : decode b_Law_jump 10 = .ok (.ireturn, 1) := by decide +kernel
set_option maxHeartbeats 4000000 in
set_option maxRecDepth 100000 in
theorem t_Law_jump_1 (l : Launch) (htr : ∀ e : Env, l.admits e → e.platform.stackTraces = false) (dC : Nat → ClassId) (dI : Nat → Nat → Nat) (cI cL cZ : ClassId) (hf : Nat) (hfS : Value) (hfI : Value) (hfR : Value) (hfT : Value) (hfC : Value) (hfE : Value) (hfQ : Value) (hfN : Value) (hfD : Value) (hfO : Bool) (hfF : Int32) (hfY : Int32) (zv : Nat) (zvB : Nat) (zvBEa : Nat) (zvBn : Nat) (zvBE : Nat → Int32) (zvBC : Int32) (zvBO : Bool) (zvF : Nat) (zvFEa : Nat) (zvFn : Nat) (zvFE : Nat → Int32) (zvFC : Int32) (zvFO : Bool) (zvT : Int32) (bb : Nat) (bbNa : Nat) (bbN : Nat → Int64) (bbSa : Nat) (bbS : Nat → Int32) (bbB : Nat) (bbBEa : Nat) (bbBn : Nat) (bbBE : Nat → Int32) (bbBC : Int32) (bbBO : Bool) (bbK : Nat) (bbKWa : Nat) (bbKn : Nat) (bbKW : Nat → Int64) (bbKTa : Nat) (bbKT : Nat → Int32) (bbKC : Int32) (bbV : Nat) (bbVWa : Nat) (bbVn : Nat) (bbVW : Nat → Int64) (bbVTa : Nat) (bbVT : Nat → Int32) (bbVC : Int32) (bbT : Int32) (k0 : Int32) (hd : X_HelpFile_jump k0 hfO bbT "java/lang/IllegalStateException") : CtG l y_Law_jump (Cond.codeWith y_Law_jump b_Law_jump 3 (some .int) [(0, 5, 8, 33), (0, 5, 11, 35)] :: ga) { frames := 8, cells := 1, slots := 6, locals := 123 } (dC, dI) classes (Tys cI cL cZ) [.ref hf, .int k0] ((sh_HelpFile cI cL cZ hf hfS hfI hfR hfT hfC hfE (.ref zv) hfQ hfN hfD (.ref bb) hfO hfF hfY) ++ ((sh_Visits cI cL cZ zv zvB zvBEa zvBn zvBE zvBC zvBO zvF zvFEa zvFn zvFE zvFC zvFO zvT) ++ ((sh_Book cI cL cZ bb bbNa bbN bbSa bbS bbB bbBEa bbBn bbBE bbBC bbBO bbK bbKWa bbKn bbKW bbKTa bbKT bbKC bbV bbVWa bbVn bbVW bbVTa bbVT bbVC bbT)))) (some (.int 1)) ((sh_HelpFile cI cL cZ hf hfS hfI hfR hfT hfC hfE (.ref zv) hfQ hfN hfD (.ref bb) hfO hfF hfY) ++ ((sh_Visits cI cL cZ zv zvB zvBEa zvBn zvBE zvBC zvBO zvF zvFEa zvFn zvFE zvFC zvFO zvT) ++ ((sh_Book cI cL cZ bb bbNa bbN bbSa bbS bbB bbBEa bbBn bbBE bbBC bbBO bbK bbKWa bbKn bbKW bbKTa bbKT bbKC bbV bbVWa bbVn bbVW bbVTa bbVT bbVC bbT)))) := by
  refine CtG.ofW (by decide) (Nat.le_of_ble_eq_true rfl) ?_
  intro p e s m below meth c A ls hx hb hr hml hown hlocks htab hts hK hN hZ hT hNc hA hP hD hS hl
  have hown : s.vm.findClass R_Law = some m.cls := hown
  have hl : lv_has ls 3 [(0, .ref hf), (1, .int k0)] := hl
  refine lv_aload_n hx hb d_Law_jump_0 rfl (lv_at hl 0 rfl) ?_
  refine lv_iload_n hx hb d_Law_jump_1 rfl (lv_at hl 1 rfl) ?_
  refine ct_VC (As := [.int k0]) (rest := []) (C := R_HelpFile) (ci := 0) (q := (R_HelpFile, F_HelpFile, 14)) (hpc2 := 8) (N1 := "java/lang/IllegalStateException") ⟨hx, hb, hml, hown, hts⟩ htab (by decide) fm_HelpFile_jump (x_HelpFile_jump l htr dC dI cI cL cZ hf hfS hfI hfR hfT hfC hfE hfQ hfN hfD hfO hfF hfY zv zvB zvBEa zvBn zvBE zvBC zvBO zvF zvFEa zvFn zvFE zvFC zvFO zvT bb bbNa bbN bbSa bbS bbB bbBEa bbBn bbBE bbBC bbBO bbK bbKWa bbKn bbKW bbKTa bbKT bbKC bbV bbVWa bbVn bbVW bbVTa bbVT bbVC bbT k0 "java/lang/IllegalStateException" hd) k804_methodLink k805_instanceMethod k806_selects ⟨Nat.le_of_ble_eq_true rfl, Nat.le_of_ble_eq_true rfl⟩ (by decide) (by decide) hK hN hZ hT hA hP hD [0, 1, 2, 3, 4, 5, 6, 7, 8, 9, 10, 11, 12, 13, 14, 15, 16] rfl rfl (by decide) 0 rfl rfl rfl rfl hl.1 rfl (Nat.le_of_ble_eq_true rfl) d_Law_jump_2 k807_classLink (by decide) (Or.inl ⟨hT.2 (.castable "java/lang/IllegalStateException" "java/lang/IllegalStateException") (by simp [thWs]), rfl⟩) (fun x9 H hP hS => ?_)
  refine W.cs (cells' := 1) (slots' := 6) rfl rfl ?_
  refine lv_astore_n (lv' := [(2, .ref x9), (0, .ref hf), (1, .int k0)]) hx hb d_Law_jump_8 rfl hl (by decide) rfl (fun ls hl => ?_)
  refine lv_iconst (v := 1) hx hb d_Law_jump_9 (by decide) ?_
  exact ct_iretG hx hb hr hlocks hK hP hD hS d_Law_jump_10
theorem d_Law_jump_11 : decode b_Law_jump 11 = .ok (.astore_n 2, 1) := by decide +kernel
theorem d_Law_jump_12 : decode b_Law_jump 12 = .ok (.iconst 2, 1) := by decide +kernel
theorem d_Law_jump_13 : decode b_Law_jump 13 = .ok (.ireturn, 1) := by decide +kernel
set_option maxHeartbeats 4000000 in
set_option maxRecDepth 100000 in
theorem t_Law_jump_2 (l : Launch) (htr : ∀ e : Env, l.admits e → e.platform.stackTraces = false) (dC : Nat → ClassId) (dI : Nat → Nat → Nat) (cI cL cZ : ClassId) (hf : Nat) (hfS : Value) (hfI : Value) (hfR : Value) (hfT : Value) (hfC : Value) (hfE : Value) (hfQ : Value) (hfN : Value) (hfD : Value) (hfO : Bool) (hfF : Int32) (hfY : Int32) (zv : Nat) (zvB : Nat) (zvBEa : Nat) (zvBn : Nat) (zvBE : Nat → Int32) (zvBC : Int32) (zvBO : Bool) (zvF : Nat) (zvFEa : Nat) (zvFn : Nat) (zvFE : Nat → Int32) (zvFC : Int32) (zvFO : Bool) (zvT : Int32) (bb : Nat) (bbNa : Nat) (bbN : Nat → Int64) (bbSa : Nat) (bbS : Nat → Int32) (bbB : Nat) (bbBEa : Nat) (bbBn : Nat) (bbBE : Nat → Int32) (bbBC : Int32) (bbBO : Bool) (bbK : Nat) (bbKWa : Nat) (bbKn : Nat) (bbKW : Nat → Int64) (bbKTa : Nat) (bbKT : Nat → Int32) (bbKC : Int32) (bbV : Nat) (bbVWa : Nat) (bbVn : Nat) (bbVW : Nat → Int64) (bbVTa : Nat) (bbVT : Nat → Int32) (bbVC : Int32) (bbT : Int32) (k0 : Int32) (hd : X_HelpFile_jump k0 hfO bbT "java/util/NoSuchElementException") : CtG l y_Law_jump (Cond.codeWith y_Law_jump b_Law_jump 3 (some .int) [(0, 5, 8, 33), (0, 5, 11, 35)] :: ga) { frames := 8, cells := 1, slots := 6, locals := 123 } (dC, dI) classes (Tys cI cL cZ) [.ref hf, .int k0] ((sh_HelpFile cI cL cZ hf hfS hfI hfR hfT hfC hfE (.ref zv) hfQ hfN hfD (.ref bb) hfO hfF hfY) ++ ((sh_Visits cI cL cZ zv zvB zvBEa zvBn zvBE zvBC zvBO zvF zvFEa zvFn zvFE zvFC zvFO zvT) ++ ((sh_Book cI cL cZ bb bbNa bbN bbSa bbS bbB bbBEa bbBn bbBE bbBC bbBO bbK bbKWa bbKn bbKW bbKTa bbKT bbKC bbV bbVWa bbVn bbVW bbVTa bbVT bbVC bbT)))) (some (.int 2)) ((sh_HelpFile cI cL cZ hf hfS hfI hfR hfT hfC hfE (.ref zv) hfQ hfN hfD (.ref bb) hfO hfF hfY) ++ ((sh_Visits cI cL cZ zv zvB zvBEa zvBn zvBE zvBC zvBO zvF zvFEa zvFn zvFE zvFC zvFO zvT) ++ ((sh_Book cI cL cZ bb bbNa bbN bbSa bbS bbB bbBEa bbBn bbBE bbBC bbBO bbK bbKWa bbKn bbKW bbKTa bbKT bbKC bbV bbVWa bbVn bbVW bbVTa bbVT bbVC bbT)))) := by
  refine CtG.ofW (by decide) (Nat.le_of_ble_eq_true rfl) ?_
  intro p e s m below meth c A ls hx hb hr hml hown hlocks htab hts hK hN hZ hT hNc hA hP hD hS hl
  have hown : s.vm.findClass R_Law = some m.cls := hown
  have hl : lv_has ls 3 [(0, .ref hf), (1, .int k0)] := hl
  refine lv_aload_n hx hb d_Law_jump_0 rfl (lv_at hl 0 rfl) ?_
  refine lv_iload_n hx hb d_Law_jump_1 rfl (lv_at hl 1 rfl) ?_
  refine ct_VC (As := [.int k0]) (rest := []) (C := R_HelpFile) (ci := 0) (q := (R_HelpFile, F_HelpFile, 14)) (hpc2 := 11) (N1 := "java/lang/IllegalStateException") ⟨hx, hb, hml, hown, hts⟩ htab (by decide) fm_HelpFile_jump (x_HelpFile_jump l htr dC dI cI cL cZ hf hfS hfI hfR hfT hfC hfE hfQ hfN hfD hfO hfF hfY zv zvB zvBEa zvBn zvBE zvBC zvBO zvF zvFEa zvFn zvFE zvFC zvFO zvT bb bbNa bbN bbSa bbS bbB bbBEa bbBn bbBE bbBC bbBO bbK bbKWa bbKn bbKW bbKTa bbKT bbKC bbV bbVWa bbVn bbVW bbVTa bbVT bbVC bbT k0 "java/util/NoSuchElementException" hd) k804_methodLink k805_instanceMethod k806_selects ⟨Nat.le_of_ble_eq_true rfl, Nat.le_of_ble_eq_true rfl⟩ (by decide) (by decide) hK hN hZ hT hA hP hD [0, 1, 2, 3, 4, 5, 6, 7, 8, 9, 10, 11, 12, 13, 14, 15, 16] rfl rfl (by decide) 0 rfl rfl rfl rfl hl.1 rfl (Nat.le_of_ble_eq_true rfl) d_Law_jump_2 k807_classLink (by decide) (Or.inr ⟨hNc ("java/util/NoSuchElementException", "java/lang/IllegalStateException") (by simp [thNl]), 35, "java/util/NoSuchElementException", [], rfl, by decide, k808_classLink, hT.2 (.castable "java/util/NoSuchElementException" "java/util/NoSuchElementException") (by simp [thWs])⟩) (fun x9 H hP hS => ?_)
  refine W.cs (cells' := 1) (slots' := 6) rfl rfl ?_
  refine lv_astore_n (lv' := [(2, .ref x9), (0, .ref hf), (1, .int k0)]) hx hb d_Law_jump_11 rfl hl (by decide) rfl (fun ls hl => ?_)
  refine lv_iconst (v := 2) hx hb d_Law_jump_12 (by decide) ?_
  exact ct_iretG hx hb hr hlocks hK hP hD hS d_Law_jump_13
abbrev b_Law_follow : ByteArray := method_8_code
def y_Law_follow : MethodName := ⟨"HelpFileLaw", "follow", "(LHelpFile;I[J)I"⟩
theorem k809_methodLink : Cond.methodLink "HelpFileLaw" 37 ⟨"HelpFile", "follow", "(I)I"⟩ ∈ ga := ga_t 845 (by decide +kernel) rfl
theorem k810_instanceMethod : Cond.instanceMethod ⟨"HelpFile", "follow", "(I)I"⟩ ∈ ga := ga_t 846 (by decide +kernel) rfl
theorem k811_selects : Cond.selects "HelpFile" ⟨"HelpFile", "follow", "(I)I"⟩ ⟨"HelpFile", "follow", "(I)I"⟩ ∈ ga := ga_t 847 (by decide +kernel) rfl
def D_Law_follow (zvBn : Nat) (bbBn : Nat) (k0 : Int32) (hfO : Bool) (zvBE : Nat → Int32) (zvBC : Int32) (zvBO : Bool) (zvFC : Int32) (zvFO : Bool) (zvT : Int32) (bbS : Nat → Int32) (bbBE : Nat → Int32) (bbBC : Int32) (bbT : Int32) (ouV : Nat → Int64) (res : Int32) (zvBE' : Nat → Int32) (zvBC' : Int32) (zvBO' : Bool) (zvFC' : Int32) (zvFO' : Bool) (zvT' : Int32) (ouV' : Nat → Int64) : Prop := (∃ r4 : Int32, ∃ zvBE_4 : Nat → Int32, ∃ zvBC_4 : Int32, ∃ zvBO_4 : Bool, ∃ zvFC_4 : Int32, ∃ zvFO_4 : Bool, ∃ zvT_4 : Int32, D_HelpFile_follow zvBn bbBn k0 hfO zvBE zvBC zvBO zvFC zvFO zvT bbS bbBE bbBC bbT r4 zvBE_4 zvBC_4 zvBO_4 zvFC_4 zvFO_4 zvT_4 ∧ (vp_in 0 1 ∧ (res = 0 ∧ zvBE' = zvBE_4 ∧ zvBC' = zvBC_4 ∧ zvBO' = zvBO_4 ∧ zvFC' = zvFC_4 ∧ zvFO' = zvFO_4 ∧ zvT' = zvT_4 ∧ ouV' = vp_updL ouV (Int32.toNatClampNeg 0) (Int32.toInt64 r4))))
theorem d_Law_follow_0 : decode b_Law_follow 0 = .ok (.aload_n 2, 1) := by decide +kernel
theorem d_Law_follow_1 : decode b_Law_follow 1 = .ok (.iconst 0, 1) := by decide +kernel
theorem d_Law_follow_2 : decode b_Law_follow 2 = .ok (.aload_n 0, 1) := by decide +kernel
theorem d_Law_follow_3 : decode b_Law_follow 3 = .ok (.iload_n 1, 1) := by decide +kernel
theorem d_Law_follow_4 : decode b_Law_follow 4 = .ok (.invokevirtual 37, 3) := by decide +kernel
theorem d_Law_follow_7 : decode b_Law_follow 7 = .ok (.i2l, 1) := by decide +kernel
theorem d_Law_follow_8 : decode b_Law_follow 8 = .ok (.lastore, 1) := by decide +kernel
theorem d_Law_follow_9 : decode b_Law_follow 9 = .ok (.goto 9, 3) := by decide +kernel
theorem d_Law_follow_18 : decode b_Law_follow 18 = .ok (.iconst 0, 1) := by decide +kernel
theorem d_Law_follow_19 : decode b_Law_follow 19 = .ok (.ireturn, 1) := by decide +kernel
set_option maxHeartbeats 4000000 in
set_option maxRecDepth 100000 in
theorem c_Law_follow (l : Launch) (dC : Nat → ClassId) (dI : Nat → Nat → Nat) (cI cL cZ : ClassId) (hf : Nat) (hfS : Value) (hfI : Value) (hfR : Value) (hfT : Value) (hfC : Value) (hfE : Value) (hfQ : Value) (hfN : Value) (hfD : Value) (hfO : Bool) (hfF : Int32) (hfY : Int32) (zv : Nat) (zvB : Nat) (zvBEa : Nat) (zvBn : Nat) (zvBE : Nat → Int32) (zvBC : Int32) (zvBO : Bool) (zvF : Nat) (zvFEa : Nat) (zvFn : Nat) (zvFE : Nat → Int32) (zvFC : Int32) (zvFO : Bool) (zvT : Int32) (bb : Nat) (bbNa : Nat) (bbN : Nat → Int64) (bbSa : Nat) (bbS : Nat → Int32) (bbB : Nat) (bbBEa : Nat) (bbBn : Nat) (bbBE : Nat → Int32) (bbBC : Int32) (bbBO : Bool) (bbK : Nat) (bbKWa : Nat) (bbKn : Nat) (bbKW : Nat → Int64) (bbKTa : Nat) (bbKT : Nat → Int32) (bbKC : Int32) (bbV : Nat) (bbVWa : Nat) (bbVn : Nat) (bbVW : Nat → Int64) (bbVTa : Nat) (bbVT : Nat → Int32) (bbVC : Int32) (bbT : Int32) (ou : Nat) (ouV : Nat → Int64) (k0 : Int32) (res : Int32) (zvBE' : Nat → Int32) (zvBC' : Int32) (zvBO' : Bool) (zvFC' : Int32) (zvFO' : Bool) (zvT' : Int32) (ouV' : Nat → Int64) (hd : D_Law_follow zvBn bbBn k0 hfO zvBE zvBC zvBO zvFC zvFO zvT bbS bbBE bbBC bbT ouV res zvBE' zvBC' zvBO' zvFC' zvFO' zvT' ouV') : CtG l y_Law_follow (Cond.codeWith y_Law_follow b_Law_follow 4 (some .int) [(0, 9, 12, 33), (0, 9, 15, 35)] :: ga) { frames := 8, cells := 1, slots := 6, locals := 124 } (dC, dI) classes (Tys cI cL cZ) [.ref hf, .int k0, .ref ou] ((sh_HelpFile cI cL cZ hf hfS hfI hfR hfT hfC hfE (.ref zv) hfQ hfN hfD (.ref bb) hfO hfF hfY) ++ ((sh_Visits cI cL cZ zv zvB zvBEa zvBn zvBE zvBC zvBO zvF zvFEa zvFn zvFE zvFC zvFO zvT) ++ ((sh_Book cI cL cZ bb bbNa bbN bbSa bbS bbB bbBEa bbBn bbBE bbBC bbBO bbK bbKWa bbKn bbKW bbKTa bbKT bbKC bbV bbVWa bbVn bbVW bbVTa bbVT bbVC bbT) ++ ((sh_Out cI cL cZ ou ouV))))) (some (.int res)) ((sh_HelpFile cI cL cZ hf hfS hfI hfR hfT hfC hfE (.ref zv) hfQ hfN hfD (.ref bb) hfO hfF hfY) ++ ((sh_Visits cI cL cZ zv zvB zvBEa zvBn zvBE' zvBC' zvBO' zvF zvFEa zvFn zvFE zvFC' zvFO' zvT') ++ ((sh_Book cI cL cZ bb bbNa bbN bbSa bbS bbB bbBEa bbBn bbBE bbBC bbBO bbK bbKWa bbKn bbKW bbKTa bbKT bbKC bbV bbVWa bbVn bbVW bbVTa bbVT bbVC bbT) ++ ((sh_Out cI cL cZ ou ouV'))))) := by
  refine CtG.ofW (by decide) (Nat.le_of_ble_eq_true rfl) ?_
  intro p e s m below meth c A ls hx hb hr hml hown hlocks htab hts hK hN hZ hT hNc hA hP hD hS hl
  have hown : s.vm.findClass R_Law = some m.cls := hown
  have hl : lv_has ls 4 [(0, .ref hf), (1, .int k0), (2, .ref ou)] := hl
  refine lv_aload_n hx hb d_Law_follow_0 rfl (lv_at hl 2 rfl) ?_
  refine lv_iconst (v := 0) hx hb d_Law_follow_1 (by decide) ?_
  refine lv_aload_n hx hb d_Law_follow_2 rfl (lv_at hl 0 rfl) ?_
  refine lv_iload_n hx hb d_Law_follow_3 rfl (lv_at hl 1 rfl) ?_
  obtain ⟨r4, zvBE_4, zvBC_4, zvBO_4, zvFC_4, zvFO_4, zvT_4, c4, hd⟩ := hd
  refine ct_V (As := [.int k0]) (rest := [.int 0, .ref ou]) (C := R_HelpFile) (ci := 0) (q := (R_HelpFile, F_HelpFile, 14)) ⟨hx, hb, hml, hown, hts⟩ fm_HelpFile_follow (c_HelpFile_follow l dC dI cI cL cZ hf hfS hfI hfR hfT hfC hfE hfQ hfN hfD hfO hfF hfY zv zvB zvBEa zvBn zvBE zvBC zvBO zvF zvFEa zvFn zvFE zvFC zvFO zvT bb bbNa bbN bbSa bbS bbB bbBEa bbBn bbBE bbBC bbBO bbK bbKWa bbKn bbKW bbKTa bbKT bbKC bbV bbVWa bbVn bbVW bbVTa bbVT bbVC bbT k0 r4 zvBE_4 zvBC_4 zvBO_4 zvFC_4 zvFO_4 zvT_4 c4) k809_methodLink k810_instanceMethod k811_selects ⟨Nat.le_of_ble_eq_true rfl, Nat.le_of_ble_eq_true rfl⟩ rfl rfl hK hN hP hD hS hA [0, 1, 2, 3, 4, 5, 6, 7, 8, 9, 10, 11, 12, 13, 14, 15, 16] [17] rfl rfl rfl (by decide) (by decide) (by decide) 0 rfl rfl rfl rfl hl.1 rfl (Nat.le_of_ble_eq_true rfl) d_Law_follow_4 (fun H locs hP hD hS => ?_)
  have hP : va_P (dC, dI) classes ((sh_HelpFile cI cL cZ hf hfS hfI hfR hfT hfC hfE (.ref zv) hfQ hfN hfD (.ref bb) hfO hfF hfY) ++ ((sh_Visits cI cL cZ zv zvB zvBEa zvBn zvBE_4 zvBC_4 zvBO_4 zvF zvFEa zvFn zvFE zvFC_4 zvFO_4 zvT_4) ++ ((sh_Book cI cL cZ bb bbNa bbN bbSa bbS bbB bbBEa bbBn bbBE bbBC bbBO bbK bbKWa bbKn bbKW bbKTa bbKT bbKC bbV bbVWa bbVn bbVW bbVTa bbVT bbVC bbT) ++ ((sh_Out cI cL cZ ou ouV))))) H := hP.sub [1, 2, 3, 4, 5, 6, 7, 8, 9, 10, 11, 12, 13, 14, 15, 16, 17, 0] rfl
  have hD : va_D A ((sh_HelpFile cI cL cZ hf hfS hfI hfR hfT hfC hfE (.ref zv) hfQ hfN hfD (.ref bb) hfO hfF hfY) ++ ((sh_Visits cI cL cZ zv zvB zvBEa zvBn zvBE_4 zvBC_4 zvBO_4 zvF zvFEa zvFn zvFE zvFC_4 zvFO_4 zvT_4) ++ ((sh_Book cI cL cZ bb bbNa bbN bbSa bbS bbB bbBEa bbBn bbBE bbBC bbBO bbK bbKWa bbKn bbKW bbKTa bbKT bbKC bbV bbVWa bbVn bbVW bbVTa bbVT bbVC bbT) ++ ((sh_Out cI cL cZ ou ouV))))) := hD.sub [1, 2, 3, 4, 5, 6, 7, 8, 9, 10, 11, 12, 13, 14, 15, 16, 17, 0] (by decide) rfl
  refine lv_i2l (v := Int32.toInt64 r4) hx hb d_Law_follow_7 rfl ?_
  obtain ⟨h8, hd⟩ := hd
  refine va_last hx hb hK hP hD hS 17 1 rfl rfl h8 d_Law_follow_8 (fun H locs hP hD hS => ?_)
  have hP : va_P (dC, dI) classes ((sh_HelpFile cI cL cZ hf hfS hfI hfR hfT hfC hfE (.ref zv) hfQ hfN hfD (.ref bb) hfO hfF hfY) ++ ((sh_Visits cI cL cZ zv zvB zvBEa zvBn zvBE_4 zvBC_4 zvBO_4 zvF zvFEa zvFn zvFE zvFC_4 zvFO_4 zvT_4) ++ ((sh_Book cI cL cZ bb bbNa bbN bbSa bbS bbB bbBEa bbBn bbBE bbBC bbBO bbK bbKWa bbKn bbKW bbKTa bbKT bbKC bbV bbVWa bbVn bbVW bbVTa bbVT bbVC bbT) ++ ((sh_Out cI cL cZ ou (vp_updL ouV (Int32.toNatClampNeg 0) (Int32.toInt64 r4))))))) H := hP
  have hD : va_D A ((sh_HelpFile cI cL cZ hf hfS hfI hfR hfT hfC hfE (.ref zv) hfQ hfN hfD (.ref bb) hfO hfF hfY) ++ ((sh_Visits cI cL cZ zv zvB zvBEa zvBn zvBE_4 zvBC_4 zvBO_4 zvF zvFEa zvFn zvFE zvFC_4 zvFO_4 zvT_4) ++ ((sh_Book cI cL cZ bb bbNa bbN bbSa bbS bbB bbBEa bbBn bbBE bbBC bbBO bbK bbKWa bbKn bbKW bbKTa bbKT bbKC bbV bbVWa bbVn bbVW bbVTa bbVT bbVC bbT) ++ ((sh_Out cI cL cZ ou (vp_updL ouV (Int32.toNatClampNeg 0) (Int32.toInt64 r4))))))) := hD
  refine lv_goto (tgt := 18) hx hb d_Law_follow_9 (by decide) ?_
  refine lv_iconst (v := 0) hx hb d_Law_follow_18 (by decide) ?_
  obtain ⟨e0, e1, e2, e3, e4, e5, e6, e7⟩ := hd
  subst e0
  subst e1
  subst e2
  subst e3
  subst e4
  subst e5
  subst e6
  subst e7
  refine W.widen (k := 1) (n := 6) (by decide) (by decide) ?_
  exact ct_iretG hx hb hr hlocks hK hP hD hS d_Law_follow_19
theorem d_Law_follow_12 : decode b_Law_follow 12 = .ok (.astore_n 3, 1) := by decide +kernel
theorem d_Law_follow_13 : decode b_Law_follow 13 = .ok (.iconst 1, 1) := by decide +kernel
theorem d_Law_follow_14 : decode b_Law_follow 14 = .ok (.ireturn, 1) := by decide +kernel
set_option maxHeartbeats 4000000 in
set_option maxRecDepth 100000 in
theorem t_Law_follow_1 (l : Launch) (htr : ∀ e : Env, l.admits e → e.platform.stackTraces = false) (dC : Nat → ClassId) (dI : Nat → Nat → Nat) (cI cL cZ : ClassId) (hf : Nat) (hfS : Value) (hfI : Value) (hfR : Value) (hfT : Value) (hfC : Value) (hfE : Value) (hfQ : Value) (hfN : Value) (hfD : Value) (hfO : Bool) (hfF : Int32) (hfY : Int32) (zv : Nat) (zvB : Nat) (zvBEa : Nat) (zvBn : Nat) (zvBE : Nat → Int32) (zvBC : Int32) (zvBO : Bool) (zvF : Nat) (zvFEa : Nat) (zvFn : Nat) (zvFE : Nat → Int32) (zvFC : Int32) (zvFO : Bool) (zvT : Int32) (bb : Nat) (bbNa : Nat) (bbN : Nat → Int64) (bbSa : Nat) (bbS : Nat → Int32) (bbB : Nat) (bbBEa : Nat) (bbBn : Nat) (bbBE : Nat → Int32) (bbBC : Int32) (bbBO : Bool) (bbK : Nat) (bbKWa : Nat) (bbKn : Nat) (bbKW : Nat → Int64) (bbKTa : Nat) (bbKT : Nat → Int32) (bbKC : Int32) (bbV : Nat) (bbVWa : Nat) (bbVn : Nat) (bbVW : Nat → Int64) (bbVTa : Nat) (bbVT : Nat → Int32) (bbVC : Int32) (bbT : Int32) (ou : Nat) (ouV : Nat → Int64) (k0 : Int32) (hd : X_HelpFile_follow bbBn k0 hfO zvT bbS bbBE bbBC bbT "java/lang/IllegalStateException") : CtG l y_Law_follow (Cond.codeWith y_Law_follow b_Law_follow 4 (some .int) [(0, 9, 12, 33), (0, 9, 15, 35)] :: ga) { frames := 8, cells := 1, slots := 6, locals := 124 } (dC, dI) classes (Tys cI cL cZ) [.ref hf, .int k0, .ref ou] ((sh_HelpFile cI cL cZ hf hfS hfI hfR hfT hfC hfE (.ref zv) hfQ hfN hfD (.ref bb) hfO hfF hfY) ++ ((sh_Visits cI cL cZ zv zvB zvBEa zvBn zvBE zvBC zvBO zvF zvFEa zvFn zvFE zvFC zvFO zvT) ++ ((sh_Book cI cL cZ bb bbNa bbN bbSa bbS bbB bbBEa bbBn bbBE bbBC bbBO bbK bbKWa bbKn bbKW bbKTa bbKT bbKC bbV bbVWa bbVn bbVW bbVTa bbVT bbVC bbT) ++ ((sh_Out cI cL cZ ou ouV))))) (some (.int 1)) ((sh_HelpFile cI cL cZ hf hfS hfI hfR hfT hfC hfE (.ref zv) hfQ hfN hfD (.ref bb) hfO hfF hfY) ++ ((sh_Visits cI cL cZ zv zvB zvBEa zvBn zvBE zvBC zvBO zvF zvFEa zvFn zvFE zvFC zvFO zvT) ++ ((sh_Book cI cL cZ bb bbNa bbN bbSa bbS bbB bbBEa bbBn bbBE bbBC bbBO bbK bbKWa bbKn bbKW bbKTa bbKT bbKC bbV bbVWa bbVn bbVW bbVTa bbVT bbVC bbT) ++ ((sh_Out cI cL cZ ou ouV))))) := by
  refine CtG.ofW (by decide) (Nat.le_of_ble_eq_true rfl) ?_
  intro p e s m below meth c A ls hx hb hr hml hown hlocks htab hts hK hN hZ hT hNc hA hP hD hS hl
  have hown : s.vm.findClass R_Law = some m.cls := hown
  have hl : lv_has ls 4 [(0, .ref hf), (1, .int k0), (2, .ref ou)] := hl
  refine lv_aload_n hx hb d_Law_follow_0 rfl (lv_at hl 2 rfl) ?_
  refine lv_iconst (v := 0) hx hb d_Law_follow_1 (by decide) ?_
  refine lv_aload_n hx hb d_Law_follow_2 rfl (lv_at hl 0 rfl) ?_
  refine lv_iload_n hx hb d_Law_follow_3 rfl (lv_at hl 1 rfl) ?_
  refine ct_VC (As := [.int k0]) (rest := [.int 0, .ref ou]) (C := R_HelpFile) (ci := 0) (q := (R_HelpFile, F_HelpFile, 14)) (hpc2 := 12) (N1 := "java/lang/IllegalStateException") ⟨hx, hb, hml, hown, hts⟩ htab (by decide) fm_HelpFile_follow (x_HelpFile_follow l htr dC dI cI cL cZ hf hfS hfI hfR hfT hfC hfE hfQ hfN hfD hfO hfF hfY zv zvB zvBEa zvBn zvBE zvBC zvBO zvF zvFEa zvFn zvFE zvFC zvFO zvT bb bbNa bbN bbSa bbS bbB bbBEa bbBn bbBE bbBC bbBO bbK bbKWa bbKn bbKW bbKTa bbKT bbKC bbV bbVWa bbVn bbVW bbVTa bbVT bbVC bbT k0 "java/lang/IllegalStateException" hd) k809_methodLink k810_instanceMethod k811_selects ⟨Nat.le_of_ble_eq_true rfl, Nat.le_of_ble_eq_true rfl⟩ (by decide) (by decide) hK hN hZ hT hA hP hD [0, 1, 2, 3, 4, 5, 6, 7, 8, 9, 10, 11, 12, 13, 14, 15, 16] rfl rfl (by decide) 0 rfl rfl rfl rfl hl.1 rfl (Nat.le_of_ble_eq_true rfl) d_Law_follow_4 k807_classLink (by decide) (Or.inl ⟨hT.2 (.castable "java/lang/IllegalStateException" "java/lang/IllegalStateException") (by simp [thWs]), rfl⟩) (fun x9 H hP hS => ?_)
  refine W.cs (cells' := 1) (slots' := 6) rfl rfl ?_
  refine lv_astore_n (lv' := [(3, .ref x9), (0, .ref hf), (1, .int k0), (2, .ref ou)]) hx hb d_Law_follow_12 rfl hl (by decide) rfl (fun ls hl => ?_)
  refine lv_iconst (v := 1) hx hb d_Law_follow_13 (by decide) ?_
  exact ct_iretG hx hb hr hlocks hK hP hD hS d_Law_follow_14
theorem d_Law_follow_15 : decode b_Law_follow 15 = .ok (.astore_n 3, 1) := by decide +kernel
theorem d_Law_follow_16 : decode b_Law_follow 16 = .ok (.iconst 2, 1) := by decide +kernel
theorem d_Law_follow_17 : decode b_Law_follow 17 = .ok (.ireturn, 1) := by decide +kernel
set_option maxHeartbeats 4000000 in
set_option maxRecDepth 100000 in
theorem t_Law_follow_2 (l : Launch) (htr : ∀ e : Env, l.admits e → e.platform.stackTraces = false) (dC : Nat → ClassId) (dI : Nat → Nat → Nat) (cI cL cZ : ClassId) (hf : Nat) (hfS : Value) (hfI : Value) (hfR : Value) (hfT : Value) (hfC : Value) (hfE : Value) (hfQ : Value) (hfN : Value) (hfD : Value) (hfO : Bool) (hfF : Int32) (hfY : Int32) (zv : Nat) (zvB : Nat) (zvBEa : Nat) (zvBn : Nat) (zvBE : Nat → Int32) (zvBC : Int32) (zvBO : Bool) (zvF : Nat) (zvFEa : Nat) (zvFn : Nat) (zvFE : Nat → Int32) (zvFC : Int32) (zvFO : Bool) (zvT : Int32) (bb : Nat) (bbNa : Nat) (bbN : Nat → Int64) (bbSa : Nat) (bbS : Nat → Int32) (bbB : Nat) (bbBEa : Nat) (bbBn : Nat) (bbBE : Nat → Int32) (bbBC : Int32) (bbBO : Bool) (bbK : Nat) (bbKWa : Nat) (bbKn : Nat) (bbKW : Nat → Int64) (bbKTa : Nat) (bbKT : Nat → Int32) (bbKC : Int32) (bbV : Nat) (bbVWa : Nat) (bbVn : Nat) (bbVW : Nat → Int64) (bbVTa : Nat) (bbVT : Nat → Int32) (bbVC : Int32) (bbT : Int32) (ou : Nat) (ouV : Nat → Int64) (k0 : Int32) (hd : X_HelpFile_follow bbBn k0 hfO zvT bbS bbBE bbBC bbT "java/util/NoSuchElementException") : CtG l y_Law_follow (Cond.codeWith y_Law_follow b_Law_follow 4 (some .int) [(0, 9, 12, 33), (0, 9, 15, 35)] :: ga) { frames := 8, cells := 1, slots := 6, locals := 124 } (dC, dI) classes (Tys cI cL cZ) [.ref hf, .int k0, .ref ou] ((sh_HelpFile cI cL cZ hf hfS hfI hfR hfT hfC hfE (.ref zv) hfQ hfN hfD (.ref bb) hfO hfF hfY) ++ ((sh_Visits cI cL cZ zv zvB zvBEa zvBn zvBE zvBC zvBO zvF zvFEa zvFn zvFE zvFC zvFO zvT) ++ ((sh_Book cI cL cZ bb bbNa bbN bbSa bbS bbB bbBEa bbBn bbBE bbBC bbBO bbK bbKWa bbKn bbKW bbKTa bbKT bbKC bbV bbVWa bbVn bbVW bbVTa bbVT bbVC bbT) ++ ((sh_Out cI cL cZ ou ouV))))) (some (.int 2)) ((sh_HelpFile cI cL cZ hf hfS hfI hfR hfT hfC hfE (.ref zv) hfQ hfN hfD (.ref bb) hfO hfF hfY) ++ ((sh_Visits cI cL cZ zv zvB zvBEa zvBn zvBE zvBC zvBO zvF zvFEa zvFn zvFE zvFC zvFO zvT) ++ ((sh_Book cI cL cZ bb bbNa bbN bbSa bbS bbB bbBEa bbBn bbBE bbBC bbBO bbK bbKWa bbKn bbKW bbKTa bbKT bbKC bbV bbVWa bbVn bbVW bbVTa bbVT bbVC bbT) ++ ((sh_Out cI cL cZ ou ouV))))) := by
  refine CtG.ofW (by decide) (Nat.le_of_ble_eq_true rfl) ?_
  intro p e s m below meth c A ls hx hb hr hml hown hlocks htab hts hK hN hZ hT hNc hA hP hD hS hl
  have hown : s.vm.findClass R_Law = some m.cls := hown
  have hl : lv_has ls 4 [(0, .ref hf), (1, .int k0), (2, .ref ou)] := hl
  refine lv_aload_n hx hb d_Law_follow_0 rfl (lv_at hl 2 rfl) ?_
  refine lv_iconst (v := 0) hx hb d_Law_follow_1 (by decide) ?_
  refine lv_aload_n hx hb d_Law_follow_2 rfl (lv_at hl 0 rfl) ?_
  refine lv_iload_n hx hb d_Law_follow_3 rfl (lv_at hl 1 rfl) ?_
  refine ct_VC (As := [.int k0]) (rest := [.int 0, .ref ou]) (C := R_HelpFile) (ci := 0) (q := (R_HelpFile, F_HelpFile, 14)) (hpc2 := 15) (N1 := "java/lang/IllegalStateException") ⟨hx, hb, hml, hown, hts⟩ htab (by decide) fm_HelpFile_follow (x_HelpFile_follow l htr dC dI cI cL cZ hf hfS hfI hfR hfT hfC hfE hfQ hfN hfD hfO hfF hfY zv zvB zvBEa zvBn zvBE zvBC zvBO zvF zvFEa zvFn zvFE zvFC zvFO zvT bb bbNa bbN bbSa bbS bbB bbBEa bbBn bbBE bbBC bbBO bbK bbKWa bbKn bbKW bbKTa bbKT bbKC bbV bbVWa bbVn bbVW bbVTa bbVT bbVC bbT k0 "java/util/NoSuchElementException" hd) k809_methodLink k810_instanceMethod k811_selects ⟨Nat.le_of_ble_eq_true rfl, Nat.le_of_ble_eq_true rfl⟩ (by decide) (by decide) hK hN hZ hT hA hP hD [0, 1, 2, 3, 4, 5, 6, 7, 8, 9, 10, 11, 12, 13, 14, 15, 16] rfl rfl (by decide) 0 rfl rfl rfl rfl hl.1 rfl (Nat.le_of_ble_eq_true rfl) d_Law_follow_4 k807_classLink (by decide) (Or.inr ⟨hNc ("java/util/NoSuchElementException", "java/lang/IllegalStateException") (by simp [thNl]), 35, "java/util/NoSuchElementException", [], rfl, by decide, k808_classLink, hT.2 (.castable "java/util/NoSuchElementException" "java/util/NoSuchElementException") (by simp [thWs])⟩) (fun x9 H hP hS => ?_)
  refine W.cs (cells' := 1) (slots' := 6) rfl rfl ?_
  refine lv_astore_n (lv' := [(3, .ref x9), (0, .ref hf), (1, .int k0), (2, .ref ou)]) hx hb d_Law_follow_15 rfl hl (by decide) rfl (fun ls hl => ?_)
  refine lv_iconst (v := 2) hx hb d_Law_follow_16 (by decide) ?_
  exact ct_iretG hx hb hr hlocks hK hP hD hS d_Law_follow_17
abbrev b_Law_go : ByteArray := method_9_code
def y_Law_go : MethodName := ⟨"HelpFileLaw", "go", "(LHelpFile;Z[J)I"⟩
theorem k812_methodLink : Cond.methodLink "HelpFileLaw" 40 ⟨"HelpFile", "go", "(Z)I"⟩ ∈ ga := ga_t 861 (by decide +kernel) rfl
theorem k813_instanceMethod : Cond.instanceMethod ⟨"HelpFile", "go", "(Z)I"⟩ ∈ ga := ga_t 862 (by decide +kernel) rfl
theorem k814_selects : Cond.selects "HelpFile" ⟨"HelpFile", "go", "(Z)I"⟩ ⟨"HelpFile", "go", "(Z)I"⟩ ∈ ga := ga_t 863 (by decide +kernel) rfl
def D_Law_go (zvBn : Nat) (zvFn : Nat) (p0 : Bool) (hfO : Bool) (zvBE : Nat → Int32) (zvBC : Int32) (zvBO : Bool) (zvFE : Nat → Int32) (zvFC : Int32) (zvFO : Bool) (zvT : Int32) (ouV : Nat → Int64) (res : Int32) (zvBE' : Nat → Int32) (zvBC' : Int32) (zvBO' : Bool) (zvFE' : Nat → Int32) (zvFC' : Int32) (zvFO' : Bool) (zvT' : Int32) (ouV' : Nat → Int64) : Prop := (∃ r4 : Int32, ∃ zvBE_4 : Nat → Int32, ∃ zvBC_4 : Int32, ∃ zvBO_4 : Bool, ∃ zvFE_4 : Nat → Int32, ∃ zvFC_4 : Int32, ∃ zvFO_4 : Bool, ∃ zvT_4 : Int32, D_HelpFile_go zvBn zvFn p0 hfO zvBE zvBC zvBO zvFE zvFC zvFO zvT r4 zvBE_4 zvBC_4 zvBO_4 zvFE_4 zvFC_4 zvFO_4 zvT_4 ∧ (vp_in 0 1 ∧ (res = 0 ∧ zvBE' = zvBE_4 ∧ zvBC' = zvBC_4 ∧ zvBO' = zvBO_4 ∧ zvFE' = zvFE_4 ∧ zvFC' = zvFC_4 ∧ zvFO' = zvFO_4 ∧ zvT' = zvT_4 ∧ ouV' = vp_updL ouV (Int32.toNatClampNeg 0) (Int32.toInt64 r4))))
theorem d_Law_go_0 : decode b_Law_go 0 = .ok (.aload_n 2, 1) := by decide +kernel
theorem d_Law_go_1 : decode b_Law_go 1 = .ok (.iconst 0, 1) := by decide +kernel
theorem d_Law_go_2 : decode b_Law_go 2 = .ok (.aload_n 0, 1) := by decide +kernel
theorem d_Law_go_3 : decode b_Law_go 3 = .ok (.iload_n 1, 1) := by decide +kernel
theorem d_Law_go_4 : decode b_Law_go 4 = .ok (.invokevirtual 40, 3) := by decide +kernel
theorem d_Law_go_7 : decode b_Law_go 7 = .ok (.i2l, 1) := by decide +kernel
theorem d_Law_go_8 : decode b_Law_go 8 = .ok (.lastore, 1) := by decide +kernel
theorem d_Law_go_9 : decode b_Law_go 9 = .ok (.goto 9, 3) := by decide +kernel
theorem d_Law_go_18 : decode b_Law_go 18 = .ok (.iconst 0, 1) := by decide +kernel
theorem d_Law_go_19 : decode b_Law_go 19 = .ok (.ireturn, 1) := by decide +kernel
set_option maxHeartbeats 4000000 in
set_option maxRecDepth 100000 in
theorem c_Law_go (l : Launch) (dC : Nat → ClassId) (dI : Nat → Nat → Nat) (cI cL cZ : ClassId) (hf : Nat) (hfS : Value) (hfI : Value) (hfR : Value) (hfT : Value) (hfC : Value) (hfE : Value) (hfQ : Value) (hfN : Value) (hfD : Value) (hfB : Value) (hfO : Bool) (hfF : Int32) (hfY : Int32) (zv : Nat) (zvB : Nat) (zvBEa : Nat) (zvBn : Nat) (zvBE : Nat → Int32) (zvBC : Int32) (zvBO : Bool) (zvF : Nat) (zvFEa : Nat) (zvFn : Nat) (zvFE : Nat → Int32) (zvFC : Int32) (zvFO : Bool) (zvT : Int32) (ou : Nat) (ouV : Nat → Int64) (p0 : Bool) (res : Int32) (zvBE' : Nat → Int32) (zvBC' : Int32) (zvBO' : Bool) (zvFE' : Nat → Int32) (zvFC' : Int32) (zvFO' : Bool) (zvT' : Int32) (ouV' : Nat → Int64) (hd : D_Law_go zvBn zvFn p0 hfO zvBE zvBC zvBO zvFE zvFC zvFO zvT ouV res zvBE' zvBC' zvBO' zvFE' zvFC' zvFO' zvT' ouV') : CtG l y_Law_go (Cond.codeWith y_Law_go b_Law_go 4 (some .int) [(0, 9, 12, 33), (0, 9, 15, 35)] :: ga) { frames := 8, cells := 1, slots := 6, locals := 124 } (dC, dI) classes (Tys cI cL cZ) [.ref hf, .int (bI p0), .ref ou] ((sh_HelpFile cI cL cZ hf hfS hfI hfR hfT hfC hfE (.ref zv) hfQ hfN hfD hfB hfO hfF hfY) ++ ((sh_Visits cI cL cZ zv zvB zvBEa zvBn zvBE zvBC zvBO zvF zvFEa zvFn zvFE zvFC zvFO zvT) ++ ((sh_Out cI cL cZ ou ouV)))) (some (.int res)) ((sh_HelpFile cI cL cZ hf hfS hfI hfR hfT hfC hfE (.ref zv) hfQ hfN hfD hfB hfO hfF hfY) ++ ((sh_Visits cI cL cZ zv zvB zvBEa zvBn zvBE' zvBC' zvBO' zvF zvFEa zvFn zvFE' zvFC' zvFO' zvT') ++ ((sh_Out cI cL cZ ou ouV')))) := by
  refine CtG.ofW (by decide) (Nat.le_of_ble_eq_true rfl) ?_
  intro p e s m below meth c A ls hx hb hr hml hown hlocks htab hts hK hN hZ hT hNc hA hP hD hS hl
  have hown : s.vm.findClass R_Law = some m.cls := hown
  have hl : lv_has ls 4 [(0, .ref hf), (1, .int (bI p0)), (2, .ref ou)] := hl
  refine lv_aload_n hx hb d_Law_go_0 rfl (lv_at hl 2 rfl) ?_
  refine lv_iconst (v := 0) hx hb d_Law_go_1 (by decide) ?_
  refine lv_aload_n hx hb d_Law_go_2 rfl (lv_at hl 0 rfl) ?_
  refine lv_iload_n hx hb d_Law_go_3 rfl (lv_at hl 1 rfl) ?_
  obtain ⟨r4, zvBE_4, zvBC_4, zvBO_4, zvFE_4, zvFC_4, zvFO_4, zvT_4, c4, hd⟩ := hd
  refine ct_V (As := [.int (bI p0)]) (rest := [.int 0, .ref ou]) (C := R_HelpFile) (ci := 0) (q := (R_HelpFile, F_HelpFile, 14)) ⟨hx, hb, hml, hown, hts⟩ fm_HelpFile_go (c_HelpFile_go l dC dI cI cL cZ hf hfS hfI hfR hfT hfC hfE hfQ hfN hfD hfB hfO hfF hfY zv zvB zvBEa zvBn zvBE zvBC zvBO zvF zvFEa zvFn zvFE zvFC zvFO zvT p0 r4 zvBE_4 zvBC_4 zvBO_4 zvFE_4 zvFC_4 zvFO_4 zvT_4 c4) k812_methodLink k813_instanceMethod k814_selects ⟨Nat.le_of_ble_eq_true rfl, Nat.le_of_ble_eq_true rfl⟩ rfl rfl hK hN hP hD hS hA [0, 1, 2, 3, 4, 5] [6] rfl rfl rfl (by decide) (by decide) (by decide) 0 rfl rfl rfl rfl hl.1 rfl (Nat.le_of_ble_eq_true rfl) d_Law_go_4 (fun H locs hP hD hS => ?_)
  have hP : va_P (dC, dI) classes ((sh_HelpFile cI cL cZ hf hfS hfI hfR hfT hfC hfE (.ref zv) hfQ hfN hfD hfB hfO hfF hfY) ++ ((sh_Visits cI cL cZ zv zvB zvBEa zvBn zvBE_4 zvBC_4 zvBO_4 zvF zvFEa zvFn zvFE_4 zvFC_4 zvFO_4 zvT_4) ++ ((sh_Out cI cL cZ ou ouV)))) H := hP.sub [1, 2, 3, 4, 5, 6, 0] rfl
  have hD : va_D A ((sh_HelpFile cI cL cZ hf hfS hfI hfR hfT hfC hfE (.ref zv) hfQ hfN hfD hfB hfO hfF hfY) ++ ((sh_Visits cI cL cZ zv zvB zvBEa zvBn zvBE_4 zvBC_4 zvBO_4 zvF zvFEa zvFn zvFE_4 zvFC_4 zvFO_4 zvT_4) ++ ((sh_Out cI cL cZ ou ouV)))) := hD.sub [1, 2, 3, 4, 5, 6, 0] (by decide) rfl
  refine lv_i2l (v := Int32.toInt64 r4) hx hb d_Law_go_7 rfl ?_
  obtain ⟨h8, hd⟩ := hd
  refine va_last hx hb hK hP hD hS 6 1 rfl rfl h8 d_Law_go_8 (fun H locs hP hD hS => ?_)
  have hP : va_P (dC, dI) classes ((sh_HelpFile cI cL cZ hf hfS hfI hfR hfT hfC hfE (.ref zv) hfQ hfN hfD hfB hfO hfF hfY) ++ ((sh_Visits cI cL cZ zv zvB zvBEa zvBn zvBE_4 zvBC_4 zvBO_4 zvF zvFEa zvFn zvFE_4 zvFC_4 zvFO_4 zvT_4) ++ ((sh_Out cI cL cZ ou (vp_updL ouV (Int32.toNatClampNeg 0) (Int32.toInt64 r4)))))) H := hP
  have hD : va_D A ((sh_HelpFile cI cL cZ hf hfS hfI hfR hfT hfC hfE (.ref zv) hfQ hfN hfD hfB hfO hfF hfY) ++ ((sh_Visits cI cL cZ zv zvB zvBEa zvBn zvBE_4 zvBC_4 zvBO_4 zvF zvFEa zvFn zvFE_4 zvFC_4 zvFO_4 zvT_4) ++ ((sh_Out cI cL cZ ou (vp_updL ouV (Int32.toNatClampNeg 0) (Int32.toInt64 r4)))))) := hD
  refine lv_goto (tgt := 18) hx hb d_Law_go_9 (by decide) ?_
  refine lv_iconst (v := 0) hx hb d_Law_go_18 (by decide) ?_
  obtain ⟨e0, e1, e2, e3, e4, e5, e6, e7, e8⟩ := hd
  subst e0
  subst e1
  subst e2
  subst e3
  subst e4
  subst e5
  subst e6
  subst e7
  subst e8
  refine W.widen (k := 1) (n := 6) (by decide) (by decide) ?_
  exact ct_iretG hx hb hr hlocks hK hP hD hS d_Law_go_19
theorem d_Law_go_12 : decode b_Law_go 12 = .ok (.astore_n 3, 1) := by decide +kernel
theorem d_Law_go_13 : decode b_Law_go 13 = .ok (.iconst 1, 1) := by decide +kernel
theorem d_Law_go_14 : decode b_Law_go 14 = .ok (.ireturn, 1) := by decide +kernel
set_option maxHeartbeats 4000000 in
set_option maxRecDepth 100000 in
theorem t_Law_go_1 (l : Launch) (htr : ∀ e : Env, l.admits e → e.platform.stackTraces = false) (dC : Nat → ClassId) (dI : Nat → Nat → Nat) (cI cL cZ : ClassId) (hf : Nat) (hfS : Value) (hfI : Value) (hfR : Value) (hfT : Value) (hfC : Value) (hfE : Value) (hfQ : Value) (hfN : Value) (hfD : Value) (hfB : Value) (hfO : Bool) (hfF : Int32) (hfY : Int32) (zv : Nat) (zvB : Nat) (zvBEa : Nat) (zvBn : Nat) (zvBE : Nat → Int32) (zvBC : Int32) (zvBO : Bool) (zvF : Nat) (zvFEa : Nat) (zvFn : Nat) (zvFE : Nat → Int32) (zvFC : Int32) (zvFO : Bool) (zvT : Int32) (ou : Nat) (ouV : Nat → Int64) (p0 : Bool) (hd : X_HelpFile_go p0 hfO zvBC zvFC "java/lang/IllegalStateException") : CtG l y_Law_go (Cond.codeWith y_Law_go b_Law_go 4 (some .int) [(0, 9, 12, 33), (0, 9, 15, 35)] :: ga) { frames := 8, cells := 1, slots := 6, locals := 124 } (dC, dI) classes (Tys cI cL cZ) [.ref hf, .int (bI p0), .ref ou] ((sh_HelpFile cI cL cZ hf hfS hfI hfR hfT hfC hfE (.ref zv) hfQ hfN hfD hfB hfO hfF hfY) ++ ((sh_Visits cI cL cZ zv zvB zvBEa zvBn zvBE zvBC zvBO zvF zvFEa zvFn zvFE zvFC zvFO zvT) ++ ((sh_Out cI cL cZ ou ouV)))) (some (.int 1)) ((sh_HelpFile cI cL cZ hf hfS hfI hfR hfT hfC hfE (.ref zv) hfQ hfN hfD hfB hfO hfF hfY) ++ ((sh_Visits cI cL cZ zv zvB zvBEa zvBn zvBE zvBC zvBO zvF zvFEa zvFn zvFE zvFC zvFO zvT) ++ ((sh_Out cI cL cZ ou ouV)))) := by
  refine CtG.ofW (by decide) (Nat.le_of_ble_eq_true rfl) ?_
  intro p e s m below meth c A ls hx hb hr hml hown hlocks htab hts hK hN hZ hT hNc hA hP hD hS hl
  have hown : s.vm.findClass R_Law = some m.cls := hown
  have hl : lv_has ls 4 [(0, .ref hf), (1, .int (bI p0)), (2, .ref ou)] := hl
  refine lv_aload_n hx hb d_Law_go_0 rfl (lv_at hl 2 rfl) ?_
  refine lv_iconst (v := 0) hx hb d_Law_go_1 (by decide) ?_
  refine lv_aload_n hx hb d_Law_go_2 rfl (lv_at hl 0 rfl) ?_
  refine lv_iload_n hx hb d_Law_go_3 rfl (lv_at hl 1 rfl) ?_
  refine ct_VC (As := [.int (bI p0)]) (rest := [.int 0, .ref ou]) (C := R_HelpFile) (ci := 0) (q := (R_HelpFile, F_HelpFile, 14)) (hpc2 := 12) (N1 := "java/lang/IllegalStateException") ⟨hx, hb, hml, hown, hts⟩ htab (by decide) fm_HelpFile_go (x_HelpFile_go l htr dC dI cI cL cZ hf hfS hfI hfR hfT hfC hfE hfQ hfN hfD hfB hfO hfF hfY zv zvB zvBEa zvBn zvBE zvBC zvBO zvF zvFEa zvFn zvFE zvFC zvFO zvT p0 "java/lang/IllegalStateException" hd) k812_methodLink k813_instanceMethod k814_selects ⟨Nat.le_of_ble_eq_true rfl, Nat.le_of_ble_eq_true rfl⟩ (by decide) (by decide) hK hN hZ hT hA hP hD [0, 1, 2, 3, 4, 5] rfl rfl (by decide) 0 rfl rfl rfl rfl hl.1 rfl (Nat.le_of_ble_eq_true rfl) d_Law_go_4 k807_classLink (by decide) (Or.inl ⟨hT.2 (.castable "java/lang/IllegalStateException" "java/lang/IllegalStateException") (by simp [thWs]), rfl⟩) (fun x9 H hP hS => ?_)
  refine W.cs (cells' := 1) (slots' := 6) rfl rfl ?_
  refine lv_astore_n (lv' := [(3, .ref x9), (0, .ref hf), (1, .int (bI p0)), (2, .ref ou)]) hx hb d_Law_go_12 rfl hl (by decide) rfl (fun ls hl => ?_)
  refine lv_iconst (v := 1) hx hb d_Law_go_13 (by decide) ?_
  exact ct_iretG hx hb hr hlocks hK hP hD hS d_Law_go_14
theorem d_Law_go_15 : decode b_Law_go 15 = .ok (.astore_n 3, 1) := by decide +kernel
theorem d_Law_go_16 : decode b_Law_go 16 = .ok (.iconst 2, 1) := by decide +kernel
theorem d_Law_go_17 : decode b_Law_go 17 = .ok (.ireturn, 1) := by decide +kernel
set_option maxHeartbeats 4000000 in
set_option maxRecDepth 100000 in
theorem t_Law_go_2 (l : Launch) (htr : ∀ e : Env, l.admits e → e.platform.stackTraces = false) (dC : Nat → ClassId) (dI : Nat → Nat → Nat) (cI cL cZ : ClassId) (hf : Nat) (hfS : Value) (hfI : Value) (hfR : Value) (hfT : Value) (hfC : Value) (hfE : Value) (hfQ : Value) (hfN : Value) (hfD : Value) (hfB : Value) (hfO : Bool) (hfF : Int32) (hfY : Int32) (zv : Nat) (zvB : Nat) (zvBEa : Nat) (zvBn : Nat) (zvBE : Nat → Int32) (zvBC : Int32) (zvBO : Bool) (zvF : Nat) (zvFEa : Nat) (zvFn : Nat) (zvFE : Nat → Int32) (zvFC : Int32) (zvFO : Bool) (zvT : Int32) (ou : Nat) (ouV : Nat → Int64) (p0 : Bool) (hd : X_HelpFile_go p0 hfO zvBC zvFC "java/util/NoSuchElementException") : CtG l y_Law_go (Cond.codeWith y_Law_go b_Law_go 4 (some .int) [(0, 9, 12, 33), (0, 9, 15, 35)] :: ga) { frames := 8, cells := 1, slots := 6, locals := 124 } (dC, dI) classes (Tys cI cL cZ) [.ref hf, .int (bI p0), .ref ou] ((sh_HelpFile cI cL cZ hf hfS hfI hfR hfT hfC hfE (.ref zv) hfQ hfN hfD hfB hfO hfF hfY) ++ ((sh_Visits cI cL cZ zv zvB zvBEa zvBn zvBE zvBC zvBO zvF zvFEa zvFn zvFE zvFC zvFO zvT) ++ ((sh_Out cI cL cZ ou ouV)))) (some (.int 2)) ((sh_HelpFile cI cL cZ hf hfS hfI hfR hfT hfC hfE (.ref zv) hfQ hfN hfD hfB hfO hfF hfY) ++ ((sh_Visits cI cL cZ zv zvB zvBEa zvBn zvBE zvBC zvBO zvF zvFEa zvFn zvFE zvFC zvFO zvT) ++ ((sh_Out cI cL cZ ou ouV)))) := by
  refine CtG.ofW (by decide) (Nat.le_of_ble_eq_true rfl) ?_
  intro p e s m below meth c A ls hx hb hr hml hown hlocks htab hts hK hN hZ hT hNc hA hP hD hS hl
  have hown : s.vm.findClass R_Law = some m.cls := hown
  have hl : lv_has ls 4 [(0, .ref hf), (1, .int (bI p0)), (2, .ref ou)] := hl
  refine lv_aload_n hx hb d_Law_go_0 rfl (lv_at hl 2 rfl) ?_
  refine lv_iconst (v := 0) hx hb d_Law_go_1 (by decide) ?_
  refine lv_aload_n hx hb d_Law_go_2 rfl (lv_at hl 0 rfl) ?_
  refine lv_iload_n hx hb d_Law_go_3 rfl (lv_at hl 1 rfl) ?_
  refine ct_VC (As := [.int (bI p0)]) (rest := [.int 0, .ref ou]) (C := R_HelpFile) (ci := 0) (q := (R_HelpFile, F_HelpFile, 14)) (hpc2 := 15) (N1 := "java/lang/IllegalStateException") ⟨hx, hb, hml, hown, hts⟩ htab (by decide) fm_HelpFile_go (x_HelpFile_go l htr dC dI cI cL cZ hf hfS hfI hfR hfT hfC hfE hfQ hfN hfD hfB hfO hfF hfY zv zvB zvBEa zvBn zvBE zvBC zvBO zvF zvFEa zvFn zvFE zvFC zvFO zvT p0 "java/util/NoSuchElementException" hd) k812_methodLink k813_instanceMethod k814_selects ⟨Nat.le_of_ble_eq_true rfl, Nat.le_of_ble_eq_true rfl⟩ (by decide) (by decide) hK hN hZ hT hA hP hD [0, 1, 2, 3, 4, 5] rfl rfl (by decide) 0 rfl rfl rfl rfl hl.1 rfl (Nat.le_of_ble_eq_true rfl) d_Law_go_4 k807_classLink (by decide) (Or.inr ⟨hNc ("java/util/NoSuchElementException", "java/lang/IllegalStateException") (by simp [thNl]), 35, "java/util/NoSuchElementException", [], rfl, by decide, k808_classLink, hT.2 (.castable "java/util/NoSuchElementException" "java/util/NoSuchElementException") (by simp [thWs])⟩) (fun x9 H hP hS => ?_)
  refine W.cs (cells' := 1) (slots' := 6) rfl rfl ?_
  refine lv_astore_n (lv' := [(3, .ref x9), (0, .ref hf), (1, .int (bI p0)), (2, .ref ou)]) hx hb d_Law_go_15 rfl hl (by decide) rfl (fun ls hl => ?_)
  refine lv_iconst (v := 2) hx hb d_Law_go_16 (by decide) ?_
  exact ct_iretG hx hb hr hlocks hK hP hD hS d_Law_go_17
abbrev b_Law_about : ByteArray := method_10_code
def y_Law_about : MethodName := ⟨"HelpFileLaw", "about", "(LHelpFile;I[J)I"⟩
theorem k815_methodLink : Cond.methodLink "HelpFileLaw" 44 ⟨"HelpFile", "about", "(I)I"⟩ ∈ ga := ga_t 889 (by decide +kernel) rfl
theorem k816_instanceMethod : Cond.instanceMethod ⟨"HelpFile", "about", "(I)I"⟩ ∈ ga := ga_t 890 (by decide +kernel) rfl
theorem k817_selects : Cond.selects "HelpFile" ⟨"HelpFile", "about", "(I)I"⟩ ⟨"HelpFile", "about", "(I)I"⟩ ∈ ga := ga_t 891 (by decide +kernel) rfl
def D_Law_about (bbBn : Nat) (k0 : Int32) (hfO : Bool) (zvBC : Int32) (zvFC : Int32) (zvT : Int32) (bbS : Nat → Int32) (bbBE : Nat → Int32) (bbBC : Int32) (bbT : Int32) (ouV : Nat → Int64) (res : Int32) (ouV' : Nat → Int64) : Prop := (∃ r4 : Int32, D_HelpFile_about bbBn k0 hfO zvBC zvFC zvT bbS bbBE bbBC bbT r4 ∧ (vp_in 0 1 ∧ (res = 0 ∧ ouV' = vp_updL ouV (Int32.toNatClampNeg 0) (Int32.toInt64 r4))))
theorem d_Law_about_0 : decode b_Law_about 0 = .ok (.aload_n 2, 1) := by decide +kernel
theorem d_Law_about_1 : decode b_Law_about 1 = .ok (.iconst 0, 1) := by decide +kernel
theorem d_Law_about_2 : decode b_Law_about 2 = .ok (.aload_n 0, 1) := by decide +kernel
theorem d_Law_about_3 : decode b_Law_about 3 = .ok (.iload_n 1, 1) := by decide +kernel
theorem d_Law_about_4 : decode b_Law_about 4 = .ok (.invokevirtual 44, 3) := by decide +kernel
theorem d_Law_about_7 : decode b_Law_about 7 = .ok (.i2l, 1) := by decide +kernel
theorem d_Law_about_8 : decode b_Law_about 8 = .ok (.lastore, 1) := by decide +kernel
theorem d_Law_about_9 : decode b_Law_about 9 = .ok (.goto 9, 3) := by decide +kernel
theorem d_Law_about_18 : decode b_Law_about 18 = .ok (.iconst 0, 1) := by decide +kernel
theorem d_Law_about_19 : decode b_Law_about 19 = .ok (.ireturn, 1) := by decide +kernel
set_option maxHeartbeats 4000000 in
set_option maxRecDepth 100000 in
theorem c_Law_about (l : Launch) (dC : Nat → ClassId) (dI : Nat → Nat → Nat) (cI cL cZ : ClassId) (hf : Nat) (hfS : Value) (hfI : Value) (hfR : Value) (hfT : Value) (hfC : Value) (hfE : Value) (hfQ : Value) (hfN : Value) (hfD : Value) (hfO : Bool) (hfF : Int32) (hfY : Int32) (zv : Nat) (zvB : Nat) (zvBEa : Nat) (zvBn : Nat) (zvBE : Nat → Int32) (zvBC : Int32) (zvBO : Bool) (zvF : Nat) (zvFEa : Nat) (zvFn : Nat) (zvFE : Nat → Int32) (zvFC : Int32) (zvFO : Bool) (zvT : Int32) (bb : Nat) (bbNa : Nat) (bbN : Nat → Int64) (bbSa : Nat) (bbS : Nat → Int32) (bbB : Nat) (bbBEa : Nat) (bbBn : Nat) (bbBE : Nat → Int32) (bbBC : Int32) (bbBO : Bool) (bbK : Nat) (bbKWa : Nat) (bbKn : Nat) (bbKW : Nat → Int64) (bbKTa : Nat) (bbKT : Nat → Int32) (bbKC : Int32) (bbV : Nat) (bbVWa : Nat) (bbVn : Nat) (bbVW : Nat → Int64) (bbVTa : Nat) (bbVT : Nat → Int32) (bbVC : Int32) (bbT : Int32) (ou : Nat) (ouV : Nat → Int64) (k0 : Int32) (res : Int32) (ouV' : Nat → Int64) (hd : D_Law_about bbBn k0 hfO zvBC zvFC zvT bbS bbBE bbBC bbT ouV res ouV') : CtG l y_Law_about (Cond.codeWith y_Law_about b_Law_about 4 (some .int) [(0, 9, 12, 33), (0, 9, 15, 13)] :: ga) { frames := 8, cells := 1, slots := 6, locals := 124 } (dC, dI) classes (Tys cI cL cZ) [.ref hf, .int k0, .ref ou] ((sh_HelpFile cI cL cZ hf hfS hfI hfR hfT hfC hfE (.ref zv) hfQ hfN hfD (.ref bb) hfO hfF hfY) ++ ((sh_Visits cI cL cZ zv zvB zvBEa zvBn zvBE zvBC zvBO zvF zvFEa zvFn zvFE zvFC zvFO zvT) ++ ((sh_Book cI cL cZ bb bbNa bbN bbSa bbS bbB bbBEa bbBn bbBE bbBC bbBO bbK bbKWa bbKn bbKW bbKTa bbKT bbKC bbV bbVWa bbVn bbVW bbVTa bbVT bbVC bbT) ++ ((sh_Out cI cL cZ ou ouV))))) (some (.int res)) ((sh_HelpFile cI cL cZ hf hfS hfI hfR hfT hfC hfE (.ref zv) hfQ hfN hfD (.ref bb) hfO hfF hfY) ++ ((sh_Visits cI cL cZ zv zvB zvBEa zvBn zvBE zvBC zvBO zvF zvFEa zvFn zvFE zvFC zvFO zvT) ++ ((sh_Book cI cL cZ bb bbNa bbN bbSa bbS bbB bbBEa bbBn bbBE bbBC bbBO bbK bbKWa bbKn bbKW bbKTa bbKT bbKC bbV bbVWa bbVn bbVW bbVTa bbVT bbVC bbT) ++ ((sh_Out cI cL cZ ou ouV'))))) := by
  refine CtG.ofW (by decide) (Nat.le_of_ble_eq_true rfl) ?_
  intro p e s m below meth c A ls hx hb hr hml hown hlocks htab hts hK hN hZ hT hNc hA hP hD hS hl
  have hown : s.vm.findClass R_Law = some m.cls := hown
  have hl : lv_has ls 4 [(0, .ref hf), (1, .int k0), (2, .ref ou)] := hl
  refine lv_aload_n hx hb d_Law_about_0 rfl (lv_at hl 2 rfl) ?_
  refine lv_iconst (v := 0) hx hb d_Law_about_1 (by decide) ?_
  refine lv_aload_n hx hb d_Law_about_2 rfl (lv_at hl 0 rfl) ?_
  refine lv_iload_n hx hb d_Law_about_3 rfl (lv_at hl 1 rfl) ?_
  obtain ⟨r4, c4, hd⟩ := hd
  refine ct_VR (As := [.int k0]) (rest := [.int 0, .ref ou]) (C := R_HelpFile) (ci := 0) (q := (R_HelpFile, F_HelpFile, 14)) ⟨hx, hb, hml, hown, hts⟩ fm_HelpFile_about (c_HelpFile_about l dC dI cI cL cZ hf hfS hfI hfR hfT hfC hfE hfQ hfN hfD hfO hfF hfY zv zvB zvBEa zvBn zvBE zvBC zvBO zvF zvFEa zvFn zvFE zvFC zvFO zvT bb bbNa bbN bbSa bbS bbB bbBEa bbBn bbBE bbBC bbBO bbK bbKWa bbKn bbKW bbKTa bbKT bbKC bbV bbVWa bbVn bbVW bbVTa bbVT bbVC bbT k0 r4 c4) k815_methodLink k816_instanceMethod k817_selects ⟨Nat.le_of_ble_eq_true rfl, Nat.le_of_ble_eq_true rfl⟩ rfl rfl hK hN hP hD [0, 1, 2, 3, 4, 5, 6, 7, 8, 9, 10, 11, 12, 13, 14, 15, 16] rfl rfl (by decide) 0 rfl rfl rfl rfl hl.1 rfl (Nat.le_of_ble_eq_true rfl) d_Law_about_4 ?_
  refine lv_i2l (v := Int32.toInt64 r4) hx hb d_Law_about_7 rfl ?_
  obtain ⟨h8, hd⟩ := hd
  refine va_last hx hb hK hP hD hS 17 1 rfl rfl h8 d_Law_about_8 (fun H locs hP hD hS => ?_)
  have hP : va_P (dC, dI) classes ((sh_HelpFile cI cL cZ hf hfS hfI hfR hfT hfC hfE (.ref zv) hfQ hfN hfD (.ref bb) hfO hfF hfY) ++ ((sh_Visits cI cL cZ zv zvB zvBEa zvBn zvBE zvBC zvBO zvF zvFEa zvFn zvFE zvFC zvFO zvT) ++ ((sh_Book cI cL cZ bb bbNa bbN bbSa bbS bbB bbBEa bbBn bbBE bbBC bbBO bbK bbKWa bbKn bbKW bbKTa bbKT bbKC bbV bbVWa bbVn bbVW bbVTa bbVT bbVC bbT) ++ ((sh_Out cI cL cZ ou (vp_updL ouV (Int32.toNatClampNeg 0) (Int32.toInt64 r4))))))) H := hP
  have hD : va_D A ((sh_HelpFile cI cL cZ hf hfS hfI hfR hfT hfC hfE (.ref zv) hfQ hfN hfD (.ref bb) hfO hfF hfY) ++ ((sh_Visits cI cL cZ zv zvB zvBEa zvBn zvBE zvBC zvBO zvF zvFEa zvFn zvFE zvFC zvFO zvT) ++ ((sh_Book cI cL cZ bb bbNa bbN bbSa bbS bbB bbBEa bbBn bbBE bbBC bbBO bbK bbKWa bbKn bbKW bbKTa bbKT bbKC bbV bbVWa bbVn bbVW bbVTa bbVT bbVC bbT) ++ ((sh_Out cI cL cZ ou (vp_updL ouV (Int32.toNatClampNeg 0) (Int32.toInt64 r4))))))) := hD
  refine lv_goto (tgt := 18) hx hb d_Law_about_9 (by decide) ?_
  refine lv_iconst (v := 0) hx hb d_Law_about_18 (by decide) ?_
  obtain ⟨e0, e1⟩ := hd
  subst e0
  subst e1
  refine W.widen (k := 1) (n := 6) (by decide) (by decide) ?_
  exact ct_iretG hx hb hr hlocks hK hP hD hS d_Law_about_19
theorem d_Law_about_12 : decode b_Law_about 12 = .ok (.astore_n 3, 1) := by decide +kernel
theorem d_Law_about_13 : decode b_Law_about 13 = .ok (.iconst 1, 1) := by decide +kernel
theorem d_Law_about_14 : decode b_Law_about 14 = .ok (.ireturn, 1) := by decide +kernel
set_option maxHeartbeats 4000000 in
set_option maxRecDepth 100000 in
theorem t_Law_about_1 (l : Launch) (htr : ∀ e : Env, l.admits e → e.platform.stackTraces = false) (dC : Nat → ClassId) (dI : Nat → Nat → Nat) (cI cL cZ : ClassId) (hf : Nat) (hfS : Value) (hfI : Value) (hfR : Value) (hfT : Value) (hfC : Value) (hfE : Value) (hfQ : Value) (hfN : Value) (hfD : Value) (hfO : Bool) (hfF : Int32) (hfY : Int32) (zv : Nat) (zvB : Nat) (zvBEa : Nat) (zvBn : Nat) (zvBE : Nat → Int32) (zvBC : Int32) (zvBO : Bool) (zvF : Nat) (zvFEa : Nat) (zvFn : Nat) (zvFE : Nat → Int32) (zvFC : Int32) (zvFO : Bool) (zvT : Int32) (bb : Nat) (bbNa : Nat) (bbN : Nat → Int64) (bbSa : Nat) (bbS : Nat → Int32) (bbB : Nat) (bbBEa : Nat) (bbBn : Nat) (bbBE : Nat → Int32) (bbBC : Int32) (bbBO : Bool) (bbK : Nat) (bbKWa : Nat) (bbKn : Nat) (bbKW : Nat → Int64) (bbKTa : Nat) (bbKT : Nat → Int32) (bbKC : Int32) (bbV : Nat) (bbVWa : Nat) (bbVn : Nat) (bbVW : Nat → Int64) (bbVTa : Nat) (bbVT : Nat → Int32) (bbVC : Int32) (bbT : Int32) (ou : Nat) (ouV : Nat → Int64) (k0 : Int32) (hd : X_HelpFile_about bbBn k0 hfO zvT bbS bbBE bbBC bbT "java/lang/IllegalStateException") : CtG l y_Law_about (Cond.codeWith y_Law_about b_Law_about 4 (some .int) [(0, 9, 12, 33), (0, 9, 15, 13)] :: ga) { frames := 8, cells := 1, slots := 6, locals := 124 } (dC, dI) classes (Tys cI cL cZ) [.ref hf, .int k0, .ref ou] ((sh_HelpFile cI cL cZ hf hfS hfI hfR hfT hfC hfE (.ref zv) hfQ hfN hfD (.ref bb) hfO hfF hfY) ++ ((sh_Visits cI cL cZ zv zvB zvBEa zvBn zvBE zvBC zvBO zvF zvFEa zvFn zvFE zvFC zvFO zvT) ++ ((sh_Book cI cL cZ bb bbNa bbN bbSa bbS bbB bbBEa bbBn bbBE bbBC bbBO bbK bbKWa bbKn bbKW bbKTa bbKT bbKC bbV bbVWa bbVn bbVW bbVTa bbVT bbVC bbT) ++ ((sh_Out cI cL cZ ou ouV))))) (some (.int 1)) ((sh_HelpFile cI cL cZ hf hfS hfI hfR hfT hfC hfE (.ref zv) hfQ hfN hfD (.ref bb) hfO hfF hfY) ++ ((sh_Visits cI cL cZ zv zvB zvBEa zvBn zvBE zvBC zvBO zvF zvFEa zvFn zvFE zvFC zvFO zvT) ++ ((sh_Book cI cL cZ bb bbNa bbN bbSa bbS bbB bbBEa bbBn bbBE bbBC bbBO bbK bbKWa bbKn bbKW bbKTa bbKT bbKC bbV bbVWa bbVn bbVW bbVTa bbVT bbVC bbT) ++ ((sh_Out cI cL cZ ou ouV))))) := by
  refine CtG.ofW (by decide) (Nat.le_of_ble_eq_true rfl) ?_
  intro p e s m below meth c A ls hx hb hr hml hown hlocks htab hts hK hN hZ hT hNc hA hP hD hS hl
  have hown : s.vm.findClass R_Law = some m.cls := hown
  have hl : lv_has ls 4 [(0, .ref hf), (1, .int k0), (2, .ref ou)] := hl
  refine lv_aload_n hx hb d_Law_about_0 rfl (lv_at hl 2 rfl) ?_
  refine lv_iconst (v := 0) hx hb d_Law_about_1 (by decide) ?_
  refine lv_aload_n hx hb d_Law_about_2 rfl (lv_at hl 0 rfl) ?_
  refine lv_iload_n hx hb d_Law_about_3 rfl (lv_at hl 1 rfl) ?_
  refine ct_VC (As := [.int k0]) (rest := [.int 0, .ref ou]) (C := R_HelpFile) (ci := 0) (q := (R_HelpFile, F_HelpFile, 14)) (hpc2 := 12) (N1 := "java/lang/IllegalStateException") ⟨hx, hb, hml, hown, hts⟩ htab (by decide) fm_HelpFile_about (x_HelpFile_about l htr dC dI cI cL cZ hf hfS hfI hfR hfT hfC hfE hfQ hfN hfD hfO hfF hfY zv zvB zvBEa zvBn zvBE zvBC zvBO zvF zvFEa zvFn zvFE zvFC zvFO zvT bb bbNa bbN bbSa bbS bbB bbBEa bbBn bbBE bbBC bbBO bbK bbKWa bbKn bbKW bbKTa bbKT bbKC bbV bbVWa bbVn bbVW bbVTa bbVT bbVC bbT k0 "java/lang/IllegalStateException" hd) k815_methodLink k816_instanceMethod k817_selects ⟨Nat.le_of_ble_eq_true rfl, Nat.le_of_ble_eq_true rfl⟩ (by decide) (by decide) hK hN hZ hT hA hP hD [0, 1, 2, 3, 4, 5, 6, 7, 8, 9, 10, 11, 12, 13, 14, 15, 16] rfl rfl (by decide) 0 rfl rfl rfl rfl hl.1 rfl (Nat.le_of_ble_eq_true rfl) d_Law_about_4 k807_classLink (by decide) (Or.inl ⟨hT.2 (.castable "java/lang/IllegalStateException" "java/lang/IllegalStateException") (by simp [thWs]), rfl⟩) (fun x9 H hP hS => ?_)
  refine W.cs (cells' := 1) (slots' := 6) rfl rfl ?_
  refine lv_astore_n (lv' := [(3, .ref x9), (0, .ref hf), (1, .int k0), (2, .ref ou)]) hx hb d_Law_about_12 rfl hl (by decide) rfl (fun ls hl => ?_)
  refine lv_iconst (v := 1) hx hb d_Law_about_13 (by decide) ?_
  exact ct_iretG hx hb hr hlocks hK hP hD hS d_Law_about_14
theorem d_Law_about_15 : decode b_Law_about 15 = .ok (.astore_n 3, 1) := by decide +kernel
theorem d_Law_about_16 : decode b_Law_about 16 = .ok (.iconst 2, 1) := by decide +kernel
theorem d_Law_about_17 : decode b_Law_about 17 = .ok (.ireturn, 1) := by decide +kernel
set_option maxHeartbeats 4000000 in
set_option maxRecDepth 100000 in
theorem t_Law_about_2 (l : Launch) (htr : ∀ e : Env, l.admits e → e.platform.stackTraces = false) (dC : Nat → ClassId) (dI : Nat → Nat → Nat) (cI cL cZ : ClassId) (hf : Nat) (hfS : Value) (hfI : Value) (hfR : Value) (hfT : Value) (hfC : Value) (hfE : Value) (hfQ : Value) (hfN : Value) (hfD : Value) (hfO : Bool) (hfF : Int32) (hfY : Int32) (zv : Nat) (zvB : Nat) (zvBEa : Nat) (zvBn : Nat) (zvBE : Nat → Int32) (zvBC : Int32) (zvBO : Bool) (zvF : Nat) (zvFEa : Nat) (zvFn : Nat) (zvFE : Nat → Int32) (zvFC : Int32) (zvFO : Bool) (zvT : Int32) (bb : Nat) (bbNa : Nat) (bbN : Nat → Int64) (bbSa : Nat) (bbS : Nat → Int32) (bbB : Nat) (bbBEa : Nat) (bbBn : Nat) (bbBE : Nat → Int32) (bbBC : Int32) (bbBO : Bool) (bbK : Nat) (bbKWa : Nat) (bbKn : Nat) (bbKW : Nat → Int64) (bbKTa : Nat) (bbKT : Nat → Int32) (bbKC : Int32) (bbV : Nat) (bbVWa : Nat) (bbVn : Nat) (bbVW : Nat → Int64) (bbVTa : Nat) (bbVT : Nat → Int32) (bbVC : Int32) (bbT : Int32) (ou : Nat) (ouV : Nat → Int64) (k0 : Int32) (hd : X_HelpFile_about bbBn k0 hfO zvT bbS bbBE bbBC bbT "java/lang/IllegalArgumentException") : CtG l y_Law_about (Cond.codeWith y_Law_about b_Law_about 4 (some .int) [(0, 9, 12, 33), (0, 9, 15, 13)] :: ga) { frames := 8, cells := 1, slots := 6, locals := 124 } (dC, dI) classes (Tys cI cL cZ) [.ref hf, .int k0, .ref ou] ((sh_HelpFile cI cL cZ hf hfS hfI hfR hfT hfC hfE (.ref zv) hfQ hfN hfD (.ref bb) hfO hfF hfY) ++ ((sh_Visits cI cL cZ zv zvB zvBEa zvBn zvBE zvBC zvBO zvF zvFEa zvFn zvFE zvFC zvFO zvT) ++ ((sh_Book cI cL cZ bb bbNa bbN bbSa bbS bbB bbBEa bbBn bbBE bbBC bbBO bbK bbKWa bbKn bbKW bbKTa bbKT bbKC bbV bbVWa bbVn bbVW bbVTa bbVT bbVC bbT) ++ ((sh_Out cI cL cZ ou ouV))))) (some (.int 2)) ((sh_HelpFile cI cL cZ hf hfS hfI hfR hfT hfC hfE (.ref zv) hfQ hfN hfD (.ref bb) hfO hfF hfY) ++ ((sh_Visits cI cL cZ zv zvB zvBEa zvBn zvBE zvBC zvBO zvF zvFEa zvFn zvFE zvFC zvFO zvT) ++ ((sh_Book cI cL cZ bb bbNa bbN bbSa bbS bbB bbBEa bbBn bbBE bbBC bbBO bbK bbKWa bbKn bbKW bbKTa bbKT bbKC bbV bbVWa bbVn bbVW bbVTa bbVT bbVC bbT) ++ ((sh_Out cI cL cZ ou ouV))))) := by
  refine CtG.ofW (by decide) (Nat.le_of_ble_eq_true rfl) ?_
  intro p e s m below meth c A ls hx hb hr hml hown hlocks htab hts hK hN hZ hT hNc hA hP hD hS hl
  have hown : s.vm.findClass R_Law = some m.cls := hown
  have hl : lv_has ls 4 [(0, .ref hf), (1, .int k0), (2, .ref ou)] := hl
  refine lv_aload_n hx hb d_Law_about_0 rfl (lv_at hl 2 rfl) ?_
  refine lv_iconst (v := 0) hx hb d_Law_about_1 (by decide) ?_
  refine lv_aload_n hx hb d_Law_about_2 rfl (lv_at hl 0 rfl) ?_
  refine lv_iload_n hx hb d_Law_about_3 rfl (lv_at hl 1 rfl) ?_
  refine ct_VC (As := [.int k0]) (rest := [.int 0, .ref ou]) (C := R_HelpFile) (ci := 0) (q := (R_HelpFile, F_HelpFile, 14)) (hpc2 := 15) (N1 := "java/lang/IllegalStateException") ⟨hx, hb, hml, hown, hts⟩ htab (by decide) fm_HelpFile_about (x_HelpFile_about l htr dC dI cI cL cZ hf hfS hfI hfR hfT hfC hfE hfQ hfN hfD hfO hfF hfY zv zvB zvBEa zvBn zvBE zvBC zvBO zvF zvFEa zvFn zvFE zvFC zvFO zvT bb bbNa bbN bbSa bbS bbB bbBEa bbBn bbBE bbBC bbBO bbK bbKWa bbKn bbKW bbKTa bbKT bbKC bbV bbVWa bbVn bbVW bbVTa bbVT bbVC bbT k0 "java/lang/IllegalArgumentException" hd) k815_methodLink k816_instanceMethod k817_selects ⟨Nat.le_of_ble_eq_true rfl, Nat.le_of_ble_eq_true rfl⟩ (by decide) (by decide) hK hN hZ hT hA hP hD [0, 1, 2, 3, 4, 5, 6, 7, 8, 9, 10, 11, 12, 13, 14, 15, 16] rfl rfl (by decide) 0 rfl rfl rfl rfl hl.1 rfl (Nat.le_of_ble_eq_true rfl) d_Law_about_4 k807_classLink (by decide) (Or.inr ⟨hNc ("java/lang/IllegalArgumentException", "java/lang/IllegalStateException") (by simp [thNl]), 13, "java/lang/IllegalArgumentException", [], rfl, by decide, k792_classLink, hT.2 (.castable "java/lang/IllegalArgumentException" "java/lang/IllegalArgumentException") (by simp [thWs])⟩) (fun x9 H hP hS => ?_)
  refine W.cs (cells' := 1) (slots' := 6) rfl rfl ?_
  refine lv_astore_n (lv' := [(3, .ref x9), (0, .ref hf), (1, .int k0), (2, .ref ou)]) hx hb d_Law_about_15 rfl hl (by decide) rfl (fun ls hl => ?_)
  refine lv_iconst (v := 2) hx hb d_Law_about_16 (by decide) ?_
  exact ct_iretG hx hb hr hlocks hK hP hD hS d_Law_about_17
abbrev b_Law_type : ByteArray := method_11_code
def y_Law_type : MethodName := ⟨"HelpFileLaw", "type", "(LHelpFile;I[J)I"⟩
theorem k818_methodLink : Cond.methodLink "HelpFileLaw" 47 ⟨"HelpFile", "type", "(I)I"⟩ ∈ ga := ga_t 902 (by decide +kernel) rfl
theorem k819_instanceMethod : Cond.instanceMethod ⟨"HelpFile", "type", "(I)I"⟩ ∈ ga := ga_t 903 (by decide +kernel) rfl
theorem k820_selects : Cond.selects "HelpFile" ⟨"HelpFile", "type", "(I)I"⟩ ⟨"HelpFile", "type", "(I)I"⟩ ∈ ga := ga_t 904 (by decide +kernel) rfl
def D_Law_type (ztn : Nat) (k0 : Int32) (ztE : Nat → Int32) (ztC : Int32) (ztO : Bool) (ouV : Nat → Int64) (res : Int32) (ztE' : Nat → Int32) (ztC' : Int32) (ztO' : Bool) (ouV' : Nat → Int64) : Prop := (∃ r4 : Int32, ∃ ztE_4 : Nat → Int32, ∃ ztC_4 : Int32, ∃ ztO_4 : Bool, D_HelpFile_type ztn k0 ztE ztC ztO r4 ztE_4 ztC_4 ztO_4 ∧ (vp_in 0 1 ∧ (res = 0 ∧ ztE' = ztE_4 ∧ ztC' = ztC_4 ∧ ztO' = ztO_4 ∧ ouV' = vp_updL ouV (Int32.toNatClampNeg 0) (Int32.toInt64 r4))))
theorem d_Law_type_0 : decode b_Law_type 0 = .ok (.aload_n 2, 1) := by decide +kernel
theorem d_Law_type_1 : decode b_Law_type 1 = .ok (.iconst 0, 1) := by decide +kernel
theorem d_Law_type_2 : decode b_Law_type 2 = .ok (.aload_n 0, 1) := by decide +kernel
theorem d_Law_type_3 : decode b_Law_type 3 = .ok (.iload_n 1, 1) := by decide +kernel
theorem d_Law_type_4 : decode b_Law_type 4 = .ok (.invokevirtual 47, 3) := by decide +kernel
theorem d_Law_type_7 : decode b_Law_type 7 = .ok (.i2l, 1) := by decide +kernel
theorem d_Law_type_8 : decode b_Law_type 8 = .ok (.lastore, 1) := by decide +kernel
theorem d_Law_type_9 : decode b_Law_type 9 = .ok (.goto 9, 3) := by decide +kernel
theorem d_Law_type_18 : decode b_Law_type 18 = .ok (.iconst 0, 1) := by decide +kernel
theorem d_Law_type_19 : decode b_Law_type 19 = .ok (.ireturn, 1) := by decide +kernel
set_option maxHeartbeats 4000000 in
set_option maxRecDepth 100000 in
theorem c_Law_type (l : Launch) (dC : Nat → ClassId) (dI : Nat → Nat → Nat) (cI cL cZ : ClassId) (hf : Nat) (hfS : Value) (hfI : Value) (hfR : Value) (hfC : Value) (hfE : Value) (hfV : Value) (hfQ : Value) (hfN : Value) (hfD : Value) (hfB : Value) (hfO : Bool) (hfF : Int32) (hfY : Int32) (zt : Nat) (ztEa : Nat) (ztn : Nat) (ztE : Nat → Int32) (ztC : Int32) (ztO : Bool) (ou : Nat) (ouV : Nat → Int64) (k0 : Int32) (res : Int32) (ztE' : Nat → Int32) (ztC' : Int32) (ztO' : Bool) (ouV' : Nat → Int64) (hd : D_Law_type ztn k0 ztE ztC ztO ouV res ztE' ztC' ztO' ouV') : CtG l y_Law_type (Cond.codeWith y_Law_type b_Law_type 4 (some .int) [(0, 9, 12, 13), (0, 9, 15, 15)] :: ga) { frames := 7, cells := 1, slots := 6, locals := 103 } (dC, dI) classes (Tys cI cL cZ) [.ref hf, .int k0, .ref ou] ((sh_HelpFile cI cL cZ hf hfS hfI hfR (.ref zt) hfC hfE hfV hfQ hfN hfD hfB hfO hfF hfY) ++ ((sh_Row cI cL cZ zt ztEa ztn ztE ztC ztO) ++ ((sh_Out cI cL cZ ou ouV)))) (some (.int res)) ((sh_HelpFile cI cL cZ hf hfS hfI hfR (.ref zt) hfC hfE hfV hfQ hfN hfD hfB hfO hfF hfY) ++ ((sh_Row cI cL cZ zt ztEa ztn ztE' ztC' ztO') ++ ((sh_Out cI cL cZ ou ouV')))) := by
  refine CtG.ofW (by decide) (Nat.le_of_ble_eq_true rfl) ?_
  intro p e s m below meth c A ls hx hb hr hml hown hlocks htab hts hK hN hZ hT hNc hA hP hD hS hl
  have hown : s.vm.findClass R_Law = some m.cls := hown
  have hl : lv_has ls 4 [(0, .ref hf), (1, .int k0), (2, .ref ou)] := hl
  refine lv_aload_n hx hb d_Law_type_0 rfl (lv_at hl 2 rfl) ?_
  refine lv_iconst (v := 0) hx hb d_Law_type_1 (by decide) ?_
  refine lv_aload_n hx hb d_Law_type_2 rfl (lv_at hl 0 rfl) ?_
  refine lv_iload_n hx hb d_Law_type_3 rfl (lv_at hl 1 rfl) ?_
  obtain ⟨r4, ztE_4, ztC_4, ztO_4, c4, hd⟩ := hd
  refine ct_V (As := [.int k0]) (rest := [.int 0, .ref ou]) (C := R_HelpFile) (ci := 0) (q := (R_HelpFile, F_HelpFile, 14)) ⟨hx, hb, hml, hown, hts⟩ fm_HelpFile_type (c_HelpFile_type l dC dI cI cL cZ hf hfS hfI hfR hfC hfE hfV hfQ hfN hfD hfB hfO hfF hfY zt ztEa ztn ztE ztC ztO k0 r4 ztE_4 ztC_4 ztO_4 c4) k818_methodLink k819_instanceMethod k820_selects ⟨Nat.le_of_ble_eq_true rfl, Nat.le_of_ble_eq_true rfl⟩ rfl rfl hK hN hP hD hS hA [0, 1, 2] [3] rfl rfl rfl (by decide) (by decide) (by decide) 0 rfl rfl rfl rfl hl.1 rfl (Nat.le_of_ble_eq_true rfl) d_Law_type_4 (fun H locs hP hD hS => ?_)
  have hP : va_P (dC, dI) classes ((sh_HelpFile cI cL cZ hf hfS hfI hfR (.ref zt) hfC hfE hfV hfQ hfN hfD hfB hfO hfF hfY) ++ ((sh_Row cI cL cZ zt ztEa ztn ztE_4 ztC_4 ztO_4) ++ ((sh_Out cI cL cZ ou ouV)))) H := hP.sub [1, 2, 3, 0] rfl
  have hD : va_D A ((sh_HelpFile cI cL cZ hf hfS hfI hfR (.ref zt) hfC hfE hfV hfQ hfN hfD hfB hfO hfF hfY) ++ ((sh_Row cI cL cZ zt ztEa ztn ztE_4 ztC_4 ztO_4) ++ ((sh_Out cI cL cZ ou ouV)))) := hD.sub [1, 2, 3, 0] (by decide) rfl
  refine lv_i2l (v := Int32.toInt64 r4) hx hb d_Law_type_7 rfl ?_
  obtain ⟨h8, hd⟩ := hd
  refine va_last hx hb hK hP hD hS 3 1 rfl rfl h8 d_Law_type_8 (fun H locs hP hD hS => ?_)
  have hP : va_P (dC, dI) classes ((sh_HelpFile cI cL cZ hf hfS hfI hfR (.ref zt) hfC hfE hfV hfQ hfN hfD hfB hfO hfF hfY) ++ ((sh_Row cI cL cZ zt ztEa ztn ztE_4 ztC_4 ztO_4) ++ ((sh_Out cI cL cZ ou (vp_updL ouV (Int32.toNatClampNeg 0) (Int32.toInt64 r4)))))) H := hP
  have hD : va_D A ((sh_HelpFile cI cL cZ hf hfS hfI hfR (.ref zt) hfC hfE hfV hfQ hfN hfD hfB hfO hfF hfY) ++ ((sh_Row cI cL cZ zt ztEa ztn ztE_4 ztC_4 ztO_4) ++ ((sh_Out cI cL cZ ou (vp_updL ouV (Int32.toNatClampNeg 0) (Int32.toInt64 r4)))))) := hD
  refine lv_goto (tgt := 18) hx hb d_Law_type_9 (by decide) ?_
  refine lv_iconst (v := 0) hx hb d_Law_type_18 (by decide) ?_
  obtain ⟨e0, e1, e2, e3, e4⟩ := hd
  subst e0
  subst e1
  subst e2
  subst e3
  subst e4
  refine W.widen (k := 1) (n := 6) (by decide) (by decide) ?_
  exact ct_iretG hx hb hr hlocks hK hP hD hS d_Law_type_19
theorem d_Law_type_12 : decode b_Law_type 12 = .ok (.astore_n 3, 1) := by decide +kernel
theorem d_Law_type_13 : decode b_Law_type 13 = .ok (.iconst 1, 1) := by decide +kernel
theorem d_Law_type_14 : decode b_Law_type 14 = .ok (.ireturn, 1) := by decide +kernel
set_option maxHeartbeats 4000000 in
set_option maxRecDepth 100000 in
theorem t_Law_type_1 (l : Launch) (htr : ∀ e : Env, l.admits e → e.platform.stackTraces = false) (dC : Nat → ClassId) (dI : Nat → Nat → Nat) (cI cL cZ : ClassId) (hf : Nat) (hfS : Value) (hfI : Value) (hfR : Value) (hfC : Value) (hfE : Value) (hfV : Value) (hfQ : Value) (hfN : Value) (hfD : Value) (hfB : Value) (hfO : Bool) (hfF : Int32) (hfY : Int32) (zt : Nat) (ztEa : Nat) (ztn : Nat) (ztE : Nat → Int32) (ztC : Int32) (ztO : Bool) (ou : Nat) (ouV : Nat → Int64) (k0 : Int32) (hd : X_HelpFile_type k0 ztC "java/lang/IllegalArgumentException") : CtG l y_Law_type (Cond.codeWith y_Law_type b_Law_type 4 (some .int) [(0, 9, 12, 13), (0, 9, 15, 15)] :: ga) { frames := 7, cells := 1, slots := 6, locals := 103 } (dC, dI) classes (Tys cI cL cZ) [.ref hf, .int k0, .ref ou] ((sh_HelpFile cI cL cZ hf hfS hfI hfR (.ref zt) hfC hfE hfV hfQ hfN hfD hfB hfO hfF hfY) ++ ((sh_Row cI cL cZ zt ztEa ztn ztE ztC ztO) ++ ((sh_Out cI cL cZ ou ouV)))) (some (.int 1)) ((sh_HelpFile cI cL cZ hf hfS hfI hfR (.ref zt) hfC hfE hfV hfQ hfN hfD hfB hfO hfF hfY) ++ ((sh_Row cI cL cZ zt ztEa ztn ztE ztC ztO) ++ ((sh_Out cI cL cZ ou ouV)))) := by
  refine CtG.ofW (by decide) (Nat.le_of_ble_eq_true rfl) ?_
  intro p e s m below meth c A ls hx hb hr hml hown hlocks htab hts hK hN hZ hT hNc hA hP hD hS hl
  have hown : s.vm.findClass R_Law = some m.cls := hown
  have hl : lv_has ls 4 [(0, .ref hf), (1, .int k0), (2, .ref ou)] := hl
  refine lv_aload_n hx hb d_Law_type_0 rfl (lv_at hl 2 rfl) ?_
  refine lv_iconst (v := 0) hx hb d_Law_type_1 (by decide) ?_
  refine lv_aload_n hx hb d_Law_type_2 rfl (lv_at hl 0 rfl) ?_
  refine lv_iload_n hx hb d_Law_type_3 rfl (lv_at hl 1 rfl) ?_
  refine ct_VC (As := [.int k0]) (rest := [.int 0, .ref ou]) (C := R_HelpFile) (ci := 0) (q := (R_HelpFile, F_HelpFile, 14)) (hpc2 := 12) (N1 := "java/lang/IllegalArgumentException") ⟨hx, hb, hml, hown, hts⟩ htab (by decide) fm_HelpFile_type (x_HelpFile_type l htr dC dI cI cL cZ hf hfS hfI hfR hfC hfE hfV hfQ hfN hfD hfB hfO hfF hfY zt ztEa ztn ztE ztC ztO k0 "java/lang/IllegalArgumentException" hd) k818_methodLink k819_instanceMethod k820_selects ⟨Nat.le_of_ble_eq_true rfl, Nat.le_of_ble_eq_true rfl⟩ (by decide) (by decide) hK hN hZ hT hA hP hD [0, 1, 2] rfl rfl (by decide) 0 rfl rfl rfl rfl hl.1 rfl (Nat.le_of_ble_eq_true rfl) d_Law_type_4 k792_classLink (by decide) (Or.inl ⟨hT.2 (.castable "java/lang/IllegalArgumentException" "java/lang/IllegalArgumentException") (by simp [thWs]), rfl⟩) (fun x9 H hP hS => ?_)
  refine W.cs (cells' := 1) (slots' := 6) rfl rfl ?_
  refine lv_astore_n (lv' := [(3, .ref x9), (0, .ref hf), (1, .int k0), (2, .ref ou)]) hx hb d_Law_type_12 rfl hl (by decide) rfl (fun ls hl => ?_)
  refine lv_iconst (v := 1) hx hb d_Law_type_13 (by decide) ?_
  exact ct_iretG hx hb hr hlocks hK hP hD hS d_Law_type_14
theorem d_Law_type_15 : decode b_Law_type 15 = .ok (.astore_n 3, 1) := by decide +kernel
theorem d_Law_type_16 : decode b_Law_type 16 = .ok (.iconst 2, 1) := by decide +kernel
theorem d_Law_type_17 : decode b_Law_type 17 = .ok (.ireturn, 1) := by decide +kernel
set_option maxHeartbeats 4000000 in
set_option maxRecDepth 100000 in
theorem t_Law_type_2 (l : Launch) (htr : ∀ e : Env, l.admits e → e.platform.stackTraces = false) (dC : Nat → ClassId) (dI : Nat → Nat → Nat) (cI cL cZ : ClassId) (hf : Nat) (hfS : Value) (hfI : Value) (hfR : Value) (hfC : Value) (hfE : Value) (hfV : Value) (hfQ : Value) (hfN : Value) (hfD : Value) (hfB : Value) (hfO : Bool) (hfF : Int32) (hfY : Int32) (zt : Nat) (ztEa : Nat) (ztn : Nat) (ztE : Nat → Int32) (ztC : Int32) (ztO : Bool) (ou : Nat) (ouV : Nat → Int64) (k0 : Int32) (hd : X_HelpFile_type k0 ztC "java/lang/UnsupportedOperationException") : CtG l y_Law_type (Cond.codeWith y_Law_type b_Law_type 4 (some .int) [(0, 9, 12, 13), (0, 9, 15, 15)] :: ga) { frames := 7, cells := 1, slots := 6, locals := 103 } (dC, dI) classes (Tys cI cL cZ) [.ref hf, .int k0, .ref ou] ((sh_HelpFile cI cL cZ hf hfS hfI hfR (.ref zt) hfC hfE hfV hfQ hfN hfD hfB hfO hfF hfY) ++ ((sh_Row cI cL cZ zt ztEa ztn ztE ztC ztO) ++ ((sh_Out cI cL cZ ou ouV)))) (some (.int 2)) ((sh_HelpFile cI cL cZ hf hfS hfI hfR (.ref zt) hfC hfE hfV hfQ hfN hfD hfB hfO hfF hfY) ++ ((sh_Row cI cL cZ zt ztEa ztn ztE ztC ztO) ++ ((sh_Out cI cL cZ ou ouV)))) := by
  refine CtG.ofW (by decide) (Nat.le_of_ble_eq_true rfl) ?_
  intro p e s m below meth c A ls hx hb hr hml hown hlocks htab hts hK hN hZ hT hNc hA hP hD hS hl
  have hown : s.vm.findClass R_Law = some m.cls := hown
  have hl : lv_has ls 4 [(0, .ref hf), (1, .int k0), (2, .ref ou)] := hl
  refine lv_aload_n hx hb d_Law_type_0 rfl (lv_at hl 2 rfl) ?_
  refine lv_iconst (v := 0) hx hb d_Law_type_1 (by decide) ?_
  refine lv_aload_n hx hb d_Law_type_2 rfl (lv_at hl 0 rfl) ?_
  refine lv_iload_n hx hb d_Law_type_3 rfl (lv_at hl 1 rfl) ?_
  refine ct_VC (As := [.int k0]) (rest := [.int 0, .ref ou]) (C := R_HelpFile) (ci := 0) (q := (R_HelpFile, F_HelpFile, 14)) (hpc2 := 15) (N1 := "java/lang/IllegalArgumentException") ⟨hx, hb, hml, hown, hts⟩ htab (by decide) fm_HelpFile_type (x_HelpFile_type l htr dC dI cI cL cZ hf hfS hfI hfR hfC hfE hfV hfQ hfN hfD hfB hfO hfF hfY zt ztEa ztn ztE ztC ztO k0 "java/lang/UnsupportedOperationException" hd) k818_methodLink k819_instanceMethod k820_selects ⟨Nat.le_of_ble_eq_true rfl, Nat.le_of_ble_eq_true rfl⟩ (by decide) (by decide) hK hN hZ hT hA hP hD [0, 1, 2] rfl rfl (by decide) 0 rfl rfl rfl rfl hl.1 rfl (Nat.le_of_ble_eq_true rfl) d_Law_type_4 k792_classLink (by decide) (Or.inr ⟨hNc ("java/lang/UnsupportedOperationException", "java/lang/IllegalArgumentException") (by simp [thNl]), 15, "java/lang/UnsupportedOperationException", [], rfl, by decide, k793_classLink, hT.2 (.castable "java/lang/UnsupportedOperationException" "java/lang/UnsupportedOperationException") (by simp [thWs])⟩) (fun x9 H hP hS => ?_)
  refine W.cs (cells' := 1) (slots' := 6) rfl rfl ?_
  refine lv_astore_n (lv' := [(3, .ref x9), (0, .ref hf), (1, .int k0), (2, .ref ou)]) hx hb d_Law_type_15 rfl hl (by decide) rfl (fun ls hl => ?_)
  refine lv_iconst (v := 2) hx hb d_Law_type_16 (by decide) ?_
  exact ct_iretG hx hb hr hlocks hK hP hD hS d_Law_type_17
abbrev b_Law_keyword : ByteArray := method_12_code
def y_Law_keyword : MethodName := ⟨"HelpFileLaw", "keyword", "(LHelpFile;[J)I"⟩
theorem k821_methodLink : Cond.methodLink "HelpFileLaw" 50 ⟨"HelpFile", "keyword", "()I"⟩ ∈ ga := ga_t 911 (by decide +kernel) rfl
theorem k822_instanceMethod : Cond.instanceMethod ⟨"HelpFile", "keyword", "()I"⟩ ∈ ga := ga_t 912 (by decide +kernel) rfl
theorem k823_selects : Cond.selects "HelpFile" ⟨"HelpFile", "keyword", "()I"⟩ ⟨"HelpFile", "keyword", "()I"⟩ ∈ ga := ga_t 913 (by decide +kernel) rfl
def D_Law_keyword (ztn : Nat) (bbKn : Nat) (hfO : Bool) (hfY : Int32) (ztE : Nat → Int32) (ztC : Int32) (ztO : Bool) (bbKW : Nat → Int64) (bbKT : Nat → Int32) (bbKC : Int32) (ouV : Nat → Int64) (res : Int32) (hfY' : Int32) (ztC' : Int32) (ztO' : Bool) (ouV' : Nat → Int64) : Prop := (∃ r3 : Int32, ∃ hfY_3 : Int32, ∃ ztC_3 : Int32, ∃ ztO_3 : Bool, D_HelpFile_keyword ztn bbKn hfO hfY ztE ztC ztO bbKW bbKT bbKC r3 hfY_3 ztC_3 ztO_3 ∧ (vp_in 0 1 ∧ (res = 0 ∧ hfY' = hfY_3 ∧ ztC' = ztC_3 ∧ ztO' = ztO_3 ∧ ouV' = vp_updL ouV (Int32.toNatClampNeg 0) (Int32.toInt64 r3))))
theorem d_Law_keyword_0 : decode b_Law_keyword 0 = .ok (.aload_n 1, 1) := by decide +kernel
theorem d_Law_keyword_1 : decode b_Law_keyword 1 = .ok (.iconst 0, 1) := by decide +kernel
theorem d_Law_keyword_2 : decode b_Law_keyword 2 = .ok (.aload_n 0, 1) := by decide +kernel
theorem d_Law_keyword_3 : decode b_Law_keyword 3 = .ok (.invokevirtual 50, 3) := by decide +kernel
theorem d_Law_keyword_6 : decode b_Law_keyword 6 = .ok (.i2l, 1) := by decide +kernel
theorem d_Law_keyword_7 : decode b_Law_keyword 7 = .ok (.lastore, 1) := by decide +kernel
theorem d_Law_keyword_8 : decode b_Law_keyword 8 = .ok (.goto 6, 3) := by decide +kernel
theorem d_Law_keyword_14 : decode b_Law_keyword 14 = .ok (.iconst 0, 1) := by decide +kernel
theorem d_Law_keyword_15 : decode b_Law_keyword 15 = .ok (.ireturn, 1) := by decide +kernel
set_option maxHeartbeats 4000000 in
set_option maxRecDepth 100000 in
theorem c_Law_keyword (l : Launch) (dC : Nat → ClassId) (dI : Nat → Nat → Nat) (cI cL cZ : ClassId) (hf : Nat) (hfS : Value) (hfI : Value) (hfR : Value) (hfC : Value) (hfE : Value) (hfV : Value) (hfN : Value) (hfD : Value) (hfO : Bool) (hfF : Int32) (hfY : Int32) (zt : Nat) (ztEa : Nat) (ztn : Nat) (ztE : Nat → Int32) (ztC : Int32) (ztO : Bool) (zq : Nat) (zqFa : Nat) (zqF : Nat → Int32) (zqJa : Nat) (zqJ : Nat → Int32) (zqNa : Nat) (zqN : Nat → Int32) (zqE : Int32) (zqL : Int32) (zqD : Bool) (bb : Nat) (bbNa : Nat) (bbN : Nat → Int64) (bbSa : Nat) (bbS : Nat → Int32) (bbB : Nat) (bbBEa : Nat) (bbBn : Nat) (bbBE : Nat → Int32) (bbBC : Int32) (bbBO : Bool) (bbK : Nat) (bbKWa : Nat) (bbKn : Nat) (bbKW : Nat → Int64) (bbKTa : Nat) (bbKT : Nat → Int32) (bbKC : Int32) (bbV : Nat) (bbVWa : Nat) (bbVn : Nat) (bbVW : Nat → Int64) (bbVTa : Nat) (bbVT : Nat → Int32) (bbVC : Int32) (bbT : Int32) (ou : Nat) (ouV : Nat → Int64) (res : Int32) (hfY' : Int32) (ztC' : Int32) (ztO' : Bool) (ouV' : Nat → Int64) (hd : D_Law_keyword ztn bbKn hfO hfY ztE ztC ztO bbKW bbKT bbKC ouV res hfY' ztC' ztO' ouV') : CtG l y_Law_keyword (Cond.codeWith y_Law_keyword b_Law_keyword 3 (some .int) [(0, 8, 11, 33)] :: ga) { frames := 8, cells := 1, slots := 6, locals := 124 } (dC, dI) classes (Tys cI cL cZ) [.ref hf, .ref ou] ((sh_HelpFile cI cL cZ hf hfS hfI hfR (.ref zt) hfC hfE hfV (.ref zq) hfN hfD (.ref bb) hfO hfF hfY) ++ ((sh_Row cI cL cZ zt ztEa ztn ztE ztC ztO) ++ ((sh_Query cI cL cZ zq zqFa zqF zqJa zqJ zqNa zqN zqE zqL zqD) ++ ((sh_Book cI cL cZ bb bbNa bbN bbSa bbS bbB bbBEa bbBn bbBE bbBC bbBO bbK bbKWa bbKn bbKW bbKTa bbKT bbKC bbV bbVWa bbVn bbVW bbVTa bbVT bbVC bbT) ++ ((sh_Out cI cL cZ ou ouV)))))) (some (.int res)) ((sh_HelpFile cI cL cZ hf hfS hfI hfR (.ref zt) hfC hfE hfV (.ref zq) hfN hfD (.ref bb) hfO hfF hfY') ++ ((sh_Row cI cL cZ zt ztEa ztn ztE ztC' ztO') ++ ((sh_Query cI cL cZ zq zqFa zqF zqJa zqJ zqNa zqN zqE zqL zqD) ++ ((sh_Book cI cL cZ bb bbNa bbN bbSa bbS bbB bbBEa bbBn bbBE bbBC bbBO bbK bbKWa bbKn bbKW bbKTa bbKT bbKC bbV bbVWa bbVn bbVW bbVTa bbVT bbVC bbT) ++ ((sh_Out cI cL cZ ou ouV')))))) := by
  refine CtG.ofW (by decide) (Nat.le_of_ble_eq_true rfl) ?_
  intro p e s m below meth c A ls hx hb hr hml hown hlocks htab hts hK hN hZ hT hNc hA hP hD hS hl
  have hown : s.vm.findClass R_Law = some m.cls := hown
  have hl : lv_has ls 3 [(0, .ref hf), (1, .ref ou)] := hl
  refine lv_aload_n hx hb d_Law_keyword_0 rfl (lv_at hl 1 rfl) ?_
  refine lv_iconst (v := 0) hx hb d_Law_keyword_1 (by decide) ?_
  refine lv_aload_n hx hb d_Law_keyword_2 rfl (lv_at hl 0 rfl) ?_
  obtain ⟨r3, hfY_3, ztC_3, ztO_3, c3, hd⟩ := hd
  refine ct_V (As := []) (rest := [.int 0, .ref ou]) (C := R_HelpFile) (ci := 0) (q := (R_HelpFile, F_HelpFile, 14)) ⟨hx, hb, hml, hown, hts⟩ fm_HelpFile_keyword (c_HelpFile_keyword l dC dI cI cL cZ hf hfS hfI hfR hfC hfE hfV hfN hfD hfO hfF hfY zt ztEa ztn ztE ztC ztO zq zqFa zqF zqJa zqJ zqNa zqN zqE zqL zqD bb bbNa bbN bbSa bbS bbB bbBEa bbBn bbBE bbBC bbBO bbK bbKWa bbKn bbKW bbKTa bbKT bbKC bbV bbVWa bbVn bbVW bbVTa bbVT bbVC bbT r3 hfY_3 ztC_3 ztO_3 c3) k821_methodLink k822_instanceMethod k823_selects ⟨Nat.le_of_ble_eq_true rfl, Nat.le_of_ble_eq_true rfl⟩ rfl rfl hK hN hP hD hS hA [0, 1, 2, 3, 4, 5, 6, 7, 8, 9, 10, 11, 12, 13, 14, 15, 16, 17] [18] rfl rfl rfl (by decide) (by decide) (by decide) 0 rfl rfl rfl rfl hl.1 rfl (Nat.le_of_ble_eq_true rfl) d_Law_keyword_3 (fun H locs hP hD hS => ?_)
  have hP : va_P (dC, dI) classes ((sh_HelpFile cI cL cZ hf hfS hfI hfR (.ref zt) hfC hfE hfV (.ref zq) hfN hfD (.ref bb) hfO hfF hfY_3) ++ ((sh_Row cI cL cZ zt ztEa ztn ztE ztC_3 ztO_3) ++ ((sh_Query cI cL cZ zq zqFa zqF zqJa zqJ zqNa zqN zqE zqL zqD) ++ ((sh_Book cI cL cZ bb bbNa bbN bbSa bbS bbB bbBEa bbBn bbBE bbBC bbBO bbK bbKWa bbKn bbKW bbKTa bbKT bbKC bbV bbVWa bbVn bbVW bbVTa bbVT bbVC bbT) ++ ((sh_Out cI cL cZ ou ouV)))))) H := hP.sub [1, 2, 3, 4, 5, 6, 7, 8, 9, 10, 11, 12, 13, 14, 15, 16, 17, 18, 0] rfl
  have hD : va_D A ((sh_HelpFile cI cL cZ hf hfS hfI hfR (.ref zt) hfC hfE hfV (.ref zq) hfN hfD (.ref bb) hfO hfF hfY_3) ++ ((sh_Row cI cL cZ zt ztEa ztn ztE ztC_3 ztO_3) ++ ((sh_Query cI cL cZ zq zqFa zqF zqJa zqJ zqNa zqN zqE zqL zqD) ++ ((sh_Book cI cL cZ bb bbNa bbN bbSa bbS bbB bbBEa bbBn bbBE bbBC bbBO bbK bbKWa bbKn bbKW bbKTa bbKT bbKC bbV bbVWa bbVn bbVW bbVTa bbVT bbVC bbT) ++ ((sh_Out cI cL cZ ou ouV)))))) := hD.sub [1, 2, 3, 4, 5, 6, 7, 8, 9, 10, 11, 12, 13, 14, 15, 16, 17, 18, 0] (by decide) rfl
  refine lv_i2l (v := Int32.toInt64 r3) hx hb d_Law_keyword_6 rfl ?_
  obtain ⟨h7, hd⟩ := hd
  refine va_last hx hb hK hP hD hS 18 1 rfl rfl h7 d_Law_keyword_7 (fun H locs hP hD hS => ?_)
  have hP : va_P (dC, dI) classes ((sh_HelpFile cI cL cZ hf hfS hfI hfR (.ref zt) hfC hfE hfV (.ref zq) hfN hfD (.ref bb) hfO hfF hfY_3) ++ ((sh_Row cI cL cZ zt ztEa ztn ztE ztC_3 ztO_3) ++ ((sh_Query cI cL cZ zq zqFa zqF zqJa zqJ zqNa zqN zqE zqL zqD) ++ ((sh_Book cI cL cZ bb bbNa bbN bbSa bbS bbB bbBEa bbBn bbBE bbBC bbBO bbK bbKWa bbKn bbKW bbKTa bbKT bbKC bbV bbVWa bbVn bbVW bbVTa bbVT bbVC bbT) ++ ((sh_Out cI cL cZ ou (vp_updL ouV (Int32.toNatClampNeg 0) (Int32.toInt64 r3)))))))) H := hP
  have hD : va_D A ((sh_HelpFile cI cL cZ hf hfS hfI hfR (.ref zt) hfC hfE hfV (.ref zq) hfN hfD (.ref bb) hfO hfF hfY_3) ++ ((sh_Row cI cL cZ zt ztEa ztn ztE ztC_3 ztO_3) ++ ((sh_Query cI cL cZ zq zqFa zqF zqJa zqJ zqNa zqN zqE zqL zqD) ++ ((sh_Book cI cL cZ bb bbNa bbN bbSa bbS bbB bbBEa bbBn bbBE bbBC bbBO bbK bbKWa bbKn bbKW bbKTa bbKT bbKC bbV bbVWa bbVn bbVW bbVTa bbVT bbVC bbT) ++ ((sh_Out cI cL cZ ou (vp_updL ouV (Int32.toNatClampNeg 0) (Int32.toInt64 r3)))))))) := hD
  refine lv_goto (tgt := 14) hx hb d_Law_keyword_8 (by decide) ?_
  refine lv_iconst (v := 0) hx hb d_Law_keyword_14 (by decide) ?_
  obtain ⟨e0, e1, e2, e3, e4⟩ := hd
  subst e0
  subst e1
  subst e2
  subst e3
  subst e4
  refine W.widen (k := 1) (n := 6) (by decide) (by decide) ?_
  exact ct_iretG hx hb hr hlocks hK hP hD hS d_Law_keyword_15
theorem d_Law_keyword_11 : decode b_Law_keyword 11 = .ok (.astore_n 2, 1) := by decide +kernel
theorem d_Law_keyword_12 : decode b_Law_keyword 12 = .ok (.iconst 1, 1) := by decide +kernel
theorem d_Law_keyword_13 : decode b_Law_keyword 13 = .ok (.ireturn, 1) := by decide +kernel
set_option maxHeartbeats 4000000 in
set_option maxRecDepth 100000 in
theorem t_Law_keyword_1 (l : Launch) (htr : ∀ e : Env, l.admits e → e.platform.stackTraces = false) (dC : Nat → ClassId) (dI : Nat → Nat → Nat) (cI cL cZ : ClassId) (hf : Nat) (hfS : Value) (hfI : Value) (hfR : Value) (hfC : Value) (hfE : Value) (hfV : Value) (hfN : Value) (hfD : Value) (hfO : Bool) (hfF : Int32) (hfY : Int32) (zt : Nat) (ztEa : Nat) (ztn : Nat) (ztE : Nat → Int32) (ztC : Int32) (ztO : Bool) (zq : Nat) (zqFa : Nat) (zqF : Nat → Int32) (zqJa : Nat) (zqJ : Nat → Int32) (zqNa : Nat) (zqN : Nat → Int32) (zqE : Int32) (zqL : Int32) (zqD : Bool) (bb : Nat) (bbNa : Nat) (bbN : Nat → Int64) (bbSa : Nat) (bbS : Nat → Int32) (bbB : Nat) (bbBEa : Nat) (bbBn : Nat) (bbBE : Nat → Int32) (bbBC : Int32) (bbBO : Bool) (bbK : Nat) (bbKWa : Nat) (bbKn : Nat) (bbKW : Nat → Int64) (bbKTa : Nat) (bbKT : Nat → Int32) (bbKC : Int32) (bbV : Nat) (bbVWa : Nat) (bbVn : Nat) (bbVW : Nat → Int64) (bbVTa : Nat) (bbVT : Nat → Int32) (bbVC : Int32) (bbT : Int32) (ou : Nat) (ouV : Nat → Int64) (hd : X_HelpFile_keyword ztn hfO ztE ztC "java/lang/IllegalStateException") : CtG l y_Law_keyword (Cond.codeWith y_Law_keyword b_Law_keyword 3 (some .int) [(0, 8, 11, 33)] :: ga) { frames := 8, cells := 1, slots := 6, locals := 124 } (dC, dI) classes (Tys cI cL cZ) [.ref hf, .ref ou] ((sh_HelpFile cI cL cZ hf hfS hfI hfR (.ref zt) hfC hfE hfV (.ref zq) hfN hfD (.ref bb) hfO hfF hfY) ++ ((sh_Row cI cL cZ zt ztEa ztn ztE ztC ztO) ++ ((sh_Query cI cL cZ zq zqFa zqF zqJa zqJ zqNa zqN zqE zqL zqD) ++ ((sh_Book cI cL cZ bb bbNa bbN bbSa bbS bbB bbBEa bbBn bbBE bbBC bbBO bbK bbKWa bbKn bbKW bbKTa bbKT bbKC bbV bbVWa bbVn bbVW bbVTa bbVT bbVC bbT) ++ ((sh_Out cI cL cZ ou ouV)))))) (some (.int 1)) ((sh_HelpFile cI cL cZ hf hfS hfI hfR (.ref zt) hfC hfE hfV (.ref zq) hfN hfD (.ref bb) hfO hfF hfY) ++ ((sh_Row cI cL cZ zt ztEa ztn ztE ztC ztO) ++ ((sh_Query cI cL cZ zq zqFa zqF zqJa zqJ zqNa zqN zqE zqL zqD) ++ ((sh_Book cI cL cZ bb bbNa bbN bbSa bbS bbB bbBEa bbBn bbBE bbBC bbBO bbK bbKWa bbKn bbKW bbKTa bbKT bbKC bbV bbVWa bbVn bbVW bbVTa bbVT bbVC bbT) ++ ((sh_Out cI cL cZ ou ouV)))))) := by
  refine CtG.ofW (by decide) (Nat.le_of_ble_eq_true rfl) ?_
  intro p e s m below meth c A ls hx hb hr hml hown hlocks htab hts hK hN hZ hT hNc hA hP hD hS hl
  have hown : s.vm.findClass R_Law = some m.cls := hown
  have hl : lv_has ls 3 [(0, .ref hf), (1, .ref ou)] := hl
  refine lv_aload_n hx hb d_Law_keyword_0 rfl (lv_at hl 1 rfl) ?_
  refine lv_iconst (v := 0) hx hb d_Law_keyword_1 (by decide) ?_
  refine lv_aload_n hx hb d_Law_keyword_2 rfl (lv_at hl 0 rfl) ?_
  refine ct_VC (As := []) (rest := [.int 0, .ref ou]) (C := R_HelpFile) (ci := 0) (q := (R_HelpFile, F_HelpFile, 14)) (hpc2 := 11) (N1 := "java/lang/IllegalStateException") ⟨hx, hb, hml, hown, hts⟩ htab (by decide) fm_HelpFile_keyword (x_HelpFile_keyword l htr dC dI cI cL cZ hf hfS hfI hfR hfC hfE hfV hfN hfD hfO hfF hfY zt ztEa ztn ztE ztC ztO zq zqFa zqF zqJa zqJ zqNa zqN zqE zqL zqD bb bbNa bbN bbSa bbS bbB bbBEa bbBn bbBE bbBC bbBO bbK bbKWa bbKn bbKW bbKTa bbKT bbKC bbV bbVWa bbVn bbVW bbVTa bbVT bbVC bbT "java/lang/IllegalStateException" hd) k821_methodLink k822_instanceMethod k823_selects ⟨Nat.le_of_ble_eq_true rfl, Nat.le_of_ble_eq_true rfl⟩ (by decide) (by decide) hK hN hZ hT hA hP hD [0, 1, 2, 3, 4, 5, 6, 7, 8, 9, 10, 11, 12, 13, 14, 15, 16, 17] rfl rfl (by decide) 0 rfl rfl rfl rfl hl.1 rfl (Nat.le_of_ble_eq_true rfl) d_Law_keyword_3 k807_classLink (by decide) (Or.inl ⟨hT.2 (.castable "java/lang/IllegalStateException" "java/lang/IllegalStateException") (by simp [thWs]), rfl⟩) (fun x9 H hP hS => ?_)
  refine W.cs (cells' := 1) (slots' := 6) rfl rfl ?_
  refine lv_astore_n (lv' := [(2, .ref x9), (0, .ref hf), (1, .ref ou)]) hx hb d_Law_keyword_11 rfl hl (by decide) rfl (fun ls hl => ?_)
  refine lv_iconst (v := 1) hx hb d_Law_keyword_12 (by decide) ?_
  exact ct_iretG hx hb hr hlocks hK hP hD hS d_Law_keyword_13
abbrev b_Law_search : ByteArray := method_13_code
def y_Law_search : MethodName := ⟨"HelpFileLaw", "search", "(LHelpFile;[J)I"⟩
theorem k824_methodLink : Cond.methodLink "HelpFileLaw" 54 ⟨"HelpFile", "search", "()I"⟩ ∈ ga := ga_t 939 (by decide +kernel) rfl
theorem k825_instanceMethod : Cond.instanceMethod ⟨"HelpFile", "search", "()I"⟩ ∈ ga := ga_t 940 (by decide +kernel) rfl
theorem k826_selects : Cond.selects "HelpFile" ⟨"HelpFile", "search", "()I"⟩ ⟨"HelpFile", "search", "()I"⟩ ∈ ga := ga_t 941 (by decide +kernel) rfl
def D_Law_search (ztn : Nat) (bbVn : Nat) (hfO : Bool) (ztE : Nat → Int32) (ztC : Int32) (ztO : Bool) (zqF : Nat → Int32) (zqJ : Nat → Int32) (zqN : Nat → Int32) (zqE : Int32) (zqL : Int32) (zqD : Bool) (bbVW : Nat → Int64) (bbVT : Nat → Int32) (bbVC : Int32) (bbT : Int32) (ouV : Nat → Int64) (res : Int32) (ztC' : Int32) (ztO' : Bool) (zqF' : Nat → Int32) (zqJ' : Nat → Int32) (zqN' : Nat → Int32) (zqE' : Int32) (zqL' : Int32) (zqD' : Bool) (ouV' : Nat → Int64) : Prop := (∃ r3 : Int32, ∃ ztC_3 : Int32, ∃ ztO_3 : Bool, ∃ zqF_3 : Nat → Int32, ∃ zqJ_3 : Nat → Int32, ∃ zqN_3 : Nat → Int32, ∃ zqE_3 : Int32, ∃ zqL_3 : Int32, ∃ zqD_3 : Bool, D_HelpFile_search ztn bbVn hfO ztE ztC ztO zqF zqJ zqN zqE zqL zqD bbVW bbVT bbVC bbT r3 ztC_3 ztO_3 zqF_3 zqJ_3 zqN_3 zqE_3 zqL_3 zqD_3 ∧ (vp_in 0 1 ∧ (res = 0 ∧ ztC' = ztC_3 ∧ ztO' = ztO_3 ∧ zqF' = zqF_3 ∧ zqJ' = zqJ_3 ∧ zqN' = zqN_3 ∧ zqE' = zqE_3 ∧ zqL' = zqL_3 ∧ zqD' = zqD_3 ∧ ouV' = vp_updL ouV (Int32.toNatClampNeg 0) (Int32.toInt64 r3))))
theorem d_Law_search_0 : decode b_Law_search 0 = .ok (.aload_n 1, 1) := by decide +kernel
theorem d_Law_search_1 : decode b_Law_search 1 = .ok (.iconst 0, 1) := by decide +kernel
theorem d_Law_search_2 : decode b_Law_search 2 = .ok (.aload_n 0, 1) := by decide +kernel
theorem d_Law_search_3 : decode b_Law_search 3 = .ok (.invokevirtual 54, 3) := by decide +kernel
theorem d_Law_search_6 : decode b_Law_search 6 = .ok (.i2l, 1) := by decide +kernel
theorem d_Law_search_7 : decode b_Law_search 7 = .ok (.lastore, 1) := by decide +kernel
theorem d_Law_search_8 : decode b_Law_search 8 = .ok (.goto 6, 3) := by decide +kernel
theorem d_Law_search_14 : decode b_Law_search 14 = .ok (.iconst 0, 1) := by decide +kernel
theorem d_Law_search_15 : decode b_Law_search 15 = .ok (.ireturn, 1) := by decide +kernel
set_option maxHeartbeats 4000000 in
set_option maxRecDepth 100000 in
theorem c_Law_search (l : Launch) (dC : Nat → ClassId) (dI : Nat → Nat → Nat) (cI cL cZ : ClassId) (hf : Nat) (hfS : Value) (hfI : Value) (hfR : Value) (hfC : Value) (hfE : Value) (hfV : Value) (hfN : Value) (hfD : Value) (hfO : Bool) (hfF : Int32) (hfY : Int32) (zt : Nat) (ztEa : Nat) (ztn : Nat) (ztE : Nat → Int32) (ztC : Int32) (ztO : Bool) (zq : Nat) (zqFa : Nat) (zqF : Nat → Int32) (zqJa : Nat) (zqJ : Nat → Int32) (zqNa : Nat) (zqN : Nat → Int32) (zqE : Int32) (zqL : Int32) (zqD : Bool) (bb : Nat) (bbNa : Nat) (bbN : Nat → Int64) (bbSa : Nat) (bbS : Nat → Int32) (bbB : Nat) (bbBEa : Nat) (bbBn : Nat) (bbBE : Nat → Int32) (bbBC : Int32) (bbBO : Bool) (bbK : Nat) (bbKWa : Nat) (bbKn : Nat) (bbKW : Nat → Int64) (bbKTa : Nat) (bbKT : Nat → Int32) (bbKC : Int32) (bbV : Nat) (bbVWa : Nat) (bbVn : Nat) (bbVW : Nat → Int64) (bbVTa : Nat) (bbVT : Nat → Int32) (bbVC : Int32) (bbT : Int32) (ou : Nat) (ouV : Nat → Int64) (res : Int32) (ztC' : Int32) (ztO' : Bool) (zqF' : Nat → Int32) (zqJ' : Nat → Int32) (zqN' : Nat → Int32) (zqE' : Int32) (zqL' : Int32) (zqD' : Bool) (ouV' : Nat → Int64) (hd : D_Law_search ztn bbVn hfO ztE ztC ztO zqF zqJ zqN zqE zqL zqD bbVW bbVT bbVC bbT ouV res ztC' ztO' zqF' zqJ' zqN' zqE' zqL' zqD' ouV') : CtG l y_Law_search (Cond.codeWith y_Law_search b_Law_search 3 (some .int) [(0, 8, 11, 33)] :: ga) { frames := 8, cells := 1, slots := 6, locals := 123 } (dC, dI) classes (Tys cI cL cZ) [.ref hf, .ref ou] ((sh_HelpFile cI cL cZ hf hfS hfI hfR (.ref zt) hfC hfE hfV (.ref zq) hfN hfD (.ref bb) hfO hfF hfY) ++ ((sh_Row cI cL cZ zt ztEa ztn ztE ztC ztO) ++ ((sh_Query cI cL cZ zq zqFa zqF zqJa zqJ zqNa zqN zqE zqL zqD) ++ ((sh_Book cI cL cZ bb bbNa bbN bbSa bbS bbB bbBEa bbBn bbBE bbBC bbBO bbK bbKWa bbKn bbKW bbKTa bbKT bbKC bbV bbVWa bbVn bbVW bbVTa bbVT bbVC bbT) ++ ((sh_Out cI cL cZ ou ouV)))))) (some (.int res)) ((sh_HelpFile cI cL cZ hf hfS hfI hfR (.ref zt) hfC hfE hfV (.ref zq) hfN hfD (.ref bb) hfO hfF hfY) ++ ((sh_Row cI cL cZ zt ztEa ztn ztE ztC' ztO') ++ ((sh_Query cI cL cZ zq zqFa zqF' zqJa zqJ' zqNa zqN' zqE' zqL' zqD') ++ ((sh_Book cI cL cZ bb bbNa bbN bbSa bbS bbB bbBEa bbBn bbBE bbBC bbBO bbK bbKWa bbKn bbKW bbKTa bbKT bbKC bbV bbVWa bbVn bbVW bbVTa bbVT bbVC bbT) ++ ((sh_Out cI cL cZ ou ouV')))))) := by
  refine CtG.ofW (by decide) (Nat.le_of_ble_eq_true rfl) ?_
  intro p e s m below meth c A ls hx hb hr hml hown hlocks htab hts hK hN hZ hT hNc hA hP hD hS hl
  have hown : s.vm.findClass R_Law = some m.cls := hown
  have hl : lv_has ls 3 [(0, .ref hf), (1, .ref ou)] := hl
  refine lv_aload_n hx hb d_Law_search_0 rfl (lv_at hl 1 rfl) ?_
  refine lv_iconst (v := 0) hx hb d_Law_search_1 (by decide) ?_
  refine lv_aload_n hx hb d_Law_search_2 rfl (lv_at hl 0 rfl) ?_
  obtain ⟨r3, ztC_3, ztO_3, zqF_3, zqJ_3, zqN_3, zqE_3, zqL_3, zqD_3, c3, hd⟩ := hd
  refine ct_V (As := []) (rest := [.int 0, .ref ou]) (C := R_HelpFile) (ci := 0) (q := (R_HelpFile, F_HelpFile, 14)) ⟨hx, hb, hml, hown, hts⟩ fm_HelpFile_search (c_HelpFile_search l dC dI cI cL cZ hf hfS hfI hfR hfC hfE hfV hfN hfD hfO hfF hfY zt ztEa ztn ztE ztC ztO zq zqFa zqF zqJa zqJ zqNa zqN zqE zqL zqD bb bbNa bbN bbSa bbS bbB bbBEa bbBn bbBE bbBC bbBO bbK bbKWa bbKn bbKW bbKTa bbKT bbKC bbV bbVWa bbVn bbVW bbVTa bbVT bbVC bbT r3 ztC_3 ztO_3 zqF_3 zqJ_3 zqN_3 zqE_3 zqL_3 zqD_3 c3) k824_methodLink k825_instanceMethod k826_selects ⟨Nat.le_of_ble_eq_true rfl, Nat.le_of_ble_eq_true rfl⟩ rfl rfl hK hN hP hD hS hA [0, 1, 2, 3, 4, 5, 6, 7, 8, 9, 10, 11, 12, 13, 14, 15, 16, 17] [18] rfl rfl rfl (by decide) (by decide) (by decide) 0 rfl rfl rfl rfl hl.1 rfl (Nat.le_of_ble_eq_true rfl) d_Law_search_3 (fun H locs hP hD hS => ?_)
  have hP : va_P (dC, dI) classes ((sh_HelpFile cI cL cZ hf hfS hfI hfR (.ref zt) hfC hfE hfV (.ref zq) hfN hfD (.ref bb) hfO hfF hfY) ++ ((sh_Row cI cL cZ zt ztEa ztn ztE ztC_3 ztO_3) ++ ((sh_Query cI cL cZ zq zqFa zqF_3 zqJa zqJ_3 zqNa zqN_3 zqE_3 zqL_3 zqD_3) ++ ((sh_Book cI cL cZ bb bbNa bbN bbSa bbS bbB bbBEa bbBn bbBE bbBC bbBO bbK bbKWa bbKn bbKW bbKTa bbKT bbKC bbV bbVWa bbVn bbVW bbVTa bbVT bbVC bbT) ++ ((sh_Out cI cL cZ ou ouV)))))) H := hP.sub [1, 2, 3, 4, 5, 6, 7, 8, 9, 10, 11, 12, 13, 14, 15, 16, 17, 18, 0] rfl
  have hD : va_D A ((sh_HelpFile cI cL cZ hf hfS hfI hfR (.ref zt) hfC hfE hfV (.ref zq) hfN hfD (.ref bb) hfO hfF hfY) ++ ((sh_Row cI cL cZ zt ztEa ztn ztE ztC_3 ztO_3) ++ ((sh_Query cI cL cZ zq zqFa zqF_3 zqJa zqJ_3 zqNa zqN_3 zqE_3 zqL_3 zqD_3) ++ ((sh_Book cI cL cZ bb bbNa bbN bbSa bbS bbB bbBEa bbBn bbBE bbBC bbBO bbK bbKWa bbKn bbKW bbKTa bbKT bbKC bbV bbVWa bbVn bbVW bbVTa bbVT bbVC bbT) ++ ((sh_Out cI cL cZ ou ouV)))))) := hD.sub [1, 2, 3, 4, 5, 6, 7, 8, 9, 10, 11, 12, 13, 14, 15, 16, 17, 18, 0] (by decide) rfl
  refine lv_i2l (v := Int32.toInt64 r3) hx hb d_Law_search_6 rfl ?_
  obtain ⟨h7, hd⟩ := hd
  refine va_last hx hb hK hP hD hS 18 1 rfl rfl h7 d_Law_search_7 (fun H locs hP hD hS => ?_)
  have hP : va_P (dC, dI) classes ((sh_HelpFile cI cL cZ hf hfS hfI hfR (.ref zt) hfC hfE hfV (.ref zq) hfN hfD (.ref bb) hfO hfF hfY) ++ ((sh_Row cI cL cZ zt ztEa ztn ztE ztC_3 ztO_3) ++ ((sh_Query cI cL cZ zq zqFa zqF_3 zqJa zqJ_3 zqNa zqN_3 zqE_3 zqL_3 zqD_3) ++ ((sh_Book cI cL cZ bb bbNa bbN bbSa bbS bbB bbBEa bbBn bbBE bbBC bbBO bbK bbKWa bbKn bbKW bbKTa bbKT bbKC bbV bbVWa bbVn bbVW bbVTa bbVT bbVC bbT) ++ ((sh_Out cI cL cZ ou (vp_updL ouV (Int32.toNatClampNeg 0) (Int32.toInt64 r3)))))))) H := hP
  have hD : va_D A ((sh_HelpFile cI cL cZ hf hfS hfI hfR (.ref zt) hfC hfE hfV (.ref zq) hfN hfD (.ref bb) hfO hfF hfY) ++ ((sh_Row cI cL cZ zt ztEa ztn ztE ztC_3 ztO_3) ++ ((sh_Query cI cL cZ zq zqFa zqF_3 zqJa zqJ_3 zqNa zqN_3 zqE_3 zqL_3 zqD_3) ++ ((sh_Book cI cL cZ bb bbNa bbN bbSa bbS bbB bbBEa bbBn bbBE bbBC bbBO bbK bbKWa bbKn bbKW bbKTa bbKT bbKC bbV bbVWa bbVn bbVW bbVTa bbVT bbVC bbT) ++ ((sh_Out cI cL cZ ou (vp_updL ouV (Int32.toNatClampNeg 0) (Int32.toInt64 r3)))))))) := hD
  refine lv_goto (tgt := 14) hx hb d_Law_search_8 (by decide) ?_
  refine lv_iconst (v := 0) hx hb d_Law_search_14 (by decide) ?_
  obtain ⟨e0, e1, e2, e3, e4, e5, e6, e7, e8, e9⟩ := hd
  subst e0
  subst e1
  subst e2
  subst e3
  subst e4
  subst e5
  subst e6
  subst e7
  subst e8
  subst e9
  refine W.widen (k := 1) (n := 6) (by decide) (by decide) ?_
  exact ct_iretG hx hb hr hlocks hK hP hD hS d_Law_search_15
theorem d_Law_search_11 : decode b_Law_search 11 = .ok (.astore_n 2, 1) := by decide +kernel
theorem d_Law_search_12 : decode b_Law_search 12 = .ok (.iconst 1, 1) := by decide +kernel
theorem d_Law_search_13 : decode b_Law_search 13 = .ok (.ireturn, 1) := by decide +kernel
set_option maxHeartbeats 4000000 in
set_option maxRecDepth 100000 in
theorem t_Law_search_1 (l : Launch) (htr : ∀ e : Env, l.admits e → e.platform.stackTraces = false) (dC : Nat → ClassId) (dI : Nat → Nat → Nat) (cI cL cZ : ClassId) (hf : Nat) (hfS : Value) (hfI : Value) (hfR : Value) (hfC : Value) (hfE : Value) (hfV : Value) (hfN : Value) (hfD : Value) (hfO : Bool) (hfF : Int32) (hfY : Int32) (zt : Nat) (ztEa : Nat) (ztn : Nat) (ztE : Nat → Int32) (ztC : Int32) (ztO : Bool) (zq : Nat) (zqFa : Nat) (zqF : Nat → Int32) (zqJa : Nat) (zqJ : Nat → Int32) (zqNa : Nat) (zqN : Nat → Int32) (zqE : Int32) (zqL : Int32) (zqD : Bool) (bb : Nat) (bbNa : Nat) (bbN : Nat → Int64) (bbSa : Nat) (bbS : Nat → Int32) (bbB : Nat) (bbBEa : Nat) (bbBn : Nat) (bbBE : Nat → Int32) (bbBC : Int32) (bbBO : Bool) (bbK : Nat) (bbKWa : Nat) (bbKn : Nat) (bbKW : Nat → Int64) (bbKTa : Nat) (bbKT : Nat → Int32) (bbKC : Int32) (bbV : Nat) (bbVWa : Nat) (bbVn : Nat) (bbVW : Nat → Int64) (bbVTa : Nat) (bbVT : Nat → Int32) (bbVC : Int32) (bbT : Int32) (ou : Nat) (ouV : Nat → Int64) (hd : X_HelpFile_search hfO "java/lang/IllegalStateException") : CtG l y_Law_search (Cond.codeWith y_Law_search b_Law_search 3 (some .int) [(0, 8, 11, 33)] :: ga) { frames := 8, cells := 1, slots := 6, locals := 123 } (dC, dI) classes (Tys cI cL cZ) [.ref hf, .ref ou] ((sh_HelpFile cI cL cZ hf hfS hfI hfR (.ref zt) hfC hfE hfV (.ref zq) hfN hfD (.ref bb) hfO hfF hfY) ++ ((sh_Row cI cL cZ zt ztEa ztn ztE ztC ztO) ++ ((sh_Query cI cL cZ zq zqFa zqF zqJa zqJ zqNa zqN zqE zqL zqD) ++ ((sh_Book cI cL cZ bb bbNa bbN bbSa bbS bbB bbBEa bbBn bbBE bbBC bbBO bbK bbKWa bbKn bbKW bbKTa bbKT bbKC bbV bbVWa bbVn bbVW bbVTa bbVT bbVC bbT) ++ ((sh_Out cI cL cZ ou ouV)))))) (some (.int 1)) ((sh_HelpFile cI cL cZ hf hfS hfI hfR (.ref zt) hfC hfE hfV (.ref zq) hfN hfD (.ref bb) hfO hfF hfY) ++ ((sh_Row cI cL cZ zt ztEa ztn ztE ztC ztO) ++ ((sh_Query cI cL cZ zq zqFa zqF zqJa zqJ zqNa zqN zqE zqL zqD) ++ ((sh_Book cI cL cZ bb bbNa bbN bbSa bbS bbB bbBEa bbBn bbBE bbBC bbBO bbK bbKWa bbKn bbKW bbKTa bbKT bbKC bbV bbVWa bbVn bbVW bbVTa bbVT bbVC bbT) ++ ((sh_Out cI cL cZ ou ouV)))))) := by
  refine CtG.ofW (by decide) (Nat.le_of_ble_eq_true rfl) ?_
  intro p e s m below meth c A ls hx hb hr hml hown hlocks htab hts hK hN hZ hT hNc hA hP hD hS hl
  have hown : s.vm.findClass R_Law = some m.cls := hown
  have hl : lv_has ls 3 [(0, .ref hf), (1, .ref ou)] := hl
  refine lv_aload_n hx hb d_Law_search_0 rfl (lv_at hl 1 rfl) ?_
  refine lv_iconst (v := 0) hx hb d_Law_search_1 (by decide) ?_
  refine lv_aload_n hx hb d_Law_search_2 rfl (lv_at hl 0 rfl) ?_
  refine ct_VC (As := []) (rest := [.int 0, .ref ou]) (C := R_HelpFile) (ci := 0) (q := (R_HelpFile, F_HelpFile, 14)) (hpc2 := 11) (N1 := "java/lang/IllegalStateException") ⟨hx, hb, hml, hown, hts⟩ htab (by decide) fm_HelpFile_search (x_HelpFile_search l htr dC dI cI cL cZ hf hfS hfI hfR hfC hfE hfV hfN hfD hfO hfF hfY zt ztEa ztn ztE ztC ztO zq zqFa zqF zqJa zqJ zqNa zqN zqE zqL zqD bb bbNa bbN bbSa bbS bbB bbBEa bbBn bbBE bbBC bbBO bbK bbKWa bbKn bbKW bbKTa bbKT bbKC bbV bbVWa bbVn bbVW bbVTa bbVT bbVC bbT "java/lang/IllegalStateException" hd) k824_methodLink k825_instanceMethod k826_selects ⟨Nat.le_of_ble_eq_true rfl, Nat.le_of_ble_eq_true rfl⟩ (by decide) (by decide) hK hN hZ hT hA hP hD [0, 1, 2, 3, 4, 5, 6, 7, 8, 9, 10, 11, 12, 13, 14, 15, 16, 17] rfl rfl (by decide) 0 rfl rfl rfl rfl hl.1 rfl (Nat.le_of_ble_eq_true rfl) d_Law_search_3 k807_classLink (by decide) (Or.inl ⟨hT.2 (.castable "java/lang/IllegalStateException" "java/lang/IllegalStateException") (by simp [thWs]), rfl⟩) (fun x9 H hP hS => ?_)
  refine W.cs (cells' := 1) (slots' := 6) rfl rfl ?_
  refine lv_astore_n (lv' := [(2, .ref x9), (0, .ref hf), (1, .ref ou)]) hx hb d_Law_search_11 rfl hl (by decide) rfl (fun ls hl => ?_)
  refine lv_iconst (v := 1) hx hb d_Law_search_12 (by decide) ?_
  exact ct_iretG hx hb hr hlocks hK hP hD hS d_Law_search_13
abbrev b_Law_show : ByteArray := method_14_code
def y_Law_show : MethodName := ⟨"HelpFileLaw", "show", "(LHelpFile;I[J)I"⟩
theorem k827_methodLink : Cond.methodLink "HelpFileLaw" 57 ⟨"HelpFile", "show", "(I)I"⟩ ∈ ga := ga_t 971 (by decide +kernel) rfl
theorem k828_instanceMethod : Cond.instanceMethod ⟨"HelpFile", "show", "(I)I"⟩ ∈ ga := ga_t 972 (by decide +kernel) rfl
theorem k829_selects : Cond.selects "HelpFile" ⟨"HelpFile", "show", "(I)I"⟩ ⟨"HelpFile", "show", "(I)I"⟩ ∈ ga := ga_t 973 (by decide +kernel) rfl
def D_Law_show (znSn : Nat) (znPn : Nat) (bbBn : Nat) (k0 : Int32) (hfO : Bool) (zvT : Int32) (znSE : Nat → Int32) (znSC : Int32) (znSO : Bool) (znPE : Nat → Int32) (znPC : Int32) (znPO : Bool) (znA : Nat → Int32) (znL : Int32) (znW : Int32) (bbN : Nat → Int64) (bbS : Nat → Int32) (bbBE : Nat → Int32) (bbBC : Int32) (bbT : Int32) (ouV : Nat → Int64) (res : Int32) (znSE' : Nat → Int32) (znSC' : Int32) (znSO' : Bool) (znPE' : Nat → Int32) (znPC' : Int32) (znPO' : Bool) (znA' : Nat → Int32) (znL' : Int32) (znW' : Int32) (ouV' : Nat → Int64) : Prop := (∃ r4 : Int32, ∃ znSE_4 : Nat → Int32, ∃ znSC_4 : Int32, ∃ znSO_4 : Bool, ∃ znPE_4 : Nat → Int32, ∃ znPC_4 : Int32, ∃ znPO_4 : Bool, ∃ znA_4 : Nat → Int32, ∃ znL_4 : Int32, ∃ znW_4 : Int32, D_HelpFile_show znSn znPn bbBn k0 hfO zvT znSE znSC znSO znPE znPC znPO znA znL znW bbN bbS bbBE bbBC bbT r4 znSE_4 znSC_4 znSO_4 znPE_4 znPC_4 znPO_4 znA_4 znL_4 znW_4 ∧ (vp_in 0 1 ∧ (res = 0 ∧ znSE' = znSE_4 ∧ znSC' = znSC_4 ∧ znSO' = znSO_4 ∧ znPE' = znPE_4 ∧ znPC' = znPC_4 ∧ znPO' = znPO_4 ∧ znA' = znA_4 ∧ znL' = znL_4 ∧ znW' = znW_4 ∧ ouV' = vp_updL ouV (Int32.toNatClampNeg 0) (Int32.toInt64 r4))))
theorem d_Law_show_0 : decode b_Law_show 0 = .ok (.aload_n 2, 1) := by decide +kernel
theorem d_Law_show_1 : decode b_Law_show 1 = .ok (.iconst 0, 1) := by decide +kernel
theorem d_Law_show_2 : decode b_Law_show 2 = .ok (.aload_n 0, 1) := by decide +kernel
theorem d_Law_show_3 : decode b_Law_show 3 = .ok (.iload_n 1, 1) := by decide +kernel
theorem d_Law_show_4 : decode b_Law_show 4 = .ok (.invokevirtual 57, 3) := by decide +kernel
theorem d_Law_show_7 : decode b_Law_show 7 = .ok (.i2l, 1) := by decide +kernel
theorem d_Law_show_8 : decode b_Law_show 8 = .ok (.lastore, 1) := by decide +kernel
theorem d_Law_show_9 : decode b_Law_show 9 = .ok (.goto 9, 3) := by decide +kernel
theorem d_Law_show_18 : decode b_Law_show 18 = .ok (.iconst 0, 1) := by decide +kernel
theorem d_Law_show_19 : decode b_Law_show 19 = .ok (.ireturn, 1) := by decide +kernel
set_option maxHeartbeats 4000000 in
set_option maxRecDepth 100000 in
theorem c_Law_show (l : Launch) (dC : Nat → ClassId) (dI : Nat → Nat → Nat) (cI cL cZ : ClassId) (hf : Nat) (hfS : Value) (hfI : Value) (hfR : Value) (hfT : Value) (hfC : Value) (hfE : Value) (hfQ : Value) (hfD : Value) (hfO : Bool) (hfF : Int32) (hfY : Int32) (zv : Nat) (zvB : Nat) (zvBEa : Nat) (zvBn : Nat) (zvBE : Nat → Int32) (zvBC : Int32) (zvBO : Bool) (zvF : Nat) (zvFEa : Nat) (zvFn : Nat) (zvFE : Nat → Int32) (zvFC : Int32) (zvFO : Bool) (zvT : Int32) (zn : Nat) (znS : Nat) (znSEa : Nat) (znSn : Nat) (znSE : Nat → Int32) (znSC : Int32) (znSO : Bool) (znP : Nat) (znPEa : Nat) (znPn : Nat) (znPE : Nat → Int32) (znPC : Int32) (znPO : Bool) (znAa : Nat) (znA : Nat → Int32) (znL : Int32) (znW : Int32) (bb : Nat) (bbNa : Nat) (bbN : Nat → Int64) (bbSa : Nat) (bbS : Nat → Int32) (bbB : Nat) (bbBEa : Nat) (bbBn : Nat) (bbBE : Nat → Int32) (bbBC : Int32) (bbBO : Bool) (bbK : Nat) (bbKWa : Nat) (bbKn : Nat) (bbKW : Nat → Int64) (bbKTa : Nat) (bbKT : Nat → Int32) (bbKC : Int32) (bbV : Nat) (bbVWa : Nat) (bbVn : Nat) (bbVW : Nat → Int64) (bbVTa : Nat) (bbVT : Nat → Int32) (bbVC : Int32) (bbT : Int32) (ou : Nat) (ouV : Nat → Int64) (k0 : Int32) (res : Int32) (znSE' : Nat → Int32) (znSC' : Int32) (znSO' : Bool) (znPE' : Nat → Int32) (znPC' : Int32) (znPO' : Bool) (znA' : Nat → Int32) (znL' : Int32) (znW' : Int32) (ouV' : Nat → Int64) (hd : D_Law_show znSn znPn bbBn k0 hfO zvT znSE znSC znSO znPE znPC znPO znA znL znW bbN bbS bbBE bbBC bbT ouV res znSE' znSC' znSO' znPE' znPC' znPO' znA' znL' znW' ouV') : CtG l y_Law_show (Cond.codeWith y_Law_show b_Law_show 4 (some .int) [(0, 9, 12, 33), (0, 9, 15, 13)] :: ga) { frames := 8, cells := 1, slots := 6, locals := 123 } (dC, dI) classes (Tys cI cL cZ) [.ref hf, .int k0, .ref ou] ((sh_HelpFile cI cL cZ hf hfS hfI hfR hfT hfC hfE (.ref zv) hfQ (.ref zn) hfD (.ref bb) hfO hfF hfY) ++ ((sh_Visits cI cL cZ zv zvB zvBEa zvBn zvBE zvBC zvBO zvF zvFEa zvFn zvFE zvFC zvFO zvT) ++ ((sh_Screen cI cL cZ zn znS znSEa znSn znSE znSC znSO znP znPEa znPn znPE znPC znPO znAa znA znL znW) ++ ((sh_Book cI cL cZ bb bbNa bbN bbSa bbS bbB bbBEa bbBn bbBE bbBC bbBO bbK bbKWa bbKn bbKW bbKTa bbKT bbKC bbV bbVWa bbVn bbVW bbVTa bbVT bbVC bbT) ++ ((sh_Out cI cL cZ ou ouV)))))) (some (.int res)) ((sh_HelpFile cI cL cZ hf hfS hfI hfR hfT hfC hfE (.ref zv) hfQ (.ref zn) hfD (.ref bb) hfO hfF hfY) ++ ((sh_Visits cI cL cZ zv zvB zvBEa zvBn zvBE zvBC zvBO zvF zvFEa zvFn zvFE zvFC zvFO zvT) ++ ((sh_Screen cI cL cZ zn znS znSEa znSn znSE' znSC' znSO' znP znPEa znPn znPE' znPC' znPO' znAa znA' znL' znW') ++ ((sh_Book cI cL cZ bb bbNa bbN bbSa bbS bbB bbBEa bbBn bbBE bbBC bbBO bbK bbKWa bbKn bbKW bbKTa bbKT bbKC bbV bbVWa bbVn bbVW bbVTa bbVT bbVC bbT) ++ ((sh_Out cI cL cZ ou ouV')))))) := by
  refine CtG.ofW (by decide) (Nat.le_of_ble_eq_true rfl) ?_
  intro p e s m below meth c A ls hx hb hr hml hown hlocks htab hts hK hN hZ hT hNc hA hP hD hS hl
  have hown : s.vm.findClass R_Law = some m.cls := hown
  have hl : lv_has ls 4 [(0, .ref hf), (1, .int k0), (2, .ref ou)] := hl
  refine lv_aload_n hx hb d_Law_show_0 rfl (lv_at hl 2 rfl) ?_
  refine lv_iconst (v := 0) hx hb d_Law_show_1 (by decide) ?_
  refine lv_aload_n hx hb d_Law_show_2 rfl (lv_at hl 0 rfl) ?_
  refine lv_iload_n hx hb d_Law_show_3 rfl (lv_at hl 1 rfl) ?_
  obtain ⟨r4, znSE_4, znSC_4, znSO_4, znPE_4, znPC_4, znPO_4, znA_4, znL_4, znW_4, c4, hd⟩ := hd
  refine ct_V (As := [.int k0]) (rest := [.int 0, .ref ou]) (C := R_HelpFile) (ci := 0) (q := (R_HelpFile, F_HelpFile, 14)) ⟨hx, hb, hml, hown, hts⟩ fm_HelpFile_show (c_HelpFile_show l dC dI cI cL cZ hf hfS hfI hfR hfT hfC hfE hfQ hfD hfO hfF hfY zv zvB zvBEa zvBn zvBE zvBC zvBO zvF zvFEa zvFn zvFE zvFC zvFO zvT zn znS znSEa znSn znSE znSC znSO znP znPEa znPn znPE znPC znPO znAa znA znL znW bb bbNa bbN bbSa bbS bbB bbBEa bbBn bbBE bbBC bbBO bbK bbKWa bbKn bbKW bbKTa bbKT bbKC bbV bbVWa bbVn bbVW bbVTa bbVT bbVC bbT k0 r4 znSE_4 znSC_4 znSO_4 znPE_4 znPC_4 znPO_4 znA_4 znL_4 znW_4 c4) k827_methodLink k828_instanceMethod k829_selects ⟨Nat.le_of_ble_eq_true rfl, Nat.le_of_ble_eq_true rfl⟩ rfl rfl hK hN hP hD hS hA [0, 1, 2, 3, 4, 5, 6, 7, 8, 9, 10, 11, 12, 13, 14, 15, 16, 17, 18, 19, 20, 21, 22] [23] rfl rfl rfl (by decide) (by decide) (by decide) 0 rfl rfl rfl rfl hl.1 rfl (Nat.le_of_ble_eq_true rfl) d_Law_show_4 (fun H locs hP hD hS => ?_)
  have hP : va_P (dC, dI) classes ((sh_HelpFile cI cL cZ hf hfS hfI hfR hfT hfC hfE (.ref zv) hfQ (.ref zn) hfD (.ref bb) hfO hfF hfY) ++ ((sh_Visits cI cL cZ zv zvB zvBEa zvBn zvBE zvBC zvBO zvF zvFEa zvFn zvFE zvFC zvFO zvT) ++ ((sh_Screen cI cL cZ zn znS znSEa znSn znSE_4 znSC_4 znSO_4 znP znPEa znPn znPE_4 znPC_4 znPO_4 znAa znA_4 znL_4 znW_4) ++ ((sh_Book cI cL cZ bb bbNa bbN bbSa bbS bbB bbBEa bbBn bbBE bbBC bbBO bbK bbKWa bbKn bbKW bbKTa bbKT bbKC bbV bbVWa bbVn bbVW bbVTa bbVT bbVC bbT) ++ ((sh_Out cI cL cZ ou ouV)))))) H := hP.sub [1, 2, 3, 4, 5, 6, 7, 8, 9, 10, 11, 12, 13, 14, 15, 16, 17, 18, 19, 20, 21, 22, 23, 0] rfl
  have hD : va_D A ((sh_HelpFile cI cL cZ hf hfS hfI hfR hfT hfC hfE (.ref zv) hfQ (.ref zn) hfD (.ref bb) hfO hfF hfY) ++ ((sh_Visits cI cL cZ zv zvB zvBEa zvBn zvBE zvBC zvBO zvF zvFEa zvFn zvFE zvFC zvFO zvT) ++ ((sh_Screen cI cL cZ zn znS znSEa znSn znSE_4 znSC_4 znSO_4 znP znPEa znPn znPE_4 znPC_4 znPO_4 znAa znA_4 znL_4 znW_4) ++ ((sh_Book cI cL cZ bb bbNa bbN bbSa bbS bbB bbBEa bbBn bbBE bbBC bbBO bbK bbKWa bbKn bbKW bbKTa bbKT bbKC bbV bbVWa bbVn bbVW bbVTa bbVT bbVC bbT) ++ ((sh_Out cI cL cZ ou ouV)))))) := hD.sub [1, 2, 3, 4, 5, 6, 7, 8, 9, 10, 11, 12, 13, 14, 15, 16, 17, 18, 19, 20, 21, 22, 23, 0] (by decide) rfl
  refine lv_i2l (v := Int32.toInt64 r4) hx hb d_Law_show_7 rfl ?_
  obtain ⟨h8, hd⟩ := hd
  refine va_last hx hb hK hP hD hS 23 1 rfl rfl h8 d_Law_show_8 (fun H locs hP hD hS => ?_)
  have hP : va_P (dC, dI) classes ((sh_HelpFile cI cL cZ hf hfS hfI hfR hfT hfC hfE (.ref zv) hfQ (.ref zn) hfD (.ref bb) hfO hfF hfY) ++ ((sh_Visits cI cL cZ zv zvB zvBEa zvBn zvBE zvBC zvBO zvF zvFEa zvFn zvFE zvFC zvFO zvT) ++ ((sh_Screen cI cL cZ zn znS znSEa znSn znSE_4 znSC_4 znSO_4 znP znPEa znPn znPE_4 znPC_4 znPO_4 znAa znA_4 znL_4 znW_4) ++ ((sh_Book cI cL cZ bb bbNa bbN bbSa bbS bbB bbBEa bbBn bbBE bbBC bbBO bbK bbKWa bbKn bbKW bbKTa bbKT bbKC bbV bbVWa bbVn bbVW bbVTa bbVT bbVC bbT) ++ ((sh_Out cI cL cZ ou (vp_updL ouV (Int32.toNatClampNeg 0) (Int32.toInt64 r4)))))))) H := hP
  have hD : va_D A ((sh_HelpFile cI cL cZ hf hfS hfI hfR hfT hfC hfE (.ref zv) hfQ (.ref zn) hfD (.ref bb) hfO hfF hfY) ++ ((sh_Visits cI cL cZ zv zvB zvBEa zvBn zvBE zvBC zvBO zvF zvFEa zvFn zvFE zvFC zvFO zvT) ++ ((sh_Screen cI cL cZ zn znS znSEa znSn znSE_4 znSC_4 znSO_4 znP znPEa znPn znPE_4 znPC_4 znPO_4 znAa znA_4 znL_4 znW_4) ++ ((sh_Book cI cL cZ bb bbNa bbN bbSa bbS bbB bbBEa bbBn bbBE bbBC bbBO bbK bbKWa bbKn bbKW bbKTa bbKT bbKC bbV bbVWa bbVn bbVW bbVTa bbVT bbVC bbT) ++ ((sh_Out cI cL cZ ou (vp_updL ouV (Int32.toNatClampNeg 0) (Int32.toInt64 r4)))))))) := hD
  refine lv_goto (tgt := 18) hx hb d_Law_show_9 (by decide) ?_
  refine lv_iconst (v := 0) hx hb d_Law_show_18 (by decide) ?_
  obtain ⟨e0, e1, e2, e3, e4, e5, e6, e7, e8, e9, e10⟩ := hd
  subst e0
  subst e1
  subst e2
  subst e3
  subst e4
  subst e5
  subst e6
  subst e7
  subst e8
  subst e9
  subst e10
  refine W.widen (k := 1) (n := 6) (by decide) (by decide) ?_
  exact ct_iretG hx hb hr hlocks hK hP hD hS d_Law_show_19
theorem d_Law_show_12 : decode b_Law_show 12 = .ok (.astore_n 3, 1) := by decide +kernel
theorem d_Law_show_13 : decode b_Law_show 13 = .ok (.iconst 1, 1) := by decide +kernel
theorem d_Law_show_14 : decode b_Law_show 14 = .ok (.ireturn, 1) := by decide +kernel
set_option maxHeartbeats 4000000 in
set_option maxRecDepth 100000 in
theorem t_Law_show_1 (l : Launch) (htr : ∀ e : Env, l.admits e → e.platform.stackTraces = false) (dC : Nat → ClassId) (dI : Nat → Nat → Nat) (cI cL cZ : ClassId) (hf : Nat) (hfS : Value) (hfI : Value) (hfR : Value) (hfT : Value) (hfC : Value) (hfE : Value) (hfQ : Value) (hfD : Value) (hfO : Bool) (hfF : Int32) (hfY : Int32) (zv : Nat) (zvB : Nat) (zvBEa : Nat) (zvBn : Nat) (zvBE : Nat → Int32) (zvBC : Int32) (zvBO : Bool) (zvF : Nat) (zvFEa : Nat) (zvFn : Nat) (zvFE : Nat → Int32) (zvFC : Int32) (zvFO : Bool) (zvT : Int32) (zn : Nat) (znS : Nat) (znSEa : Nat) (znSn : Nat) (znSE : Nat → Int32) (znSC : Int32) (znSO : Bool) (znP : Nat) (znPEa : Nat) (znPn : Nat) (znPE : Nat → Int32) (znPC : Int32) (znPO : Bool) (znAa : Nat) (znA : Nat → Int32) (znL : Int32) (znW : Int32) (bb : Nat) (bbNa : Nat) (bbN : Nat → Int64) (bbSa : Nat) (bbS : Nat → Int32) (bbB : Nat) (bbBEa : Nat) (bbBn : Nat) (bbBE : Nat → Int32) (bbBC : Int32) (bbBO : Bool) (bbK : Nat) (bbKWa : Nat) (bbKn : Nat) (bbKW : Nat → Int64) (bbKTa : Nat) (bbKT : Nat → Int32) (bbKC : Int32) (bbV : Nat) (bbVWa : Nat) (bbVn : Nat) (bbVW : Nat → Int64) (bbVTa : Nat) (bbVT : Nat → Int32) (bbVC : Int32) (bbT : Int32) (ou : Nat) (ouV : Nat → Int64) (k0 : Int32) (hd : X_HelpFile_show k0 hfO "java/lang/IllegalStateException") : CtG l y_Law_show (Cond.codeWith y_Law_show b_Law_show 4 (some .int) [(0, 9, 12, 33), (0, 9, 15, 13)] :: ga) { frames := 8, cells := 1, slots := 6, locals := 123 } (dC, dI) classes (Tys cI cL cZ) [.ref hf, .int k0, .ref ou] ((sh_HelpFile cI cL cZ hf hfS hfI hfR hfT hfC hfE (.ref zv) hfQ (.ref zn) hfD (.ref bb) hfO hfF hfY) ++ ((sh_Visits cI cL cZ zv zvB zvBEa zvBn zvBE zvBC zvBO zvF zvFEa zvFn zvFE zvFC zvFO zvT) ++ ((sh_Screen cI cL cZ zn znS znSEa znSn znSE znSC znSO znP znPEa znPn znPE znPC znPO znAa znA znL znW) ++ ((sh_Book cI cL cZ bb bbNa bbN bbSa bbS bbB bbBEa bbBn bbBE bbBC bbBO bbK bbKWa bbKn bbKW bbKTa bbKT bbKC bbV bbVWa bbVn bbVW bbVTa bbVT bbVC bbT) ++ ((sh_Out cI cL cZ ou ouV)))))) (some (.int 1)) ((sh_HelpFile cI cL cZ hf hfS hfI hfR hfT hfC hfE (.ref zv) hfQ (.ref zn) hfD (.ref bb) hfO hfF hfY) ++ ((sh_Visits cI cL cZ zv zvB zvBEa zvBn zvBE zvBC zvBO zvF zvFEa zvFn zvFE zvFC zvFO zvT) ++ ((sh_Screen cI cL cZ zn znS znSEa znSn znSE znSC znSO znP znPEa znPn znPE znPC znPO znAa znA znL znW) ++ ((sh_Book cI cL cZ bb bbNa bbN bbSa bbS bbB bbBEa bbBn bbBE bbBC bbBO bbK bbKWa bbKn bbKW bbKTa bbKT bbKC bbV bbVWa bbVn bbVW bbVTa bbVT bbVC bbT) ++ ((sh_Out cI cL cZ ou ouV)))))) := by
  refine CtG.ofW (by decide) (Nat.le_of_ble_eq_true rfl) ?_
  intro p e s m below meth c A ls hx hb hr hml hown hlocks htab hts hK hN hZ hT hNc hA hP hD hS hl
  have hown : s.vm.findClass R_Law = some m.cls := hown
  have hl : lv_has ls 4 [(0, .ref hf), (1, .int k0), (2, .ref ou)] := hl
  refine lv_aload_n hx hb d_Law_show_0 rfl (lv_at hl 2 rfl) ?_
  refine lv_iconst (v := 0) hx hb d_Law_show_1 (by decide) ?_
  refine lv_aload_n hx hb d_Law_show_2 rfl (lv_at hl 0 rfl) ?_
  refine lv_iload_n hx hb d_Law_show_3 rfl (lv_at hl 1 rfl) ?_
  refine ct_VC (As := [.int k0]) (rest := [.int 0, .ref ou]) (C := R_HelpFile) (ci := 0) (q := (R_HelpFile, F_HelpFile, 14)) (hpc2 := 12) (N1 := "java/lang/IllegalStateException") ⟨hx, hb, hml, hown, hts⟩ htab (by decide) fm_HelpFile_show (x_HelpFile_show l htr dC dI cI cL cZ hf hfS hfI hfR hfT hfC hfE hfQ hfD hfO hfF hfY zv zvB zvBEa zvBn zvBE zvBC zvBO zvF zvFEa zvFn zvFE zvFC zvFO zvT zn znS znSEa znSn znSE znSC znSO znP znPEa znPn znPE znPC znPO znAa znA znL znW bb bbNa bbN bbSa bbS bbB bbBEa bbBn bbBE bbBC bbBO bbK bbKWa bbKn bbKW bbKTa bbKT bbKC bbV bbVWa bbVn bbVW bbVTa bbVT bbVC bbT k0 "java/lang/IllegalStateException" hd) k827_methodLink k828_instanceMethod k829_selects ⟨Nat.le_of_ble_eq_true rfl, Nat.le_of_ble_eq_true rfl⟩ (by decide) (by decide) hK hN hZ hT hA hP hD [0, 1, 2, 3, 4, 5, 6, 7, 8, 9, 10, 11, 12, 13, 14, 15, 16, 17, 18, 19, 20, 21, 22] rfl rfl (by decide) 0 rfl rfl rfl rfl hl.1 rfl (Nat.le_of_ble_eq_true rfl) d_Law_show_4 k807_classLink (by decide) (Or.inl ⟨hT.2 (.castable "java/lang/IllegalStateException" "java/lang/IllegalStateException") (by simp [thWs]), rfl⟩) (fun x9 H hP hS => ?_)
  refine W.cs (cells' := 1) (slots' := 6) rfl rfl ?_
  refine lv_astore_n (lv' := [(3, .ref x9), (0, .ref hf), (1, .int k0), (2, .ref ou)]) hx hb d_Law_show_12 rfl hl (by decide) rfl (fun ls hl => ?_)
  refine lv_iconst (v := 1) hx hb d_Law_show_13 (by decide) ?_
  exact ct_iretG hx hb hr hlocks hK hP hD hS d_Law_show_14
theorem d_Law_show_15 : decode b_Law_show 15 = .ok (.astore_n 3, 1) := by decide +kernel
theorem d_Law_show_16 : decode b_Law_show 16 = .ok (.iconst 2, 1) := by decide +kernel
theorem d_Law_show_17 : decode b_Law_show 17 = .ok (.ireturn, 1) := by decide +kernel
set_option maxHeartbeats 4000000 in
set_option maxRecDepth 100000 in
theorem t_Law_show_2 (l : Launch) (htr : ∀ e : Env, l.admits e → e.platform.stackTraces = false) (dC : Nat → ClassId) (dI : Nat → Nat → Nat) (cI cL cZ : ClassId) (hf : Nat) (hfS : Value) (hfI : Value) (hfR : Value) (hfT : Value) (hfC : Value) (hfE : Value) (hfQ : Value) (hfD : Value) (hfO : Bool) (hfF : Int32) (hfY : Int32) (zv : Nat) (zvB : Nat) (zvBEa : Nat) (zvBn : Nat) (zvBE : Nat → Int32) (zvBC : Int32) (zvBO : Bool) (zvF : Nat) (zvFEa : Nat) (zvFn : Nat) (zvFE : Nat → Int32) (zvFC : Int32) (zvFO : Bool) (zvT : Int32) (zn : Nat) (znS : Nat) (znSEa : Nat) (znSn : Nat) (znSE : Nat → Int32) (znSC : Int32) (znSO : Bool) (znP : Nat) (znPEa : Nat) (znPn : Nat) (znPE : Nat → Int32) (znPC : Int32) (znPO : Bool) (znAa : Nat) (znA : Nat → Int32) (znL : Int32) (znW : Int32) (bb : Nat) (bbNa : Nat) (bbN : Nat → Int64) (bbSa : Nat) (bbS : Nat → Int32) (bbB : Nat) (bbBEa : Nat) (bbBn : Nat) (bbBE : Nat → Int32) (bbBC : Int32) (bbBO : Bool) (bbK : Nat) (bbKWa : Nat) (bbKn : Nat) (bbKW : Nat → Int64) (bbKTa : Nat) (bbKT : Nat → Int32) (bbKC : Int32) (bbV : Nat) (bbVWa : Nat) (bbVn : Nat) (bbVW : Nat → Int64) (bbVTa : Nat) (bbVT : Nat → Int32) (bbVC : Int32) (bbT : Int32) (ou : Nat) (ouV : Nat → Int64) (k0 : Int32) (hd : X_HelpFile_show k0 hfO "java/lang/IllegalArgumentException") : CtG l y_Law_show (Cond.codeWith y_Law_show b_Law_show 4 (some .int) [(0, 9, 12, 33), (0, 9, 15, 13)] :: ga) { frames := 8, cells := 1, slots := 6, locals := 123 } (dC, dI) classes (Tys cI cL cZ) [.ref hf, .int k0, .ref ou] ((sh_HelpFile cI cL cZ hf hfS hfI hfR hfT hfC hfE (.ref zv) hfQ (.ref zn) hfD (.ref bb) hfO hfF hfY) ++ ((sh_Visits cI cL cZ zv zvB zvBEa zvBn zvBE zvBC zvBO zvF zvFEa zvFn zvFE zvFC zvFO zvT) ++ ((sh_Screen cI cL cZ zn znS znSEa znSn znSE znSC znSO znP znPEa znPn znPE znPC znPO znAa znA znL znW) ++ ((sh_Book cI cL cZ bb bbNa bbN bbSa bbS bbB bbBEa bbBn bbBE bbBC bbBO bbK bbKWa bbKn bbKW bbKTa bbKT bbKC bbV bbVWa bbVn bbVW bbVTa bbVT bbVC bbT) ++ ((sh_Out cI cL cZ ou ouV)))))) (some (.int 2)) ((sh_HelpFile cI cL cZ hf hfS hfI hfR hfT hfC hfE (.ref zv) hfQ (.ref zn) hfD (.ref bb) hfO hfF hfY) ++ ((sh_Visits cI cL cZ zv zvB zvBEa zvBn zvBE zvBC zvBO zvF zvFEa zvFn zvFE zvFC zvFO zvT) ++ ((sh_Screen cI cL cZ zn znS znSEa znSn znSE znSC znSO znP znPEa znPn znPE znPC znPO znAa znA znL znW) ++ ((sh_Book cI cL cZ bb bbNa bbN bbSa bbS bbB bbBEa bbBn bbBE bbBC bbBO bbK bbKWa bbKn bbKW bbKTa bbKT bbKC bbV bbVWa bbVn bbVW bbVTa bbVT bbVC bbT) ++ ((sh_Out cI cL cZ ou ouV)))))) := by
  refine CtG.ofW (by decide) (Nat.le_of_ble_eq_true rfl) ?_
  intro p e s m below meth c A ls hx hb hr hml hown hlocks htab hts hK hN hZ hT hNc hA hP hD hS hl
  have hown : s.vm.findClass R_Law = some m.cls := hown
  have hl : lv_has ls 4 [(0, .ref hf), (1, .int k0), (2, .ref ou)] := hl
  refine lv_aload_n hx hb d_Law_show_0 rfl (lv_at hl 2 rfl) ?_
  refine lv_iconst (v := 0) hx hb d_Law_show_1 (by decide) ?_
  refine lv_aload_n hx hb d_Law_show_2 rfl (lv_at hl 0 rfl) ?_
  refine lv_iload_n hx hb d_Law_show_3 rfl (lv_at hl 1 rfl) ?_
  refine ct_VC (As := [.int k0]) (rest := [.int 0, .ref ou]) (C := R_HelpFile) (ci := 0) (q := (R_HelpFile, F_HelpFile, 14)) (hpc2 := 15) (N1 := "java/lang/IllegalStateException") ⟨hx, hb, hml, hown, hts⟩ htab (by decide) fm_HelpFile_show (x_HelpFile_show l htr dC dI cI cL cZ hf hfS hfI hfR hfT hfC hfE hfQ hfD hfO hfF hfY zv zvB zvBEa zvBn zvBE zvBC zvBO zvF zvFEa zvFn zvFE zvFC zvFO zvT zn znS znSEa znSn znSE znSC znSO znP znPEa znPn znPE znPC znPO znAa znA znL znW bb bbNa bbN bbSa bbS bbB bbBEa bbBn bbBE bbBC bbBO bbK bbKWa bbKn bbKW bbKTa bbKT bbKC bbV bbVWa bbVn bbVW bbVTa bbVT bbVC bbT k0 "java/lang/IllegalArgumentException" hd) k827_methodLink k828_instanceMethod k829_selects ⟨Nat.le_of_ble_eq_true rfl, Nat.le_of_ble_eq_true rfl⟩ (by decide) (by decide) hK hN hZ hT hA hP hD [0, 1, 2, 3, 4, 5, 6, 7, 8, 9, 10, 11, 12, 13, 14, 15, 16, 17, 18, 19, 20, 21, 22] rfl rfl (by decide) 0 rfl rfl rfl rfl hl.1 rfl (Nat.le_of_ble_eq_true rfl) d_Law_show_4 k807_classLink (by decide) (Or.inr ⟨hNc ("java/lang/IllegalArgumentException", "java/lang/IllegalStateException") (by simp [thNl]), 13, "java/lang/IllegalArgumentException", [], rfl, by decide, k792_classLink, hT.2 (.castable "java/lang/IllegalArgumentException" "java/lang/IllegalArgumentException") (by simp [thWs])⟩) (fun x9 H hP hS => ?_)
  refine W.cs (cells' := 1) (slots' := 6) rfl rfl ?_
  refine lv_astore_n (lv' := [(3, .ref x9), (0, .ref hf), (1, .int k0), (2, .ref ou)]) hx hb d_Law_show_15 rfl hl (by decide) rfl (fun ls hl => ?_)
  refine lv_iconst (v := 2) hx hb d_Law_show_16 (by decide) ?_
  exact ct_iretG hx hb hr hlocks hK hP hD hS d_Law_show_17
abbrev b_Law_sign : ByteArray := method_15_code
def y_Law_sign : MethodName := ⟨"HelpFileLaw", "sign", "(LHelpFile;II[J)I"⟩
theorem k830_methodLink : Cond.methodLink "HelpFileLaw" 60 ⟨"HelpFile", "sign", "(II)I"⟩ ∈ ga := ga_t 1017 (by decide +kernel) rfl
theorem k831_instanceMethod : Cond.instanceMethod ⟨"HelpFile", "sign", "(II)I"⟩ ∈ ga := ga_t 1018 (by decide +kernel) rfl
theorem k832_selects : Cond.selects "HelpFile" ⟨"HelpFile", "sign", "(II)I"⟩ ⟨"HelpFile", "sign", "(II)I"⟩ ∈ ga := ga_t 1019 (by decide +kernel) rfl
def D_Law_sign (znSn : Nat) (k0 : Int32) (k1 : Int32) (znSE : Nat → Int32) (znSC : Int32) (znA : Nat → Int32) (znL : Int32) (znW : Int32) (ouV : Nat → Int64) (res : Int32) (ouV' : Nat → Int64) : Prop := (∃ r5 : Int32, D_HelpFile_sign znSn k0 k1 znSE znSC znA znL znW r5 ∧ (vp_in 0 1 ∧ (res = 0 ∧ ouV' = vp_updL ouV (Int32.toNatClampNeg 0) (Int32.toInt64 r5))))
theorem d_Law_sign_0 : decode b_Law_sign 0 = .ok (.aload_n 3, 1) := by decide +kernel
theorem d_Law_sign_1 : decode b_Law_sign 1 = .ok (.iconst 0, 1) := by decide +kernel
theorem d_Law_sign_2 : decode b_Law_sign 2 = .ok (.aload_n 0, 1) := by decide +kernel
theorem d_Law_sign_3 : decode b_Law_sign 3 = .ok (.iload_n 1, 1) := by decide +kernel
theorem d_Law_sign_4 : decode b_Law_sign 4 = .ok (.iload_n 2, 1) := by decide +kernel
theorem d_Law_sign_5 : decode b_Law_sign 5 = .ok (.invokevirtual 60, 3) := by decide +kernel
theorem d_Law_sign_8 : decode b_Law_sign 8 = .ok (.i2l, 1) := by decide +kernel
theorem d_Law_sign_9 : decode b_Law_sign 9 = .ok (.lastore, 1) := by decide +kernel
theorem d_Law_sign_10 : decode b_Law_sign 10 = .ok (.goto 7, 3) := by decide +kernel
theorem d_Law_sign_17 : decode b_Law_sign 17 = .ok (.iconst 0, 1) := by decide +kernel
theorem d_Law_sign_18 : decode b_Law_sign 18 = .ok (.ireturn, 1) := by decide +kernel
set_option maxHeartbeats 4000000 in
set_option maxRecDepth 100000 in
theorem c_Law_sign (l : Launch) (dC : Nat → ClassId) (dI : Nat → Nat → Nat) (cI cL cZ : ClassId) (hf : Nat) (hfS : Value) (hfI : Value) (hfR : Value) (hfT : Value) (hfC : Value) (hfE : Value) (hfV : Value) (hfQ : Value) (hfD : Value) (hfB : Value) (hfO : Bool) (hfF : Int32) (hfY : Int32) (zn : Nat) (znS : Nat) (znSEa : Nat) (znSn : Nat) (znSE : Nat → Int32) (znSC : Int32) (znSO : Bool) (znP : Nat) (znPEa : Nat) (znPn : Nat) (znPE : Nat → Int32) (znPC : Int32) (znPO : Bool) (znAa : Nat) (znA : Nat → Int32) (znL : Int32) (znW : Int32) (ou : Nat) (ouV : Nat → Int64) (k0 : Int32) (k1 : Int32) (res : Int32) (ouV' : Nat → Int64) (hd : D_Law_sign znSn k0 k1 znSE znSC znA znL znW ouV res ouV') : CtG l y_Law_sign (Cond.codeWith y_Law_sign b_Law_sign 5 (some .int) [(0, 10, 13, 24)] :: ga) { frames := 7, cells := 1, slots := 6, locals := 104 } (dC, dI) classes (Tys cI cL cZ) [.ref hf, .int k0, .int k1, .ref ou] ((sh_HelpFile cI cL cZ hf hfS hfI hfR hfT hfC hfE hfV hfQ (.ref zn) hfD hfB hfO hfF hfY) ++ ((sh_Screen cI cL cZ zn znS znSEa znSn znSE znSC znSO znP znPEa znPn znPE znPC znPO znAa znA znL znW) ++ ((sh_Out cI cL cZ ou ouV)))) (some (.int res)) ((sh_HelpFile cI cL cZ hf hfS hfI hfR hfT hfC hfE hfV hfQ (.ref zn) hfD hfB hfO hfF hfY) ++ ((sh_Screen cI cL cZ zn znS znSEa znSn znSE znSC znSO znP znPEa znPn znPE znPC znPO znAa znA znL znW) ++ ((sh_Out cI cL cZ ou ouV')))) := by
  refine CtG.ofW (by decide) (Nat.le_of_ble_eq_true rfl) ?_
  intro p e s m below meth c A ls hx hb hr hml hown hlocks htab hts hK hN hZ hT hNc hA hP hD hS hl
  have hown : s.vm.findClass R_Law = some m.cls := hown
  have hl : lv_has ls 5 [(0, .ref hf), (1, .int k0), (2, .int k1), (3, .ref ou)] := hl
  refine lv_aload_n hx hb d_Law_sign_0 rfl (lv_at hl 3 rfl) ?_
  refine lv_iconst (v := 0) hx hb d_Law_sign_1 (by decide) ?_
  refine lv_aload_n hx hb d_Law_sign_2 rfl (lv_at hl 0 rfl) ?_
  refine lv_iload_n hx hb d_Law_sign_3 rfl (lv_at hl 1 rfl) ?_
  refine lv_iload_n hx hb d_Law_sign_4 rfl (lv_at hl 2 rfl) ?_
  obtain ⟨r5, c5, hd⟩ := hd
  refine ct_VR (As := [.int k0, .int k1]) (rest := [.int 0, .ref ou]) (C := R_HelpFile) (ci := 0) (q := (R_HelpFile, F_HelpFile, 14)) ⟨hx, hb, hml, hown, hts⟩ fm_HelpFile_sign (c_HelpFile_sign l dC dI cI cL cZ hf hfS hfI hfR hfT hfC hfE hfV hfQ hfD hfB hfO hfF hfY zn znS znSEa znSn znSE znSC znSO znP znPEa znPn znPE znPC znPO znAa znA znL znW k0 k1 r5 c5) k830_methodLink k831_instanceMethod k832_selects ⟨Nat.le_of_ble_eq_true rfl, Nat.le_of_ble_eq_true rfl⟩ rfl rfl hK hN hP hD [0, 1, 2, 3, 4, 5, 6] rfl rfl (by decide) 0 rfl rfl rfl rfl hl.1 rfl (Nat.le_of_ble_eq_true rfl) d_Law_sign_5 ?_
  refine lv_i2l (v := Int32.toInt64 r5) hx hb d_Law_sign_8 rfl ?_
  obtain ⟨h9, hd⟩ := hd
  refine va_last hx hb hK hP hD hS 7 1 rfl rfl h9 d_Law_sign_9 (fun H locs hP hD hS => ?_)
  have hP : va_P (dC, dI) classes ((sh_HelpFile cI cL cZ hf hfS hfI hfR hfT hfC hfE hfV hfQ (.ref zn) hfD hfB hfO hfF hfY) ++ ((sh_Screen cI cL cZ zn znS znSEa znSn znSE znSC znSO znP znPEa znPn znPE znPC znPO znAa znA znL znW) ++ ((sh_Out cI cL cZ ou (vp_updL ouV (Int32.toNatClampNeg 0) (Int32.toInt64 r5)))))) H := hP
  have hD : va_D A ((sh_HelpFile cI cL cZ hf hfS hfI hfR hfT hfC hfE hfV hfQ (.ref zn) hfD hfB hfO hfF hfY) ++ ((sh_Screen cI cL cZ zn znS znSEa znSn znSE znSC znSO znP znPEa znPn znPE znPC znPO znAa znA znL znW) ++ ((sh_Out cI cL cZ ou (vp_updL ouV (Int32.toNatClampNeg 0) (Int32.toInt64 r5)))))) := hD
  refine lv_goto (tgt := 17) hx hb d_Law_sign_10 (by decide) ?_
  refine lv_iconst (v := 0) hx hb d_Law_sign_17 (by decide) ?_
  obtain ⟨e0, e1⟩ := hd
  subst e0
  subst e1
  refine W.widen (k := 1) (n := 6) (by decide) (by decide) ?_
  exact ct_iretG hx hb hr hlocks hK hP hD hS d_Law_sign_18
theorem d_Law_sign_13 : decode b_Law_sign 13 = .ok (.astore 4, 2) := by decide +kernel
theorem d_Law_sign_15 : decode b_Law_sign 15 = .ok (.iconst 1, 1) := by decide +kernel
theorem d_Law_sign_16 : decode b_Law_sign 16 = .ok (.ireturn, 1) := by decide +kernel
set_option maxHeartbeats 4000000 in
set_option maxRecDepth 100000 in
theorem t_Law_sign_1 (l : Launch) (htr : ∀ e : Env, l.admits e → e.platform.stackTraces = false) (dC : Nat → ClassId) (dI : Nat → Nat → Nat) (cI cL cZ : ClassId) (hf : Nat) (hfS : Value) (hfI : Value) (hfR : Value) (hfT : Value) (hfC : Value) (hfE : Value) (hfV : Value) (hfQ : Value) (hfD : Value) (hfB : Value) (hfO : Bool) (hfF : Int32) (hfY : Int32) (zn : Nat) (znS : Nat) (znSEa : Nat) (znSn : Nat) (znSE : Nat → Int32) (znSC : Int32) (znSO : Bool) (znP : Nat) (znPEa : Nat) (znPn : Nat) (znPE : Nat → Int32) (znPC : Int32) (znPO : Bool) (znAa : Nat) (znA : Nat → Int32) (znL : Int32) (znW : Int32) (ou : Nat) (ouV : Nat → Int64) (k0 : Int32) (k1 : Int32) (hd : X_HelpFile_sign znSn k0 k1 znSE znSC znA znL znW "java/lang/IndexOutOfBoundsException") : CtG l y_Law_sign (Cond.codeWith y_Law_sign b_Law_sign 5 (some .int) [(0, 10, 13, 24)] :: ga) { frames := 7, cells := 1, slots := 6, locals := 104 } (dC, dI) classes (Tys cI cL cZ) [.ref hf, .int k0, .int k1, .ref ou] ((sh_HelpFile cI cL cZ hf hfS hfI hfR hfT hfC hfE hfV hfQ (.ref zn) hfD hfB hfO hfF hfY) ++ ((sh_Screen cI cL cZ zn znS znSEa znSn znSE znSC znSO znP znPEa znPn znPE znPC znPO znAa znA znL znW) ++ ((sh_Out cI cL cZ ou ouV)))) (some (.int 1)) ((sh_HelpFile cI cL cZ hf hfS hfI hfR hfT hfC hfE hfV hfQ (.ref zn) hfD hfB hfO hfF hfY) ++ ((sh_Screen cI cL cZ zn znS znSEa znSn znSE znSC znSO znP znPEa znPn znPE znPC znPO znAa znA znL znW) ++ ((sh_Out cI cL cZ ou ouV)))) := by
  refine CtG.ofW (by decide) (Nat.le_of_ble_eq_true rfl) ?_
  intro p e s m below meth c A ls hx hb hr hml hown hlocks htab hts hK hN hZ hT hNc hA hP hD hS hl
  have hown : s.vm.findClass R_Law = some m.cls := hown
  have hl : lv_has ls 5 [(0, .ref hf), (1, .int k0), (2, .int k1), (3, .ref ou)] := hl
  refine lv_aload_n hx hb d_Law_sign_0 rfl (lv_at hl 3 rfl) ?_
  refine lv_iconst (v := 0) hx hb d_Law_sign_1 (by decide) ?_
  refine lv_aload_n hx hb d_Law_sign_2 rfl (lv_at hl 0 rfl) ?_
  refine lv_iload_n hx hb d_Law_sign_3 rfl (lv_at hl 1 rfl) ?_
  refine lv_iload_n hx hb d_Law_sign_4 rfl (lv_at hl 2 rfl) ?_
  refine ct_VC (As := [.int k0, .int k1]) (rest := [.int 0, .ref ou]) (C := R_HelpFile) (ci := 0) (q := (R_HelpFile, F_HelpFile, 14)) (hpc2 := 13) (N1 := "java/lang/IndexOutOfBoundsException") ⟨hx, hb, hml, hown, hts⟩ htab (by decide) fm_HelpFile_sign (x_HelpFile_sign l htr dC dI cI cL cZ hf hfS hfI hfR hfT hfC hfE hfV hfQ hfD hfB hfO hfF hfY zn znS znSEa znSn znSE znSC znSO znP znPEa znPn znPE znPC znPO znAa znA znL znW k0 k1 "java/lang/IndexOutOfBoundsException" hd) k830_methodLink k831_instanceMethod k832_selects ⟨Nat.le_of_ble_eq_true rfl, Nat.le_of_ble_eq_true rfl⟩ (by decide) (by decide) hK hN hZ hT hA hP hD [0, 1, 2, 3, 4, 5, 6] rfl rfl (by decide) 0 rfl rfl rfl rfl hl.1 rfl (Nat.le_of_ble_eq_true rfl) d_Law_sign_5 k800_classLink (by decide) (Or.inl ⟨hT.2 (.castable "java/lang/IndexOutOfBoundsException" "java/lang/IndexOutOfBoundsException") (by simp [thWs]), rfl⟩) (fun x9 H hP hS => ?_)
  refine W.cs (cells' := 1) (slots' := 6) rfl rfl ?_
  refine lv_astore (lv' := [(4, .ref x9), (0, .ref hf), (1, .int k0), (2, .int k1), (3, .ref ou)]) hx hb d_Law_sign_13 hl (by decide) rfl (fun ls hl => ?_)
  refine lv_iconst (v := 1) hx hb d_Law_sign_15 (by decide) ?_
  exact ct_iretG hx hb hr hlocks hK hP hD hS d_Law_sign_16
