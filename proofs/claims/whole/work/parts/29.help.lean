/-! 29.help: what each method does, read off its bytecode (D_..), and its contract (c_..); written by a program of mine. -/
-- HelpFile.compile
abbrev b_HelpFile_compile : ByteArray := prog_1_method_4_code
def y_HelpFile_compile : MethodName := ⟨"HelpFile", "compile", "()I"⟩
theorem k365_fieldLink : Cond.fieldLink "HelpFile" 30 "HelpFile" "compiler" "LHelpFile$Compiler;" ∈ ga := ga_t 230 (by decide +kernel) rfl
theorem k366_fieldLink : Cond.fieldLink "HelpFile" 14 "HelpFile" "source" "LHelpFile$Row;" ∈ ga := ga_t 226 (by decide +kernel) rfl
theorem k367_fieldLink : Cond.fieldLink "HelpFile" 65 "HelpFile" "draft" "LHelpFile$Book;" ∈ ga := ga_t 235 (by decide +kernel) rfl
theorem k368_methodLink : Cond.methodLink "HelpFile" 111 ⟨"HelpFile$Compiler", "translate", "(LHelpFile$Row;LHelpFile$Book;)I"⟩ ∈ ga := ga_t 273 (by decide +kernel) rfl
theorem k369_instanceMethod : Cond.instanceMethod ⟨"HelpFile$Compiler", "translate", "(LHelpFile$Row;LHelpFile$Book;)I"⟩ ∈ ga := ga_t 274 (by decide +kernel) rfl
theorem k370_selects : Cond.selects "HelpFile$Compiler" ⟨"HelpFile$Compiler", "translate", "(LHelpFile$Row;LHelpFile$Book;)I"⟩ ⟨"HelpFile$Compiler", "translate", "(LHelpFile$Row;LHelpFile$Book;)I"⟩ ∈ ga := ga_t 275 (by decide +kernel) rfl
theorem k371_methodLink : Cond.methodLink "HelpFile" 115 ⟨"HelpFile$Compiler", "faultLine", "()I"⟩ ∈ ga := ga_t 437 (by decide +kernel) rfl
theorem k372_instanceMethod : Cond.instanceMethod ⟨"HelpFile$Compiler", "faultLine", "()I"⟩ ∈ ga := ga_t 438 (by decide +kernel) rfl
theorem k373_selects : Cond.selects "HelpFile$Compiler" ⟨"HelpFile$Compiler", "faultLine", "()I"⟩ ⟨"HelpFile$Compiler", "faultLine", "()I"⟩ ∈ ga := ga_t 439 (by decide +kernel) rfl
theorem k374_fieldLink : Cond.fieldLink "HelpFile" 76 "HelpFile" "faultLine" "I" ∈ ga := ga_t 238 (by decide +kernel) rfl
theorem k375_methodLink : Cond.methodLink "HelpFile" 117 ⟨"HelpFile$Book", "gatherWords", "()V"⟩ ∈ ga := ga_t 441 (by decide +kernel) rfl
theorem k376_instanceMethod : Cond.instanceMethod ⟨"HelpFile$Book", "gatherWords", "()V"⟩ ∈ ga := ga_t 442 (by decide +kernel) rfl
theorem k377_selects : Cond.selects "HelpFile$Book" ⟨"HelpFile$Book", "gatherWords", "()V"⟩ ⟨"HelpFile$Book", "gatherWords", "()V"⟩ ∈ ga := ga_t 443 (by decide +kernel) rfl
theorem k378_fieldLink : Cond.fieldLink "HelpFile" 18 "HelpFile" "image" "LHelpFile$Row;" ∈ ga := ga_t 227 (by decide +kernel) rfl
theorem k379_methodLink : Cond.methodLink "HelpFile" 120 ⟨"HelpFile$ImageWriter", "write", "(LHelpFile$Book;LHelpFile$Row;)V"⟩ ∈ ga := ga_t 447 (by decide +kernel) rfl
theorem k380_static : Cond.static ⟨"HelpFile$ImageWriter", "write", "(LHelpFile$Book;LHelpFile$Row;)V"⟩ ∈ ga := ga_t 448 (by decide +kernel) rfl
set_option maxRecDepth 100000 in
theorem fm_HelpFile_compile : Fm y_HelpFile_compile b_HelpFile_compile 2 (some .int) 0 := ⟨ga_t 272 rfl rfl, k54_initialized, by decide, by decide, by decide +kernel⟩
def D_HelpFile_compile (zsn : Nat) (zin : Nat) (baBn : Nat) (baKn : Nat) (baVn : Nat) (hfF : Int32) (zsE : Nat → Int32) (zsC : Int32) (ziE : Nat → Int32) (ziC : Int32) (ziO : Bool) (zcH : Nat → Int32) (zcN : Nat → Int64) (zcL : Nat → Int32) (zcP : Nat → Int32) (zcK : Int32) (zcF : Int32) (zcE : Int32) (zcW : Int32) (zcX : Int32) (zcI : Bool) (zcD : Bool) (zcM : Bool) (baN : Nat → Int64) (baS : Nat → Int32) (baBE : Nat → Int32) (baBC : Int32) (baBO : Bool) (baKW : Nat → Int64) (baKT : Nat → Int32) (baKC : Int32) (baVW : Nat → Int64) (baVT : Nat → Int32) (baVC : Int32) (baT : Int32) (res : Int32) (hfF' : Int32) (ziE' : Nat → Int32) (ziC' : Int32) (ziO' : Bool) (zcH' : Nat → Int32) (zcN' : Nat → Int64) (zcL' : Nat → Int32) (zcP' : Nat → Int32) (zcK' : Int32) (zcF' : Int32) (zcE' : Int32) (zcW' : Int32) (zcX' : Int32) (zcI' : Bool) (zcD' : Bool) (zcM' : Bool) (baN' : Nat → Int64) (baS' : Nat → Int32) (baBE' : Nat → Int32) (baBC' : Int32) (baBO' : Bool) (baKW' : Nat → Int64) (baKT' : Nat → Int32) (baKC' : Int32) (baVW' : Nat → Int64) (baVT' : Nat → Int32) (baVC' : Int32) (baT' : Int32) : Prop := (∃ r12 : Int32, ∃ zcH_12 : Nat → Int32, ∃ zcN_12 : Nat → Int64, ∃ zcL_12 : Nat → Int32, ∃ zcP_12 : Nat → Int32, ∃ zcK_12 : Int32, ∃ zcF_12 : Int32, ∃ zcE_12 : Int32, ∃ zcW_12 : Int32, ∃ zcX_12 : Int32, ∃ zcI_12 : Bool, ∃ zcD_12 : Bool, ∃ zcM_12 : Bool, ∃ baN_12 : Nat → Int64, ∃ baS_12 : Nat → Int32, ∃ baBE_12 : Nat → Int32, ∃ baBC_12 : Int32, ∃ baBO_12 : Bool, ∃ baKW_12 : Nat → Int64, ∃ baKT_12 : Nat → Int32, ∃ baKC_12 : Int32, ∃ baT_12 : Int32, D_Compiler_translate zsn baBn baKn zcH zcN zcL zcP zcK zcF zcE zcW zcX zcI zcD zcM zsE zsC baN baS baBE baBC baBO baKW baKT baKC baT r12 zcH_12 zcN_12 zcL_12 zcP_12 zcK_12 zcF_12 zcE_12 zcW_12 zcX_12 zcI_12 zcD_12 zcM_12 baN_12 baS_12 baBE_12 baBC_12 baBO_12 baKW_12 baKT_12 baKC_12 baT_12 ∧ ((r12 = 0 → (∃ baVW_35 : Nat → Int64, ∃ baVT_35 : Nat → Int32, ∃ baVC_35 : Int32, D_Book_gatherWords baBn baVn baS_12 baBE_12 baBC_12 baVW baVT baVC baT_12 baVW_35 baVT_35 baVC_35 ∧ (∃ ziE_46 : Nat → Int32, ∃ ziC_46 : Int32, ∃ ziO_46 : Bool, D_ImageWriter_write baBn baKn baVn zin baN_12 baS_12 baBE_12 baBC_12 baKW_12 baKT_12 baKC_12 baVW_35 baVT_35 baVC_35 baT_12 ziE ziC ziO ziE_46 ziC_46 ziO_46 ∧ (res = r12 ∧ hfF' = zcE_12 ∧ ziE' = ziE_46 ∧ ziC' = ziC_46 ∧ ziO' = ziO_46 ∧ zcH' = zcH_12 ∧ zcN' = zcN_12 ∧ zcL' = zcL_12 ∧ zcP' = zcP_12 ∧ zcK' = zcK_12 ∧ zcF' = zcF_12 ∧ zcE' = zcE_12 ∧ zcW' = zcW_12 ∧ zcX' = zcX_12 ∧ zcI' = zcI_12 ∧ zcD' = zcD_12 ∧ zcM' = zcM_12 ∧ baN' = baN_12 ∧ baS' = baS_12 ∧ baBE' = baBE_12 ∧ baBC' = baBC_12 ∧ baBO' = baBO_12 ∧ baKW' = baKW_12 ∧ baKT' = baKT_12 ∧ baKC' = baKC_12 ∧ baVW' = baVW_35 ∧ baVT' = baVT_35 ∧ baVC' = baVC_35 ∧ baT' = baT_12)))) ∧ (¬ (r12 = 0) → (res = r12 ∧ hfF' = zcE_12 ∧ ziE' = ziE ∧ ziC' = ziC ∧ ziO' = ziO ∧ zcH' = zcH_12 ∧ zcN' = zcN_12 ∧ zcL' = zcL_12 ∧ zcP' = zcP_12 ∧ zcK' = zcK_12 ∧ zcF' = zcF_12 ∧ zcE' = zcE_12 ∧ zcW' = zcW_12 ∧ zcX' = zcX_12 ∧ zcI' = zcI_12 ∧ zcD' = zcD_12 ∧ zcM' = zcM_12 ∧ baN' = baN_12 ∧ baS' = baS_12 ∧ baBE' = baBE_12 ∧ baBC' = baBC_12 ∧ baBO' = baBO_12 ∧ baKW' = baKW_12 ∧ baKT' = baKT_12 ∧ baKC' = baKC_12 ∧ baVW' = baVW ∧ baVT' = baVT ∧ baVC' = baVC ∧ baT' = baT_12))))
theorem d_HelpFile_compile_0 : decode b_HelpFile_compile 0 = .ok (.aload_n 0, 1) := by decide +kernel
theorem d_HelpFile_compile_1 : decode b_HelpFile_compile 1 = .ok (.getfield 30, 3) := by decide +kernel
theorem d_HelpFile_compile_4 : decode b_HelpFile_compile 4 = .ok (.aload_n 0, 1) := by decide +kernel
theorem d_HelpFile_compile_5 : decode b_HelpFile_compile 5 = .ok (.getfield 14, 3) := by decide +kernel
theorem d_HelpFile_compile_8 : decode b_HelpFile_compile 8 = .ok (.aload_n 0, 1) := by decide +kernel
theorem d_HelpFile_compile_9 : decode b_HelpFile_compile 9 = .ok (.getfield 65, 3) := by decide +kernel
theorem d_HelpFile_compile_12 : decode b_HelpFile_compile 12 = .ok (.invokevirtual 111, 3) := by decide +kernel
theorem d_HelpFile_compile_15 : decode b_HelpFile_compile 15 = .ok (.istore_n 1, 1) := by decide +kernel
theorem d_HelpFile_compile_16 : decode b_HelpFile_compile 16 = .ok (.aload_n 0, 1) := by decide +kernel
theorem d_HelpFile_compile_17 : decode b_HelpFile_compile 17 = .ok (.aload_n 0, 1) := by decide +kernel
theorem d_HelpFile_compile_18 : decode b_HelpFile_compile 18 = .ok (.getfield 30, 3) := by decide +kernel
theorem d_HelpFile_compile_21 : decode b_HelpFile_compile 21 = .ok (.invokevirtual 115, 3) := by decide +kernel
theorem d_HelpFile_compile_24 : decode b_HelpFile_compile 24 = .ok (.putfield 76, 3) := by decide +kernel
theorem d_HelpFile_compile_27 : decode b_HelpFile_compile 27 = .ok (.iload_n 1, 1) := by decide +kernel
theorem d_HelpFile_compile_28 : decode b_HelpFile_compile 28 = .ok (.ifCond .ne 21, 3) := by decide +kernel
theorem d_HelpFile_compile_31 : decode b_HelpFile_compile 31 = .ok (.aload_n 0, 1) := by decide +kernel
theorem d_HelpFile_compile_32 : decode b_HelpFile_compile 32 = .ok (.getfield 65, 3) := by decide +kernel
theorem d_HelpFile_compile_35 : decode b_HelpFile_compile 35 = .ok (.invokevirtual 117, 3) := by decide +kernel
theorem d_HelpFile_compile_38 : decode b_HelpFile_compile 38 = .ok (.aload_n 0, 1) := by decide +kernel
theorem d_HelpFile_compile_39 : decode b_HelpFile_compile 39 = .ok (.getfield 65, 3) := by decide +kernel
theorem d_HelpFile_compile_42 : decode b_HelpFile_compile 42 = .ok (.aload_n 0, 1) := by decide +kernel
theorem d_HelpFile_compile_43 : decode b_HelpFile_compile 43 = .ok (.getfield 18, 3) := by decide +kernel
theorem d_HelpFile_compile_46 : decode b_HelpFile_compile 46 = .ok (.invokestatic 120, 3) := by decide +kernel
theorem d_HelpFile_compile_49 : decode b_HelpFile_compile 49 = .ok (.iload_n 1, 1) := by decide +kernel
theorem d_HelpFile_compile_50 : decode b_HelpFile_compile 50 = .ok (.ireturn, 1) := by decide +kernel
set_option maxHeartbeats 4000000 in
set_option maxRecDepth 100000 in
theorem c_HelpFile_compile (l : Launch) (dC : Nat → ClassId) (dI : Nat → Nat → Nat) (cI cL cZ : ClassId) (hf : Nat) (hfR : Value) (hfT : Value) (hfE : Value) (hfV : Value) (hfQ : Value) (hfN : Value) (hfB : Value) (hfO : Bool) (hfF : Int32) (hfY : Int32) (zs : Nat) (zsEa : Nat) (zsn : Nat) (zsE : Nat → Int32) (zsC : Int32) (zsO : Bool) (zi : Nat) (ziEa : Nat) (zin : Nat) (ziE : Nat → Int32) (ziC : Int32) (ziO : Bool) (zc : Nat) (zcHa : Nat) (zcH : Nat → Int32) (zcNa : Nat) (zcN : Nat → Int64) (zcLa : Nat) (zcL : Nat → Int32) (zcPa : Nat) (zcP : Nat → Int32) (zcK : Int32) (zcS : Value) (zcB : Value) (zcF : Int32) (zcE : Int32) (zcW : Int32) (zcX : Int32) (zcI : Bool) (zcD : Bool) (zcM : Bool) (ba : Nat) (baNa : Nat) (baN : Nat → Int64) (baSa : Nat) (baS : Nat → Int32) (baB : Nat) (baBEa : Nat) (baBn : Nat) (baBE : Nat → Int32) (baBC : Int32) (baBO : Bool) (baK : Nat) (baKWa : Nat) (baKn : Nat) (baKW : Nat → Int64) (baKTa : Nat) (baKT : Nat → Int32) (baKC : Int32) (baV : Nat) (baVWa : Nat) (baVn : Nat) (baVW : Nat → Int64) (baVTa : Nat) (baVT : Nat → Int32) (baVC : Int32) (baT : Int32) (res : Int32) (hfF' : Int32) (ziE' : Nat → Int32) (ziC' : Int32) (ziO' : Bool) (zcH' : Nat → Int32) (zcN' : Nat → Int64) (zcL' : Nat → Int32) (zcP' : Nat → Int32) (zcK' : Int32) (zcF' : Int32) (zcE' : Int32) (zcW' : Int32) (zcX' : Int32) (zcI' : Bool) (zcD' : Bool) (zcM' : Bool) (baN' : Nat → Int64) (baS' : Nat → Int32) (baBE' : Nat → Int32) (baBC' : Int32) (baBO' : Bool) (baKW' : Nat → Int64) (baKT' : Nat → Int32) (baKC' : Int32) (baVW' : Nat → Int64) (baVT' : Nat → Int32) (baVC' : Int32) (baT' : Int32) (hd : D_HelpFile_compile zsn zin baBn baKn baVn hfF zsE zsC ziE ziC ziO zcH zcN zcL zcP zcK zcF zcE zcW zcX zcI zcD zcM baN baS baBE baBC baBO baKW baKT baKC baVW baVT baVC baT res hfF' ziE' ziC' ziO' zcH' zcN' zcL' zcP' zcK' zcF' zcE' zcW' zcX' zcI' zcD' zcM' baN' baS' baBE' baBC' baBO' baKW' baKT' baKC' baVW' baVT' baVC' baT') : Ctr l y_HelpFile_compile (Cond.code y_HelpFile_compile b_HelpFile_compile 2 (some .int) :: ga) { frames := 6, cells := 0, slots := 0, locals := 144 } (dC, dI) classes (Tys cI cL cZ) [.ref hf] ((sh_HelpFile cI cL cZ hf (.ref zs) (.ref zi) hfR hfT (.ref zc) hfE hfV hfQ hfN (.ref ba) hfB hfO hfF hfY) ++ ((sh_Row cI cL cZ zs zsEa zsn zsE zsC zsO) ++ ((sh_Row cI cL cZ zi ziEa zin ziE ziC ziO) ++ ((sh_Compiler cI cL cZ zc zcHa zcH zcNa zcN zcLa zcL zcPa zcP zcK zcS zcB zcF zcE zcW zcX zcI zcD zcM) ++ ((sh_Book cI cL cZ ba baNa baN baSa baS baB baBEa baBn baBE baBC baBO baK baKWa baKn baKW baKTa baKT baKC baV baVWa baVn baVW baVTa baVT baVC baT)))))) (some (.int res)) ((sh_HelpFile cI cL cZ hf (.ref zs) (.ref zi) hfR hfT (.ref zc) hfE hfV hfQ hfN (.ref ba) hfB hfO hfF' hfY) ++ ((sh_Row cI cL cZ zs zsEa zsn zsE zsC zsO) ++ ((sh_Row cI cL cZ zi ziEa zin ziE' ziC' ziO') ++ ((sh_Compiler cI cL cZ zc zcHa zcH' zcNa zcN' zcLa zcL' zcPa zcP' zcK' (.ref zs) (.ref ba) zcF' zcE' zcW' zcX' zcI' zcD' zcM') ++ ((sh_Book cI cL cZ ba baNa baN' baSa baS' baB baBEa baBn baBE' baBC' baBO' baK baKWa baKn baKW' baKTa baKT' baKC' baV baVWa baVn baVW' baVTa baVT' baVC' baT')))))) := by
  refine Ctr.ofW (by decide) (Nat.le_of_ble_eq_true rfl) ?_
  intro p e s m below meth c A ls hx hb hr hml hown hlocks hts hK hN hA hP hD hS hl
  have hown : s.vm.findClass R_HelpFile = some m.cls := hown
  have hl : lv_has ls 2 [(0, .ref hf)] := hl
  refine lv_aload_n hx hb d_HelpFile_compile_0 rfl (lv_at hl 0 rfl) ?_
  refine va_get (D := (dC, dI)) (ci := 0) (v := .ref zc) (C := R_HelpFile) (T := F_HelpFile) (N := 14) hx hb hts in_HelpFile hown hK hP 0 rfl rfl 4 (by decide) (hts _ (List.mem_cons_of_mem _ k365_fieldLink)) (fun _ h9 => h9) rfl d_HelpFile_compile_1 ?_
  refine lv_aload_n hx hb d_HelpFile_compile_4 rfl (lv_at hl 0 rfl) ?_
  refine va_get (D := (dC, dI)) (ci := 0) (v := .ref zs) (C := R_HelpFile) (T := F_HelpFile) (N := 14) hx hb hts in_HelpFile hown hK hP 0 rfl rfl 0 (by decide) (hts _ (List.mem_cons_of_mem _ k366_fieldLink)) (fun _ h9 => h9) rfl d_HelpFile_compile_5 ?_
  refine lv_aload_n hx hb d_HelpFile_compile_8 rfl (lv_at hl 0 rfl) ?_
  refine va_get (D := (dC, dI)) (ci := 0) (v := .ref ba) (C := R_HelpFile) (T := F_HelpFile) (N := 14) hx hb hts in_HelpFile hown hK hP 0 rfl rfl 9 (by decide) (hts _ (List.mem_cons_of_mem _ k367_fieldLink)) (fun _ h9 => h9) rfl d_HelpFile_compile_9 ?_
  obtain ⟨r12, zcH_12, zcN_12, zcL_12, zcP_12, zcK_12, zcF_12, zcE_12, zcW_12, zcX_12, zcI_12, zcD_12, zcM_12, baN_12, baS_12, baBE_12, baBC_12, baBO_12, baKW_12, baKT_12, baKC_12, baT_12, c12, hd⟩ := hd
  refine ct_V (As := [.ref zs, .ref ba]) (rest := []) (C := R_Compiler) (ci := 4) (q := (R_Compiler, F_Compiler, 14)) ⟨hx, hb, hml, hown, hts⟩ fm_Compiler_translate (c_Compiler_translate l dC dI cI cL cZ zc zcHa zcH zcNa zcN zcLa zcL zcPa zcP zcK zcS zcB zcF zcE zcW zcX zcI zcD zcM zs zsEa zsn zsE zsC zsO ba baNa baN baSa baS baB baBEa baBn baBE baBC baBO baK baKWa baKn baKW baKTa baKT baKC baV baVWa baVn baVW baVTa baVT baVC baT r12 zcH_12 zcN_12 zcL_12 zcP_12 zcK_12 zcF_12 zcE_12 zcW_12 zcX_12 zcI_12 zcD_12 zcM_12 baN_12 baS_12 baBE_12 baBC_12 baBO_12 baKW_12 baKT_12 baKC_12 baT_12 c12) k368_methodLink k369_instanceMethod k370_selects ⟨Nat.le_of_ble_eq_true rfl, Nat.le_of_ble_eq_true rfl⟩ rfl rfl hK hN hP hD hS hA [5, 6, 7, 8, 9, 1, 2, 10, 11, 12, 13, 14, 15, 16, 17, 18, 19, 20] [0, 3, 4] rfl rfl rfl (by decide) (by decide) (by decide) 5 rfl rfl rfl rfl hl.1 rfl (Nat.le_of_ble_eq_true rfl) d_HelpFile_compile_12 (fun H locs hP hD hS => ?_)
  have hP : va_P (dC, dI) classes ((sh_HelpFile cI cL cZ hf (.ref zs) (.ref zi) hfR hfT (.ref zc) hfE hfV hfQ hfN (.ref ba) hfB hfO hfF hfY) ++ ((sh_Row cI cL cZ zs zsEa zsn zsE zsC zsO) ++ ((sh_Row cI cL cZ zi ziEa zin ziE ziC ziO) ++ ((sh_Compiler cI cL cZ zc zcHa zcH_12 zcNa zcN_12 zcLa zcL_12 zcPa zcP_12 zcK_12 (.ref zs) (.ref ba) zcF_12 zcE_12 zcW_12 zcX_12 zcI_12 zcD_12 zcM_12) ++ ((sh_Book cI cL cZ ba baNa baN_12 baSa baS_12 baB baBEa baBn baBE_12 baBC_12 baBO_12 baK baKWa baKn baKW_12 baKTa baKT_12 baKC_12 baV baVWa baVn baVW baVTa baVT baVC baT_12)))))) H := hP.sub [0, 8, 9, 1, 2, 3, 4, 5, 6, 7, 10, 11, 12, 13, 14, 15, 16, 17, 18, 19, 20] rfl
  have hD : va_D A ((sh_HelpFile cI cL cZ hf (.ref zs) (.ref zi) hfR hfT (.ref zc) hfE hfV hfQ hfN (.ref ba) hfB hfO hfF hfY) ++ ((sh_Row cI cL cZ zs zsEa zsn zsE zsC zsO) ++ ((sh_Row cI cL cZ zi ziEa zin ziE ziC ziO) ++ ((sh_Compiler cI cL cZ zc zcHa zcH_12 zcNa zcN_12 zcLa zcL_12 zcPa zcP_12 zcK_12 (.ref zs) (.ref ba) zcF_12 zcE_12 zcW_12 zcX_12 zcI_12 zcD_12 zcM_12) ++ ((sh_Book cI cL cZ ba baNa baN_12 baSa baS_12 baB baBEa baBn baBE_12 baBC_12 baBO_12 baK baKWa baKn baKW_12 baKTa baKT_12 baKC_12 baV baVWa baVn baVW baVTa baVT baVC baT_12)))))) := hD.sub [0, 8, 9, 1, 2, 3, 4, 5, 6, 7, 10, 11, 12, 13, 14, 15, 16, 17, 18, 19, 20] (by decide) rfl
  refine lv_istore_n (lv' := [(1, .int r12), (0, .ref hf)]) hx hb d_HelpFile_compile_15 rfl hl (by decide) rfl (fun ls hl => ?_)
  refine lv_aload_n hx hb d_HelpFile_compile_16 rfl (lv_at hl 1 rfl) ?_
  refine lv_aload_n hx hb d_HelpFile_compile_17 rfl (lv_at hl 1 rfl) ?_
  refine va_get (D := (dC, dI)) (ci := 0) (v := .ref zc) (C := R_HelpFile) (T := F_HelpFile) (N := 14) hx hb hts in_HelpFile hown hK hP 0 rfl rfl 4 (by decide) (hts _ (List.mem_cons_of_mem _ k365_fieldLink)) (fun _ h9 => h9) rfl d_HelpFile_compile_18 ?_
  refine ct_VR (As := []) (rest := [.ref hf]) (C := R_Compiler) (ci := 4) (q := (R_Compiler, F_Compiler, 14)) ⟨hx, hb, hml, hown, hts⟩ fm_Compiler_faultLine (c_Compiler_faultLine l dC dI cI cL cZ zc zcHa zcH_12 zcNa zcN_12 zcLa zcL_12 zcPa zcP_12 zcK_12 (.ref zs) (.ref ba) zcF_12 zcE_12 zcW_12 zcX_12 zcI_12 zcD_12 zcM_12 zcE_12 rfl) k371_methodLink k372_instanceMethod k373_selects ⟨Nat.le_of_ble_eq_true rfl, Nat.le_of_ble_eq_true rfl⟩ rfl rfl hK hN hP hD [5, 6, 7, 8, 9] rfl rfl (by decide) 5 rfl rfl rfl rfl hl.1 rfl (Nat.le_of_ble_eq_true rfl) d_HelpFile_compile_21 ?_
  refine va_put (D := (dC, dI)) (ci := 0) (v := .int zcE_12) (ty := t_HelpFile 12) (C := R_HelpFile) (T := F_HelpFile) (N := 14) hx hb hts in_HelpFile t_HelpFile t_HelpFile_ok n_HelpFile hown hK hP hD hS 0 rfl rfl 12 (by decide) (hts _ (List.mem_cons_of_mem _ k374_fieldLink)) (fun _ h9 => h9) rfl (t_HelpFile_ok 12 (by decide)) rfl rfl (Nat.le_of_ble_eq_true rfl) d_HelpFile_compile_24 (fun H locs hP hD hS => ?_)
  have hP : va_P (dC, dI) classes ((sh_HelpFile cI cL cZ hf (.ref zs) (.ref zi) hfR hfT (.ref zc) hfE hfV hfQ hfN (.ref ba) hfB hfO zcE_12 hfY) ++ ((sh_Row cI cL cZ zs zsEa zsn zsE zsC zsO) ++ ((sh_Row cI cL cZ zi ziEa zin ziE ziC ziO) ++ ((sh_Compiler cI cL cZ zc zcHa zcH_12 zcNa zcN_12 zcLa zcL_12 zcPa zcP_12 zcK_12 (.ref zs) (.ref ba) zcF_12 zcE_12 zcW_12 zcX_12 zcI_12 zcD_12 zcM_12) ++ ((sh_Book cI cL cZ ba baNa baN_12 baSa baS_12 baB baBEa baBn baBE_12 baBC_12 baBO_12 baK baKWa baKn baKW_12 baKTa baKT_12 baKC_12 baV baVWa baVn baVW baVTa baVT baVC baT_12)))))) H := hP
  have hD : va_D A ((sh_HelpFile cI cL cZ hf (.ref zs) (.ref zi) hfR hfT (.ref zc) hfE hfV hfQ hfN (.ref ba) hfB hfO zcE_12 hfY) ++ ((sh_Row cI cL cZ zs zsEa zsn zsE zsC zsO) ++ ((sh_Row cI cL cZ zi ziEa zin ziE ziC ziO) ++ ((sh_Compiler cI cL cZ zc zcHa zcH_12 zcNa zcN_12 zcLa zcL_12 zcPa zcP_12 zcK_12 (.ref zs) (.ref ba) zcF_12 zcE_12 zcW_12 zcX_12 zcI_12 zcD_12 zcM_12) ++ ((sh_Book cI cL cZ ba baNa baN_12 baSa baS_12 baB baBEa baBn baBE_12 baBC_12 baBO_12 baK baKWa baKn baKW_12 baKTa baKT_12 baKC_12 baV baVWa baVn baVW baVTa baVT baVC baT_12)))))) := hD
  refine lv_iload_n hx hb d_HelpFile_compile_27 rfl (lv_at hl 0 rfl) ?_
  refine lv_if_ne (tgt := 49) hx hb d_HelpFile_compile_28 (by decide) (fun h28 => ?_) (fun h28 => ?_)
  · have hd := hd.2 h28
    refine lv_iload_n hx hb d_HelpFile_compile_49 rfl (lv_at hl 0 rfl) ?_
    obtain ⟨e0, e1, e2, e3, e4, e5, e6, e7, e8, e9, e10, e11, e12, e13, e14, e15, e16, e17, e18, e19, e20, e21, e22, e23, e24, e25, e26, e27, e28⟩ := hd
    subst e0
    subst e1
    subst e2
    subst e3
    subst e4
    subst e5
    subst e6
    subst e7
    subst e8
    subst e9
    subst e10
    subst e11
    subst e12
    subst e13
    subst e14
    subst e15
    subst e16
    subst e17
    subst e18
    subst e19
    subst e20
    subst e21
    subst e22
    subst e23
    subst e24
    subst e25
    subst e26
    subst e27
    subst e28
    exact ct_iret hx hb hr hlocks hK hP hD hS d_HelpFile_compile_50
  · have hd := hd.1 h28
    refine lv_aload_n hx hb d_HelpFile_compile_31 rfl (lv_at hl 1 rfl) ?_
    refine va_get (D := (dC, dI)) (ci := 0) (v := .ref ba) (C := R_HelpFile) (T := F_HelpFile) (N := 14) hx hb hts in_HelpFile hown hK hP 0 rfl rfl 9 (by decide) (hts _ (List.mem_cons_of_mem _ k367_fieldLink)) (fun _ h9 => h9) rfl d_HelpFile_compile_32 ?_
    obtain ⟨baVW_35, baVT_35, baVC_35, c35, hd⟩ := hd
    refine ct_V (As := []) (rest := []) (C := R_Book) (ci := 3) (q := (R_Book, F_Book, 6)) ⟨hx, hb, hml, hown, hts⟩ fm_Book_gatherWords (c_Book_gatherWords l dC dI cI cL cZ ba baNa baN_12 baSa baS_12 baB baBEa baBn baBE_12 baBC_12 baBO_12 baK baKWa baKn baKW_12 baKTa baKT_12 baKC_12 baV baVWa baVn baVW baVTa baVT baVC baT_12 baVW_35 baVT_35 baVC_35 c35) k375_methodLink k376_instanceMethod k377_selects ⟨Nat.le_of_ble_eq_true rfl, Nat.le_of_ble_eq_true rfl⟩ rfl rfl hK hN hP hD hS hA [10, 11, 12, 13, 14, 15, 16, 17, 18, 19, 20] [0, 1, 2, 3, 4, 5, 6, 7, 8, 9] rfl rfl rfl (by decide) (by decide) (by decide) 10 rfl rfl rfl rfl hl.1 rfl (Nat.le_of_ble_eq_true rfl) d_HelpFile_compile_35 (fun H locs hP hD hS => ?_)
    have hP : va_P (dC, dI) classes ((sh_HelpFile cI cL cZ hf (.ref zs) (.ref zi) hfR hfT (.ref zc) hfE hfV hfQ hfN (.ref ba) hfB hfO zcE_12 hfY) ++ ((sh_Row cI cL cZ zs zsEa zsn zsE zsC zsO) ++ ((sh_Row cI cL cZ zi ziEa zin ziE ziC ziO) ++ ((sh_Compiler cI cL cZ zc zcHa zcH_12 zcNa zcN_12 zcLa zcL_12 zcPa zcP_12 zcK_12 (.ref zs) (.ref ba) zcF_12 zcE_12 zcW_12 zcX_12 zcI_12 zcD_12 zcM_12) ++ ((sh_Book cI cL cZ ba baNa baN_12 baSa baS_12 baB baBEa baBn baBE_12 baBC_12 baBO_12 baK baKWa baKn baKW_12 baKTa baKT_12 baKC_12 baV baVWa baVn baVW_35 baVTa baVT_35 baVC_35 baT_12)))))) H := hP.sub [0, 1, 2, 3, 4, 5, 6, 7, 8, 9, 10, 11, 12, 13, 14, 15, 16, 17, 18, 19, 20] rfl
    have hD : va_D A ((sh_HelpFile cI cL cZ hf (.ref zs) (.ref zi) hfR hfT (.ref zc) hfE hfV hfQ hfN (.ref ba) hfB hfO zcE_12 hfY) ++ ((sh_Row cI cL cZ zs zsEa zsn zsE zsC zsO) ++ ((sh_Row cI cL cZ zi ziEa zin ziE ziC ziO) ++ ((sh_Compiler cI cL cZ zc zcHa zcH_12 zcNa zcN_12 zcLa zcL_12 zcPa zcP_12 zcK_12 (.ref zs) (.ref ba) zcF_12 zcE_12 zcW_12 zcX_12 zcI_12 zcD_12 zcM_12) ++ ((sh_Book cI cL cZ ba baNa baN_12 baSa baS_12 baB baBEa baBn baBE_12 baBC_12 baBO_12 baK baKWa baKn baKW_12 baKTa baKT_12 baKC_12 baV baVWa baVn baVW_35 baVTa baVT_35 baVC_35 baT_12)))))) := hD.sub [0, 1, 2, 3, 4, 5, 6, 7, 8, 9, 10, 11, 12, 13, 14, 15, 16, 17, 18, 19, 20] (by decide) rfl
    refine lv_aload_n hx hb d_HelpFile_compile_38 rfl (lv_at hl 1 rfl) ?_
    refine va_get (D := (dC, dI)) (ci := 0) (v := .ref ba) (C := R_HelpFile) (T := F_HelpFile) (N := 14) hx hb hts in_HelpFile hown hK hP 0 rfl rfl 9 (by decide) (hts _ (List.mem_cons_of_mem _ k367_fieldLink)) (fun _ h9 => h9) rfl d_HelpFile_compile_39 ?_
    refine lv_aload_n hx hb d_HelpFile_compile_42 rfl (lv_at hl 1 rfl) ?_
    refine va_get (D := (dC, dI)) (ci := 0) (v := .ref zi) (C := R_HelpFile) (T := F_HelpFile) (N := 14) hx hb hts in_HelpFile hown hK hP 0 rfl rfl 1 (by decide) (hts _ (List.mem_cons_of_mem _ k378_fieldLink)) (fun _ h9 => h9) rfl d_HelpFile_compile_43 ?_
    obtain ⟨ziE_46, ziC_46, ziO_46, c46, hd⟩ := hd
    refine ct_S (As := [.ref ba, .ref zi]) (rest := []) ⟨hx, hb, hml, hown, hts⟩ fm_ImageWriter_write (c_ImageWriter_write l dC dI cI cL cZ ba baNa baN_12 baSa baS_12 baB baBEa baBn baBE_12 baBC_12 baBO_12 baK baKWa baKn baKW_12 baKTa baKT_12 baKC_12 baV baVWa baVn baVW_35 baVTa baVT_35 baVC_35 baT_12 zi ziEa zin ziE ziC ziO ziE_46 ziC_46 ziO_46 c46) k379_methodLink k380_static ⟨Nat.le_of_ble_eq_true rfl, Nat.le_of_ble_eq_true rfl⟩ rfl rfl hK hN hP hD hS hA [10, 11, 12, 13, 14, 15, 16, 17, 18, 19, 20, 3, 4] [0, 1, 2, 5, 6, 7, 8, 9] rfl rfl rfl (by decide) (by decide) (by decide) rfl hl.1 rfl (Nat.le_of_ble_eq_true rfl) d_HelpFile_compile_46 (fun H locs hP hD hS => ?_)
    have hP : va_P (dC, dI) classes ((sh_HelpFile cI cL cZ hf (.ref zs) (.ref zi) hfR hfT (.ref zc) hfE hfV hfQ hfN (.ref ba) hfB hfO zcE_12 hfY) ++ ((sh_Row cI cL cZ zs zsEa zsn zsE zsC zsO) ++ ((sh_Row cI cL cZ zi ziEa zin ziE_46 ziC_46 ziO_46) ++ ((sh_Compiler cI cL cZ zc zcHa zcH_12 zcNa zcN_12 zcLa zcL_12 zcPa zcP_12 zcK_12 (.ref zs) (.ref ba) zcF_12 zcE_12 zcW_12 zcX_12 zcI_12 zcD_12 zcM_12) ++ ((sh_Book cI cL cZ ba baNa baN_12 baSa baS_12 baB baBEa baBn baBE_12 baBC_12 baBO_12 baK baKWa baKn baKW_12 baKTa baKT_12 baKC_12 baV baVWa baVn baVW_35 baVTa baVT_35 baVC_35 baT_12)))))) H := hP.sub [0, 1, 2, 19, 20, 3, 4, 5, 6, 7, 8, 9, 10, 11, 12, 13, 14, 15, 16, 17, 18] rfl
    have hD : va_D A ((sh_HelpFile cI cL cZ hf (.ref zs) (.ref zi) hfR hfT (.ref zc) hfE hfV hfQ hfN (.ref ba) hfB hfO zcE_12 hfY) ++ ((sh_Row cI cL cZ zs zsEa zsn zsE zsC zsO) ++ ((sh_Row cI cL cZ zi ziEa zin ziE_46 ziC_46 ziO_46) ++ ((sh_Compiler cI cL cZ zc zcHa zcH_12 zcNa zcN_12 zcLa zcL_12 zcPa zcP_12 zcK_12 (.ref zs) (.ref ba) zcF_12 zcE_12 zcW_12 zcX_12 zcI_12 zcD_12 zcM_12) ++ ((sh_Book cI cL cZ ba baNa baN_12 baSa baS_12 baB baBEa baBn baBE_12 baBC_12 baBO_12 baK baKWa baKn baKW_12 baKTa baKT_12 baKC_12 baV baVWa baVn baVW_35 baVTa baVT_35 baVC_35 baT_12)))))) := hD.sub [0, 1, 2, 19, 20, 3, 4, 5, 6, 7, 8, 9, 10, 11, 12, 13, 14, 15, 16, 17, 18] (by decide) rfl
    refine lv_iload_n hx hb d_HelpFile_compile_49 rfl (lv_at hl 0 rfl) ?_
    obtain ⟨e0, e1, e2, e3, e4, e5, e6, e7, e8, e9, e10, e11, e12, e13, e14, e15, e16, e17, e18, e19, e20, e21, e22, e23, e24, e25, e26, e27, e28⟩ := hd
    subst e0
    subst e1
    subst e2
    subst e3
    subst e4
    subst e5
    subst e6
    subst e7
    subst e8
    subst e9
    subst e10
    subst e11
    subst e12
    subst e13
    subst e14
    subst e15
    subst e16
    subst e17
    subst e18
    subst e19
    subst e20
    subst e21
    subst e22
    subst e23
    subst e24
    subst e25
    subst e26
    subst e27
    subst e28
    exact ct_iret hx hb hr hlocks hK hP hD hS d_HelpFile_compile_50
-- HelpFile.line
abbrev b_HelpFile_line : ByteArray := prog_1_method_5_code
def y_HelpFile_line : MethodName := ⟨"HelpFile", "line", "()I"⟩
set_option maxRecDepth 100000 in
theorem fm_HelpFile_line : Fm y_HelpFile_line b_HelpFile_line 1 (some .int) 0 := ⟨ga_t 559 rfl rfl, k54_initialized, by decide, by decide, by decide +kernel⟩
def D_HelpFile_line (hfF : Int32) (res : Int32) : Prop := (res = hfF)
theorem d_HelpFile_line_0 : decode b_HelpFile_line 0 = .ok (.aload_n 0, 1) := by decide +kernel
theorem d_HelpFile_line_1 : decode b_HelpFile_line 1 = .ok (.getfield 76, 3) := by decide +kernel
theorem d_HelpFile_line_4 : decode b_HelpFile_line 4 = .ok (.ireturn, 1) := by decide +kernel
set_option maxHeartbeats 4000000 in
set_option maxRecDepth 100000 in
theorem c_HelpFile_line (l : Launch) (dC : Nat → ClassId) (dI : Nat → Nat → Nat) (cI cL cZ : ClassId) (hf : Nat) (hfS : Value) (hfI : Value) (hfR : Value) (hfT : Value) (hfC : Value) (hfE : Value) (hfV : Value) (hfQ : Value) (hfN : Value) (hfD : Value) (hfB : Value) (hfO : Bool) (hfF : Int32) (hfY : Int32) (res : Int32) (hd : D_HelpFile_line hfF res) : CtrR l y_HelpFile_line (Cond.code y_HelpFile_line b_HelpFile_line 1 (some .int) :: ga) { frames := 0, cells := 0, slots := 0, locals := 0 } (dC, dI) classes (Tys cI cL cZ) [.ref hf] ((sh_HelpFile cI cL cZ hf hfS hfI hfR hfT hfC hfE hfV hfQ hfN hfD hfB hfO hfF hfY)) (some (.int res)) := by
  refine CtrR.ofW (by decide) (Nat.le_of_ble_eq_true rfl) ?_
  intro p e s m below meth c ls hx hb hr hml hown hlocks hts hK hN hP hD hl
  have hown : s.vm.findClass R_HelpFile = some m.cls := hown
  have hl : lv_has ls 1 [(0, .ref hf)] := hl
  refine lv_aload_n hx hb d_HelpFile_line_0 rfl (lv_at hl 0 rfl) ?_
  refine va_get (D := (dC, dI)) (ci := 0) (v := .int hfF) (C := R_HelpFile) (T := F_HelpFile) (N := 14) hx hb hts in_HelpFile hown hK hP 0 rfl rfl 12 (by decide) (hts _ (List.mem_cons_of_mem _ k374_fieldLink)) (fun _ h9 => h9) rfl d_HelpFile_line_1 ?_
  have e0 : res = hfF := hd
  subst e0
  exact ct_iretR hx hb hr hlocks d_HelpFile_line_4
-- HelpFile.visited
abbrev b_HelpFile_visited : ByteArray := prog_1_method_15_code
def y_HelpFile_visited : MethodName := ⟨"HelpFile", "visited", "()I"⟩
theorem k381_fieldLink : Cond.fieldLink "HelpFile" 80 "HelpFile" "nodesVisited" "I" ∈ ga := ga_t 239 (by decide +kernel) rfl
set_option maxRecDepth 100000 in
theorem fm_HelpFile_visited : Fm y_HelpFile_visited b_HelpFile_visited 1 (some .int) 0 := ⟨ga_t 639 rfl rfl, k54_initialized, by decide, by decide, by decide +kernel⟩
def D_HelpFile_visited (hfY : Int32) (res : Int32) : Prop := (res = hfY)
theorem d_HelpFile_visited_0 : decode b_HelpFile_visited 0 = .ok (.aload_n 0, 1) := by decide +kernel
theorem d_HelpFile_visited_1 : decode b_HelpFile_visited 1 = .ok (.getfield 80, 3) := by decide +kernel
theorem d_HelpFile_visited_4 : decode b_HelpFile_visited 4 = .ok (.ireturn, 1) := by decide +kernel
set_option maxHeartbeats 4000000 in
set_option maxRecDepth 100000 in
theorem c_HelpFile_visited (l : Launch) (dC : Nat → ClassId) (dI : Nat → Nat → Nat) (cI cL cZ : ClassId) (hf : Nat) (hfS : Value) (hfI : Value) (hfR : Value) (hfT : Value) (hfC : Value) (hfE : Value) (hfV : Value) (hfQ : Value) (hfN : Value) (hfD : Value) (hfB : Value) (hfO : Bool) (hfF : Int32) (hfY : Int32) (res : Int32) (hd : D_HelpFile_visited hfY res) : CtrR l y_HelpFile_visited (Cond.code y_HelpFile_visited b_HelpFile_visited 1 (some .int) :: ga) { frames := 0, cells := 0, slots := 0, locals := 0 } (dC, dI) classes (Tys cI cL cZ) [.ref hf] ((sh_HelpFile cI cL cZ hf hfS hfI hfR hfT hfC hfE hfV hfQ hfN hfD hfB hfO hfF hfY)) (some (.int res)) := by
  refine CtrR.ofW (by decide) (Nat.le_of_ble_eq_true rfl) ?_
  intro p e s m below meth c ls hx hb hr hml hown hlocks hts hK hN hP hD hl
  have hown : s.vm.findClass R_HelpFile = some m.cls := hown
  have hl : lv_has ls 1 [(0, .ref hf)] := hl
  refine lv_aload_n hx hb d_HelpFile_visited_0 rfl (lv_at hl 0 rfl) ?_
  refine va_get (D := (dC, dI)) (ci := 0) (v := .int hfY) (C := R_HelpFile) (T := F_HelpFile) (N := 14) hx hb hts in_HelpFile hown hK hP 0 rfl rfl 13 (by decide) (hts _ (List.mem_cons_of_mem _ k381_fieldLink)) (fun _ h9 => h9) rfl d_HelpFile_visited_1 ?_
  have e0 : res = hfY := hd
  subst e0
  exact ct_iretR hx hb hr hlocks d_HelpFile_visited_4
-- HelpFile.isImageSound
abbrev b_HelpFile_isImageSound : ByteArray := prog_1_method_20_code
def y_HelpFile_isImageSound : MethodName := ⟨"HelpFile", "isImageSound", "()Z"⟩
theorem k382_fieldLink : Cond.fieldLink "HelpFile" 37 "HelpFile" "reader" "LHelpFile$ImageReader;" ∈ ga := ga_t 231 (by decide +kernel) rfl
theorem k383_methodLink : Cond.methodLink "HelpFile" 243 ⟨"HelpFile$ImageReader", "read", "(LHelpFile$Row;LHelpFile$Book;)Z"⟩ ∈ ga := ga_t 568 (by decide +kernel) rfl
theorem k384_instanceMethod : Cond.instanceMethod ⟨"HelpFile$ImageReader", "read", "(LHelpFile$Row;LHelpFile$Book;)Z"⟩ ∈ ga := ga_t 569 (by decide +kernel) rfl
theorem k385_selects : Cond.selects "HelpFile$ImageReader" ⟨"HelpFile$ImageReader", "read", "(LHelpFile$Row;LHelpFile$Book;)Z"⟩ ⟨"HelpFile$ImageReader", "read", "(LHelpFile$Row;LHelpFile$Book;)Z"⟩ ∈ ga := ga_t 570 (by decide +kernel) rfl
theorem k386_methodLink : Cond.methodLink "HelpFile" 247 ⟨"HelpFile$Book", "isOfSource", "()Z"⟩ ∈ ga := ga_t 603 (by decide +kernel) rfl
theorem k387_instanceMethod : Cond.instanceMethod ⟨"HelpFile$Book", "isOfSource", "()Z"⟩ ∈ ga := ga_t 604 (by decide +kernel) rfl
theorem k388_selects : Cond.selects "HelpFile$Book" ⟨"HelpFile$Book", "isOfSource", "()Z"⟩ ⟨"HelpFile$Book", "isOfSource", "()Z"⟩ ∈ ga := ga_t 605 (by decide +kernel) rfl
theorem k389_fieldLink : Cond.fieldLink "HelpFile" 21 "HelpFile" "rewritten" "LHelpFile$Row;" ∈ ga := ga_t 228 (by decide +kernel) rfl
theorem k390_methodLink : Cond.methodLink "HelpFile" 250 ⟨"HelpFile$Row", "isSameAs", "(LHelpFile$Row;)Z"⟩ ∈ ga := ga_t 627 (by decide +kernel) rfl
theorem k391_instanceMethod : Cond.instanceMethod ⟨"HelpFile$Row", "isSameAs", "(LHelpFile$Row;)Z"⟩ ∈ ga := ga_t 628 (by decide +kernel) rfl
theorem k392_selects : Cond.selects "HelpFile$Row" ⟨"HelpFile$Row", "isSameAs", "(LHelpFile$Row;)Z"⟩ ⟨"HelpFile$Row", "isSameAs", "(LHelpFile$Row;)Z"⟩ ∈ ga := ga_t 629 (by decide +kernel) rfl
set_option maxRecDepth 100000 in
theorem fm_HelpFile_isImageSound : Fm y_HelpFile_isImageSound b_HelpFile_isImageSound 1 (some .boolean) 0 := ⟨ga_t 567 rfl rfl, k54_initialized, by decide, by decide, by decide +kernel⟩
def D_HelpFile_isImageSound (zin : Nat) (zrn : Nat) (baBn : Nat) (baKn : Nat) (baVn : Nat) (ziE : Nat → Int32) (ziC : Int32) (ziO : Bool) (zrE : Nat → Int32) (zrC : Int32) (zrO : Bool) (zeP : Int32) (baN : Nat → Int64) (baS : Nat → Int32) (baBE : Nat → Int32) (baBC : Int32) (baBO : Bool) (baKW : Nat → Int64) (baKT : Nat → Int32) (baKC : Int32) (baVW : Nat → Int64) (baVT : Nat → Int32) (baVC : Int32) (baT : Int32) (res : Bool) (zrE' : Nat → Int32) (zrC' : Int32) (zrO' : Bool) (zeP' : Int32) (baN' : Nat → Int64) (baS' : Nat → Int32) (baBE' : Nat → Int32) (baBC' : Int32) (baBO' : Bool) (baKW' : Nat → Int64) (baKT' : Nat → Int32) (baKC' : Int32) (baVW' : Nat → Int64) (baVT' : Nat → Int32) (baVC' : Int32) (baT' : Int32) : Prop := (∃ r12 : Bool, ∃ zeP_12 : Int32, ∃ baN_12 : Nat → Int64, ∃ baS_12 : Nat → Int32, ∃ baBE_12 : Nat → Int32, ∃ baBC_12 : Int32, ∃ baBO_12 : Bool, ∃ baKW_12 : Nat → Int64, ∃ baKT_12 : Nat → Int32, ∃ baKC_12 : Int32, ∃ baT_12 : Int32, D_ImageReader_read zin baBn baKn zeP ziE ziC baN baS baBE baBC baBO baKW baKT baKC baT r12 zeP_12 baN_12 baS_12 baBE_12 baBC_12 baBO_12 baKW_12 baKT_12 baKC_12 baT_12 ∧ (((bI r12) = 0 → (res = false ∧ zrE' = zrE ∧ zrC' = zrC ∧ zrO' = zrO ∧ zeP' = zeP_12 ∧ baN' = baN_12 ∧ baS' = baS_12 ∧ baBE' = baBE_12 ∧ baBC' = baBC_12 ∧ baBO' = baBO_12 ∧ baKW' = baKW_12 ∧ baKT' = baKT_12 ∧ baKC' = baKC_12 ∧ baVW' = baVW ∧ baVT' = baVT ∧ baVC' = baVC ∧ baT' = baT_12)) ∧ (¬ ((bI r12) = 0) → (∃ r22 : Bool, D_Book_isOfSource baBn baKn baN_12 baS_12 baBE_12 baBC_12 baKW_12 baKT_12 baKC_12 baT_12 r22 ∧ (((bI r22) = 0 → (res = false ∧ zrE' = zrE ∧ zrC' = zrC ∧ zrO' = zrO ∧ zeP' = zeP_12 ∧ baN' = baN_12 ∧ baS' = baS_12 ∧ baBE' = baBE_12 ∧ baBC' = baBC_12 ∧ baBO' = baBO_12 ∧ baKW' = baKW_12 ∧ baKT' = baKT_12 ∧ baKC' = baKC_12 ∧ baVW' = baVW ∧ baVT' = baVT ∧ baVC' = baVC ∧ baT' = baT_12)) ∧ (¬ ((bI r22) = 0) → (∃ baVW_34 : Nat → Int64, ∃ baVT_34 : Nat → Int32, ∃ baVC_34 : Int32, D_Book_gatherWords baBn baVn baS_12 baBE_12 baBC_12 baVW baVT baVC baT_12 baVW_34 baVT_34 baVC_34 ∧ (∃ zrE_45 : Nat → Int32, ∃ zrC_45 : Int32, ∃ zrO_45 : Bool, D_ImageWriter_write baBn baKn baVn zrn baN_12 baS_12 baBE_12 baBC_12 baKW_12 baKT_12 baKC_12 baVW_34 baVT_34 baVC_34 baT_12 zrE zrC zrO zrE_45 zrC_45 zrO_45 ∧ (∃ r56 : Bool, D_Row_isSameAs zrn zin zrE_45 zrC_45 zrO_45 ziE ziC ziO r56 ∧ (res = r56 ∧ zrE' = zrE_45 ∧ zrC' = zrC_45 ∧ zrO' = zrO_45 ∧ zeP' = zeP_12 ∧ baN' = baN_12 ∧ baS' = baS_12 ∧ baBE' = baBE_12 ∧ baBC' = baBC_12 ∧ baBO' = baBO_12 ∧ baKW' = baKW_12 ∧ baKT' = baKT_12 ∧ baKC' = baKC_12 ∧ baVW' = baVW_34 ∧ baVT' = baVT_34 ∧ baVC' = baVC_34 ∧ baT' = baT_12))))))))))
theorem d_HelpFile_isImageSound_0 : decode b_HelpFile_isImageSound 0 = .ok (.aload_n 0, 1) := by decide +kernel
theorem d_HelpFile_isImageSound_1 : decode b_HelpFile_isImageSound 1 = .ok (.getfield 37, 3) := by decide +kernel
theorem d_HelpFile_isImageSound_4 : decode b_HelpFile_isImageSound 4 = .ok (.aload_n 0, 1) := by decide +kernel
theorem d_HelpFile_isImageSound_5 : decode b_HelpFile_isImageSound 5 = .ok (.getfield 18, 3) := by decide +kernel
theorem d_HelpFile_isImageSound_8 : decode b_HelpFile_isImageSound 8 = .ok (.aload_n 0, 1) := by decide +kernel
theorem d_HelpFile_isImageSound_9 : decode b_HelpFile_isImageSound 9 = .ok (.getfield 65, 3) := by decide +kernel
theorem d_HelpFile_isImageSound_12 : decode b_HelpFile_isImageSound 12 = .ok (.invokevirtual 243, 3) := by decide +kernel
theorem d_HelpFile_isImageSound_15 : decode b_HelpFile_isImageSound 15 = .ok (.ifCond .eq 13, 3) := by decide +kernel
theorem d_HelpFile_isImageSound_18 : decode b_HelpFile_isImageSound 18 = .ok (.aload_n 0, 1) := by decide +kernel
theorem d_HelpFile_isImageSound_19 : decode b_HelpFile_isImageSound 19 = .ok (.getfield 65, 3) := by decide +kernel
theorem d_HelpFile_isImageSound_22 : decode b_HelpFile_isImageSound 22 = .ok (.invokevirtual 247, 3) := by decide +kernel
theorem d_HelpFile_isImageSound_25 : decode b_HelpFile_isImageSound 25 = .ok (.ifCond .ne 5, 3) := by decide +kernel
theorem d_HelpFile_isImageSound_28 : decode b_HelpFile_isImageSound 28 = .ok (.iconst 0, 1) := by decide +kernel
theorem d_HelpFile_isImageSound_29 : decode b_HelpFile_isImageSound 29 = .ok (.ireturn, 1) := by decide +kernel
theorem d_HelpFile_isImageSound_30 : decode b_HelpFile_isImageSound 30 = .ok (.aload_n 0, 1) := by decide +kernel
theorem d_HelpFile_isImageSound_31 : decode b_HelpFile_isImageSound 31 = .ok (.getfield 65, 3) := by decide +kernel
theorem d_HelpFile_isImageSound_34 : decode b_HelpFile_isImageSound 34 = .ok (.invokevirtual 117, 3) := by decide +kernel
theorem d_HelpFile_isImageSound_37 : decode b_HelpFile_isImageSound 37 = .ok (.aload_n 0, 1) := by decide +kernel
theorem d_HelpFile_isImageSound_38 : decode b_HelpFile_isImageSound 38 = .ok (.getfield 65, 3) := by decide +kernel
theorem d_HelpFile_isImageSound_41 : decode b_HelpFile_isImageSound 41 = .ok (.aload_n 0, 1) := by decide +kernel
theorem d_HelpFile_isImageSound_42 : decode b_HelpFile_isImageSound 42 = .ok (.getfield 21, 3) := by decide +kernel
theorem d_HelpFile_isImageSound_45 : decode b_HelpFile_isImageSound 45 = .ok (.invokestatic 120, 3) := by decide +kernel
theorem d_HelpFile_isImageSound_48 : decode b_HelpFile_isImageSound 48 = .ok (.aload_n 0, 1) := by decide +kernel
theorem d_HelpFile_isImageSound_49 : decode b_HelpFile_isImageSound 49 = .ok (.getfield 21, 3) := by decide +kernel
theorem d_HelpFile_isImageSound_52 : decode b_HelpFile_isImageSound 52 = .ok (.aload_n 0, 1) := by decide +kernel
theorem d_HelpFile_isImageSound_53 : decode b_HelpFile_isImageSound 53 = .ok (.getfield 18, 3) := by decide +kernel
theorem d_HelpFile_isImageSound_56 : decode b_HelpFile_isImageSound 56 = .ok (.invokevirtual 250, 3) := by decide +kernel
theorem d_HelpFile_isImageSound_59 : decode b_HelpFile_isImageSound 59 = .ok (.ireturn, 1) := by decide +kernel
set_option maxHeartbeats 4000000 in
set_option maxRecDepth 100000 in
theorem c_HelpFile_isImageSound (l : Launch) (dC : Nat → ClassId) (dI : Nat → Nat → Nat) (cI cL cZ : ClassId) (hf : Nat) (hfS : Value) (hfT : Value) (hfC : Value) (hfV : Value) (hfQ : Value) (hfN : Value) (hfB : Value) (hfO : Bool) (hfF : Int32) (hfY : Int32) (zi : Nat) (ziEa : Nat) (zin : Nat) (ziE : Nat → Int32) (ziC : Int32) (ziO : Bool) (zr : Nat) (zrEa : Nat) (zrn : Nat) (zrE : Nat → Int32) (zrC : Int32) (zrO : Bool) (ze : Nat) (zeI : Value) (zeB : Value) (zeP : Int32) (ba : Nat) (baNa : Nat) (baN : Nat → Int64) (baSa : Nat) (baS : Nat → Int32) (baB : Nat) (baBEa : Nat) (baBn : Nat) (baBE : Nat → Int32) (baBC : Int32) (baBO : Bool) (baK : Nat) (baKWa : Nat) (baKn : Nat) (baKW : Nat → Int64) (baKTa : Nat) (baKT : Nat → Int32) (baKC : Int32) (baV : Nat) (baVWa : Nat) (baVn : Nat) (baVW : Nat → Int64) (baVTa : Nat) (baVT : Nat → Int32) (baVC : Int32) (baT : Int32) (res : Bool) (zrE' : Nat → Int32) (zrC' : Int32) (zrO' : Bool) (zeP' : Int32) (baN' : Nat → Int64) (baS' : Nat → Int32) (baBE' : Nat → Int32) (baBC' : Int32) (baBO' : Bool) (baKW' : Nat → Int64) (baKT' : Nat → Int32) (baKC' : Int32) (baVW' : Nat → Int64) (baVT' : Nat → Int32) (baVC' : Int32) (baT' : Int32) (hd : D_HelpFile_isImageSound zin zrn baBn baKn baVn ziE ziC ziO zrE zrC zrO zeP baN baS baBE baBC baBO baKW baKT baKC baVW baVT baVC baT res zrE' zrC' zrO' zeP' baN' baS' baBE' baBC' baBO' baKW' baKT' baKC' baVW' baVT' baVC' baT') : Ctr l y_HelpFile_isImageSound (Cond.code y_HelpFile_isImageSound b_HelpFile_isImageSound 1 (some .boolean) :: ga) { frames := 6, cells := 0, slots := 0, locals := 137 } (dC, dI) classes (Tys cI cL cZ) [.ref hf] ((sh_HelpFile cI cL cZ hf hfS (.ref zi) (.ref zr) hfT hfC (.ref ze) hfV hfQ hfN (.ref ba) hfB hfO hfF hfY) ++ ((sh_Row cI cL cZ zi ziEa zin ziE ziC ziO) ++ ((sh_Row cI cL cZ zr zrEa zrn zrE zrC zrO) ++ ((sh_ImageReader cI cL cZ ze zeI zeB zeP) ++ ((sh_Book cI cL cZ ba baNa baN baSa baS baB baBEa baBn baBE baBC baBO baK baKWa baKn baKW baKTa baKT baKC baV baVWa baVn baVW baVTa baVT baVC baT)))))) (some (.int (bI res))) ((sh_HelpFile cI cL cZ hf hfS (.ref zi) (.ref zr) hfT hfC (.ref ze) hfV hfQ hfN (.ref ba) hfB hfO hfF hfY) ++ ((sh_Row cI cL cZ zi ziEa zin ziE ziC ziO) ++ ((sh_Row cI cL cZ zr zrEa zrn zrE' zrC' zrO') ++ ((sh_ImageReader cI cL cZ ze (.ref zi) (.ref ba) zeP') ++ ((sh_Book cI cL cZ ba baNa baN' baSa baS' baB baBEa baBn baBE' baBC' baBO' baK baKWa baKn baKW' baKTa baKT' baKC' baV baVWa baVn baVW' baVTa baVT' baVC' baT')))))) := by
  refine Ctr.ofW (by decide) (Nat.le_of_ble_eq_true rfl) ?_
  intro p e s m below meth c A ls hx hb hr hml hown hlocks hts hK hN hA hP hD hS hl
  have hown : s.vm.findClass R_HelpFile = some m.cls := hown
  have hl : lv_has ls 1 [(0, .ref hf)] := hl
  refine lv_aload_n hx hb d_HelpFile_isImageSound_0 rfl (lv_at hl 0 rfl) ?_
  refine va_get (D := (dC, dI)) (ci := 0) (v := .ref ze) (C := R_HelpFile) (T := F_HelpFile) (N := 14) hx hb hts in_HelpFile hown hK hP 0 rfl rfl 5 (by decide) (hts _ (List.mem_cons_of_mem _ k382_fieldLink)) (fun _ h9 => h9) rfl d_HelpFile_isImageSound_1 ?_
  refine lv_aload_n hx hb d_HelpFile_isImageSound_4 rfl (lv_at hl 0 rfl) ?_
  refine va_get (D := (dC, dI)) (ci := 0) (v := .ref zi) (C := R_HelpFile) (T := F_HelpFile) (N := 14) hx hb hts in_HelpFile hown hK hP 0 rfl rfl 1 (by decide) (hts _ (List.mem_cons_of_mem _ k378_fieldLink)) (fun _ h9 => h9) rfl d_HelpFile_isImageSound_5 ?_
  refine lv_aload_n hx hb d_HelpFile_isImageSound_8 rfl (lv_at hl 0 rfl) ?_
  refine va_get (D := (dC, dI)) (ci := 0) (v := .ref ba) (C := R_HelpFile) (T := F_HelpFile) (N := 14) hx hb hts in_HelpFile hown hK hP 0 rfl rfl 9 (by decide) (hts _ (List.mem_cons_of_mem _ k367_fieldLink)) (fun _ h9 => h9) rfl d_HelpFile_isImageSound_9 ?_
  obtain ⟨r12, zeP_12, baN_12, baS_12, baBE_12, baBC_12, baBO_12, baKW_12, baKT_12, baKC_12, baT_12, c12, hd⟩ := hd
  refine ct_V (As := [.ref zi, .ref ba]) (rest := []) (C := R_ImageReader) (ci := 5) (q := (R_ImageReader, F_ImageReader, 3)) ⟨hx, hb, hml, hown, hts⟩ fm_ImageReader_read (c_ImageReader_read l dC dI cI cL cZ ze zeI zeB zeP zi ziEa zin ziE ziC ziO ba baNa baN baSa baS baB baBEa baBn baBE baBC baBO baK baKWa baKn baKW baKTa baKT baKC baV baVWa baVn baVW baVTa baVT baVC baT r12 zeP_12 baN_12 baS_12 baBE_12 baBC_12 baBO_12 baKW_12 baKT_12 baKC_12 baT_12 c12) k383_methodLink k384_instanceMethod k385_selects ⟨Nat.le_of_ble_eq_true rfl, Nat.le_of_ble_eq_true rfl⟩ rfl rfl hK hN hP hD hS hA [5, 1, 2, 6, 7, 8, 9, 10, 11, 12, 13, 14, 15, 16] [0, 3, 4] rfl rfl rfl (by decide) (by decide) (by decide) 5 rfl rfl rfl rfl hl.1 rfl (Nat.le_of_ble_eq_true rfl) d_HelpFile_isImageSound_12 (fun H locs hP hD hS => ?_)
  have hP : va_P (dC, dI) classes ((sh_HelpFile cI cL cZ hf hfS (.ref zi) (.ref zr) hfT hfC (.ref ze) hfV hfQ hfN (.ref ba) hfB hfO hfF hfY) ++ ((sh_Row cI cL cZ zi ziEa zin ziE ziC ziO) ++ ((sh_Row cI cL cZ zr zrEa zrn zrE zrC zrO) ++ ((sh_ImageReader cI cL cZ ze (.ref zi) (.ref ba) zeP_12) ++ ((sh_Book cI cL cZ ba baNa baN_12 baSa baS_12 baB baBEa baBn baBE_12 baBC_12 baBO_12 baK baKWa baKn baKW_12 baKTa baKT_12 baKC_12 baV baVWa baVn baVW baVTa baVT baVC baT_12)))))) H := hP.sub [0, 4, 5, 1, 2, 3, 6, 7, 8, 9, 10, 11, 12, 13, 14, 15, 16] rfl
  have hD : va_D A ((sh_HelpFile cI cL cZ hf hfS (.ref zi) (.ref zr) hfT hfC (.ref ze) hfV hfQ hfN (.ref ba) hfB hfO hfF hfY) ++ ((sh_Row cI cL cZ zi ziEa zin ziE ziC ziO) ++ ((sh_Row cI cL cZ zr zrEa zrn zrE zrC zrO) ++ ((sh_ImageReader cI cL cZ ze (.ref zi) (.ref ba) zeP_12) ++ ((sh_Book cI cL cZ ba baNa baN_12 baSa baS_12 baB baBEa baBn baBE_12 baBC_12 baBO_12 baK baKWa baKn baKW_12 baKTa baKT_12 baKC_12 baV baVWa baVn baVW baVTa baVT baVC baT_12)))))) := hD.sub [0, 4, 5, 1, 2, 3, 6, 7, 8, 9, 10, 11, 12, 13, 14, 15, 16] (by decide) rfl
  refine lv_if_eq (tgt := 28) hx hb d_HelpFile_isImageSound_15 (by decide) (fun h15 => ?_) (fun h15 => ?_)
  · have hd := hd.1 h15
    refine lv_iconst (v := 0) hx hb d_HelpFile_isImageSound_28 (by decide) ?_
    obtain ⟨e0, e1, e2, e3, e4, e5, e6, e7, e8, e9, e10, e11, e12, e13, e14, e15, e16⟩ := hd
    subst e0
    subst e1
    subst e2
    subst e3
    subst e4
    subst e5
    subst e6
    subst e7
    subst e8
    subst e9
    subst e10
    subst e11
    subst e12
    subst e13
    subst e14
    subst e15
    subst e16
    exact ct_zret (b := false) hx hb hr hlocks hK hP hD hS d_HelpFile_isImageSound_29
  · have hd := hd.2 h15
    refine lv_aload_n hx hb d_HelpFile_isImageSound_18 rfl (lv_at hl 0 rfl) ?_
    refine va_get (D := (dC, dI)) (ci := 0) (v := .ref ba) (C := R_HelpFile) (T := F_HelpFile) (N := 14) hx hb hts in_HelpFile hown hK hP 0 rfl rfl 9 (by decide) (hts _ (List.mem_cons_of_mem _ k367_fieldLink)) (fun _ h9 => h9) rfl d_HelpFile_isImageSound_19 ?_
    obtain ⟨r22, c22, hd⟩ := hd
    refine ct_VR (As := []) (rest := []) (C := R_Book) (ci := 3) (q := (R_Book, F_Book, 6)) ⟨hx, hb, hml, hown, hts⟩ fm_Book_isOfSource (c_Book_isOfSource l dC dI cI cL cZ ba baNa baN_12 baSa baS_12 baB baBEa baBn baBE_12 baBC_12 baBO_12 baK baKWa baKn baKW_12 baKTa baKT_12 baKC_12 baV baVWa baVn baVW baVTa baVT baVC baT_12 r22 c22) k386_methodLink k387_instanceMethod k388_selects ⟨Nat.le_of_ble_eq_true rfl, Nat.le_of_ble_eq_true rfl⟩ rfl rfl hK hN hP hD [6, 7, 8, 9, 10, 11, 12, 13, 14, 15, 16] rfl rfl (by decide) 6 rfl rfl rfl rfl hl.1 rfl (Nat.le_of_ble_eq_true rfl) d_HelpFile_isImageSound_22 ?_
    refine lv_if_ne (tgt := 30) hx hb d_HelpFile_isImageSound_25 (by decide) (fun h25 => ?_) (fun h25 => ?_)
    · have hd := hd.2 h25
      refine lv_aload_n hx hb d_HelpFile_isImageSound_30 rfl (lv_at hl 0 rfl) ?_
      refine va_get (D := (dC, dI)) (ci := 0) (v := .ref ba) (C := R_HelpFile) (T := F_HelpFile) (N := 14) hx hb hts in_HelpFile hown hK hP 0 rfl rfl 9 (by decide) (hts _ (List.mem_cons_of_mem _ k367_fieldLink)) (fun _ h9 => h9) rfl d_HelpFile_isImageSound_31 ?_
      obtain ⟨baVW_34, baVT_34, baVC_34, c34, hd⟩ := hd
      refine ct_V (As := []) (rest := []) (C := R_Book) (ci := 3) (q := (R_Book, F_Book, 6)) ⟨hx, hb, hml, hown, hts⟩ fm_Book_gatherWords (c_Book_gatherWords l dC dI cI cL cZ ba baNa baN_12 baSa baS_12 baB baBEa baBn baBE_12 baBC_12 baBO_12 baK baKWa baKn baKW_12 baKTa baKT_12 baKC_12 baV baVWa baVn baVW baVTa baVT baVC baT_12 baVW_34 baVT_34 baVC_34 c34) k375_methodLink k376_instanceMethod k377_selects ⟨Nat.le_of_ble_eq_true rfl, Nat.le_of_ble_eq_true rfl⟩ rfl rfl hK hN hP hD hS hA [6, 7, 8, 9, 10, 11, 12, 13, 14, 15, 16] [0, 1, 2, 3, 4, 5] rfl rfl rfl (by decide) (by decide) (by decide) 6 rfl rfl rfl rfl hl.1 rfl (Nat.le_of_ble_eq_true rfl) d_HelpFile_isImageSound_34 (fun H locs hP hD hS => ?_)
      have hP : va_P (dC, dI) classes ((sh_HelpFile cI cL cZ hf hfS (.ref zi) (.ref zr) hfT hfC (.ref ze) hfV hfQ hfN (.ref ba) hfB hfO hfF hfY) ++ ((sh_Row cI cL cZ zi ziEa zin ziE ziC ziO) ++ ((sh_Row cI cL cZ zr zrEa zrn zrE zrC zrO) ++ ((sh_ImageReader cI cL cZ ze (.ref zi) (.ref ba) zeP_12) ++ ((sh_Book cI cL cZ ba baNa baN_12 baSa baS_12 baB baBEa baBn baBE_12 baBC_12 baBO_12 baK baKWa baKn baKW_12 baKTa baKT_12 baKC_12 baV baVWa baVn baVW_34 baVTa baVT_34 baVC_34 baT_12)))))) H := hP.sub [0, 1, 2, 3, 4, 5, 6, 7, 8, 9, 10, 11, 12, 13, 14, 15, 16] rfl
      have hD : va_D A ((sh_HelpFile cI cL cZ hf hfS (.ref zi) (.ref zr) hfT hfC (.ref ze) hfV hfQ hfN (.ref ba) hfB hfO hfF hfY) ++ ((sh_Row cI cL cZ zi ziEa zin ziE ziC ziO) ++ ((sh_Row cI cL cZ zr zrEa zrn zrE zrC zrO) ++ ((sh_ImageReader cI cL cZ ze (.ref zi) (.ref ba) zeP_12) ++ ((sh_Book cI cL cZ ba baNa baN_12 baSa baS_12 baB baBEa baBn baBE_12 baBC_12 baBO_12 baK baKWa baKn baKW_12 baKTa baKT_12 baKC_12 baV baVWa baVn baVW_34 baVTa baVT_34 baVC_34 baT_12)))))) := hD.sub [0, 1, 2, 3, 4, 5, 6, 7, 8, 9, 10, 11, 12, 13, 14, 15, 16] (by decide) rfl
      refine lv_aload_n hx hb d_HelpFile_isImageSound_37 rfl (lv_at hl 0 rfl) ?_
      refine va_get (D := (dC, dI)) (ci := 0) (v := .ref ba) (C := R_HelpFile) (T := F_HelpFile) (N := 14) hx hb hts in_HelpFile hown hK hP 0 rfl rfl 9 (by decide) (hts _ (List.mem_cons_of_mem _ k367_fieldLink)) (fun _ h9 => h9) rfl d_HelpFile_isImageSound_38 ?_
      refine lv_aload_n hx hb d_HelpFile_isImageSound_41 rfl (lv_at hl 0 rfl) ?_
      refine va_get (D := (dC, dI)) (ci := 0) (v := .ref zr) (C := R_HelpFile) (T := F_HelpFile) (N := 14) hx hb hts in_HelpFile hown hK hP 0 rfl rfl 2 (by decide) (hts _ (List.mem_cons_of_mem _ k389_fieldLink)) (fun _ h9 => h9) rfl d_HelpFile_isImageSound_42 ?_
      obtain ⟨zrE_45, zrC_45, zrO_45, c45, hd⟩ := hd
      refine ct_S (As := [.ref ba, .ref zr]) (rest := []) ⟨hx, hb, hml, hown, hts⟩ fm_ImageWriter_write (c_ImageWriter_write l dC dI cI cL cZ ba baNa baN_12 baSa baS_12 baB baBEa baBn baBE_12 baBC_12 baBO_12 baK baKWa baKn baKW_12 baKTa baKT_12 baKC_12 baV baVWa baVn baVW_34 baVTa baVT_34 baVC_34 baT_12 zr zrEa zrn zrE zrC zrO zrE_45 zrC_45 zrO_45 c45) k379_methodLink k380_static ⟨Nat.le_of_ble_eq_true rfl, Nat.le_of_ble_eq_true rfl⟩ rfl rfl hK hN hP hD hS hA [6, 7, 8, 9, 10, 11, 12, 13, 14, 15, 16, 3, 4] [0, 1, 2, 5] rfl rfl rfl (by decide) (by decide) (by decide) rfl hl.1 rfl (Nat.le_of_ble_eq_true rfl) d_HelpFile_isImageSound_45 (fun H locs hP hD hS => ?_)
      have hP : va_P (dC, dI) classes ((sh_HelpFile cI cL cZ hf hfS (.ref zi) (.ref zr) hfT hfC (.ref ze) hfV hfQ hfN (.ref ba) hfB hfO hfF hfY) ++ ((sh_Row cI cL cZ zi ziEa zin ziE ziC ziO) ++ ((sh_Row cI cL cZ zr zrEa zrn zrE_45 zrC_45 zrO_45) ++ ((sh_ImageReader cI cL cZ ze (.ref zi) (.ref ba) zeP_12) ++ ((sh_Book cI cL cZ ba baNa baN_12 baSa baS_12 baB baBEa baBn baBE_12 baBC_12 baBO_12 baK baKWa baKn baKW_12 baKTa baKT_12 baKC_12 baV baVWa baVn baVW_34 baVTa baVT_34 baVC_34 baT_12)))))) H := hP.sub [0, 1, 2, 15, 16, 3, 4, 5, 6, 7, 8, 9, 10, 11, 12, 13, 14] rfl
      have hD : va_D A ((sh_HelpFile cI cL cZ hf hfS (.ref zi) (.ref zr) hfT hfC (.ref ze) hfV hfQ hfN (.ref ba) hfB hfO hfF hfY) ++ ((sh_Row cI cL cZ zi ziEa zin ziE ziC ziO) ++ ((sh_Row cI cL cZ zr zrEa zrn zrE_45 zrC_45 zrO_45) ++ ((sh_ImageReader cI cL cZ ze (.ref zi) (.ref ba) zeP_12) ++ ((sh_Book cI cL cZ ba baNa baN_12 baSa baS_12 baB baBEa baBn baBE_12 baBC_12 baBO_12 baK baKWa baKn baKW_12 baKTa baKT_12 baKC_12 baV baVWa baVn baVW_34 baVTa baVT_34 baVC_34 baT_12)))))) := hD.sub [0, 1, 2, 15, 16, 3, 4, 5, 6, 7, 8, 9, 10, 11, 12, 13, 14] (by decide) rfl
      refine lv_aload_n hx hb d_HelpFile_isImageSound_48 rfl (lv_at hl 0 rfl) ?_
      refine va_get (D := (dC, dI)) (ci := 0) (v := .ref zr) (C := R_HelpFile) (T := F_HelpFile) (N := 14) hx hb hts in_HelpFile hown hK hP 0 rfl rfl 2 (by decide) (hts _ (List.mem_cons_of_mem _ k389_fieldLink)) (fun _ h9 => h9) rfl d_HelpFile_isImageSound_49 ?_
      refine lv_aload_n hx hb d_HelpFile_isImageSound_52 rfl (lv_at hl 0 rfl) ?_
      refine va_get (D := (dC, dI)) (ci := 0) (v := .ref zi) (C := R_HelpFile) (T := F_HelpFile) (N := 14) hx hb hts in_HelpFile hown hK hP 0 rfl rfl 1 (by decide) (hts _ (List.mem_cons_of_mem _ k378_fieldLink)) (fun _ h9 => h9) rfl d_HelpFile_isImageSound_53 ?_
      obtain ⟨r56, c56, hd⟩ := hd
      refine ct_VR (As := [.ref zi]) (rest := []) (C := R_Row) (ci := 1) (q := (R_Row, F_Row, 3)) ⟨hx, hb, hml, hown, hts⟩ fm_Row_isSameAs (c_Row_isSameAs l dC dI cI cL cZ zr zrEa zrn zrE_45 zrC_45 zrO_45 zi ziEa zin ziE ziC ziO r56 c56) k390_methodLink k391_instanceMethod k392_selects ⟨Nat.le_of_ble_eq_true rfl, Nat.le_of_ble_eq_true rfl⟩ rfl rfl hK hN hP hD [3, 4, 1, 2] rfl rfl (by decide) 3 rfl rfl rfl rfl hl.1 rfl (Nat.le_of_ble_eq_true rfl) d_HelpFile_isImageSound_56 ?_
      obtain ⟨e0, e1, e2, e3, e4, e5, e6, e7, e8, e9, e10, e11, e12, e13, e14, e15, e16⟩ := hd
      subst e0
      subst e1
      subst e2
      subst e3
      subst e4
      subst e5
      subst e6
      subst e7
      subst e8
      subst e9
      subst e10
      subst e11
      subst e12
      subst e13
      subst e14
      subst e15
      subst e16
      exact ct_zret hx hb hr hlocks hK hP hD hS d_HelpFile_isImageSound_59
    · have hd := hd.1 h25
      refine lv_iconst (v := 0) hx hb d_HelpFile_isImageSound_28 (by decide) ?_
      obtain ⟨e0, e1, e2, e3, e4, e5, e6, e7, e8, e9, e10, e11, e12, e13, e14, e15, e16⟩ := hd
      subst e0
      subst e1
      subst e2
      subst e3
      subst e4
      subst e5
      subst e6
      subst e7
      subst e8
      subst e9
      subst e10
      subst e11
      subst e12
      subst e13
      subst e14
      subst e15
      subst e16
      exact ct_zret (b := false) hx hb hr hlocks hK hP hD hS d_HelpFile_isImageSound_29
-- HelpFile.open
abbrev b_HelpFile_open : ByteArray := prog_1_method_8_code
def y_HelpFile_open : MethodName := ⟨"HelpFile", "open", "()Z"⟩
theorem k393_methodLink : Cond.methodLink "HelpFile" 142 ⟨"HelpFile", "isImageSound", "()Z"⟩ ∈ ga := ga_t 564 (by decide +kernel) rfl
theorem k394_instanceMethod : Cond.instanceMethod ⟨"HelpFile", "isImageSound", "()Z"⟩ ∈ ga := ga_t 566 (by decide +kernel) rfl
theorem k395_selects : Cond.selects "HelpFile" ⟨"HelpFile", "isImageSound", "()Z"⟩ ⟨"HelpFile", "isImageSound", "()Z"⟩ ∈ ga := ga_s (q := (⟨"HelpFile", "isImageSound", "()Z"⟩, _)) 16 rfl
theorem k396_fieldLink : Cond.fieldLink "HelpFile" 69 "HelpFile" "book" "LHelpFile$Book;" ∈ ga := ga_t 236 (by decide +kernel) rfl
theorem k397_fieldLink : Cond.fieldLink "HelpFile" 44 "HelpFile" "visits" "LHelpFile$Visits;" ∈ ga := ga_t 232 (by decide +kernel) rfl
theorem k398_methodLink : Cond.methodLink "HelpFile" 146 ⟨"HelpFile$Visits", "restart", "()V"⟩ ∈ ga := ga_t 631 (by decide +kernel) rfl
theorem k399_instanceMethod : Cond.instanceMethod ⟨"HelpFile$Visits", "restart", "()V"⟩ ∈ ga := ga_t 632 (by decide +kernel) rfl
theorem k400_selects : Cond.selects "HelpFile$Visits" ⟨"HelpFile$Visits", "restart", "()V"⟩ ⟨"HelpFile$Visits", "restart", "()V"⟩ ∈ ga := ga_t 633 (by decide +kernel) rfl
theorem k401_fieldLink : Cond.fieldLink "HelpFile" 72 "HelpFile" "isOpen" "Z" ∈ ga := ga_t 237 (by decide +kernel) rfl
set_option maxRecDepth 100000 in
theorem fm_HelpFile_open : Fm y_HelpFile_open b_HelpFile_open 2 (some .boolean) 0 := ⟨ga_t 563 rfl rfl, k54_initialized, by decide, by decide, by decide +kernel⟩
def D_HelpFile_open (zin : Nat) (zrn : Nat) (ba : Nat) (baBn : Nat) (baKn : Nat) (baVn : Nat) (bb : Nat) (hfO : Bool) (ziE : Nat → Int32) (ziC : Int32) (ziO : Bool) (zrE : Nat → Int32) (zrC : Int32) (zrO : Bool) (zeP : Int32) (baN : Nat → Int64) (baS : Nat → Int32) (baBE : Nat → Int32) (baBC : Int32) (baBO : Bool) (baKW : Nat → Int64) (baKT : Nat → Int32) (baKC : Int32) (baVW : Nat → Int64) (baVT : Nat → Int32) (baVC : Int32) (baT : Int32) (zvBC : Int32) (zvBO : Bool) (zvFC : Int32) (zvFO : Bool) (zvT : Int32) (res : Bool) (hfD' : Value) (hfB' : Value) (hfO' : Bool) (zrE' : Nat → Int32) (zrC' : Int32) (zrO' : Bool) (zeP' : Int32) (baN' : Nat → Int64) (baS' : Nat → Int32) (baBE' : Nat → Int32) (baBC' : Int32) (baBO' : Bool) (baKW' : Nat → Int64) (baKT' : Nat → Int32) (baKC' : Int32) (baVW' : Nat → Int64) (baVT' : Nat → Int32) (baVC' : Int32) (baT' : Int32) (zvBC' : Int32) (zvBO' : Bool) (zvFC' : Int32) (zvFO' : Bool) (zvT' : Int32) : Prop := (∃ r1 : Bool, ∃ zrE_1 : Nat → Int32, ∃ zrC_1 : Int32, ∃ zrO_1 : Bool, ∃ zeP_1 : Int32, ∃ baN_1 : Nat → Int64, ∃ baS_1 : Nat → Int32, ∃ baBE_1 : Nat → Int32, ∃ baBC_1 : Int32, ∃ baBO_1 : Bool, ∃ baKW_1 : Nat → Int64, ∃ baKT_1 : Nat → Int32, ∃ baKC_1 : Int32, ∃ baVW_1 : Nat → Int64, ∃ baVT_1 : Nat → Int32, ∃ baVC_1 : Int32, ∃ baT_1 : Int32, D_HelpFile_isImageSound zin zrn baBn baKn baVn ziE ziC ziO zrE zrC zrO zeP baN baS baBE baBC baBO baKW baKT baKC baVW baVT baVC baT r1 zrE_1 zrC_1 zrO_1 zeP_1 baN_1 baS_1 baBE_1 baBC_1 baBO_1 baKW_1 baKT_1 baKC_1 baVW_1 baVT_1 baVC_1 baT_1 ∧ (((bI r1) = 0 → (res = false ∧ hfD' = .ref ba ∧ hfB' = .ref bb ∧ hfO' = hfO ∧ zrE' = zrE_1 ∧ zrC' = zrC_1 ∧ zrO' = zrO_1 ∧ zeP' = zeP_1 ∧ baN' = baN_1 ∧ baS' = baS_1 ∧ baBE' = baBE_1 ∧ baBC' = baBC_1 ∧ baBO' = baBO_1 ∧ baKW' = baKW_1 ∧ baKT' = baKT_1 ∧ baKC' = baKC_1 ∧ baVW' = baVW_1 ∧ baVT' = baVT_1 ∧ baVC' = baVC_1 ∧ baT' = baT_1 ∧ zvBC' = zvBC ∧ zvBO' = zvBO ∧ zvFC' = zvFC ∧ zvFO' = zvFO ∧ zvT' = zvT)) ∧ (¬ ((bI r1) = 0) → (∃ zvBC_31 : Int32, ∃ zvBO_31 : Bool, ∃ zvFC_31 : Int32, ∃ zvFO_31 : Bool, ∃ zvT_31 : Int32, D_Visits_restart zvBC zvBO zvFC zvFO zvT zvBC_31 zvBO_31 zvFC_31 zvFO_31 zvT_31 ∧ (res = true ∧ hfD' = .ref bb ∧ hfB' = .ref ba ∧ hfO' = true ∧ zrE' = zrE_1 ∧ zrC' = zrC_1 ∧ zrO' = zrO_1 ∧ zeP' = zeP_1 ∧ baN' = baN_1 ∧ baS' = baS_1 ∧ baBE' = baBE_1 ∧ baBC' = baBC_1 ∧ baBO' = baBO_1 ∧ baKW' = baKW_1 ∧ baKT' = baKT_1 ∧ baKC' = baKC_1 ∧ baVW' = baVW_1 ∧ baVT' = baVT_1 ∧ baVC' = baVC_1 ∧ baT' = baT_1 ∧ zvBC' = zvBC_31 ∧ zvBO' = zvBO_31 ∧ zvFC' = zvFC_31 ∧ zvFO' = zvFO_31 ∧ zvT' = zvT_31)))))
theorem d_HelpFile_open_0 : decode b_HelpFile_open 0 = .ok (.aload_n 0, 1) := by decide +kernel
theorem d_HelpFile_open_1 : decode b_HelpFile_open 1 = .ok (.invokevirtual 142, 3) := by decide +kernel
theorem d_HelpFile_open_4 : decode b_HelpFile_open 4 = .ok (.ifCond .ne 5, 3) := by decide +kernel
theorem d_HelpFile_open_7 : decode b_HelpFile_open 7 = .ok (.iconst 0, 1) := by decide +kernel
theorem d_HelpFile_open_8 : decode b_HelpFile_open 8 = .ok (.ireturn, 1) := by decide +kernel
theorem d_HelpFile_open_9 : decode b_HelpFile_open 9 = .ok (.aload_n 0, 1) := by decide +kernel
theorem d_HelpFile_open_10 : decode b_HelpFile_open 10 = .ok (.getfield 69, 3) := by decide +kernel
theorem d_HelpFile_open_13 : decode b_HelpFile_open 13 = .ok (.astore_n 1, 1) := by decide +kernel
theorem d_HelpFile_open_14 : decode b_HelpFile_open 14 = .ok (.aload_n 0, 1) := by decide +kernel
theorem d_HelpFile_open_15 : decode b_HelpFile_open 15 = .ok (.aload_n 0, 1) := by decide +kernel
theorem d_HelpFile_open_16 : decode b_HelpFile_open 16 = .ok (.getfield 65, 3) := by decide +kernel
theorem d_HelpFile_open_19 : decode b_HelpFile_open 19 = .ok (.putfield 69, 3) := by decide +kernel
theorem d_HelpFile_open_22 : decode b_HelpFile_open 22 = .ok (.aload_n 0, 1) := by decide +kernel
theorem d_HelpFile_open_23 : decode b_HelpFile_open 23 = .ok (.aload_n 1, 1) := by decide +kernel
theorem d_HelpFile_open_24 : decode b_HelpFile_open 24 = .ok (.putfield 65, 3) := by decide +kernel
theorem d_HelpFile_open_27 : decode b_HelpFile_open 27 = .ok (.aload_n 0, 1) := by decide +kernel
theorem d_HelpFile_open_28 : decode b_HelpFile_open 28 = .ok (.getfield 44, 3) := by decide +kernel
theorem d_HelpFile_open_31 : decode b_HelpFile_open 31 = .ok (.invokevirtual 146, 3) := by decide +kernel
theorem d_HelpFile_open_34 : decode b_HelpFile_open 34 = .ok (.aload_n 0, 1) := by decide +kernel
theorem d_HelpFile_open_35 : decode b_HelpFile_open 35 = .ok (.iconst 1, 1) := by decide +kernel
theorem d_HelpFile_open_36 : decode b_HelpFile_open 36 = .ok (.putfield 72, 3) := by decide +kernel
theorem d_HelpFile_open_39 : decode b_HelpFile_open 39 = .ok (.iconst 1, 1) := by decide +kernel
theorem d_HelpFile_open_40 : decode b_HelpFile_open 40 = .ok (.ireturn, 1) := by decide +kernel
set_option maxHeartbeats 4000000 in
set_option maxRecDepth 100000 in
theorem c_HelpFile_open (l : Launch) (dC : Nat → ClassId) (dI : Nat → Nat → Nat) (cI cL cZ : ClassId) (hf : Nat) (hfS : Value) (hfT : Value) (hfC : Value) (hfQ : Value) (hfN : Value) (hfO : Bool) (hfF : Int32) (hfY : Int32) (zi : Nat) (ziEa : Nat) (zin : Nat) (ziE : Nat → Int32) (ziC : Int32) (ziO : Bool) (zr : Nat) (zrEa : Nat) (zrn : Nat) (zrE : Nat → Int32) (zrC : Int32) (zrO : Bool) (ze : Nat) (zeI : Value) (zeB : Value) (zeP : Int32) (ba : Nat) (baNa : Nat) (baN : Nat → Int64) (baSa : Nat) (baS : Nat → Int32) (baB : Nat) (baBEa : Nat) (baBn : Nat) (baBE : Nat → Int32) (baBC : Int32) (baBO : Bool) (baK : Nat) (baKWa : Nat) (baKn : Nat) (baKW : Nat → Int64) (baKTa : Nat) (baKT : Nat → Int32) (baKC : Int32) (baV : Nat) (baVWa : Nat) (baVn : Nat) (baVW : Nat → Int64) (baVTa : Nat) (baVT : Nat → Int32) (baVC : Int32) (baT : Int32) (zv : Nat) (zvB : Nat) (zvBEa : Nat) (zvBn : Nat) (zvBE : Nat → Int32) (zvBC : Int32) (zvBO : Bool) (zvF : Nat) (zvFEa : Nat) (zvFn : Nat) (zvFE : Nat → Int32) (zvFC : Int32) (zvFO : Bool) (zvT : Int32) (bb : Nat) (res : Bool) (hfD' : Value) (hfB' : Value) (hfO' : Bool) (zrE' : Nat → Int32) (zrC' : Int32) (zrO' : Bool) (zeP' : Int32) (baN' : Nat → Int64) (baS' : Nat → Int32) (baBE' : Nat → Int32) (baBC' : Int32) (baBO' : Bool) (baKW' : Nat → Int64) (baKT' : Nat → Int32) (baKC' : Int32) (baVW' : Nat → Int64) (baVT' : Nat → Int32) (baVC' : Int32) (baT' : Int32) (zvBC' : Int32) (zvBO' : Bool) (zvFC' : Int32) (zvFO' : Bool) (zvT' : Int32) (hd : D_HelpFile_open zin zrn ba baBn baKn baVn bb hfO ziE ziC ziO zrE zrC zrO zeP baN baS baBE baBC baBO baKW baKT baKC baVW baVT baVC baT zvBC zvBO zvFC zvFO zvT res hfD' hfB' hfO' zrE' zrC' zrO' zeP' baN' baS' baBE' baBC' baBO' baKW' baKT' baKC' baVW' baVT' baVC' baT' zvBC' zvBO' zvFC' zvFO' zvT') : Ctr l y_HelpFile_open (Cond.code y_HelpFile_open b_HelpFile_open 2 (some .boolean) :: ga) { frames := 7, cells := 0, slots := 0, locals := 157 } (dC, dI) classes (Tys cI cL cZ) [.ref hf] ((sh_HelpFile cI cL cZ hf hfS (.ref zi) (.ref zr) hfT hfC (.ref ze) (.ref zv) hfQ hfN (.ref ba) (.ref bb) hfO hfF hfY) ++ ((sh_Row cI cL cZ zi ziEa zin ziE ziC ziO) ++ ((sh_Row cI cL cZ zr zrEa zrn zrE zrC zrO) ++ ((sh_ImageReader cI cL cZ ze zeI zeB zeP) ++ ((sh_Book cI cL cZ ba baNa baN baSa baS baB baBEa baBn baBE baBC baBO baK baKWa baKn baKW baKTa baKT baKC baV baVWa baVn baVW baVTa baVT baVC baT) ++ ((sh_Visits cI cL cZ zv zvB zvBEa zvBn zvBE zvBC zvBO zvF zvFEa zvFn zvFE zvFC zvFO zvT))))))) (some (.int (bI res))) ((sh_HelpFile cI cL cZ hf hfS (.ref zi) (.ref zr) hfT hfC (.ref ze) (.ref zv) hfQ hfN hfD' hfB' hfO' hfF hfY) ++ ((sh_Row cI cL cZ zi ziEa zin ziE ziC ziO) ++ ((sh_Row cI cL cZ zr zrEa zrn zrE' zrC' zrO') ++ ((sh_ImageReader cI cL cZ ze (.ref zi) (.ref ba) zeP') ++ ((sh_Book cI cL cZ ba baNa baN' baSa baS' baB baBEa baBn baBE' baBC' baBO' baK baKWa baKn baKW' baKTa baKT' baKC' baV baVWa baVn baVW' baVTa baVT' baVC' baT') ++ ((sh_Visits cI cL cZ zv zvB zvBEa zvBn zvBE zvBC' zvBO' zvF zvFEa zvFn zvFE zvFC' zvFO' zvT'))))))) := by
  refine Ctr.ofW (by decide) (Nat.le_of_ble_eq_true rfl) ?_
  intro p e s m below meth c A ls hx hb hr hml hown hlocks hts hK hN hA hP hD hS hl
  have hown : s.vm.findClass R_HelpFile = some m.cls := hown
  have hl : lv_has ls 2 [(0, .ref hf)] := hl
  refine lv_aload_n hx hb d_HelpFile_open_0 rfl (lv_at hl 0 rfl) ?_
  obtain ⟨r1, zrE_1, zrC_1, zrO_1, zeP_1, baN_1, baS_1, baBE_1, baBC_1, baBO_1, baKW_1, baKT_1, baKC_1, baVW_1, baVT_1, baVC_1, baT_1, c1, hd⟩ := hd
  refine ct_V (As := []) (rest := []) (C := R_HelpFile) (ci := 0) (q := (R_HelpFile, F_HelpFile, 14)) ⟨hx, hb, hml, hown, hts⟩ fm_HelpFile_isImageSound (c_HelpFile_isImageSound l dC dI cI cL cZ hf hfS hfT hfC (.ref zv) hfQ hfN (.ref bb) hfO hfF hfY zi ziEa zin ziE ziC ziO zr zrEa zrn zrE zrC zrO ze zeI zeB zeP ba baNa baN baSa baS baB baBEa baBn baBE baBC baBO baK baKWa baKn baKW baKTa baKT baKC baV baVWa baVn baVW baVTa baVT baVC baT r1 zrE_1 zrC_1 zrO_1 zeP_1 baN_1 baS_1 baBE_1 baBC_1 baBO_1 baKW_1 baKT_1 baKC_1 baVW_1 baVT_1 baVC_1 baT_1 c1) k393_methodLink k394_instanceMethod k395_selects ⟨Nat.le_of_ble_eq_true rfl, Nat.le_of_ble_eq_true rfl⟩ rfl rfl hK hN hP hD hS hA [0, 1, 2, 3, 4, 5, 6, 7, 8, 9, 10, 11, 12, 13, 14, 15, 16] [17, 18, 19, 20, 21] rfl rfl rfl (by decide) (by decide) (by decide) 0 rfl rfl rfl rfl hl.1 rfl (Nat.le_of_ble_eq_true rfl) d_HelpFile_open_1 (fun H locs hP hD hS => ?_)
  have hP : va_P (dC, dI) classes ((sh_HelpFile cI cL cZ hf hfS (.ref zi) (.ref zr) hfT hfC (.ref ze) (.ref zv) hfQ hfN (.ref ba) (.ref bb) hfO hfF hfY) ++ ((sh_Row cI cL cZ zi ziEa zin ziE ziC ziO) ++ ((sh_Row cI cL cZ zr zrEa zrn zrE_1 zrC_1 zrO_1) ++ ((sh_ImageReader cI cL cZ ze (.ref zi) (.ref ba) zeP_1) ++ ((sh_Book cI cL cZ ba baNa baN_1 baSa baS_1 baB baBEa baBn baBE_1 baBC_1 baBO_1 baK baKWa baKn baKW_1 baKTa baKT_1 baKC_1 baV baVWa baVn baVW_1 baVTa baVT_1 baVC_1 baT_1) ++ ((sh_Visits cI cL cZ zv zvB zvBEa zvBn zvBE zvBC zvBO zvF zvFEa zvFn zvFE zvFC zvFO zvT))))))) H := hP.sub [5, 6, 7, 8, 9, 10, 11, 12, 13, 14, 15, 16, 17, 18, 19, 20, 21, 0, 1, 2, 3, 4] rfl
  have hD : va_D A ((sh_HelpFile cI cL cZ hf hfS (.ref zi) (.ref zr) hfT hfC (.ref ze) (.ref zv) hfQ hfN (.ref ba) (.ref bb) hfO hfF hfY) ++ ((sh_Row cI cL cZ zi ziEa zin ziE ziC ziO) ++ ((sh_Row cI cL cZ zr zrEa zrn zrE_1 zrC_1 zrO_1) ++ ((sh_ImageReader cI cL cZ ze (.ref zi) (.ref ba) zeP_1) ++ ((sh_Book cI cL cZ ba baNa baN_1 baSa baS_1 baB baBEa baBn baBE_1 baBC_1 baBO_1 baK baKWa baKn baKW_1 baKTa baKT_1 baKC_1 baV baVWa baVn baVW_1 baVTa baVT_1 baVC_1 baT_1) ++ ((sh_Visits cI cL cZ zv zvB zvBEa zvBn zvBE zvBC zvBO zvF zvFEa zvFn zvFE zvFC zvFO zvT))))))) := hD.sub [5, 6, 7, 8, 9, 10, 11, 12, 13, 14, 15, 16, 17, 18, 19, 20, 21, 0, 1, 2, 3, 4] (by decide) rfl
  refine lv_if_ne (tgt := 9) hx hb d_HelpFile_open_4 (by decide) (fun h4 => ?_) (fun h4 => ?_)
  · have hd := hd.2 h4
    refine lv_aload_n hx hb d_HelpFile_open_9 rfl (lv_at hl 0 rfl) ?_
    refine va_get (D := (dC, dI)) (ci := 0) (v := .ref bb) (C := R_HelpFile) (T := F_HelpFile) (N := 14) hx hb hts in_HelpFile hown hK hP 0 rfl rfl 10 (by decide) (hts _ (List.mem_cons_of_mem _ k396_fieldLink)) (fun _ h9 => h9) rfl d_HelpFile_open_10 ?_
    refine lv_astore_n (lv' := [(1, .ref bb), (0, .ref hf)]) hx hb d_HelpFile_open_13 rfl hl (by decide) rfl (fun ls hl => ?_)
    refine lv_aload_n hx hb d_HelpFile_open_14 rfl (lv_at hl 1 rfl) ?_
    refine lv_aload_n hx hb d_HelpFile_open_15 rfl (lv_at hl 1 rfl) ?_
    refine va_get (D := (dC, dI)) (ci := 0) (v := .ref ba) (C := R_HelpFile) (T := F_HelpFile) (N := 14) hx hb hts in_HelpFile hown hK hP 0 rfl rfl 9 (by decide) (hts _ (List.mem_cons_of_mem _ k367_fieldLink)) (fun _ h9 => h9) rfl d_HelpFile_open_16 ?_
    refine va_put (D := (dC, dI)) (ci := 0) (v := .ref ba) (ty := t_HelpFile 10) (C := R_HelpFile) (T := F_HelpFile) (N := 14) hx hb hts in_HelpFile t_HelpFile t_HelpFile_ok n_HelpFile hown hK hP hD hS 0 rfl rfl 10 (by decide) (hts _ (List.mem_cons_of_mem _ k396_fieldLink)) (fun _ h9 => h9) rfl (t_HelpFile_ok 10 (by decide)) rfl rfl (Nat.le_of_ble_eq_true rfl) d_HelpFile_open_19 (fun H locs hP hD hS => ?_)
    have hP : va_P (dC, dI) classes ((sh_HelpFile cI cL cZ hf hfS (.ref zi) (.ref zr) hfT hfC (.ref ze) (.ref zv) hfQ hfN (.ref ba) (.ref ba) hfO hfF hfY) ++ ((sh_Row cI cL cZ zi ziEa zin ziE ziC ziO) ++ ((sh_Row cI cL cZ zr zrEa zrn zrE_1 zrC_1 zrO_1) ++ ((sh_ImageReader cI cL cZ ze (.ref zi) (.ref ba) zeP_1) ++ ((sh_Book cI cL cZ ba baNa baN_1 baSa baS_1 baB baBEa baBn baBE_1 baBC_1 baBO_1 baK baKWa baKn baKW_1 baKTa baKT_1 baKC_1 baV baVWa baVn baVW_1 baVTa baVT_1 baVC_1 baT_1) ++ ((sh_Visits cI cL cZ zv zvB zvBEa zvBn zvBE zvBC zvBO zvF zvFEa zvFn zvFE zvFC zvFO zvT))))))) H := hP
    have hD : va_D A ((sh_HelpFile cI cL cZ hf hfS (.ref zi) (.ref zr) hfT hfC (.ref ze) (.ref zv) hfQ hfN (.ref ba) (.ref ba) hfO hfF hfY) ++ ((sh_Row cI cL cZ zi ziEa zin ziE ziC ziO) ++ ((sh_Row cI cL cZ zr zrEa zrn zrE_1 zrC_1 zrO_1) ++ ((sh_ImageReader cI cL cZ ze (.ref zi) (.ref ba) zeP_1) ++ ((sh_Book cI cL cZ ba baNa baN_1 baSa baS_1 baB baBEa baBn baBE_1 baBC_1 baBO_1 baK baKWa baKn baKW_1 baKTa baKT_1 baKC_1 baV baVWa baVn baVW_1 baVTa baVT_1 baVC_1 baT_1) ++ ((sh_Visits cI cL cZ zv zvB zvBEa zvBn zvBE zvBC zvBO zvF zvFEa zvFn zvFE zvFC zvFO zvT))))))) := hD
    refine lv_aload_n hx hb d_HelpFile_open_22 rfl (lv_at hl 1 rfl) ?_
    refine lv_aload_n hx hb d_HelpFile_open_23 rfl (lv_at hl 0 rfl) ?_
    refine va_put (D := (dC, dI)) (ci := 0) (v := .ref bb) (ty := t_HelpFile 9) (C := R_HelpFile) (T := F_HelpFile) (N := 14) hx hb hts in_HelpFile t_HelpFile t_HelpFile_ok n_HelpFile hown hK hP hD hS 0 rfl rfl 9 (by decide) (hts _ (List.mem_cons_of_mem _ k367_fieldLink)) (fun _ h9 => h9) rfl (t_HelpFile_ok 9 (by decide)) rfl rfl (Nat.le_of_ble_eq_true rfl) d_HelpFile_open_24 (fun H locs hP hD hS => ?_)
    have hP : va_P (dC, dI) classes ((sh_HelpFile cI cL cZ hf hfS (.ref zi) (.ref zr) hfT hfC (.ref ze) (.ref zv) hfQ hfN (.ref bb) (.ref ba) hfO hfF hfY) ++ ((sh_Row cI cL cZ zi ziEa zin ziE ziC ziO) ++ ((sh_Row cI cL cZ zr zrEa zrn zrE_1 zrC_1 zrO_1) ++ ((sh_ImageReader cI cL cZ ze (.ref zi) (.ref ba) zeP_1) ++ ((sh_Book cI cL cZ ba baNa baN_1 baSa baS_1 baB baBEa baBn baBE_1 baBC_1 baBO_1 baK baKWa baKn baKW_1 baKTa baKT_1 baKC_1 baV baVWa baVn baVW_1 baVTa baVT_1 baVC_1 baT_1) ++ ((sh_Visits cI cL cZ zv zvB zvBEa zvBn zvBE zvBC zvBO zvF zvFEa zvFn zvFE zvFC zvFO zvT))))))) H := hP
    have hD : va_D A ((sh_HelpFile cI cL cZ hf hfS (.ref zi) (.ref zr) hfT hfC (.ref ze) (.ref zv) hfQ hfN (.ref bb) (.ref ba) hfO hfF hfY) ++ ((sh_Row cI cL cZ zi ziEa zin ziE ziC ziO) ++ ((sh_Row cI cL cZ zr zrEa zrn zrE_1 zrC_1 zrO_1) ++ ((sh_ImageReader cI cL cZ ze (.ref zi) (.ref ba) zeP_1) ++ ((sh_Book cI cL cZ ba baNa baN_1 baSa baS_1 baB baBEa baBn baBE_1 baBC_1 baBO_1 baK baKWa baKn baKW_1 baKTa baKT_1 baKC_1 baV baVWa baVn baVW_1 baVTa baVT_1 baVC_1 baT_1) ++ ((sh_Visits cI cL cZ zv zvB zvBEa zvBn zvBE zvBC zvBO zvF zvFEa zvFn zvFE zvFC zvFO zvT))))))) := hD
    refine lv_aload_n hx hb d_HelpFile_open_27 rfl (lv_at hl 1 rfl) ?_
    refine va_get (D := (dC, dI)) (ci := 0) (v := .ref zv) (C := R_HelpFile) (T := F_HelpFile) (N := 14) hx hb hts in_HelpFile hown hK hP 0 rfl rfl 6 (by decide) (hts _ (List.mem_cons_of_mem _ k397_fieldLink)) (fun _ h9 => h9) rfl d_HelpFile_open_28 ?_
    obtain ⟨zvBC_31, zvBO_31, zvFC_31, zvFO_31, zvT_31, c31, hd⟩ := hd
    refine ct_V (As := []) (rest := []) (C := R_Visits) (ci := 6) (q := (R_Visits, F_Visits, 3)) ⟨hx, hb, hml, hown, hts⟩ fm_Visits_restart (c_Visits_restart l dC dI cI cL cZ zv zvB zvBEa zvBn zvBE zvBC zvBO zvF zvFEa zvFn zvFE zvFC zvFO zvT zvBC_31 zvBO_31 zvFC_31 zvFO_31 zvT_31 c31) k398_methodLink k399_instanceMethod k400_selects ⟨Nat.le_of_ble_eq_true rfl, Nat.le_of_ble_eq_true rfl⟩ rfl rfl hK hN hP hD hS hA [17, 18, 19, 20, 21] [0, 1, 2, 3, 4, 5, 6, 7, 8, 9, 10, 11, 12, 13, 14, 15, 16] rfl rfl rfl (by decide) (by decide) (by decide) 17 rfl rfl rfl rfl hl.1 rfl (Nat.le_of_ble_eq_true rfl) d_HelpFile_open_31 (fun H locs hP hD hS => ?_)
    have hP : va_P (dC, dI) classes ((sh_HelpFile cI cL cZ hf hfS (.ref zi) (.ref zr) hfT hfC (.ref ze) (.ref zv) hfQ hfN (.ref bb) (.ref ba) hfO hfF hfY) ++ ((sh_Row cI cL cZ zi ziEa zin ziE ziC ziO) ++ ((sh_Row cI cL cZ zr zrEa zrn zrE_1 zrC_1 zrO_1) ++ ((sh_ImageReader cI cL cZ ze (.ref zi) (.ref ba) zeP_1) ++ ((sh_Book cI cL cZ ba baNa baN_1 baSa baS_1 baB baBEa baBn baBE_1 baBC_1 baBO_1 baK baKWa baKn baKW_1 baKTa baKT_1 baKC_1 baV baVWa baVn baVW_1 baVTa baVT_1 baVC_1 baT_1) ++ ((sh_Visits cI cL cZ zv zvB zvBEa zvBn zvBE zvBC_31 zvBO_31 zvF zvFEa zvFn zvFE zvFC_31 zvFO_31 zvT_31))))))) H := hP.sub [0, 1, 2, 3, 4, 5, 6, 7, 8, 9, 10, 11, 12, 13, 14, 15, 16, 17, 18, 19, 20, 21] rfl
    have hD : va_D A ((sh_HelpFile cI cL cZ hf hfS (.ref zi) (.ref zr) hfT hfC (.ref ze) (.ref zv) hfQ hfN (.ref bb) (.ref ba) hfO hfF hfY) ++ ((sh_Row cI cL cZ zi ziEa zin ziE ziC ziO) ++ ((sh_Row cI cL cZ zr zrEa zrn zrE_1 zrC_1 zrO_1) ++ ((sh_ImageReader cI cL cZ ze (.ref zi) (.ref ba) zeP_1) ++ ((sh_Book cI cL cZ ba baNa baN_1 baSa baS_1 baB baBEa baBn baBE_1 baBC_1 baBO_1 baK baKWa baKn baKW_1 baKTa baKT_1 baKC_1 baV baVWa baVn baVW_1 baVTa baVT_1 baVC_1 baT_1) ++ ((sh_Visits cI cL cZ zv zvB zvBEa zvBn zvBE zvBC_31 zvBO_31 zvF zvFEa zvFn zvFE zvFC_31 zvFO_31 zvT_31))))))) := hD.sub [0, 1, 2, 3, 4, 5, 6, 7, 8, 9, 10, 11, 12, 13, 14, 15, 16, 17, 18, 19, 20, 21] (by decide) rfl
    refine lv_aload_n hx hb d_HelpFile_open_34 rfl (lv_at hl 1 rfl) ?_
    refine lv_iconst (v := 1) hx hb d_HelpFile_open_35 (by decide) ?_
    refine va_put (D := (dC, dI)) (ci := 0) (v := .int (bI true)) (ty := t_HelpFile 11) (C := R_HelpFile) (T := F_HelpFile) (N := 14) hx hb hts in_HelpFile t_HelpFile t_HelpFile_ok n_HelpFile hown hK hP hD hS 0 rfl rfl 11 (by decide) (hts _ (List.mem_cons_of_mem _ k401_fieldLink)) (fun _ h9 => h9) rfl (t_HelpFile_ok 11 (by decide)) (bI_nar _) (bI_fit _) (Nat.le_of_ble_eq_true rfl) d_HelpFile_open_36 (fun H locs hP hD hS => ?_)
    have hP : va_P (dC, dI) classes ((sh_HelpFile cI cL cZ hf hfS (.ref zi) (.ref zr) hfT hfC (.ref ze) (.ref zv) hfQ hfN (.ref bb) (.ref ba) true hfF hfY) ++ ((sh_Row cI cL cZ zi ziEa zin ziE ziC ziO) ++ ((sh_Row cI cL cZ zr zrEa zrn zrE_1 zrC_1 zrO_1) ++ ((sh_ImageReader cI cL cZ ze (.ref zi) (.ref ba) zeP_1) ++ ((sh_Book cI cL cZ ba baNa baN_1 baSa baS_1 baB baBEa baBn baBE_1 baBC_1 baBO_1 baK baKWa baKn baKW_1 baKTa baKT_1 baKC_1 baV baVWa baVn baVW_1 baVTa baVT_1 baVC_1 baT_1) ++ ((sh_Visits cI cL cZ zv zvB zvBEa zvBn zvBE zvBC_31 zvBO_31 zvF zvFEa zvFn zvFE zvFC_31 zvFO_31 zvT_31))))))) H := hP
    have hD : va_D A ((sh_HelpFile cI cL cZ hf hfS (.ref zi) (.ref zr) hfT hfC (.ref ze) (.ref zv) hfQ hfN (.ref bb) (.ref ba) true hfF hfY) ++ ((sh_Row cI cL cZ zi ziEa zin ziE ziC ziO) ++ ((sh_Row cI cL cZ zr zrEa zrn zrE_1 zrC_1 zrO_1) ++ ((sh_ImageReader cI cL cZ ze (.ref zi) (.ref ba) zeP_1) ++ ((sh_Book cI cL cZ ba baNa baN_1 baSa baS_1 baB baBEa baBn baBE_1 baBC_1 baBO_1 baK baKWa baKn baKW_1 baKTa baKT_1 baKC_1 baV baVWa baVn baVW_1 baVTa baVT_1 baVC_1 baT_1) ++ ((sh_Visits cI cL cZ zv zvB zvBEa zvBn zvBE zvBC_31 zvBO_31 zvF zvFEa zvFn zvFE zvFC_31 zvFO_31 zvT_31))))))) := hD
    refine lv_iconst (v := 1) hx hb d_HelpFile_open_39 (by decide) ?_
    obtain ⟨e0, e1, e2, e3, e4, e5, e6, e7, e8, e9, e10, e11, e12, e13, e14, e15, e16, e17, e18, e19, e20, e21, e22, e23, e24⟩ := hd
    subst e0
    subst e1
    subst e2
    subst e3
    subst e4
    subst e5
    subst e6
    subst e7
    subst e8
    subst e9
    subst e10
    subst e11
    subst e12
    subst e13
    subst e14
    subst e15
    subst e16
    subst e17
    subst e18
    subst e19
    subst e20
    subst e21
    subst e22
    subst e23
    subst e24
    exact ct_zret (b := true) hx hb hr hlocks hK hP hD hS d_HelpFile_open_40
  · have hd := hd.1 h4
    refine lv_iconst (v := 0) hx hb d_HelpFile_open_7 (by decide) ?_
    obtain ⟨e0, e1, e2, e3, e4, e5, e6, e7, e8, e9, e10, e11, e12, e13, e14, e15, e16, e17, e18, e19, e20, e21, e22, e23, e24⟩ := hd
    subst e0
    subst e1
    subst e2
    subst e3
    subst e4
    subst e5
    subst e6
    subst e7
    subst e8
    subst e9
    subst e10
    subst e11
    subst e12
    subst e13
    subst e14
    subst e15
    subst e16
    subst e17
    subst e18
    subst e19
    subst e20
    subst e21
    subst e22
    subst e23
    subst e24
    exact ct_zret (b := false) hx hb hr hlocks hK hP hD hS d_HelpFile_open_8
