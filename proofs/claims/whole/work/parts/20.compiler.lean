/-! 20.compiler: what each method does, read off its bytecode (D_..), and its contract (c_..); written by a program of mine. -/
-- Compiler.faultLine
abbrev b_Compiler_faultLine : ByteArray := prog_3_method_2_code
def y_Compiler_faultLine : MethodName := ⟨"HelpFile$Compiler", "faultLine", "()I"⟩
theorem k107_fieldLink : Cond.fieldLink "HelpFile$Compiler" 33 "HelpFile$Compiler" "faultLine" "I" ∈ ga := ga_t 63 (by decide +kernel) rfl
theorem k108_initialized : Cond.initialized "HelpFile$Compiler" ∈ ga := ga_t 3 (by decide +kernel) rfl
set_option maxRecDepth 100000 in
theorem fm_Compiler_faultLine : Fm y_Compiler_faultLine b_Compiler_faultLine 1 (some .int) 0 := ⟨ga_t 440 rfl rfl, k108_initialized, by decide, by decide, by decide +kernel⟩
def D_Compiler_faultLine (coE : Int32) (res : Int32) : Prop := (res = coE)
theorem d_Compiler_faultLine_0 : decode b_Compiler_faultLine 0 = .ok (.aload_n 0, 1) := by decide +kernel
theorem d_Compiler_faultLine_1 : decode b_Compiler_faultLine 1 = .ok (.getfield 33, 3) := by decide +kernel
theorem d_Compiler_faultLine_4 : decode b_Compiler_faultLine 4 = .ok (.ireturn, 1) := by decide +kernel
set_option maxHeartbeats 4000000 in
set_option maxRecDepth 100000 in
theorem c_Compiler_faultLine (l : Launch) (dC : Nat → ClassId) (dI : Nat → Nat → Nat) (cI cL cZ : ClassId) (co : Nat) (coHa : Nat) (coH : Nat → Int32) (coNa : Nat) (coN : Nat → Int64) (coLa : Nat) (coL : Nat → Int32) (coPa : Nat) (coP : Nat → Int32) (coK : Int32) (coS : Value) (coB : Value) (coF : Int32) (coE : Int32) (coW : Int32) (coX : Int32) (coI : Bool) (coD : Bool) (coM : Bool) (res : Int32) (hd : D_Compiler_faultLine coE res) : CtrR l y_Compiler_faultLine (Cond.code y_Compiler_faultLine b_Compiler_faultLine 1 (some .int) :: ga) { frames := 0, cells := 0, slots := 0, locals := 0 } (dC, dI) classes (Tys cI cL cZ) [.ref co] ((sh_Compiler cI cL cZ co coHa coH coNa coN coLa coL coPa coP coK coS coB coF coE coW coX coI coD coM)) (some (.int res)) := by
  refine CtrR.ofW (by decide) (Nat.le_of_ble_eq_true rfl) ?_
  intro p e s m below meth c ls hx hb hr hml hown hlocks hts hK hN hP hD hl
  have hown : s.vm.findClass R_Compiler = some m.cls := hown
  have hl : lv_has ls 1 [(0, .ref co)] := hl
  refine lv_aload_n hx hb d_Compiler_faultLine_0 rfl (lv_at hl 0 rfl) ?_
  refine va_get (D := (dC, dI)) (ci := 4) (v := .int coE) (C := R_Compiler) (T := F_Compiler) (N := 14) hx hb hts in_Compiler hown hK hP 0 rfl rfl 8 (by decide) (hts _ (List.mem_cons_of_mem _ k107_fieldLink)) (fun _ h9 => h9) rfl d_Compiler_faultLine_1 ?_
  have e0 : res = coE := hd
  subst e0
  exact ct_iretR hx hb hr hlocks d_Compiler_faultLine_4
-- Compiler.blame
abbrev b_Compiler_blame : ByteArray := prog_3_method_5_code
def y_Compiler_blame : MethodName := ⟨"HelpFile$Compiler", "blame", "(II)V"⟩
theorem k109_fieldLink : Cond.fieldLink "HelpFile$Compiler" 46 "HelpFile$Compiler" "fault" "I" ∈ ga := ga_t 62 (by decide +kernel) rfl
set_option maxRecDepth 100000 in
theorem fm_Compiler_blame : Fm y_Compiler_blame b_Compiler_blame 3 none 2 := ⟨ga_t 320 rfl rfl, k108_initialized, by decide, by decide, by decide +kernel⟩
def D_Compiler_blame (k0 : Int32) (k1 : Int32) (coF : Int32) (coE : Int32) (coF' : Int32) (coE' : Int32) : Prop := ((coF = 0 → (coF' = k0 ∧ coE' = k1)) ∧ (¬ (coF = 0) → (coF' = coF ∧ coE' = coE)))
theorem d_Compiler_blame_0 : decode b_Compiler_blame 0 = .ok (.aload_n 0, 1) := by decide +kernel
theorem d_Compiler_blame_1 : decode b_Compiler_blame 1 = .ok (.getfield 46, 3) := by decide +kernel
theorem d_Compiler_blame_4 : decode b_Compiler_blame 4 = .ok (.ifCond .ne 13, 3) := by decide +kernel
theorem d_Compiler_blame_7 : decode b_Compiler_blame 7 = .ok (.aload_n 0, 1) := by decide +kernel
theorem d_Compiler_blame_8 : decode b_Compiler_blame 8 = .ok (.iload_n 1, 1) := by decide +kernel
theorem d_Compiler_blame_9 : decode b_Compiler_blame 9 = .ok (.putfield 46, 3) := by decide +kernel
theorem d_Compiler_blame_12 : decode b_Compiler_blame 12 = .ok (.aload_n 0, 1) := by decide +kernel
theorem d_Compiler_blame_13 : decode b_Compiler_blame 13 = .ok (.iload_n 2, 1) := by decide +kernel
theorem d_Compiler_blame_14 : decode b_Compiler_blame 14 = .ok (.putfield 33, 3) := by decide +kernel
theorem d_Compiler_blame_17 : decode b_Compiler_blame 17 = .ok (.return_, 1) := by decide +kernel
set_option maxHeartbeats 4000000 in
set_option maxRecDepth 100000 in
theorem c_Compiler_blame (l : Launch) (dC : Nat → ClassId) (dI : Nat → Nat → Nat) (cI cL cZ : ClassId) (co : Nat) (coHa : Nat) (coH : Nat → Int32) (coNa : Nat) (coN : Nat → Int64) (coLa : Nat) (coL : Nat → Int32) (coPa : Nat) (coP : Nat → Int32) (coK : Int32) (coS : Value) (coB : Value) (coF : Int32) (coE : Int32) (coW : Int32) (coX : Int32) (coI : Bool) (coD : Bool) (coM : Bool) (k0 : Int32) (k1 : Int32) (coF' : Int32) (coE' : Int32) (hd : D_Compiler_blame k0 k1 coF coE coF' coE') : Ctr l y_Compiler_blame (Cond.code y_Compiler_blame b_Compiler_blame 3 none :: ga) { frames := 0, cells := 0, slots := 0, locals := 0 } (dC, dI) classes (Tys cI cL cZ) [.ref co, .int k0, .int k1] ((sh_Compiler cI cL cZ co coHa coH coNa coN coLa coL coPa coP coK coS coB coF coE coW coX coI coD coM)) none ((sh_Compiler cI cL cZ co coHa coH coNa coN coLa coL coPa coP coK coS coB coF' coE' coW coX coI coD coM)) := by
  refine Ctr.ofW (by decide) (Nat.le_of_ble_eq_true rfl) ?_
  intro p e s m below meth c A ls hx hb hr hml hown hlocks hts hK hN hA hP hD hS hl
  have hown : s.vm.findClass R_Compiler = some m.cls := hown
  have hl : lv_has ls 3 [(0, .ref co), (1, .int k0), (2, .int k1)] := hl
  refine lv_aload_n hx hb d_Compiler_blame_0 rfl (lv_at hl 0 rfl) ?_
  refine va_get (D := (dC, dI)) (ci := 4) (v := .int coF) (C := R_Compiler) (T := F_Compiler) (N := 14) hx hb hts in_Compiler hown hK hP 0 rfl rfl 7 (by decide) (hts _ (List.mem_cons_of_mem _ k109_fieldLink)) (fun _ h9 => h9) rfl d_Compiler_blame_1 ?_
  refine lv_if_ne (tgt := 17) hx hb d_Compiler_blame_4 (by decide) (fun h4 => ?_) (fun h4 => ?_)
  · have hd := hd.2 h4
    obtain ⟨e0, e1⟩ := hd
    subst e0
    subst e1
    exact ct_vret hx hb hr hlocks hK hP hD hS d_Compiler_blame_17
  · have hd := hd.1 h4
    refine lv_aload_n hx hb d_Compiler_blame_7 rfl (lv_at hl 0 rfl) ?_
    refine lv_iload_n hx hb d_Compiler_blame_8 rfl (lv_at hl 1 rfl) ?_
    refine va_put (D := (dC, dI)) (ci := 4) (v := .int k0) (ty := t_Compiler 7) (C := R_Compiler) (T := F_Compiler) (N := 14) hx hb hts in_Compiler t_Compiler t_Compiler_ok n_Compiler hown hK hP hD hS 0 rfl rfl 7 (by decide) (hts _ (List.mem_cons_of_mem _ k109_fieldLink)) (fun _ h9 => h9) rfl (t_Compiler_ok 7 (by decide)) rfl rfl (Nat.le_of_ble_eq_true rfl) d_Compiler_blame_9 (fun H locs hP hD hS => ?_)
    have hP : va_P (dC, dI) classes ((sh_Compiler cI cL cZ co coHa coH coNa coN coLa coL coPa coP coK coS coB k0 coE coW coX coI coD coM)) H := hP
    have hD : va_D A ((sh_Compiler cI cL cZ co coHa coH coNa coN coLa coL coPa coP coK coS coB k0 coE coW coX coI coD coM)) := hD
    refine lv_aload_n hx hb d_Compiler_blame_12 rfl (lv_at hl 0 rfl) ?_
    refine lv_iload_n hx hb d_Compiler_blame_13 rfl (lv_at hl 2 rfl) ?_
    refine va_put (D := (dC, dI)) (ci := 4) (v := .int k1) (ty := t_Compiler 8) (C := R_Compiler) (T := F_Compiler) (N := 14) hx hb hts in_Compiler t_Compiler t_Compiler_ok n_Compiler hown hK hP hD hS 0 rfl rfl 8 (by decide) (hts _ (List.mem_cons_of_mem _ k107_fieldLink)) (fun _ h9 => h9) rfl (t_Compiler_ok 8 (by decide)) rfl rfl (Nat.le_of_ble_eq_true rfl) d_Compiler_blame_14 (fun H locs hP hD hS => ?_)
    have hP : va_P (dC, dI) classes ((sh_Compiler cI cL cZ co coHa coH coNa coN coLa coL coPa coP coK coS coB k0 k1 coW coX coI coD coM)) H := hP
    have hD : va_D A ((sh_Compiler cI cL cZ co coHa coH coNa coN coLa coL coPa coP coK coS coB k0 k1 coW coX coI coD coM)) := hD
    obtain ⟨e0, e1⟩ := hd
    subst e0
    subst e1
    exact ct_vret hx hb hr hlocks hK hP hD hS d_Compiler_blame_17
-- Compiler.restart
abbrev b_Compiler_restart : ByteArray := prog_3_method_4_code
def y_Compiler_restart : MethodName := ⟨"HelpFile$Compiler", "restart", "()V"⟩
theorem k110_fieldLink : Cond.fieldLink "HelpFile$Compiler" 29 "HelpFile$Compiler" "book" "LHelpFile$Book;" ∈ ga := ga_t 61 (by decide +kernel) rfl
theorem k111_methodLink : Cond.methodLink "HelpFile$Compiler" 77 ⟨"HelpFile$Book", "clear", "()V"⟩ ∈ ga := ga_t 281 (by decide +kernel) rfl
theorem k112_instanceMethod : Cond.instanceMethod ⟨"HelpFile$Book", "clear", "()V"⟩ ∈ ga := ga_t 282 (by decide +kernel) rfl
theorem k113_selects : Cond.selects "HelpFile$Book" ⟨"HelpFile$Book", "clear", "()V"⟩ ⟨"HelpFile$Book", "clear", "()V"⟩ ∈ ga := ga_t 283 (by decide +kernel) rfl
theorem k114_fieldLink : Cond.fieldLink "HelpFile$Compiler" 80 "HelpFile$Compiler" "links" "I" ∈ ga := ga_t 59 (by decide +kernel) rfl
theorem k115_fieldLink : Cond.fieldLink "HelpFile$Compiler" 57 "HelpFile$Compiler" "lineNow" "I" ∈ ga := ga_t 64 (by decide +kernel) rfl
theorem k116_fieldLink : Cond.fieldLink "HelpFile$Compiler" 83 "HelpFile$Compiler" "textLine" "I" ∈ ga := ga_t 65 (by decide +kernel) rfl
theorem k117_fieldLink : Cond.fieldLink "HelpFile$Compiler" 86 "HelpFile$Compiler" "inParagraph" "Z" ∈ ga := ga_t 66 (by decide +kernel) rfl
theorem k118_fieldLink : Cond.fieldLink "HelpFile$Compiler" 90 "HelpFile$Compiler" "blankDue" "Z" ∈ ga := ga_t 67 (by decide +kernel) rfl
theorem k119_fieldLink : Cond.fieldLink "HelpFile$Compiler" 93 "HelpFile$Compiler" "emphasis" "Z" ∈ ga := ga_t 68 (by decide +kernel) rfl
set_option maxRecDepth 100000 in
theorem fm_Compiler_restart : Fm y_Compiler_restart b_Compiler_restart 1 none 0 := ⟨ga_t 280 rfl rfl, k108_initialized, by decide, by decide, by decide +kernel⟩
def D_Compiler_restart (coK : Int32) (coF : Int32) (coE : Int32) (coW : Int32) (coX : Int32) (coI : Bool) (coD : Bool) (coM : Bool) (bkBC : Int32) (bkBO : Bool) (bkKC : Int32) (bkT : Int32) (coK' : Int32) (coF' : Int32) (coE' : Int32) (coW' : Int32) (coX' : Int32) (coI' : Bool) (coD' : Bool) (coM' : Bool) (bkBC' : Int32) (bkBO' : Bool) (bkKC' : Int32) (bkT' : Int32) : Prop := (∃ bkBC_4 : Int32, ∃ bkBO_4 : Bool, ∃ bkKC_4 : Int32, ∃ bkT_4 : Int32, D_Book_clear bkBC bkBO bkKC bkT bkBC_4 bkBO_4 bkKC_4 bkT_4 ∧ (coK' = 0 ∧ coF' = 0 ∧ coE' = (-1) ∧ coW' = 0 ∧ coX' = 0 ∧ coI' = false ∧ coD' = false ∧ coM' = false ∧ bkBC' = bkBC_4 ∧ bkBO' = bkBO_4 ∧ bkKC' = bkKC_4 ∧ bkT' = bkT_4))
theorem d_Compiler_restart_0 : decode b_Compiler_restart 0 = .ok (.aload_n 0, 1) := by decide +kernel
theorem d_Compiler_restart_1 : decode b_Compiler_restart 1 = .ok (.getfield 29, 3) := by decide +kernel
theorem d_Compiler_restart_4 : decode b_Compiler_restart 4 = .ok (.invokevirtual 77, 3) := by decide +kernel
theorem d_Compiler_restart_7 : decode b_Compiler_restart 7 = .ok (.aload_n 0, 1) := by decide +kernel
theorem d_Compiler_restart_8 : decode b_Compiler_restart 8 = .ok (.iconst 0, 1) := by decide +kernel
theorem d_Compiler_restart_9 : decode b_Compiler_restart 9 = .ok (.putfield 80, 3) := by decide +kernel
theorem d_Compiler_restart_12 : decode b_Compiler_restart 12 = .ok (.aload_n 0, 1) := by decide +kernel
theorem d_Compiler_restart_13 : decode b_Compiler_restart 13 = .ok (.iconst 0, 1) := by decide +kernel
theorem d_Compiler_restart_14 : decode b_Compiler_restart 14 = .ok (.putfield 46, 3) := by decide +kernel
theorem d_Compiler_restart_17 : decode b_Compiler_restart 17 = .ok (.aload_n 0, 1) := by decide +kernel
theorem d_Compiler_restart_18 : decode b_Compiler_restart 18 = .ok (.iconst (-1), 1) := by decide +kernel
theorem d_Compiler_restart_19 : decode b_Compiler_restart 19 = .ok (.putfield 33, 3) := by decide +kernel
theorem d_Compiler_restart_22 : decode b_Compiler_restart 22 = .ok (.aload_n 0, 1) := by decide +kernel
theorem d_Compiler_restart_23 : decode b_Compiler_restart 23 = .ok (.iconst 0, 1) := by decide +kernel
theorem d_Compiler_restart_24 : decode b_Compiler_restart 24 = .ok (.putfield 57, 3) := by decide +kernel
theorem d_Compiler_restart_27 : decode b_Compiler_restart 27 = .ok (.aload_n 0, 1) := by decide +kernel
theorem d_Compiler_restart_28 : decode b_Compiler_restart 28 = .ok (.iconst 0, 1) := by decide +kernel
theorem d_Compiler_restart_29 : decode b_Compiler_restart 29 = .ok (.putfield 83, 3) := by decide +kernel
theorem d_Compiler_restart_32 : decode b_Compiler_restart 32 = .ok (.aload_n 0, 1) := by decide +kernel
theorem d_Compiler_restart_33 : decode b_Compiler_restart 33 = .ok (.iconst 0, 1) := by decide +kernel
theorem d_Compiler_restart_34 : decode b_Compiler_restart 34 = .ok (.putfield 86, 3) := by decide +kernel
theorem d_Compiler_restart_37 : decode b_Compiler_restart 37 = .ok (.aload_n 0, 1) := by decide +kernel
theorem d_Compiler_restart_38 : decode b_Compiler_restart 38 = .ok (.iconst 0, 1) := by decide +kernel
theorem d_Compiler_restart_39 : decode b_Compiler_restart 39 = .ok (.putfield 90, 3) := by decide +kernel
theorem d_Compiler_restart_42 : decode b_Compiler_restart 42 = .ok (.aload_n 0, 1) := by decide +kernel
theorem d_Compiler_restart_43 : decode b_Compiler_restart 43 = .ok (.iconst 0, 1) := by decide +kernel
theorem d_Compiler_restart_44 : decode b_Compiler_restart 44 = .ok (.putfield 93, 3) := by decide +kernel
theorem d_Compiler_restart_47 : decode b_Compiler_restart 47 = .ok (.return_, 1) := by decide +kernel
set_option maxHeartbeats 4000000 in
set_option maxRecDepth 100000 in
theorem c_Compiler_restart (l : Launch) (dC : Nat → ClassId) (dI : Nat → Nat → Nat) (cI cL cZ : ClassId) (co : Nat) (coHa : Nat) (coH : Nat → Int32) (coNa : Nat) (coN : Nat → Int64) (coLa : Nat) (coL : Nat → Int32) (coPa : Nat) (coP : Nat → Int32) (coK : Int32) (coS : Value) (coF : Int32) (coE : Int32) (coW : Int32) (coX : Int32) (coI : Bool) (coD : Bool) (coM : Bool) (bk : Nat) (bkNa : Nat) (bkN : Nat → Int64) (bkSa : Nat) (bkS : Nat → Int32) (bkB : Nat) (bkBEa : Nat) (bkBn : Nat) (bkBE : Nat → Int32) (bkBC : Int32) (bkBO : Bool) (bkK : Nat) (bkKWa : Nat) (bkKn : Nat) (bkKW : Nat → Int64) (bkKTa : Nat) (bkKT : Nat → Int32) (bkKC : Int32) (bkV : Nat) (bkVWa : Nat) (bkVn : Nat) (bkVW : Nat → Int64) (bkVTa : Nat) (bkVT : Nat → Int32) (bkVC : Int32) (bkT : Int32) (coK' : Int32) (coF' : Int32) (coE' : Int32) (coW' : Int32) (coX' : Int32) (coI' : Bool) (coD' : Bool) (coM' : Bool) (bkBC' : Int32) (bkBO' : Bool) (bkKC' : Int32) (bkT' : Int32) (hd : D_Compiler_restart coK coF coE coW coX coI coD coM bkBC bkBO bkKC bkT coK' coF' coE' coW' coX' coI' coD' coM' bkBC' bkBO' bkKC' bkT') : Ctr l y_Compiler_restart (Cond.code y_Compiler_restart b_Compiler_restart 1 none :: ga) { frames := 2, cells := 0, slots := 0, locals := 41 } (dC, dI) classes (Tys cI cL cZ) [.ref co] ((sh_Compiler cI cL cZ co coHa coH coNa coN coLa coL coPa coP coK coS (.ref bk) coF coE coW coX coI coD coM) ++ ((sh_Book cI cL cZ bk bkNa bkN bkSa bkS bkB bkBEa bkBn bkBE bkBC bkBO bkK bkKWa bkKn bkKW bkKTa bkKT bkKC bkV bkVWa bkVn bkVW bkVTa bkVT bkVC bkT))) none ((sh_Compiler cI cL cZ co coHa coH coNa coN coLa coL coPa coP coK' coS (.ref bk) coF' coE' coW' coX' coI' coD' coM') ++ ((sh_Book cI cL cZ bk bkNa bkN bkSa bkS bkB bkBEa bkBn bkBE bkBC' bkBO' bkK bkKWa bkKn bkKW bkKTa bkKT bkKC' bkV bkVWa bkVn bkVW bkVTa bkVT bkVC bkT'))) := by
  refine Ctr.ofW (by decide) (Nat.le_of_ble_eq_true rfl) ?_
  intro p e s m below meth c A ls hx hb hr hml hown hlocks hts hK hN hA hP hD hS hl
  have hown : s.vm.findClass R_Compiler = some m.cls := hown
  have hl : lv_has ls 1 [(0, .ref co)] := hl
  refine lv_aload_n hx hb d_Compiler_restart_0 rfl (lv_at hl 0 rfl) ?_
  refine va_get (D := (dC, dI)) (ci := 4) (v := .ref bk) (C := R_Compiler) (T := F_Compiler) (N := 14) hx hb hts in_Compiler hown hK hP 0 rfl rfl 6 (by decide) (hts _ (List.mem_cons_of_mem _ k110_fieldLink)) (fun _ h9 => h9) rfl d_Compiler_restart_1 ?_
  obtain ⟨bkBC_4, bkBO_4, bkKC_4, bkT_4, c4, hd⟩ := hd
  refine ct_V (As := []) (rest := []) (C := R_Book) (ci := 3) (q := (R_Book, F_Book, 6)) ⟨hx, hb, hml, hown, hts⟩ fm_Book_clear (c_Book_clear l dC dI cI cL cZ bk bkNa bkN bkSa bkS bkB bkBEa bkBn bkBE bkBC bkBO bkK bkKWa bkKn bkKW bkKTa bkKT bkKC bkV bkVWa bkVn bkVW bkVTa bkVT bkVC bkT bkBC_4 bkBO_4 bkKC_4 bkT_4 c4) k111_methodLink k112_instanceMethod k113_selects ⟨Nat.le_of_ble_eq_true rfl, Nat.le_of_ble_eq_true rfl⟩ rfl rfl hK hN hP hD hS hA [5, 6, 7, 8, 9, 10, 11, 12, 13, 14, 15] [0, 1, 2, 3, 4] rfl rfl rfl (by decide) (by decide) (by decide) 5 rfl rfl rfl rfl hl.1 rfl (Nat.le_of_ble_eq_true rfl) d_Compiler_restart_4 (fun H locs hP hD hS => ?_)
  have hP : va_P (dC, dI) classes ((sh_Compiler cI cL cZ co coHa coH coNa coN coLa coL coPa coP coK coS (.ref bk) coF coE coW coX coI coD coM) ++ ((sh_Book cI cL cZ bk bkNa bkN bkSa bkS bkB bkBEa bkBn bkBE bkBC_4 bkBO_4 bkK bkKWa bkKn bkKW bkKTa bkKT bkKC_4 bkV bkVWa bkVn bkVW bkVTa bkVT bkVC bkT_4))) H := hP.sub [0, 1, 2, 3, 4, 5, 6, 7, 8, 9, 10, 11, 12, 13, 14, 15] rfl
  have hD : va_D A ((sh_Compiler cI cL cZ co coHa coH coNa coN coLa coL coPa coP coK coS (.ref bk) coF coE coW coX coI coD coM) ++ ((sh_Book cI cL cZ bk bkNa bkN bkSa bkS bkB bkBEa bkBn bkBE bkBC_4 bkBO_4 bkK bkKWa bkKn bkKW bkKTa bkKT bkKC_4 bkV bkVWa bkVn bkVW bkVTa bkVT bkVC bkT_4))) := hD.sub [0, 1, 2, 3, 4, 5, 6, 7, 8, 9, 10, 11, 12, 13, 14, 15] (by decide) rfl
  refine lv_aload_n hx hb d_Compiler_restart_7 rfl (lv_at hl 0 rfl) ?_
  refine lv_iconst (v := 0) hx hb d_Compiler_restart_8 (by decide) ?_
  refine va_put (D := (dC, dI)) (ci := 4) (v := .int 0) (ty := t_Compiler 4) (C := R_Compiler) (T := F_Compiler) (N := 14) hx hb hts in_Compiler t_Compiler t_Compiler_ok n_Compiler hown hK hP hD hS 0 rfl rfl 4 (by decide) (hts _ (List.mem_cons_of_mem _ k114_fieldLink)) (fun _ h9 => h9) rfl (t_Compiler_ok 4 (by decide)) rfl rfl (Nat.le_of_ble_eq_true rfl) d_Compiler_restart_9 (fun H locs hP hD hS => ?_)
  have hP : va_P (dC, dI) classes ((sh_Compiler cI cL cZ co coHa coH coNa coN coLa coL coPa coP 0 coS (.ref bk) coF coE coW coX coI coD coM) ++ ((sh_Book cI cL cZ bk bkNa bkN bkSa bkS bkB bkBEa bkBn bkBE bkBC_4 bkBO_4 bkK bkKWa bkKn bkKW bkKTa bkKT bkKC_4 bkV bkVWa bkVn bkVW bkVTa bkVT bkVC bkT_4))) H := hP
  have hD : va_D A ((sh_Compiler cI cL cZ co coHa coH coNa coN coLa coL coPa coP 0 coS (.ref bk) coF coE coW coX coI coD coM) ++ ((sh_Book cI cL cZ bk bkNa bkN bkSa bkS bkB bkBEa bkBn bkBE bkBC_4 bkBO_4 bkK bkKWa bkKn bkKW bkKTa bkKT bkKC_4 bkV bkVWa bkVn bkVW bkVTa bkVT bkVC bkT_4))) := hD
  refine lv_aload_n hx hb d_Compiler_restart_12 rfl (lv_at hl 0 rfl) ?_
  refine lv_iconst (v := 0) hx hb d_Compiler_restart_13 (by decide) ?_
  refine va_put (D := (dC, dI)) (ci := 4) (v := .int 0) (ty := t_Compiler 7) (C := R_Compiler) (T := F_Compiler) (N := 14) hx hb hts in_Compiler t_Compiler t_Compiler_ok n_Compiler hown hK hP hD hS 0 rfl rfl 7 (by decide) (hts _ (List.mem_cons_of_mem _ k109_fieldLink)) (fun _ h9 => h9) rfl (t_Compiler_ok 7 (by decide)) rfl rfl (Nat.le_of_ble_eq_true rfl) d_Compiler_restart_14 (fun H locs hP hD hS => ?_)
  have hP : va_P (dC, dI) classes ((sh_Compiler cI cL cZ co coHa coH coNa coN coLa coL coPa coP 0 coS (.ref bk) 0 coE coW coX coI coD coM) ++ ((sh_Book cI cL cZ bk bkNa bkN bkSa bkS bkB bkBEa bkBn bkBE bkBC_4 bkBO_4 bkK bkKWa bkKn bkKW bkKTa bkKT bkKC_4 bkV bkVWa bkVn bkVW bkVTa bkVT bkVC bkT_4))) H := hP
  have hD : va_D A ((sh_Compiler cI cL cZ co coHa coH coNa coN coLa coL coPa coP 0 coS (.ref bk) 0 coE coW coX coI coD coM) ++ ((sh_Book cI cL cZ bk bkNa bkN bkSa bkS bkB bkBEa bkBn bkBE bkBC_4 bkBO_4 bkK bkKWa bkKn bkKW bkKTa bkKT bkKC_4 bkV bkVWa bkVn bkVW bkVTa bkVT bkVC bkT_4))) := hD
  refine lv_aload_n hx hb d_Compiler_restart_17 rfl (lv_at hl 0 rfl) ?_
  refine lv_iconst (v := (-1)) hx hb d_Compiler_restart_18 (by decide) ?_
  refine va_put (D := (dC, dI)) (ci := 4) (v := .int (-1)) (ty := t_Compiler 8) (C := R_Compiler) (T := F_Compiler) (N := 14) hx hb hts in_Compiler t_Compiler t_Compiler_ok n_Compiler hown hK hP hD hS 0 rfl rfl 8 (by decide) (hts _ (List.mem_cons_of_mem _ k107_fieldLink)) (fun _ h9 => h9) rfl (t_Compiler_ok 8 (by decide)) rfl rfl (Nat.le_of_ble_eq_true rfl) d_Compiler_restart_19 (fun H locs hP hD hS => ?_)
  have hP : va_P (dC, dI) classes ((sh_Compiler cI cL cZ co coHa coH coNa coN coLa coL coPa coP 0 coS (.ref bk) 0 (-1) coW coX coI coD coM) ++ ((sh_Book cI cL cZ bk bkNa bkN bkSa bkS bkB bkBEa bkBn bkBE bkBC_4 bkBO_4 bkK bkKWa bkKn bkKW bkKTa bkKT bkKC_4 bkV bkVWa bkVn bkVW bkVTa bkVT bkVC bkT_4))) H := hP
  have hD : va_D A ((sh_Compiler cI cL cZ co coHa coH coNa coN coLa coL coPa coP 0 coS (.ref bk) 0 (-1) coW coX coI coD coM) ++ ((sh_Book cI cL cZ bk bkNa bkN bkSa bkS bkB bkBEa bkBn bkBE bkBC_4 bkBO_4 bkK bkKWa bkKn bkKW bkKTa bkKT bkKC_4 bkV bkVWa bkVn bkVW bkVTa bkVT bkVC bkT_4))) := hD
  refine lv_aload_n hx hb d_Compiler_restart_22 rfl (lv_at hl 0 rfl) ?_
  refine lv_iconst (v := 0) hx hb d_Compiler_restart_23 (by decide) ?_
  refine va_put (D := (dC, dI)) (ci := 4) (v := .int 0) (ty := t_Compiler 9) (C := R_Compiler) (T := F_Compiler) (N := 14) hx hb hts in_Compiler t_Compiler t_Compiler_ok n_Compiler hown hK hP hD hS 0 rfl rfl 9 (by decide) (hts _ (List.mem_cons_of_mem _ k115_fieldLink)) (fun _ h9 => h9) rfl (t_Compiler_ok 9 (by decide)) rfl rfl (Nat.le_of_ble_eq_true rfl) d_Compiler_restart_24 (fun H locs hP hD hS => ?_)
  have hP : va_P (dC, dI) classes ((sh_Compiler cI cL cZ co coHa coH coNa coN coLa coL coPa coP 0 coS (.ref bk) 0 (-1) 0 coX coI coD coM) ++ ((sh_Book cI cL cZ bk bkNa bkN bkSa bkS bkB bkBEa bkBn bkBE bkBC_4 bkBO_4 bkK bkKWa bkKn bkKW bkKTa bkKT bkKC_4 bkV bkVWa bkVn bkVW bkVTa bkVT bkVC bkT_4))) H := hP
  have hD : va_D A ((sh_Compiler cI cL cZ co coHa coH coNa coN coLa coL coPa coP 0 coS (.ref bk) 0 (-1) 0 coX coI coD coM) ++ ((sh_Book cI cL cZ bk bkNa bkN bkSa bkS bkB bkBEa bkBn bkBE bkBC_4 bkBO_4 bkK bkKWa bkKn bkKW bkKTa bkKT bkKC_4 bkV bkVWa bkVn bkVW bkVTa bkVT bkVC bkT_4))) := hD
  refine lv_aload_n hx hb d_Compiler_restart_27 rfl (lv_at hl 0 rfl) ?_
  refine lv_iconst (v := 0) hx hb d_Compiler_restart_28 (by decide) ?_
  refine va_put (D := (dC, dI)) (ci := 4) (v := .int 0) (ty := t_Compiler 10) (C := R_Compiler) (T := F_Compiler) (N := 14) hx hb hts in_Compiler t_Compiler t_Compiler_ok n_Compiler hown hK hP hD hS 0 rfl rfl 10 (by decide) (hts _ (List.mem_cons_of_mem _ k116_fieldLink)) (fun _ h9 => h9) rfl (t_Compiler_ok 10 (by decide)) rfl rfl (Nat.le_of_ble_eq_true rfl) d_Compiler_restart_29 (fun H locs hP hD hS => ?_)
  have hP : va_P (dC, dI) classes ((sh_Compiler cI cL cZ co coHa coH coNa coN coLa coL coPa coP 0 coS (.ref bk) 0 (-1) 0 0 coI coD coM) ++ ((sh_Book cI cL cZ bk bkNa bkN bkSa bkS bkB bkBEa bkBn bkBE bkBC_4 bkBO_4 bkK bkKWa bkKn bkKW bkKTa bkKT bkKC_4 bkV bkVWa bkVn bkVW bkVTa bkVT bkVC bkT_4))) H := hP
  have hD : va_D A ((sh_Compiler cI cL cZ co coHa coH coNa coN coLa coL coPa coP 0 coS (.ref bk) 0 (-1) 0 0 coI coD coM) ++ ((sh_Book cI cL cZ bk bkNa bkN bkSa bkS bkB bkBEa bkBn bkBE bkBC_4 bkBO_4 bkK bkKWa bkKn bkKW bkKTa bkKT bkKC_4 bkV bkVWa bkVn bkVW bkVTa bkVT bkVC bkT_4))) := hD
  refine lv_aload_n hx hb d_Compiler_restart_32 rfl (lv_at hl 0 rfl) ?_
  refine lv_iconst (v := 0) hx hb d_Compiler_restart_33 (by decide) ?_
  refine va_put (D := (dC, dI)) (ci := 4) (v := .int (bI false)) (ty := t_Compiler 11) (C := R_Compiler) (T := F_Compiler) (N := 14) hx hb hts in_Compiler t_Compiler t_Compiler_ok n_Compiler hown hK hP hD hS 0 rfl rfl 11 (by decide) (hts _ (List.mem_cons_of_mem _ k117_fieldLink)) (fun _ h9 => h9) rfl (t_Compiler_ok 11 (by decide)) (bI_nar _) (bI_fit _) (Nat.le_of_ble_eq_true rfl) d_Compiler_restart_34 (fun H locs hP hD hS => ?_)
  have hP : va_P (dC, dI) classes ((sh_Compiler cI cL cZ co coHa coH coNa coN coLa coL coPa coP 0 coS (.ref bk) 0 (-1) 0 0 false coD coM) ++ ((sh_Book cI cL cZ bk bkNa bkN bkSa bkS bkB bkBEa bkBn bkBE bkBC_4 bkBO_4 bkK bkKWa bkKn bkKW bkKTa bkKT bkKC_4 bkV bkVWa bkVn bkVW bkVTa bkVT bkVC bkT_4))) H := hP
  have hD : va_D A ((sh_Compiler cI cL cZ co coHa coH coNa coN coLa coL coPa coP 0 coS (.ref bk) 0 (-1) 0 0 false coD coM) ++ ((sh_Book cI cL cZ bk bkNa bkN bkSa bkS bkB bkBEa bkBn bkBE bkBC_4 bkBO_4 bkK bkKWa bkKn bkKW bkKTa bkKT bkKC_4 bkV bkVWa bkVn bkVW bkVTa bkVT bkVC bkT_4))) := hD
  refine lv_aload_n hx hb d_Compiler_restart_37 rfl (lv_at hl 0 rfl) ?_
  refine lv_iconst (v := 0) hx hb d_Compiler_restart_38 (by decide) ?_
  refine va_put (D := (dC, dI)) (ci := 4) (v := .int (bI false)) (ty := t_Compiler 12) (C := R_Compiler) (T := F_Compiler) (N := 14) hx hb hts in_Compiler t_Compiler t_Compiler_ok n_Compiler hown hK hP hD hS 0 rfl rfl 12 (by decide) (hts _ (List.mem_cons_of_mem _ k118_fieldLink)) (fun _ h9 => h9) rfl (t_Compiler_ok 12 (by decide)) (bI_nar _) (bI_fit _) (Nat.le_of_ble_eq_true rfl) d_Compiler_restart_39 (fun H locs hP hD hS => ?_)
  have hP : va_P (dC, dI) classes ((sh_Compiler cI cL cZ co coHa coH coNa coN coLa coL coPa coP 0 coS (.ref bk) 0 (-1) 0 0 false false coM) ++ ((sh_Book cI cL cZ bk bkNa bkN bkSa bkS bkB bkBEa bkBn bkBE bkBC_4 bkBO_4 bkK bkKWa bkKn bkKW bkKTa bkKT bkKC_4 bkV bkVWa bkVn bkVW bkVTa bkVT bkVC bkT_4))) H := hP
  have hD : va_D A ((sh_Compiler cI cL cZ co coHa coH coNa coN coLa coL coPa coP 0 coS (.ref bk) 0 (-1) 0 0 false false coM) ++ ((sh_Book cI cL cZ bk bkNa bkN bkSa bkS bkB bkBEa bkBn bkBE bkBC_4 bkBO_4 bkK bkKWa bkKn bkKW bkKTa bkKT bkKC_4 bkV bkVWa bkVn bkVW bkVTa bkVT bkVC bkT_4))) := hD
  refine lv_aload_n hx hb d_Compiler_restart_42 rfl (lv_at hl 0 rfl) ?_
  refine lv_iconst (v := 0) hx hb d_Compiler_restart_43 (by decide) ?_
  refine va_put (D := (dC, dI)) (ci := 4) (v := .int (bI false)) (ty := t_Compiler 13) (C := R_Compiler) (T := F_Compiler) (N := 14) hx hb hts in_Compiler t_Compiler t_Compiler_ok n_Compiler hown hK hP hD hS 0 rfl rfl 13 (by decide) (hts _ (List.mem_cons_of_mem _ k119_fieldLink)) (fun _ h9 => h9) rfl (t_Compiler_ok 13 (by decide)) (bI_nar _) (bI_fit _) (Nat.le_of_ble_eq_true rfl) d_Compiler_restart_44 (fun H locs hP hD hS => ?_)
  have hP : va_P (dC, dI) classes ((sh_Compiler cI cL cZ co coHa coH coNa coN coLa coL coPa coP 0 coS (.ref bk) 0 (-1) 0 0 false false false) ++ ((sh_Book cI cL cZ bk bkNa bkN bkSa bkS bkB bkBEa bkBn bkBE bkBC_4 bkBO_4 bkK bkKWa bkKn bkKW bkKTa bkKT bkKC_4 bkV bkVWa bkVn bkVW bkVTa bkVT bkVC bkT_4))) H := hP
  have hD : va_D A ((sh_Compiler cI cL cZ co coHa coH coNa coN coLa coL coPa coP 0 coS (.ref bk) 0 (-1) 0 0 false false false) ++ ((sh_Book cI cL cZ bk bkNa bkN bkSa bkS bkB bkBEa bkBn bkBE bkBC_4 bkBO_4 bkK bkKWa bkKn bkKW bkKTa bkKT bkKC_4 bkV bkVWa bkVn bkVW bkVTa bkVT bkVC bkT_4))) := hD
  obtain ⟨e0, e1, e2, e3, e4, e5, e6, e7, e8, e9, e10, e11⟩ := hd
  subst e0
  subst e1
  subst e2
  subst e3
  subst e4
  subst e5
  subst e6
  subst e7
  subst e8
  subst e9
  subst e10
  subst e11
  exact ct_vret hx hb hr hlocks hK hP hD hS d_Compiler_restart_47
-- Compiler.lineEnd
abbrev b_Compiler_lineEnd : ByteArray := prog_3_method_6_code
def y_Compiler_lineEnd : MethodName := ⟨"HelpFile$Compiler", "lineEnd", "(I)I"⟩
theorem k120_fieldLink : Cond.fieldLink "HelpFile$Compiler" 25 "HelpFile$Compiler" "source" "LHelpFile$Row;" ∈ ga := ga_t 60 (by decide +kernel) rfl
theorem k121_methodLink : Cond.methodLink "HelpFile$Compiler" 40 ⟨"HelpFile$Row", "count", "()I"⟩ ∈ ga := ga_t 293 (by decide +kernel) rfl
theorem k122_methodLink : Cond.methodLink "HelpFile$Compiler" 96 ⟨"HelpFile$Row", "element", "(I)I"⟩ ∈ ga := ga_t 301 (by decide +kernel) rfl
set_option maxRecDepth 100000 in
theorem fm_Compiler_lineEnd : Fm y_Compiler_lineEnd b_Compiler_lineEnd 3 (some .int) 1 := ⟨ga_t 300 rfl rfl, k108_initialized, by decide, by decide, by decide +kernel⟩
def B_Compiler_lineEnd_2 (srn : Nat) (srE : Nat → Int32) (srC : Int32) (res : Int32) (X : Int32 → Prop) (x2 : Int32) : Prop := ((srC ≤ x2 → (res = x2)) ∧ (¬ (srC ≤ x2) → (∃ r18 : Int32, D_Row_element srn x2 srE srC r18 ∧ ((r18 = 10 → (res = x2)) ∧ (¬ (r18 = 10) → X (x2 + 1))))))
def S_Compiler_lineEnd (srn : Nat) (srE : Nat → Int32) (srC : Int32) (res : Int32) (X : Int32 → Prop) : Int32 → Prop := fun x2 => B_Compiler_lineEnd_2 srn srE srC res X x2
def T_Compiler_lineEnd (srn : Nat) (srE : Nat → Int32) (srC : Int32) (res : Int32) : Nat → (Int32 → Prop)
  | 0 => fun _ => False
  | n + 1 => S_Compiler_lineEnd srn srE srC res (T_Compiler_lineEnd srn srE srC res n)
def D_Compiler_lineEnd (srn : Nat) (k0 : Int32) (srE : Nat → Int32) (srC : Int32) (res : Int32) : Prop := ∃ n : Nat, T_Compiler_lineEnd srn srE srC res n k0
theorem d_Compiler_lineEnd_0 : decode b_Compiler_lineEnd 0 = .ok (.iload_n 1, 1) := by decide +kernel
theorem d_Compiler_lineEnd_1 : decode b_Compiler_lineEnd 1 = .ok (.istore_n 2, 1) := by decide +kernel
theorem d_Compiler_lineEnd_2 : decode b_Compiler_lineEnd 2 = .ok (.iload_n 2, 1) := by decide +kernel
theorem d_Compiler_lineEnd_3 : decode b_Compiler_lineEnd 3 = .ok (.aload_n 0, 1) := by decide +kernel
theorem d_Compiler_lineEnd_4 : decode b_Compiler_lineEnd 4 = .ok (.getfield 25, 3) := by decide +kernel
theorem d_Compiler_lineEnd_7 : decode b_Compiler_lineEnd 7 = .ok (.invokevirtual 40, 3) := by decide +kernel
theorem d_Compiler_lineEnd_10 : decode b_Compiler_lineEnd 10 = .ok (.if_icmp .ge 22, 3) := by decide +kernel
theorem d_Compiler_lineEnd_13 : decode b_Compiler_lineEnd 13 = .ok (.aload_n 0, 1) := by decide +kernel
theorem d_Compiler_lineEnd_14 : decode b_Compiler_lineEnd 14 = .ok (.getfield 25, 3) := by decide +kernel
theorem d_Compiler_lineEnd_17 : decode b_Compiler_lineEnd 17 = .ok (.iload_n 2, 1) := by decide +kernel
theorem d_Compiler_lineEnd_18 : decode b_Compiler_lineEnd 18 = .ok (.invokevirtual 96, 3) := by decide +kernel
theorem d_Compiler_lineEnd_21 : decode b_Compiler_lineEnd 21 = .ok (.bipush 10, 2) := by decide +kernel
theorem d_Compiler_lineEnd_23 : decode b_Compiler_lineEnd 23 = .ok (.if_icmp .eq 9, 3) := by decide +kernel
theorem d_Compiler_lineEnd_26 : decode b_Compiler_lineEnd 26 = .ok (.iinc 2 1, 3) := by decide +kernel
theorem d_Compiler_lineEnd_29 : decode b_Compiler_lineEnd 29 = .ok (.goto (-27), 3) := by decide +kernel
theorem d_Compiler_lineEnd_32 : decode b_Compiler_lineEnd 32 = .ok (.iload_n 2, 1) := by decide +kernel
theorem d_Compiler_lineEnd_33 : decode b_Compiler_lineEnd 33 = .ok (.ireturn, 1) := by decide +kernel
set_option maxHeartbeats 4000000 in
set_option maxRecDepth 100000 in
theorem c_Compiler_lineEnd (l : Launch) (dC : Nat → ClassId) (dI : Nat → Nat → Nat) (cI cL cZ : ClassId) (co : Nat) (coHa : Nat) (coH : Nat → Int32) (coNa : Nat) (coN : Nat → Int64) (coLa : Nat) (coL : Nat → Int32) (coPa : Nat) (coP : Nat → Int32) (coK : Int32) (coB : Value) (coF : Int32) (coE : Int32) (coW : Int32) (coX : Int32) (coI : Bool) (coD : Bool) (coM : Bool) (sr : Nat) (srEa : Nat) (srn : Nat) (srE : Nat → Int32) (srC : Int32) (srO : Bool) (k0 : Int32) (res : Int32) (hd : D_Compiler_lineEnd srn k0 srE srC res) : CtrR l y_Compiler_lineEnd (Cond.code y_Compiler_lineEnd b_Compiler_lineEnd 3 (some .int) :: ga) { frames := 1, cells := 0, slots := 0, locals := 21 } (dC, dI) classes (Tys cI cL cZ) [.ref co, .int k0] ((sh_Compiler cI cL cZ co coHa coH coNa coN coLa coL coPa coP coK (.ref sr) coB coF coE coW coX coI coD coM) ++ ((sh_Row cI cL cZ sr srEa srn srE srC srO))) (some (.int res)) := by
  refine CtrR.ofW (by decide) (Nat.le_of_ble_eq_true rfl) ?_
  intro p e s m below meth c ls hx hb hr hml hown hlocks hts hK hN hP hD hl
  have hown : s.vm.findClass R_Compiler = some m.cls := hown
  have hl : lv_has ls 3 [(0, .ref co), (1, .int k0)] := hl
  have key : ∀ n : Nat, (∀ (x2 : Int32) (ls : Array Slot), lv_has ls 3 [(0, .ref co), (2, .int x2)] → T_Compiler_lineEnd srn srE srC res n x2 → W p l e ({ frames := 1, cells := 0, slots := 0, locals := 21 }) s m ([.ref co, .int k0] : List Value).toArray below meth c s.heap [] 0 0 (MQ below (Qr (some (.int res))) ([.ref co, .int k0] : List Value).toArray s 0 0 (fun _ => False)) (F0 m 2 ls [])) := by
    intro n
    induction n with
    | zero =>
      exact fun _ _ _ hd => False.elim hd
    | succ n ih =>
      · intro x2 ls hl hd
        have hd : B_Compiler_lineEnd_2 srn srE srC res (T_Compiler_lineEnd srn srE srC res n) x2 := hd
        refine lv_iload_n hx hb d_Compiler_lineEnd_2 rfl (lv_at hl 1 rfl) ?_
        refine lv_aload_n hx hb d_Compiler_lineEnd_3 rfl (lv_at hl 0 rfl) ?_
        refine va_get (D := (dC, dI)) (ci := 4) (v := .ref sr) (C := R_Compiler) (T := F_Compiler) (N := 14) hx hb hts in_Compiler hown hK hP 0 rfl rfl 5 (by decide) (hts _ (List.mem_cons_of_mem _ k120_fieldLink)) (fun _ h9 => h9) rfl d_Compiler_lineEnd_4 ?_
        refine ct_VR (As := []) (rest := [.int x2]) (C := R_Row) (ci := 1) (q := (R_Row, F_Row, 3)) ⟨hx, hb, hml, hown, hts⟩ fm_Row_count (c_Row_count l dC dI cI cL cZ sr srEa srn srE srC srO srC rfl) k121_methodLink k67_instanceMethod k68_selects ⟨Nat.le_of_ble_eq_true rfl, Nat.le_of_ble_eq_true rfl⟩ rfl rfl hK hN hP hD [5, 6] rfl rfl (by decide) 5 rfl rfl rfl rfl hl.1 rfl (Nat.le_of_ble_eq_true rfl) d_Compiler_lineEnd_7 ?_
        refine lv_icmp_ge (tgt := 32) hx hb d_Compiler_lineEnd_10 (by decide) (fun h10 => ?_) (fun h10 => ?_)
        · have hd := hd.1 h10
          refine lv_iload_n hx hb d_Compiler_lineEnd_32 rfl (lv_at hl 1 rfl) ?_
          have e0 : res = x2 := hd
          subst e0
          exact ct_iretR hx hb hr hlocks d_Compiler_lineEnd_33
        · have hd := hd.2 h10
          refine lv_aload_n hx hb d_Compiler_lineEnd_13 rfl (lv_at hl 0 rfl) ?_
          refine va_get (D := (dC, dI)) (ci := 4) (v := .ref sr) (C := R_Compiler) (T := F_Compiler) (N := 14) hx hb hts in_Compiler hown hK hP 0 rfl rfl 5 (by decide) (hts _ (List.mem_cons_of_mem _ k120_fieldLink)) (fun _ h9 => h9) rfl d_Compiler_lineEnd_14 ?_
          refine lv_iload_n hx hb d_Compiler_lineEnd_17 rfl (lv_at hl 1 rfl) ?_
          obtain ⟨r18, c18, hd⟩ := hd
          refine ct_VR (As := [.int x2]) (rest := []) (C := R_Row) (ci := 1) (q := (R_Row, F_Row, 3)) ⟨hx, hb, hml, hown, hts⟩ fm_Row_element (c_Row_element l dC dI cI cL cZ sr srEa srn srE srC srO x2 r18 c18) k122_methodLink k4_instanceMethod k5_selects ⟨Nat.le_of_ble_eq_true rfl, Nat.le_of_ble_eq_true rfl⟩ rfl rfl hK hN hP hD [5, 6] rfl rfl (by decide) 5 rfl rfl rfl rfl hl.1 rfl (Nat.le_of_ble_eq_true rfl) d_Compiler_lineEnd_18 ?_
          refine lv_bipush (v := 10) hx hb d_Compiler_lineEnd_21 (by decide) ?_
          refine lv_icmp_eq (tgt := 32) hx hb d_Compiler_lineEnd_23 (by decide) (fun h23 => ?_) (fun h23 => ?_)
          · have hd := hd.1 h23
            refine lv_iload_n hx hb d_Compiler_lineEnd_32 rfl (lv_at hl 1 rfl) ?_
            have e0 : res = x2 := hd
            subst e0
            exact ct_iretR hx hb hr hlocks d_Compiler_lineEnd_33
          · have hd := hd.2 h23
            refine lv_iinc (k := 1) (v := x2 + 1) (lv' := [(2, .int (x2 + 1)), (0, .ref co)]) hx hb d_Compiler_lineEnd_26 hl rfl (congrArg (fun z => x2 + z) (by decide)) (by decide) rfl (fun ls hl => ?_)
            refine lv_goto (tgt := 2) hx hb d_Compiler_lineEnd_29 (by decide) ?_
            exact ih (x2 + 1) _ (lv_sub hl [1, 0] rfl) hd
  obtain ⟨n, hd⟩ := hd
  refine lv_iload_n hx hb d_Compiler_lineEnd_0 rfl (lv_at hl 1 rfl) ?_
  refine lv_istore_n (lv' := [(2, .int k0), (0, .ref co), (1, .int k0)]) hx hb d_Compiler_lineEnd_1 rfl hl (by decide) rfl (fun ls hl => ?_)
  exact (key n) k0 _ (lv_sub hl [1, 0] rfl) hd
-- Compiler.isBlank
abbrev b_Compiler_isBlank : ByteArray := prog_3_method_7_code
def y_Compiler_isBlank : MethodName := ⟨"HelpFile$Compiler", "isBlank", "(II)Z"⟩
set_option maxRecDepth 100000 in
theorem fm_Compiler_isBlank : Fm y_Compiler_isBlank b_Compiler_isBlank 4 (some .boolean) 2 := ⟨ga_t 312 rfl rfl, k108_initialized, by decide, by decide, by decide +kernel⟩
def B_Compiler_isBlank_2 (srn : Nat) (srE : Nat → Int32) (srC : Int32) (res : Bool) (X : Int32 → Int32 → Prop) (x2 : Int32) (x3 : Int32) : Prop := ((x2 ≤ x3 → (res = true)) ∧ (¬ (x2 ≤ x3) → (∃ r12 : Int32, D_Row_element srn x3 srE srC r12 ∧ ((r12 = 32 → X x2 (x3 + 1)) ∧ (¬ (r12 = 32) → (res = false))))))
def S_Compiler_isBlank (srn : Nat) (srE : Nat → Int32) (srC : Int32) (res : Bool) (X : Int32 → Int32 → Prop) : Int32 → Int32 → Prop := fun x2 x3 => B_Compiler_isBlank_2 srn srE srC res X x2 x3
def T_Compiler_isBlank (srn : Nat) (srE : Nat → Int32) (srC : Int32) (res : Bool) : Nat → (Int32 → Int32 → Prop)
  | 0 => fun _ _ => False
  | n + 1 => S_Compiler_isBlank srn srE srC res (T_Compiler_isBlank srn srE srC res n)
def D_Compiler_isBlank (srn : Nat) (k0 : Int32) (k1 : Int32) (srE : Nat → Int32) (srC : Int32) (res : Bool) : Prop := ∃ n : Nat, T_Compiler_isBlank srn srE srC res n k1 k0
theorem d_Compiler_isBlank_0 : decode b_Compiler_isBlank 0 = .ok (.iload_n 1, 1) := by decide +kernel
theorem d_Compiler_isBlank_1 : decode b_Compiler_isBlank 1 = .ok (.istore_n 3, 1) := by decide +kernel
theorem d_Compiler_isBlank_2 : decode b_Compiler_isBlank 2 = .ok (.iload_n 3, 1) := by decide +kernel
theorem d_Compiler_isBlank_3 : decode b_Compiler_isBlank 3 = .ok (.iload_n 2, 1) := by decide +kernel
theorem d_Compiler_isBlank_4 : decode b_Compiler_isBlank 4 = .ok (.if_icmp .ge 24, 3) := by decide +kernel
theorem d_Compiler_isBlank_7 : decode b_Compiler_isBlank 7 = .ok (.aload_n 0, 1) := by decide +kernel
theorem d_Compiler_isBlank_8 : decode b_Compiler_isBlank 8 = .ok (.getfield 25, 3) := by decide +kernel
theorem d_Compiler_isBlank_11 : decode b_Compiler_isBlank 11 = .ok (.iload_n 3, 1) := by decide +kernel
theorem d_Compiler_isBlank_12 : decode b_Compiler_isBlank 12 = .ok (.invokevirtual 96, 3) := by decide +kernel
theorem d_Compiler_isBlank_15 : decode b_Compiler_isBlank 15 = .ok (.bipush 32, 2) := by decide +kernel
theorem d_Compiler_isBlank_17 : decode b_Compiler_isBlank 17 = .ok (.if_icmp .eq 5, 3) := by decide +kernel
theorem d_Compiler_isBlank_20 : decode b_Compiler_isBlank 20 = .ok (.iconst 0, 1) := by decide +kernel
theorem d_Compiler_isBlank_21 : decode b_Compiler_isBlank 21 = .ok (.ireturn, 1) := by decide +kernel
theorem d_Compiler_isBlank_22 : decode b_Compiler_isBlank 22 = .ok (.iinc 3 1, 3) := by decide +kernel
theorem d_Compiler_isBlank_25 : decode b_Compiler_isBlank 25 = .ok (.goto (-23), 3) := by decide +kernel
theorem d_Compiler_isBlank_28 : decode b_Compiler_isBlank 28 = .ok (.iconst 1, 1) := by decide +kernel
theorem d_Compiler_isBlank_29 : decode b_Compiler_isBlank 29 = .ok (.ireturn, 1) := by decide +kernel
set_option maxHeartbeats 4000000 in
set_option maxRecDepth 100000 in
theorem c_Compiler_isBlank (l : Launch) (dC : Nat → ClassId) (dI : Nat → Nat → Nat) (cI cL cZ : ClassId) (co : Nat) (coHa : Nat) (coH : Nat → Int32) (coNa : Nat) (coN : Nat → Int64) (coLa : Nat) (coL : Nat → Int32) (coPa : Nat) (coP : Nat → Int32) (coK : Int32) (coB : Value) (coF : Int32) (coE : Int32) (coW : Int32) (coX : Int32) (coI : Bool) (coD : Bool) (coM : Bool) (sr : Nat) (srEa : Nat) (srn : Nat) (srE : Nat → Int32) (srC : Int32) (srO : Bool) (k0 : Int32) (k1 : Int32) (res : Bool) (hd : D_Compiler_isBlank srn k0 k1 srE srC res) : CtrR l y_Compiler_isBlank (Cond.code y_Compiler_isBlank b_Compiler_isBlank 4 (some .boolean) :: ga) { frames := 1, cells := 0, slots := 0, locals := 21 } (dC, dI) classes (Tys cI cL cZ) [.ref co, .int k0, .int k1] ((sh_Compiler cI cL cZ co coHa coH coNa coN coLa coL coPa coP coK (.ref sr) coB coF coE coW coX coI coD coM) ++ ((sh_Row cI cL cZ sr srEa srn srE srC srO))) (some (.int (bI res))) := by
  refine CtrR.ofW (by decide) (Nat.le_of_ble_eq_true rfl) ?_
  intro p e s m below meth c ls hx hb hr hml hown hlocks hts hK hN hP hD hl
  have hown : s.vm.findClass R_Compiler = some m.cls := hown
  have hl : lv_has ls 4 [(0, .ref co), (1, .int k0), (2, .int k1)] := hl
  have key : ∀ n : Nat, (∀ (x2 : Int32) (x3 : Int32) (ls : Array Slot), lv_has ls 4 [(0, .ref co), (2, .int x2), (3, .int x3)] → T_Compiler_isBlank srn srE srC res n x2 x3 → W p l e ({ frames := 1, cells := 0, slots := 0, locals := 21 }) s m ([.ref co, .int k0, .int k1] : List Value).toArray below meth c s.heap [] 0 0 (MQ below (Qr (some (.int (bI res)))) ([.ref co, .int k0, .int k1] : List Value).toArray s 0 0 (fun _ => False)) (F0 m 2 ls [])) := by
    intro n
    induction n with
    | zero =>
      exact fun _ _ _ _ hd => False.elim hd
    | succ n ih =>
      · intro x2 x3 ls hl hd
        have hd : B_Compiler_isBlank_2 srn srE srC res (T_Compiler_isBlank srn srE srC res n) x2 x3 := hd
        refine lv_iload_n hx hb d_Compiler_isBlank_2 rfl (lv_at hl 2 rfl) ?_
        refine lv_iload_n hx hb d_Compiler_isBlank_3 rfl (lv_at hl 1 rfl) ?_
        refine lv_icmp_ge (tgt := 28) hx hb d_Compiler_isBlank_4 (by decide) (fun h4 => ?_) (fun h4 => ?_)
        · have hd := hd.1 h4
          refine lv_iconst (v := 1) hx hb d_Compiler_isBlank_28 (by decide) ?_
          have e0 : res = true := hd
          subst e0
          exact ct_zretR (b := true) hx hb hr hlocks d_Compiler_isBlank_29
        · have hd := hd.2 h4
          refine lv_aload_n hx hb d_Compiler_isBlank_7 rfl (lv_at hl 0 rfl) ?_
          refine va_get (D := (dC, dI)) (ci := 4) (v := .ref sr) (C := R_Compiler) (T := F_Compiler) (N := 14) hx hb hts in_Compiler hown hK hP 0 rfl rfl 5 (by decide) (hts _ (List.mem_cons_of_mem _ k120_fieldLink)) (fun _ h9 => h9) rfl d_Compiler_isBlank_8 ?_
          refine lv_iload_n hx hb d_Compiler_isBlank_11 rfl (lv_at hl 2 rfl) ?_
          obtain ⟨r12, c12, hd⟩ := hd
          refine ct_VR (As := [.int x3]) (rest := []) (C := R_Row) (ci := 1) (q := (R_Row, F_Row, 3)) ⟨hx, hb, hml, hown, hts⟩ fm_Row_element (c_Row_element l dC dI cI cL cZ sr srEa srn srE srC srO x3 r12 c12) k122_methodLink k4_instanceMethod k5_selects ⟨Nat.le_of_ble_eq_true rfl, Nat.le_of_ble_eq_true rfl⟩ rfl rfl hK hN hP hD [5, 6] rfl rfl (by decide) 5 rfl rfl rfl rfl hl.1 rfl (Nat.le_of_ble_eq_true rfl) d_Compiler_isBlank_12 ?_
          refine lv_bipush (v := 32) hx hb d_Compiler_isBlank_15 (by decide) ?_
          refine lv_icmp_eq (tgt := 22) hx hb d_Compiler_isBlank_17 (by decide) (fun h17 => ?_) (fun h17 => ?_)
          · have hd := hd.1 h17
            refine lv_iinc (k := 2) (v := x3 + 1) (lv' := [(3, .int (x3 + 1)), (0, .ref co), (2, .int x2)]) hx hb d_Compiler_isBlank_22 hl rfl (congrArg (fun z => x3 + z) (by decide)) (by decide) rfl (fun ls hl => ?_)
            refine lv_goto (tgt := 2) hx hb d_Compiler_isBlank_25 (by decide) ?_
            exact ih x2 (x3 + 1) _ (lv_sub hl [1, 2, 0] rfl) hd
          · have hd := hd.2 h17
            refine lv_iconst (v := 0) hx hb d_Compiler_isBlank_20 (by decide) ?_
            have e0 : res = false := hd
            subst e0
            exact ct_zretR (b := false) hx hb hr hlocks d_Compiler_isBlank_21
  obtain ⟨n, hd⟩ := hd
  refine lv_iload_n hx hb d_Compiler_isBlank_0 rfl (lv_at hl 1 rfl) ?_
  refine lv_istore_n (lv' := [(3, .int k0), (0, .ref co), (1, .int k0), (2, .int k1)]) hx hb d_Compiler_isBlank_1 rfl hl (by decide) rfl (fun ls hl => ?_)
  exact (key n) k1 k0 _ (lv_sub hl [1, 3, 0] rfl) hd
-- Compiler.readHeading
abbrev b_Compiler_readHeading : ByteArray := prog_3_method_9_code
def y_Compiler_readHeading : MethodName := ⟨"HelpFile$Compiler", "readHeading", "(II)V"⟩
theorem k123_methodLink : Cond.methodLink "HelpFile$Compiler" 112 ⟨"HelpFile$Letters", "word", "(LHelpFile$Row;II)J"⟩ ∈ ga := ga_t 334 (by decide +kernel) rfl
theorem k124_methodLink : Cond.methodLink "HelpFile$Compiler" 118 ⟨"HelpFile$Letters", "isWord", "(LHelpFile$Row;III)Z"⟩ ∈ ga := ga_t 344 (by decide +kernel) rfl
theorem k125_static : Cond.static ⟨"HelpFile$Letters", "isWord", "(LHelpFile$Row;III)Z"⟩ ∈ ga := ga_t 345 (by decide +kernel) rfl
theorem k126_methodLink : Cond.methodLink "HelpFile$Compiler" 122 ⟨"HelpFile$Book", "topicNamed", "(J)I"⟩ ∈ ga := ga_t 350 (by decide +kernel) rfl
theorem k127_methodLink : Cond.methodLink "HelpFile$Compiler" 69 ⟨"HelpFile$Book", "topics", "()I"⟩ ∈ ga := ga_t 354 (by decide +kernel) rfl
theorem k128_instanceMethod : Cond.instanceMethod ⟨"HelpFile$Book", "topics", "()I"⟩ ∈ ga := ga_t 355 (by decide +kernel) rfl
theorem k129_selects : Cond.selects "HelpFile$Book" ⟨"HelpFile$Book", "topics", "()I"⟩ ⟨"HelpFile$Book", "topics", "()I"⟩ ∈ ga := ga_t 356 (by decide +kernel) rfl
theorem k130_fieldLink : Cond.fieldLink "HelpFile$Compiler" 9 "HelpFile$Compiler" "headingLines" "[I" ∈ ga := ga_t 55 (by decide +kernel) rfl
theorem k131_methodLink : Cond.methodLink "HelpFile$Compiler" 126 ⟨"HelpFile$Book", "beginTopic", "(J)V"⟩ ∈ ga := ga_t 358 (by decide +kernel) rfl
theorem k132_instanceMethod : Cond.instanceMethod ⟨"HelpFile$Book", "beginTopic", "(J)V"⟩ ∈ ga := ga_t 359 (by decide +kernel) rfl
theorem k133_selects : Cond.selects "HelpFile$Book" ⟨"HelpFile$Book", "beginTopic", "(J)V"⟩ ⟨"HelpFile$Book", "beginTopic", "(J)V"⟩ ∈ ga := ga_t 360 (by decide +kernel) rfl
theorem k134_methodLink : Cond.methodLink "HelpFile$Compiler" 74 ⟨"HelpFile$Compiler", "blame", "(II)V"⟩ ∈ ga := ga_t 317 (by decide +kernel) rfl
theorem k135_instanceMethod : Cond.instanceMethod ⟨"HelpFile$Compiler", "blame", "(II)V"⟩ ∈ ga := ga_t 319 (by decide +kernel) rfl
theorem k136_selects : Cond.selects "HelpFile$Compiler" ⟨"HelpFile$Compiler", "blame", "(II)V"⟩ ⟨"HelpFile$Compiler", "blame", "(II)V"⟩ ∈ ga := ga_s (q := (⟨"HelpFile$Compiler", "blame", "(II)V"⟩, _)) 5 rfl
set_option maxRecDepth 100000 in
theorem fm_Compiler_readHeading : Fm y_Compiler_readHeading b_Compiler_readHeading 5 none 2 := ⟨ga_t 333 rfl rfl, k108_initialized, by decide, by decide, by decide +kernel⟩
def D_Compiler_readHeading (srn : Nat) (k0 : Int32) (k1 : Int32) (coH : Nat → Int32) (coF : Int32) (coE : Int32) (coW : Int32) (srE : Nat → Int32) (srC : Int32) (bkN : Nat → Int64) (bkS : Nat → Int32) (bkBC : Int32) (bkT : Int32) (coH' : Nat → Int32) (coF' : Int32) (coE' : Int32) (bkN' : Nat → Int64) (bkS' : Nat → Int32) (bkT' : Int32) : Prop := (∃ r6 : Int64, D_Letters_word srn k0 k1 srE srC r6 ∧ (∃ r18 : Bool, D_Letters_isWord srn k0 k1 6 srE srC r18 ∧ (((bI r18) = 0 → (∃ coF_30 : Int32, ∃ coE_30 : Int32, D_Compiler_blame 2 coW coF coE coF_30 coE_30 ∧ (coH' = coH ∧ coF' = coF_30 ∧ coE' = coE_30 ∧ bkN' = bkN ∧ bkS' = bkS ∧ bkT' = bkT))) ∧ (¬ ((bI r18) = 0) → (∃ r41 : Int32, D_Book_topicNamed r6 bkN bkT r41 ∧ ((r41 = (-1) → ((bkT < 10 → (vp_in bkT 10 ∧ (∃ bkN_105 : Nat → Int64, ∃ bkS_105 : Nat → Int32, ∃ bkT_105 : Int32, D_Book_beginTopic r6 bkN bkS bkBC bkT bkN_105 bkS_105 bkT_105 ∧ (coH' = upd coH (Int32.toNatClampNeg bkT) coW ∧ coF' = coF ∧ coE' = coE ∧ bkN' = bkN_105 ∧ bkS' = bkS_105 ∧ bkT' = bkT_105)))) ∧ (¬ (bkT < 10) → (∃ coF_78 : Int32, ∃ coE_78 : Int32, D_Compiler_blame 5 coW coF coE coF_78 coE_78 ∧ (coH' = coH ∧ coF' = coF_78 ∧ coE' = coE_78 ∧ bkN' = bkN ∧ bkS' = bkS ∧ bkT' = bkT))))) ∧ (¬ (r41 = (-1)) → (∃ coF_54 : Int32, ∃ coE_54 : Int32, D_Compiler_blame 4 coW coF coE coF_54 coE_54 ∧ (coH' = coH ∧ coF' = coF_54 ∧ coE' = coE_54 ∧ bkN' = bkN ∧ bkS' = bkS ∧ bkT' = bkT)))))))))
theorem d_Compiler_readHeading_0 : decode b_Compiler_readHeading 0 = .ok (.aload_n 0, 1) := by decide +kernel
theorem d_Compiler_readHeading_1 : decode b_Compiler_readHeading 1 = .ok (.getfield 25, 3) := by decide +kernel
theorem d_Compiler_readHeading_4 : decode b_Compiler_readHeading 4 = .ok (.iload_n 1, 1) := by decide +kernel
theorem d_Compiler_readHeading_5 : decode b_Compiler_readHeading 5 = .ok (.iload_n 2, 1) := by decide +kernel
theorem d_Compiler_readHeading_6 : decode b_Compiler_readHeading 6 = .ok (.invokestatic 112, 3) := by decide +kernel
theorem d_Compiler_readHeading_9 : decode b_Compiler_readHeading 9 = .ok (.lstore_n 3, 1) := by decide +kernel
theorem d_Compiler_readHeading_10 : decode b_Compiler_readHeading 10 = .ok (.aload_n 0, 1) := by decide +kernel
theorem d_Compiler_readHeading_11 : decode b_Compiler_readHeading 11 = .ok (.getfield 25, 3) := by decide +kernel
theorem d_Compiler_readHeading_14 : decode b_Compiler_readHeading 14 = .ok (.iload_n 1, 1) := by decide +kernel
theorem d_Compiler_readHeading_15 : decode b_Compiler_readHeading 15 = .ok (.iload_n 2, 1) := by decide +kernel
theorem d_Compiler_readHeading_16 : decode b_Compiler_readHeading 16 = .ok (.bipush 6, 2) := by decide +kernel
theorem d_Compiler_readHeading_18 : decode b_Compiler_readHeading 18 = .ok (.invokestatic 118, 3) := by decide +kernel
theorem d_Compiler_readHeading_21 : decode b_Compiler_readHeading 21 = .ok (.ifCond .ne 15, 3) := by decide +kernel
theorem d_Compiler_readHeading_24 : decode b_Compiler_readHeading 24 = .ok (.aload_n 0, 1) := by decide +kernel
theorem d_Compiler_readHeading_25 : decode b_Compiler_readHeading 25 = .ok (.iconst 2, 1) := by decide +kernel
theorem d_Compiler_readHeading_26 : decode b_Compiler_readHeading 26 = .ok (.aload_n 0, 1) := by decide +kernel
theorem d_Compiler_readHeading_27 : decode b_Compiler_readHeading 27 = .ok (.getfield 57, 3) := by decide +kernel
theorem d_Compiler_readHeading_30 : decode b_Compiler_readHeading 30 = .ok (.invokevirtual 74, 3) := by decide +kernel
theorem d_Compiler_readHeading_33 : decode b_Compiler_readHeading 33 = .ok (.goto 75, 3) := by decide +kernel
theorem d_Compiler_readHeading_36 : decode b_Compiler_readHeading 36 = .ok (.aload_n 0, 1) := by decide +kernel
theorem d_Compiler_readHeading_37 : decode b_Compiler_readHeading 37 = .ok (.getfield 29, 3) := by decide +kernel
theorem d_Compiler_readHeading_40 : decode b_Compiler_readHeading 40 = .ok (.lload_n 3, 1) := by decide +kernel
theorem d_Compiler_readHeading_41 : decode b_Compiler_readHeading 41 = .ok (.invokevirtual 122, 3) := by decide +kernel
theorem d_Compiler_readHeading_44 : decode b_Compiler_readHeading 44 = .ok (.iconst (-1), 1) := by decide +kernel
theorem d_Compiler_readHeading_45 : decode b_Compiler_readHeading 45 = .ok (.if_icmp .eq 15, 3) := by decide +kernel
theorem d_Compiler_readHeading_48 : decode b_Compiler_readHeading 48 = .ok (.aload_n 0, 1) := by decide +kernel
theorem d_Compiler_readHeading_49 : decode b_Compiler_readHeading 49 = .ok (.iconst 4, 1) := by decide +kernel
theorem d_Compiler_readHeading_50 : decode b_Compiler_readHeading 50 = .ok (.aload_n 0, 1) := by decide +kernel
theorem d_Compiler_readHeading_51 : decode b_Compiler_readHeading 51 = .ok (.getfield 57, 3) := by decide +kernel
theorem d_Compiler_readHeading_54 : decode b_Compiler_readHeading 54 = .ok (.invokevirtual 74, 3) := by decide +kernel
theorem d_Compiler_readHeading_57 : decode b_Compiler_readHeading 57 = .ok (.goto 51, 3) := by decide +kernel
theorem d_Compiler_readHeading_60 : decode b_Compiler_readHeading 60 = .ok (.aload_n 0, 1) := by decide +kernel
theorem d_Compiler_readHeading_61 : decode b_Compiler_readHeading 61 = .ok (.getfield 29, 3) := by decide +kernel
theorem d_Compiler_readHeading_64 : decode b_Compiler_readHeading 64 = .ok (.invokevirtual 69, 3) := by decide +kernel
theorem d_Compiler_readHeading_67 : decode b_Compiler_readHeading 67 = .ok (.bipush 10, 2) := by decide +kernel
theorem d_Compiler_readHeading_69 : decode b_Compiler_readHeading 69 = .ok (.if_icmp .lt 15, 3) := by decide +kernel
theorem d_Compiler_readHeading_72 : decode b_Compiler_readHeading 72 = .ok (.aload_n 0, 1) := by decide +kernel
theorem d_Compiler_readHeading_73 : decode b_Compiler_readHeading 73 = .ok (.iconst 5, 1) := by decide +kernel
theorem d_Compiler_readHeading_74 : decode b_Compiler_readHeading 74 = .ok (.aload_n 0, 1) := by decide +kernel
theorem d_Compiler_readHeading_75 : decode b_Compiler_readHeading 75 = .ok (.getfield 57, 3) := by decide +kernel
theorem d_Compiler_readHeading_78 : decode b_Compiler_readHeading 78 = .ok (.invokevirtual 74, 3) := by decide +kernel
theorem d_Compiler_readHeading_81 : decode b_Compiler_readHeading 81 = .ok (.goto 27, 3) := by decide +kernel
theorem d_Compiler_readHeading_84 : decode b_Compiler_readHeading 84 = .ok (.aload_n 0, 1) := by decide +kernel
theorem d_Compiler_readHeading_85 : decode b_Compiler_readHeading 85 = .ok (.getfield 9, 3) := by decide +kernel
theorem d_Compiler_readHeading_88 : decode b_Compiler_readHeading 88 = .ok (.aload_n 0, 1) := by decide +kernel
theorem d_Compiler_readHeading_89 : decode b_Compiler_readHeading 89 = .ok (.getfield 29, 3) := by decide +kernel
theorem d_Compiler_readHeading_92 : decode b_Compiler_readHeading 92 = .ok (.invokevirtual 69, 3) := by decide +kernel
theorem d_Compiler_readHeading_95 : decode b_Compiler_readHeading 95 = .ok (.aload_n 0, 1) := by decide +kernel
theorem d_Compiler_readHeading_96 : decode b_Compiler_readHeading 96 = .ok (.getfield 57, 3) := by decide +kernel
theorem d_Compiler_readHeading_99 : decode b_Compiler_readHeading 99 = .ok (.iastore, 1) := by decide +kernel
theorem d_Compiler_readHeading_100 : decode b_Compiler_readHeading 100 = .ok (.aload_n 0, 1) := by decide +kernel
theorem d_Compiler_readHeading_101 : decode b_Compiler_readHeading 101 = .ok (.getfield 29, 3) := by decide +kernel
theorem d_Compiler_readHeading_104 : decode b_Compiler_readHeading 104 = .ok (.lload_n 3, 1) := by decide +kernel
theorem d_Compiler_readHeading_105 : decode b_Compiler_readHeading 105 = .ok (.invokevirtual 126, 3) := by decide +kernel
theorem d_Compiler_readHeading_108 : decode b_Compiler_readHeading 108 = .ok (.return_, 1) := by decide +kernel
set_option maxHeartbeats 4000000 in
set_option maxRecDepth 100000 in
theorem c_Compiler_readHeading (l : Launch) (dC : Nat → ClassId) (dI : Nat → Nat → Nat) (cI cL cZ : ClassId) (co : Nat) (coHa : Nat) (coH : Nat → Int32) (coNa : Nat) (coN : Nat → Int64) (coLa : Nat) (coL : Nat → Int32) (coPa : Nat) (coP : Nat → Int32) (coK : Int32) (coF : Int32) (coE : Int32) (coW : Int32) (coX : Int32) (coI : Bool) (coD : Bool) (coM : Bool) (sr : Nat) (srEa : Nat) (srn : Nat) (srE : Nat → Int32) (srC : Int32) (srO : Bool) (bk : Nat) (bkNa : Nat) (bkN : Nat → Int64) (bkSa : Nat) (bkS : Nat → Int32) (bkB : Nat) (bkBEa : Nat) (bkBn : Nat) (bkBE : Nat → Int32) (bkBC : Int32) (bkBO : Bool) (bkK : Nat) (bkKWa : Nat) (bkKn : Nat) (bkKW : Nat → Int64) (bkKTa : Nat) (bkKT : Nat → Int32) (bkKC : Int32) (bkV : Nat) (bkVWa : Nat) (bkVn : Nat) (bkVW : Nat → Int64) (bkVTa : Nat) (bkVT : Nat → Int32) (bkVC : Int32) (bkT : Int32) (k0 : Int32) (k1 : Int32) (coH' : Nat → Int32) (coF' : Int32) (coE' : Int32) (bkN' : Nat → Int64) (bkS' : Nat → Int32) (bkT' : Int32) (hd : D_Compiler_readHeading srn k0 k1 coH coF coE coW srE srC bkN bkS bkBC bkT coH' coF' coE' bkN' bkS' bkT') : Ctr l y_Compiler_readHeading (Cond.code y_Compiler_readHeading b_Compiler_readHeading 5 none :: ga) { frames := 2, cells := 0, slots := 0, locals := 50 } (dC, dI) classes (Tys cI cL cZ) [.ref co, .int k0, .int k1] ((sh_Compiler cI cL cZ co coHa coH coNa coN coLa coL coPa coP coK (.ref sr) (.ref bk) coF coE coW coX coI coD coM) ++ ((sh_Row cI cL cZ sr srEa srn srE srC srO) ++ ((sh_Book cI cL cZ bk bkNa bkN bkSa bkS bkB bkBEa bkBn bkBE bkBC bkBO bkK bkKWa bkKn bkKW bkKTa bkKT bkKC bkV bkVWa bkVn bkVW bkVTa bkVT bkVC bkT)))) none ((sh_Compiler cI cL cZ co coHa coH' coNa coN coLa coL coPa coP coK (.ref sr) (.ref bk) coF' coE' coW coX coI coD coM) ++ ((sh_Row cI cL cZ sr srEa srn srE srC srO) ++ ((sh_Book cI cL cZ bk bkNa bkN' bkSa bkS' bkB bkBEa bkBn bkBE bkBC bkBO bkK bkKWa bkKn bkKW bkKTa bkKT bkKC bkV bkVWa bkVn bkVW bkVTa bkVT bkVC bkT')))) := by
  refine Ctr.ofW (by decide) (Nat.le_of_ble_eq_true rfl) ?_
  intro p e s m below meth c A ls hx hb hr hml hown hlocks hts hK hN hA hP hD hS hl
  have hown : s.vm.findClass R_Compiler = some m.cls := hown
  have hl : lv_has ls 5 [(0, .ref co), (1, .int k0), (2, .int k1)] := hl
  refine lv_aload_n hx hb d_Compiler_readHeading_0 rfl (lv_at hl 0 rfl) ?_
  refine va_get (D := (dC, dI)) (ci := 4) (v := .ref sr) (C := R_Compiler) (T := F_Compiler) (N := 14) hx hb hts in_Compiler hown hK hP 0 rfl rfl 5 (by decide) (hts _ (List.mem_cons_of_mem _ k120_fieldLink)) (fun _ h9 => h9) rfl d_Compiler_readHeading_1 ?_
  refine lv_iload_n hx hb d_Compiler_readHeading_4 rfl (lv_at hl 1 rfl) ?_
  refine lv_iload_n hx hb d_Compiler_readHeading_5 rfl (lv_at hl 2 rfl) ?_
  obtain ⟨r6, c6, hd⟩ := hd
  refine ct_SR (As := [.ref sr, .int k0, .int k1]) (rest := []) ⟨hx, hb, hml, hown, hts⟩ fm_Letters_word (c_Letters_word l dC dI cI cL cZ sr srEa srn srE srC srO k0 k1 r6 c6) k123_methodLink k86_static ⟨Nat.le_of_ble_eq_true rfl, Nat.le_of_ble_eq_true rfl⟩ rfl rfl hK hN hP hD [5, 6] rfl rfl (by decide) rfl hl.1 rfl (Nat.le_of_ble_eq_true rfl) d_Compiler_readHeading_6 ?_
  refine lv_lstore_n (lv' := [(3, .long r6), (0, .ref co), (1, .int k0), (2, .int k1)]) hx hb d_Compiler_readHeading_9 rfl hl (by decide) rfl (fun ls hl => ?_)
  refine lv_aload_n hx hb d_Compiler_readHeading_10 rfl (lv_at hl 1 rfl) ?_
  refine va_get (D := (dC, dI)) (ci := 4) (v := .ref sr) (C := R_Compiler) (T := F_Compiler) (N := 14) hx hb hts in_Compiler hown hK hP 0 rfl rfl 5 (by decide) (hts _ (List.mem_cons_of_mem _ k120_fieldLink)) (fun _ h9 => h9) rfl d_Compiler_readHeading_11 ?_
  refine lv_iload_n hx hb d_Compiler_readHeading_14 rfl (lv_at hl 2 rfl) ?_
  refine lv_iload_n hx hb d_Compiler_readHeading_15 rfl (lv_at hl 3 rfl) ?_
  refine lv_bipush (v := 6) hx hb d_Compiler_readHeading_16 (by decide) ?_
  obtain ⟨r18, c18, hd⟩ := hd
  refine ct_SR (As := [.ref sr, .int k0, .int k1, .int 6]) (rest := []) ⟨hx, hb, hml, hown, hts⟩ fm_Letters_isWord (c_Letters_isWord l dC dI cI cL cZ sr srEa srn srE srC srO k0 k1 6 r18 c18) k124_methodLink k125_static ⟨Nat.le_of_ble_eq_true rfl, Nat.le_of_ble_eq_true rfl⟩ rfl rfl hK hN hP hD [5, 6] rfl rfl (by decide) rfl hl.1 rfl (Nat.le_of_ble_eq_true rfl) d_Compiler_readHeading_18 ?_
  refine lv_if_ne (tgt := 36) hx hb d_Compiler_readHeading_21 (by decide) (fun h21 => ?_) (fun h21 => ?_)
  · have hd := hd.2 h21
    refine lv_aload_n hx hb d_Compiler_readHeading_36 rfl (lv_at hl 1 rfl) ?_
    refine va_get (D := (dC, dI)) (ci := 4) (v := .ref bk) (C := R_Compiler) (T := F_Compiler) (N := 14) hx hb hts in_Compiler hown hK hP 0 rfl rfl 6 (by decide) (hts _ (List.mem_cons_of_mem _ k110_fieldLink)) (fun _ h9 => h9) rfl d_Compiler_readHeading_37 ?_
    refine lv_lload_n hx hb d_Compiler_readHeading_40 rfl (lv_at hl 0 rfl) ?_
    obtain ⟨r41, c41, hd⟩ := hd
    refine ct_VR (As := [.long r6]) (rest := []) (C := R_Book) (ci := 3) (q := (R_Book, F_Book, 6)) ⟨hx, hb, hml, hown, hts⟩ fm_Book_topicNamed (c_Book_topicNamed l dC dI cI cL cZ bk bkNa bkN bkSa bkS bkB bkBEa bkBn bkBE bkBC bkBO bkK bkKWa bkKn bkKW bkKTa bkKT bkKC bkV bkVWa bkVn bkVW bkVTa bkVT bkVC bkT r6 r41 c41) k126_methodLink k94_instanceMethod k95_selects ⟨Nat.le_of_ble_eq_true rfl, Nat.le_of_ble_eq_true rfl⟩ rfl rfl hK hN hP hD [7, 8, 9, 10, 11, 12, 13, 14, 15, 16, 17] rfl rfl (by decide) 7 rfl rfl rfl rfl hl.1 rfl (Nat.le_of_ble_eq_true rfl) d_Compiler_readHeading_41 ?_
    refine lv_iconst (v := (-1)) hx hb d_Compiler_readHeading_44 (by decide) ?_
    refine lv_icmp_eq (tgt := 60) hx hb d_Compiler_readHeading_45 (by decide) (fun h45 => ?_) (fun h45 => ?_)
    · have hd := hd.1 h45
      refine lv_aload_n hx hb d_Compiler_readHeading_60 rfl (lv_at hl 1 rfl) ?_
      refine va_get (D := (dC, dI)) (ci := 4) (v := .ref bk) (C := R_Compiler) (T := F_Compiler) (N := 14) hx hb hts in_Compiler hown hK hP 0 rfl rfl 6 (by decide) (hts _ (List.mem_cons_of_mem _ k110_fieldLink)) (fun _ h9 => h9) rfl d_Compiler_readHeading_61 ?_
      refine ct_VR (As := []) (rest := []) (C := R_Book) (ci := 3) (q := (R_Book, F_Book, 6)) ⟨hx, hb, hml, hown, hts⟩ fm_Book_topics (c_Book_topics l dC dI cI cL cZ bk bkNa bkN bkSa bkS bkB bkBEa bkBn bkBE bkBC bkBO bkK bkKWa bkKn bkKW bkKTa bkKT bkKC bkV bkVWa bkVn bkVW bkVTa bkVT bkVC bkT bkT rfl) k127_methodLink k128_instanceMethod k129_selects ⟨Nat.le_of_ble_eq_true rfl, Nat.le_of_ble_eq_true rfl⟩ rfl rfl hK hN hP hD [7, 8, 9, 10, 11, 12, 13, 14, 15, 16, 17] rfl rfl (by decide) 7 rfl rfl rfl rfl hl.1 rfl (Nat.le_of_ble_eq_true rfl) d_Compiler_readHeading_64 ?_
      refine lv_bipush (v := 10) hx hb d_Compiler_readHeading_67 (by decide) ?_
      refine lv_icmp_lt (tgt := 84) hx hb d_Compiler_readHeading_69 (by decide) (fun h69 => ?_) (fun h69 => ?_)
      · have hd := hd.1 h69
        refine lv_aload_n hx hb d_Compiler_readHeading_84 rfl (lv_at hl 1 rfl) ?_
        refine va_get (D := (dC, dI)) (ci := 4) (v := .ref coHa) (C := R_Compiler) (T := F_Compiler) (N := 14) hx hb hts in_Compiler hown hK hP 0 rfl rfl 0 (by decide) (hts _ (List.mem_cons_of_mem _ k130_fieldLink)) (fun _ h9 => h9) rfl d_Compiler_readHeading_85 ?_
        refine lv_aload_n hx hb d_Compiler_readHeading_88 rfl (lv_at hl 1 rfl) ?_
        refine va_get (D := (dC, dI)) (ci := 4) (v := .ref bk) (C := R_Compiler) (T := F_Compiler) (N := 14) hx hb hts in_Compiler hown hK hP 0 rfl rfl 6 (by decide) (hts _ (List.mem_cons_of_mem _ k110_fieldLink)) (fun _ h9 => h9) rfl d_Compiler_readHeading_89 ?_
        refine ct_VR (As := []) (rest := [.ref coHa]) (C := R_Book) (ci := 3) (q := (R_Book, F_Book, 6)) ⟨hx, hb, hml, hown, hts⟩ fm_Book_topics (c_Book_topics l dC dI cI cL cZ bk bkNa bkN bkSa bkS bkB bkBEa bkBn bkBE bkBC bkBO bkK bkKWa bkKn bkKW bkKTa bkKT bkKC bkV bkVWa bkVn bkVW bkVTa bkVT bkVC bkT bkT rfl) k127_methodLink k128_instanceMethod k129_selects ⟨Nat.le_of_ble_eq_true rfl, Nat.le_of_ble_eq_true rfl⟩ rfl rfl hK hN hP hD [7, 8, 9, 10, 11, 12, 13, 14, 15, 16, 17] rfl rfl (by decide) 7 rfl rfl rfl rfl hl.1 rfl (Nat.le_of_ble_eq_true rfl) d_Compiler_readHeading_92 ?_
        refine lv_aload_n hx hb d_Compiler_readHeading_95 rfl (lv_at hl 1 rfl) ?_
        refine va_get (D := (dC, dI)) (ci := 4) (v := .int coW) (C := R_Compiler) (T := F_Compiler) (N := 14) hx hb hts in_Compiler hown hK hP 0 rfl rfl 9 (by decide) (hts _ (List.mem_cons_of_mem _ k115_fieldLink)) (fun _ h9 => h9) rfl d_Compiler_readHeading_96 ?_
        obtain ⟨h99, hd⟩ := hd
        refine va_iast hx hb hK hP hD hS 1 0 rfl rfl h99 d_Compiler_readHeading_99 (fun H locs hP hD hS => ?_)
        have hP : va_P (dC, dI) classes ((sh_Compiler cI cL cZ co coHa (upd coH (Int32.toNatClampNeg bkT) coW) coNa coN coLa coL coPa coP coK (.ref sr) (.ref bk) coF coE coW coX coI coD coM) ++ ((sh_Row cI cL cZ sr srEa srn srE srC srO) ++ ((sh_Book cI cL cZ bk bkNa bkN bkSa bkS bkB bkBEa bkBn bkBE bkBC bkBO bkK bkKWa bkKn bkKW bkKTa bkKT bkKC bkV bkVWa bkVn bkVW bkVTa bkVT bkVC bkT)))) H := hP
        have hD : va_D A ((sh_Compiler cI cL cZ co coHa (upd coH (Int32.toNatClampNeg bkT) coW) coNa coN coLa coL coPa coP coK (.ref sr) (.ref bk) coF coE coW coX coI coD coM) ++ ((sh_Row cI cL cZ sr srEa srn srE srC srO) ++ ((sh_Book cI cL cZ bk bkNa bkN bkSa bkS bkB bkBEa bkBn bkBE bkBC bkBO bkK bkKWa bkKn bkKW bkKTa bkKT bkKC bkV bkVWa bkVn bkVW bkVTa bkVT bkVC bkT)))) := hD
        refine lv_aload_n hx hb d_Compiler_readHeading_100 rfl (lv_at hl 1 rfl) ?_
        refine va_get (D := (dC, dI)) (ci := 4) (v := .ref bk) (C := R_Compiler) (T := F_Compiler) (N := 14) hx hb hts in_Compiler hown hK hP 0 rfl rfl 6 (by decide) (hts _ (List.mem_cons_of_mem _ k110_fieldLink)) (fun _ h9 => h9) rfl d_Compiler_readHeading_101 ?_
        refine lv_lload_n hx hb d_Compiler_readHeading_104 rfl (lv_at hl 0 rfl) ?_
        obtain ⟨bkN_105, bkS_105, bkT_105, c105, hd⟩ := hd
        refine ct_V (As := [.long r6]) (rest := []) (C := R_Book) (ci := 3) (q := (R_Book, F_Book, 6)) ⟨hx, hb, hml, hown, hts⟩ fm_Book_beginTopic (c_Book_beginTopic l dC dI cI cL cZ bk bkNa bkN bkSa bkS bkB bkBEa bkBn bkBE bkBC bkBO bkK bkKWa bkKn bkKW bkKTa bkKT bkKC bkV bkVWa bkVn bkVW bkVTa bkVT bkVC bkT r6 bkN_105 bkS_105 bkT_105 c105) k131_methodLink k132_instanceMethod k133_selects ⟨Nat.le_of_ble_eq_true rfl, Nat.le_of_ble_eq_true rfl⟩ rfl rfl hK hN hP hD hS hA [7, 8, 9, 10, 11, 12, 13, 14, 15, 16, 17] [0, 1, 2, 3, 4, 5, 6] rfl rfl rfl (by decide) (by decide) (by decide) 7 rfl rfl rfl rfl hl.1 rfl (Nat.le_of_ble_eq_true rfl) d_Compiler_readHeading_105 (fun H locs hP hD hS => ?_)
        have hP : va_P (dC, dI) classes ((sh_Compiler cI cL cZ co coHa (upd coH (Int32.toNatClampNeg bkT) coW) coNa coN coLa coL coPa coP coK (.ref sr) (.ref bk) coF coE coW coX coI coD coM) ++ ((sh_Row cI cL cZ sr srEa srn srE srC srO) ++ ((sh_Book cI cL cZ bk bkNa bkN_105 bkSa bkS_105 bkB bkBEa bkBn bkBE bkBC bkBO bkK bkKWa bkKn bkKW bkKTa bkKT bkKC bkV bkVWa bkVn bkVW bkVTa bkVT bkVC bkT_105)))) H := hP.sub [0, 1, 2, 3, 4, 5, 6, 7, 8, 9, 10, 11, 12, 13, 14, 15, 16, 17] rfl
        have hD : va_D A ((sh_Compiler cI cL cZ co coHa (upd coH (Int32.toNatClampNeg bkT) coW) coNa coN coLa coL coPa coP coK (.ref sr) (.ref bk) coF coE coW coX coI coD coM) ++ ((sh_Row cI cL cZ sr srEa srn srE srC srO) ++ ((sh_Book cI cL cZ bk bkNa bkN_105 bkSa bkS_105 bkB bkBEa bkBn bkBE bkBC bkBO bkK bkKWa bkKn bkKW bkKTa bkKT bkKC bkV bkVWa bkVn bkVW bkVTa bkVT bkVC bkT_105)))) := hD.sub [0, 1, 2, 3, 4, 5, 6, 7, 8, 9, 10, 11, 12, 13, 14, 15, 16, 17] (by decide) rfl
        obtain ⟨e0, e1, e2, e3, e4, e5⟩ := hd
        subst e0
        subst e1
        subst e2
        subst e3
        subst e4
        subst e5
        exact ct_vret hx hb hr hlocks hK hP hD hS d_Compiler_readHeading_108
      · have hd := hd.2 h69
        refine lv_aload_n hx hb d_Compiler_readHeading_72 rfl (lv_at hl 1 rfl) ?_
        refine lv_iconst (v := 5) hx hb d_Compiler_readHeading_73 (by decide) ?_
        refine lv_aload_n hx hb d_Compiler_readHeading_74 rfl (lv_at hl 1 rfl) ?_
        refine va_get (D := (dC, dI)) (ci := 4) (v := .int coW) (C := R_Compiler) (T := F_Compiler) (N := 14) hx hb hts in_Compiler hown hK hP 0 rfl rfl 9 (by decide) (hts _ (List.mem_cons_of_mem _ k115_fieldLink)) (fun _ h9 => h9) rfl d_Compiler_readHeading_75 ?_
        obtain ⟨coF_78, coE_78, c78, hd⟩ := hd
        refine ct_V (As := [.int 5, .int coW]) (rest := []) (C := R_Compiler) (ci := 4) (q := (R_Compiler, F_Compiler, 14)) ⟨hx, hb, hml, hown, hts⟩ fm_Compiler_blame (c_Compiler_blame l dC dI cI cL cZ co coHa coH coNa coN coLa coL coPa coP coK (.ref sr) (.ref bk) coF coE coW coX coI coD coM 5 coW coF_78 coE_78 c78) k134_methodLink k135_instanceMethod k136_selects ⟨Nat.le_of_ble_eq_true rfl, Nat.le_of_ble_eq_true rfl⟩ rfl rfl hK hN hP hD hS hA [0, 1, 2, 3, 4] [5, 6, 7, 8, 9, 10, 11, 12, 13, 14, 15, 16, 17] rfl rfl rfl (by decide) (by decide) (by decide) 0 rfl rfl rfl rfl hl.1 rfl (Nat.le_of_ble_eq_true rfl) d_Compiler_readHeading_78 (fun H locs hP hD hS => ?_)
        have hP : va_P (dC, dI) classes ((sh_Compiler cI cL cZ co coHa coH coNa coN coLa coL coPa coP coK (.ref sr) (.ref bk) coF_78 coE_78 coW coX coI coD coM) ++ ((sh_Row cI cL cZ sr srEa srn srE srC srO) ++ ((sh_Book cI cL cZ bk bkNa bkN bkSa bkS bkB bkBEa bkBn bkBE bkBC bkBO bkK bkKWa bkKn bkKW bkKTa bkKT bkKC bkV bkVWa bkVn bkVW bkVTa bkVT bkVC bkT)))) H := hP.sub [13, 14, 15, 16, 17, 0, 1, 2, 3, 4, 5, 6, 7, 8, 9, 10, 11, 12] rfl
        have hD : va_D A ((sh_Compiler cI cL cZ co coHa coH coNa coN coLa coL coPa coP coK (.ref sr) (.ref bk) coF_78 coE_78 coW coX coI coD coM) ++ ((sh_Row cI cL cZ sr srEa srn srE srC srO) ++ ((sh_Book cI cL cZ bk bkNa bkN bkSa bkS bkB bkBEa bkBn bkBE bkBC bkBO bkK bkKWa bkKn bkKW bkKTa bkKT bkKC bkV bkVWa bkVn bkVW bkVTa bkVT bkVC bkT)))) := hD.sub [13, 14, 15, 16, 17, 0, 1, 2, 3, 4, 5, 6, 7, 8, 9, 10, 11, 12] (by decide) rfl
        refine lv_goto (tgt := 108) hx hb d_Compiler_readHeading_81 (by decide) ?_
        obtain ⟨e0, e1, e2, e3, e4, e5⟩ := hd
        subst e0
        subst e1
        subst e2
        subst e3
        subst e4
        subst e5
        exact ct_vret hx hb hr hlocks hK hP hD hS d_Compiler_readHeading_108
    · have hd := hd.2 h45
      refine lv_aload_n hx hb d_Compiler_readHeading_48 rfl (lv_at hl 1 rfl) ?_
      refine lv_iconst (v := 4) hx hb d_Compiler_readHeading_49 (by decide) ?_
      refine lv_aload_n hx hb d_Compiler_readHeading_50 rfl (lv_at hl 1 rfl) ?_
      refine va_get (D := (dC, dI)) (ci := 4) (v := .int coW) (C := R_Compiler) (T := F_Compiler) (N := 14) hx hb hts in_Compiler hown hK hP 0 rfl rfl 9 (by decide) (hts _ (List.mem_cons_of_mem _ k115_fieldLink)) (fun _ h9 => h9) rfl d_Compiler_readHeading_51 ?_
      obtain ⟨coF_54, coE_54, c54, hd⟩ := hd
      refine ct_V (As := [.int 4, .int coW]) (rest := []) (C := R_Compiler) (ci := 4) (q := (R_Compiler, F_Compiler, 14)) ⟨hx, hb, hml, hown, hts⟩ fm_Compiler_blame (c_Compiler_blame l dC dI cI cL cZ co coHa coH coNa coN coLa coL coPa coP coK (.ref sr) (.ref bk) coF coE coW coX coI coD coM 4 coW coF_54 coE_54 c54) k134_methodLink k135_instanceMethod k136_selects ⟨Nat.le_of_ble_eq_true rfl, Nat.le_of_ble_eq_true rfl⟩ rfl rfl hK hN hP hD hS hA [0, 1, 2, 3, 4] [5, 6, 7, 8, 9, 10, 11, 12, 13, 14, 15, 16, 17] rfl rfl rfl (by decide) (by decide) (by decide) 0 rfl rfl rfl rfl hl.1 rfl (Nat.le_of_ble_eq_true rfl) d_Compiler_readHeading_54 (fun H locs hP hD hS => ?_)
      have hP : va_P (dC, dI) classes ((sh_Compiler cI cL cZ co coHa coH coNa coN coLa coL coPa coP coK (.ref sr) (.ref bk) coF_54 coE_54 coW coX coI coD coM) ++ ((sh_Row cI cL cZ sr srEa srn srE srC srO) ++ ((sh_Book cI cL cZ bk bkNa bkN bkSa bkS bkB bkBEa bkBn bkBE bkBC bkBO bkK bkKWa bkKn bkKW bkKTa bkKT bkKC bkV bkVWa bkVn bkVW bkVTa bkVT bkVC bkT)))) H := hP.sub [13, 14, 15, 16, 17, 0, 1, 2, 3, 4, 5, 6, 7, 8, 9, 10, 11, 12] rfl
      have hD : va_D A ((sh_Compiler cI cL cZ co coHa coH coNa coN coLa coL coPa coP coK (.ref sr) (.ref bk) coF_54 coE_54 coW coX coI coD coM) ++ ((sh_Row cI cL cZ sr srEa srn srE srC srO) ++ ((sh_Book cI cL cZ bk bkNa bkN bkSa bkS bkB bkBEa bkBn bkBE bkBC bkBO bkK bkKWa bkKn bkKW bkKTa bkKT bkKC bkV bkVWa bkVn bkVW bkVTa bkVT bkVC bkT)))) := hD.sub [13, 14, 15, 16, 17, 0, 1, 2, 3, 4, 5, 6, 7, 8, 9, 10, 11, 12] (by decide) rfl
      refine lv_goto (tgt := 108) hx hb d_Compiler_readHeading_57 (by decide) ?_
      obtain ⟨e0, e1, e2, e3, e4, e5⟩ := hd
      subst e0
      subst e1
      subst e2
      subst e3
      subst e4
      subst e5
      exact ct_vret hx hb hr hlocks hK hP hD hS d_Compiler_readHeading_108
  · have hd := hd.1 h21
    refine lv_aload_n hx hb d_Compiler_readHeading_24 rfl (lv_at hl 1 rfl) ?_
    refine lv_iconst (v := 2) hx hb d_Compiler_readHeading_25 (by decide) ?_
    refine lv_aload_n hx hb d_Compiler_readHeading_26 rfl (lv_at hl 1 rfl) ?_
    refine va_get (D := (dC, dI)) (ci := 4) (v := .int coW) (C := R_Compiler) (T := F_Compiler) (N := 14) hx hb hts in_Compiler hown hK hP 0 rfl rfl 9 (by decide) (hts _ (List.mem_cons_of_mem _ k115_fieldLink)) (fun _ h9 => h9) rfl d_Compiler_readHeading_27 ?_
    obtain ⟨coF_30, coE_30, c30, hd⟩ := hd
    refine ct_V (As := [.int 2, .int coW]) (rest := []) (C := R_Compiler) (ci := 4) (q := (R_Compiler, F_Compiler, 14)) ⟨hx, hb, hml, hown, hts⟩ fm_Compiler_blame (c_Compiler_blame l dC dI cI cL cZ co coHa coH coNa coN coLa coL coPa coP coK (.ref sr) (.ref bk) coF coE coW coX coI coD coM 2 coW coF_30 coE_30 c30) k134_methodLink k135_instanceMethod k136_selects ⟨Nat.le_of_ble_eq_true rfl, Nat.le_of_ble_eq_true rfl⟩ rfl rfl hK hN hP hD hS hA [0, 1, 2, 3, 4] [5, 6, 7, 8, 9, 10, 11, 12, 13, 14, 15, 16, 17] rfl rfl rfl (by decide) (by decide) (by decide) 0 rfl rfl rfl rfl hl.1 rfl (Nat.le_of_ble_eq_true rfl) d_Compiler_readHeading_30 (fun H locs hP hD hS => ?_)
    have hP : va_P (dC, dI) classes ((sh_Compiler cI cL cZ co coHa coH coNa coN coLa coL coPa coP coK (.ref sr) (.ref bk) coF_30 coE_30 coW coX coI coD coM) ++ ((sh_Row cI cL cZ sr srEa srn srE srC srO) ++ ((sh_Book cI cL cZ bk bkNa bkN bkSa bkS bkB bkBEa bkBn bkBE bkBC bkBO bkK bkKWa bkKn bkKW bkKTa bkKT bkKC bkV bkVWa bkVn bkVW bkVTa bkVT bkVC bkT)))) H := hP.sub [13, 14, 15, 16, 17, 0, 1, 2, 3, 4, 5, 6, 7, 8, 9, 10, 11, 12] rfl
    have hD : va_D A ((sh_Compiler cI cL cZ co coHa coH coNa coN coLa coL coPa coP coK (.ref sr) (.ref bk) coF_30 coE_30 coW coX coI coD coM) ++ ((sh_Row cI cL cZ sr srEa srn srE srC srO) ++ ((sh_Book cI cL cZ bk bkNa bkN bkSa bkS bkB bkBEa bkBn bkBE bkBC bkBO bkK bkKWa bkKn bkKW bkKTa bkKT bkKC bkV bkVWa bkVn bkVW bkVTa bkVT bkVC bkT)))) := hD.sub [13, 14, 15, 16, 17, 0, 1, 2, 3, 4, 5, 6, 7, 8, 9, 10, 11, 12] (by decide) rfl
    refine lv_goto (tgt := 108) hx hb d_Compiler_readHeading_33 (by decide) ?_
    obtain ⟨e0, e1, e2, e3, e4, e5⟩ := hd
    subst e0
    subst e1
    subst e2
    subst e3
    subst e4
    subst e5
    exact ct_vret hx hb hr hlocks hK hP hD hS d_Compiler_readHeading_108
-- Compiler.readKeyword
abbrev b_Compiler_readKeyword : ByteArray := prog_3_method_10_code
def y_Compiler_readKeyword : MethodName := ⟨"HelpFile$Compiler", "readKeyword", "(II)V"⟩
theorem k137_methodLink : Cond.methodLink "HelpFile$Compiler" 130 ⟨"HelpFile$Book", "noteKeyword", "(J)V"⟩ ∈ ga := ga_t 366 (by decide +kernel) rfl
theorem k138_instanceMethod : Cond.instanceMethod ⟨"HelpFile$Book", "noteKeyword", "(J)V"⟩ ∈ ga := ga_t 367 (by decide +kernel) rfl
theorem k139_selects : Cond.selects "HelpFile$Book" ⟨"HelpFile$Book", "noteKeyword", "(J)V"⟩ ⟨"HelpFile$Book", "noteKeyword", "(J)V"⟩ ∈ ga := ga_t 368 (by decide +kernel) rfl
set_option maxRecDepth 100000 in
theorem fm_Compiler_readKeyword : Fm y_Compiler_readKeyword b_Compiler_readKeyword 3 none 2 := ⟨ga_t 365 rfl rfl, k108_initialized, by decide, by decide, by decide +kernel⟩
def D_Compiler_readKeyword (srn : Nat) (bkKn : Nat) (k0 : Int32) (k1 : Int32) (coF : Int32) (coE : Int32) (coW : Int32) (srE : Nat → Int32) (srC : Int32) (bkKW : Nat → Int64) (bkKT : Nat → Int32) (bkKC : Int32) (bkT : Int32) (coF' : Int32) (coE' : Int32) (bkKW' : Nat → Int64) (bkKT' : Nat → Int32) (bkKC' : Int32) : Prop := ((bkT = 0 → (∃ coF_16 : Int32, ∃ coE_16 : Int32, D_Compiler_blame 1 coW coF coE coF_16 coE_16 ∧ (coF' = coF_16 ∧ coE' = coE_16 ∧ bkKW' = bkKW ∧ bkKT' = bkKT ∧ bkKC' = bkKC))) ∧ (¬ (bkT = 0) → (∃ r30 : Bool, D_Letters_isWord srn k0 k1 8 srE srC r30 ∧ (((bI r30) = 0 → (∃ coF_42 : Int32, ∃ coE_42 : Int32, D_Compiler_blame 3 coW coF coE coF_42 coE_42 ∧ (coF' = coF_42 ∧ coE' = coE_42 ∧ bkKW' = bkKW ∧ bkKT' = bkKT ∧ bkKC' = bkKC))) ∧ (¬ ((bI r30) = 0) → (∃ r58 : Int64, D_Letters_word srn k0 k1 srE srC r58 ∧ (∃ bkKW_61 : Nat → Int64, ∃ bkKT_61 : Nat → Int32, ∃ bkKC_61 : Int32, D_Book_noteKeyword bkKn r58 bkKW bkKT bkKC bkT bkKW_61 bkKT_61 bkKC_61 ∧ (coF' = coF ∧ coE' = coE ∧ bkKW' = bkKW_61 ∧ bkKT' = bkKT_61 ∧ bkKC' = bkKC_61))))))))
theorem d_Compiler_readKeyword_0 : decode b_Compiler_readKeyword 0 = .ok (.aload_n 0, 1) := by decide +kernel
theorem d_Compiler_readKeyword_1 : decode b_Compiler_readKeyword 1 = .ok (.getfield 29, 3) := by decide +kernel
theorem d_Compiler_readKeyword_4 : decode b_Compiler_readKeyword 4 = .ok (.invokevirtual 69, 3) := by decide +kernel
theorem d_Compiler_readKeyword_7 : decode b_Compiler_readKeyword 7 = .ok (.ifCond .ne 15, 3) := by decide +kernel
theorem d_Compiler_readKeyword_10 : decode b_Compiler_readKeyword 10 = .ok (.aload_n 0, 1) := by decide +kernel
theorem d_Compiler_readKeyword_11 : decode b_Compiler_readKeyword 11 = .ok (.iconst 1, 1) := by decide +kernel
theorem d_Compiler_readKeyword_12 : decode b_Compiler_readKeyword 12 = .ok (.aload_n 0, 1) := by decide +kernel
theorem d_Compiler_readKeyword_13 : decode b_Compiler_readKeyword 13 = .ok (.getfield 57, 3) := by decide +kernel
theorem d_Compiler_readKeyword_16 : decode b_Compiler_readKeyword 16 = .ok (.invokevirtual 74, 3) := by decide +kernel
theorem d_Compiler_readKeyword_19 : decode b_Compiler_readKeyword 19 = .ok (.goto 45, 3) := by decide +kernel
theorem d_Compiler_readKeyword_22 : decode b_Compiler_readKeyword 22 = .ok (.aload_n 0, 1) := by decide +kernel
theorem d_Compiler_readKeyword_23 : decode b_Compiler_readKeyword 23 = .ok (.getfield 25, 3) := by decide +kernel
theorem d_Compiler_readKeyword_26 : decode b_Compiler_readKeyword 26 = .ok (.iload_n 1, 1) := by decide +kernel
theorem d_Compiler_readKeyword_27 : decode b_Compiler_readKeyword 27 = .ok (.iload_n 2, 1) := by decide +kernel
theorem d_Compiler_readKeyword_28 : decode b_Compiler_readKeyword 28 = .ok (.bipush 8, 2) := by decide +kernel
theorem d_Compiler_readKeyword_30 : decode b_Compiler_readKeyword 30 = .ok (.invokestatic 118, 3) := by decide +kernel
theorem d_Compiler_readKeyword_33 : decode b_Compiler_readKeyword 33 = .ok (.ifCond .ne 15, 3) := by decide +kernel
theorem d_Compiler_readKeyword_36 : decode b_Compiler_readKeyword 36 = .ok (.aload_n 0, 1) := by decide +kernel
theorem d_Compiler_readKeyword_37 : decode b_Compiler_readKeyword 37 = .ok (.iconst 3, 1) := by decide +kernel
theorem d_Compiler_readKeyword_38 : decode b_Compiler_readKeyword 38 = .ok (.aload_n 0, 1) := by decide +kernel
theorem d_Compiler_readKeyword_39 : decode b_Compiler_readKeyword 39 = .ok (.getfield 57, 3) := by decide +kernel
theorem d_Compiler_readKeyword_42 : decode b_Compiler_readKeyword 42 = .ok (.invokevirtual 74, 3) := by decide +kernel
theorem d_Compiler_readKeyword_45 : decode b_Compiler_readKeyword 45 = .ok (.goto 19, 3) := by decide +kernel
theorem d_Compiler_readKeyword_48 : decode b_Compiler_readKeyword 48 = .ok (.aload_n 0, 1) := by decide +kernel
theorem d_Compiler_readKeyword_49 : decode b_Compiler_readKeyword 49 = .ok (.getfield 29, 3) := by decide +kernel
theorem d_Compiler_readKeyword_52 : decode b_Compiler_readKeyword 52 = .ok (.aload_n 0, 1) := by decide +kernel
theorem d_Compiler_readKeyword_53 : decode b_Compiler_readKeyword 53 = .ok (.getfield 25, 3) := by decide +kernel
theorem d_Compiler_readKeyword_56 : decode b_Compiler_readKeyword 56 = .ok (.iload_n 1, 1) := by decide +kernel
theorem d_Compiler_readKeyword_57 : decode b_Compiler_readKeyword 57 = .ok (.iload_n 2, 1) := by decide +kernel
theorem d_Compiler_readKeyword_58 : decode b_Compiler_readKeyword 58 = .ok (.invokestatic 112, 3) := by decide +kernel
theorem d_Compiler_readKeyword_61 : decode b_Compiler_readKeyword 61 = .ok (.invokevirtual 130, 3) := by decide +kernel
theorem d_Compiler_readKeyword_64 : decode b_Compiler_readKeyword 64 = .ok (.return_, 1) := by decide +kernel
set_option maxHeartbeats 4000000 in
set_option maxRecDepth 100000 in
theorem c_Compiler_readKeyword (l : Launch) (dC : Nat → ClassId) (dI : Nat → Nat → Nat) (cI cL cZ : ClassId) (co : Nat) (coHa : Nat) (coH : Nat → Int32) (coNa : Nat) (coN : Nat → Int64) (coLa : Nat) (coL : Nat → Int32) (coPa : Nat) (coP : Nat → Int32) (coK : Int32) (coF : Int32) (coE : Int32) (coW : Int32) (coX : Int32) (coI : Bool) (coD : Bool) (coM : Bool) (sr : Nat) (srEa : Nat) (srn : Nat) (srE : Nat → Int32) (srC : Int32) (srO : Bool) (bk : Nat) (bkNa : Nat) (bkN : Nat → Int64) (bkSa : Nat) (bkS : Nat → Int32) (bkB : Nat) (bkBEa : Nat) (bkBn : Nat) (bkBE : Nat → Int32) (bkBC : Int32) (bkBO : Bool) (bkK : Nat) (bkKWa : Nat) (bkKn : Nat) (bkKW : Nat → Int64) (bkKTa : Nat) (bkKT : Nat → Int32) (bkKC : Int32) (bkV : Nat) (bkVWa : Nat) (bkVn : Nat) (bkVW : Nat → Int64) (bkVTa : Nat) (bkVT : Nat → Int32) (bkVC : Int32) (bkT : Int32) (k0 : Int32) (k1 : Int32) (coF' : Int32) (coE' : Int32) (bkKW' : Nat → Int64) (bkKT' : Nat → Int32) (bkKC' : Int32) (hd : D_Compiler_readKeyword srn bkKn k0 k1 coF coE coW srE srC bkKW bkKT bkKC bkT coF' coE' bkKW' bkKT' bkKC') : Ctr l y_Compiler_readKeyword (Cond.code y_Compiler_readKeyword b_Compiler_readKeyword 3 none :: ga) { frames := 3, cells := 0, slots := 0, locals := 71 } (dC, dI) classes (Tys cI cL cZ) [.ref co, .int k0, .int k1] ((sh_Compiler cI cL cZ co coHa coH coNa coN coLa coL coPa coP coK (.ref sr) (.ref bk) coF coE coW coX coI coD coM) ++ ((sh_Row cI cL cZ sr srEa srn srE srC srO) ++ ((sh_Book cI cL cZ bk bkNa bkN bkSa bkS bkB bkBEa bkBn bkBE bkBC bkBO bkK bkKWa bkKn bkKW bkKTa bkKT bkKC bkV bkVWa bkVn bkVW bkVTa bkVT bkVC bkT)))) none ((sh_Compiler cI cL cZ co coHa coH coNa coN coLa coL coPa coP coK (.ref sr) (.ref bk) coF' coE' coW coX coI coD coM) ++ ((sh_Row cI cL cZ sr srEa srn srE srC srO) ++ ((sh_Book cI cL cZ bk bkNa bkN bkSa bkS bkB bkBEa bkBn bkBE bkBC bkBO bkK bkKWa bkKn bkKW' bkKTa bkKT' bkKC' bkV bkVWa bkVn bkVW bkVTa bkVT bkVC bkT)))) := by
  refine Ctr.ofW (by decide) (Nat.le_of_ble_eq_true rfl) ?_
  intro p e s m below meth c A ls hx hb hr hml hown hlocks hts hK hN hA hP hD hS hl
  have hown : s.vm.findClass R_Compiler = some m.cls := hown
  have hl : lv_has ls 3 [(0, .ref co), (1, .int k0), (2, .int k1)] := hl
  refine lv_aload_n hx hb d_Compiler_readKeyword_0 rfl (lv_at hl 0 rfl) ?_
  refine va_get (D := (dC, dI)) (ci := 4) (v := .ref bk) (C := R_Compiler) (T := F_Compiler) (N := 14) hx hb hts in_Compiler hown hK hP 0 rfl rfl 6 (by decide) (hts _ (List.mem_cons_of_mem _ k110_fieldLink)) (fun _ h9 => h9) rfl d_Compiler_readKeyword_1 ?_
  refine ct_VR (As := []) (rest := []) (C := R_Book) (ci := 3) (q := (R_Book, F_Book, 6)) ⟨hx, hb, hml, hown, hts⟩ fm_Book_topics (c_Book_topics l dC dI cI cL cZ bk bkNa bkN bkSa bkS bkB bkBEa bkBn bkBE bkBC bkBO bkK bkKWa bkKn bkKW bkKTa bkKT bkKC bkV bkVWa bkVn bkVW bkVTa bkVT bkVC bkT bkT rfl) k127_methodLink k128_instanceMethod k129_selects ⟨Nat.le_of_ble_eq_true rfl, Nat.le_of_ble_eq_true rfl⟩ rfl rfl hK hN hP hD [7, 8, 9, 10, 11, 12, 13, 14, 15, 16, 17] rfl rfl (by decide) 7 rfl rfl rfl rfl hl.1 rfl (Nat.le_of_ble_eq_true rfl) d_Compiler_readKeyword_4 ?_
  refine lv_if_ne (tgt := 22) hx hb d_Compiler_readKeyword_7 (by decide) (fun h7 => ?_) (fun h7 => ?_)
  · have hd := hd.2 h7
    refine lv_aload_n hx hb d_Compiler_readKeyword_22 rfl (lv_at hl 0 rfl) ?_
    refine va_get (D := (dC, dI)) (ci := 4) (v := .ref sr) (C := R_Compiler) (T := F_Compiler) (N := 14) hx hb hts in_Compiler hown hK hP 0 rfl rfl 5 (by decide) (hts _ (List.mem_cons_of_mem _ k120_fieldLink)) (fun _ h9 => h9) rfl d_Compiler_readKeyword_23 ?_
    refine lv_iload_n hx hb d_Compiler_readKeyword_26 rfl (lv_at hl 1 rfl) ?_
    refine lv_iload_n hx hb d_Compiler_readKeyword_27 rfl (lv_at hl 2 rfl) ?_
    refine lv_bipush (v := 8) hx hb d_Compiler_readKeyword_28 (by decide) ?_
    obtain ⟨r30, c30, hd⟩ := hd
    refine ct_SR (As := [.ref sr, .int k0, .int k1, .int 8]) (rest := []) ⟨hx, hb, hml, hown, hts⟩ fm_Letters_isWord (c_Letters_isWord l dC dI cI cL cZ sr srEa srn srE srC srO k0 k1 8 r30 c30) k124_methodLink k125_static ⟨Nat.le_of_ble_eq_true rfl, Nat.le_of_ble_eq_true rfl⟩ rfl rfl hK hN hP hD [5, 6] rfl rfl (by decide) rfl hl.1 rfl (Nat.le_of_ble_eq_true rfl) d_Compiler_readKeyword_30 ?_
    refine lv_if_ne (tgt := 48) hx hb d_Compiler_readKeyword_33 (by decide) (fun h33 => ?_) (fun h33 => ?_)
    · have hd := hd.2 h33
      refine lv_aload_n hx hb d_Compiler_readKeyword_48 rfl (lv_at hl 0 rfl) ?_
      refine va_get (D := (dC, dI)) (ci := 4) (v := .ref bk) (C := R_Compiler) (T := F_Compiler) (N := 14) hx hb hts in_Compiler hown hK hP 0 rfl rfl 6 (by decide) (hts _ (List.mem_cons_of_mem _ k110_fieldLink)) (fun _ h9 => h9) rfl d_Compiler_readKeyword_49 ?_
      refine lv_aload_n hx hb d_Compiler_readKeyword_52 rfl (lv_at hl 0 rfl) ?_
      refine va_get (D := (dC, dI)) (ci := 4) (v := .ref sr) (C := R_Compiler) (T := F_Compiler) (N := 14) hx hb hts in_Compiler hown hK hP 0 rfl rfl 5 (by decide) (hts _ (List.mem_cons_of_mem _ k120_fieldLink)) (fun _ h9 => h9) rfl d_Compiler_readKeyword_53 ?_
      refine lv_iload_n hx hb d_Compiler_readKeyword_56 rfl (lv_at hl 1 rfl) ?_
      refine lv_iload_n hx hb d_Compiler_readKeyword_57 rfl (lv_at hl 2 rfl) ?_
      obtain ⟨r58, c58, hd⟩ := hd
      refine ct_SR (As := [.ref sr, .int k0, .int k1]) (rest := [.ref bk]) ⟨hx, hb, hml, hown, hts⟩ fm_Letters_word (c_Letters_word l dC dI cI cL cZ sr srEa srn srE srC srO k0 k1 r58 c58) k123_methodLink k86_static ⟨Nat.le_of_ble_eq_true rfl, Nat.le_of_ble_eq_true rfl⟩ rfl rfl hK hN hP hD [5, 6] rfl rfl (by decide) rfl hl.1 rfl (Nat.le_of_ble_eq_true rfl) d_Compiler_readKeyword_58 ?_
      obtain ⟨bkKW_61, bkKT_61, bkKC_61, c61, hd⟩ := hd
      refine ct_V (As := [.long r58]) (rest := []) (C := R_Book) (ci := 3) (q := (R_Book, F_Book, 6)) ⟨hx, hb, hml, hown, hts⟩ fm_Book_noteKeyword (c_Book_noteKeyword l dC dI cI cL cZ bk bkNa bkN bkSa bkS bkB bkBEa bkBn bkBE bkBC bkBO bkK bkKWa bkKn bkKW bkKTa bkKT bkKC bkV bkVWa bkVn bkVW bkVTa bkVT bkVC bkT r58 bkKW_61 bkKT_61 bkKC_61 c61) k137_methodLink k138_instanceMethod k139_selects ⟨Nat.le_of_ble_eq_true rfl, Nat.le_of_ble_eq_true rfl⟩ rfl rfl hK hN hP hD hS hA [7, 8, 9, 10, 11, 12, 13, 14, 15, 16, 17] [0, 1, 2, 3, 4, 5, 6] rfl rfl rfl (by decide) (by decide) (by decide) 7 rfl rfl rfl rfl hl.1 rfl (Nat.le_of_ble_eq_true rfl) d_Compiler_readKeyword_61 (fun H locs hP hD hS => ?_)
      have hP : va_P (dC, dI) classes ((sh_Compiler cI cL cZ co coHa coH coNa coN coLa coL coPa coP coK (.ref sr) (.ref bk) coF coE coW coX coI coD coM) ++ ((sh_Row cI cL cZ sr srEa srn srE srC srO) ++ ((sh_Book cI cL cZ bk bkNa bkN bkSa bkS bkB bkBEa bkBn bkBE bkBC bkBO bkK bkKWa bkKn bkKW_61 bkKTa bkKT_61 bkKC_61 bkV bkVWa bkVn bkVW bkVTa bkVT bkVC bkT)))) H := hP.sub [0, 1, 2, 3, 4, 5, 6, 7, 8, 9, 10, 11, 12, 13, 14, 15, 16, 17] rfl
      have hD : va_D A ((sh_Compiler cI cL cZ co coHa coH coNa coN coLa coL coPa coP coK (.ref sr) (.ref bk) coF coE coW coX coI coD coM) ++ ((sh_Row cI cL cZ sr srEa srn srE srC srO) ++ ((sh_Book cI cL cZ bk bkNa bkN bkSa bkS bkB bkBEa bkBn bkBE bkBC bkBO bkK bkKWa bkKn bkKW_61 bkKTa bkKT_61 bkKC_61 bkV bkVWa bkVn bkVW bkVTa bkVT bkVC bkT)))) := hD.sub [0, 1, 2, 3, 4, 5, 6, 7, 8, 9, 10, 11, 12, 13, 14, 15, 16, 17] (by decide) rfl
      obtain ⟨e0, e1, e2, e3, e4⟩ := hd
      subst e0
      subst e1
      subst e2
      subst e3
      subst e4
      exact ct_vret hx hb hr hlocks hK hP hD hS d_Compiler_readKeyword_64
    · have hd := hd.1 h33
      refine lv_aload_n hx hb d_Compiler_readKeyword_36 rfl (lv_at hl 0 rfl) ?_
      refine lv_iconst (v := 3) hx hb d_Compiler_readKeyword_37 (by decide) ?_
      refine lv_aload_n hx hb d_Compiler_readKeyword_38 rfl (lv_at hl 0 rfl) ?_
      refine va_get (D := (dC, dI)) (ci := 4) (v := .int coW) (C := R_Compiler) (T := F_Compiler) (N := 14) hx hb hts in_Compiler hown hK hP 0 rfl rfl 9 (by decide) (hts _ (List.mem_cons_of_mem _ k115_fieldLink)) (fun _ h9 => h9) rfl d_Compiler_readKeyword_39 ?_
      obtain ⟨coF_42, coE_42, c42, hd⟩ := hd
      refine ct_V (As := [.int 3, .int coW]) (rest := []) (C := R_Compiler) (ci := 4) (q := (R_Compiler, F_Compiler, 14)) ⟨hx, hb, hml, hown, hts⟩ fm_Compiler_blame (c_Compiler_blame l dC dI cI cL cZ co coHa coH coNa coN coLa coL coPa coP coK (.ref sr) (.ref bk) coF coE coW coX coI coD coM 3 coW coF_42 coE_42 c42) k134_methodLink k135_instanceMethod k136_selects ⟨Nat.le_of_ble_eq_true rfl, Nat.le_of_ble_eq_true rfl⟩ rfl rfl hK hN hP hD hS hA [0, 1, 2, 3, 4] [5, 6, 7, 8, 9, 10, 11, 12, 13, 14, 15, 16, 17] rfl rfl rfl (by decide) (by decide) (by decide) 0 rfl rfl rfl rfl hl.1 rfl (Nat.le_of_ble_eq_true rfl) d_Compiler_readKeyword_42 (fun H locs hP hD hS => ?_)
      have hP : va_P (dC, dI) classes ((sh_Compiler cI cL cZ co coHa coH coNa coN coLa coL coPa coP coK (.ref sr) (.ref bk) coF_42 coE_42 coW coX coI coD coM) ++ ((sh_Row cI cL cZ sr srEa srn srE srC srO) ++ ((sh_Book cI cL cZ bk bkNa bkN bkSa bkS bkB bkBEa bkBn bkBE bkBC bkBO bkK bkKWa bkKn bkKW bkKTa bkKT bkKC bkV bkVWa bkVn bkVW bkVTa bkVT bkVC bkT)))) H := hP.sub [13, 14, 15, 16, 17, 0, 1, 2, 3, 4, 5, 6, 7, 8, 9, 10, 11, 12] rfl
      have hD : va_D A ((sh_Compiler cI cL cZ co coHa coH coNa coN coLa coL coPa coP coK (.ref sr) (.ref bk) coF_42 coE_42 coW coX coI coD coM) ++ ((sh_Row cI cL cZ sr srEa srn srE srC srO) ++ ((sh_Book cI cL cZ bk bkNa bkN bkSa bkS bkB bkBEa bkBn bkBE bkBC bkBO bkK bkKWa bkKn bkKW bkKTa bkKT bkKC bkV bkVWa bkVn bkVW bkVTa bkVT bkVC bkT)))) := hD.sub [13, 14, 15, 16, 17, 0, 1, 2, 3, 4, 5, 6, 7, 8, 9, 10, 11, 12] (by decide) rfl
      refine lv_goto (tgt := 64) hx hb d_Compiler_readKeyword_45 (by decide) ?_
      obtain ⟨e0, e1, e2, e3, e4⟩ := hd
      subst e0
      subst e1
      subst e2
      subst e3
      subst e4
      exact ct_vret hx hb hr hlocks hK hP hD hS d_Compiler_readKeyword_64
  · have hd := hd.1 h7
    refine lv_aload_n hx hb d_Compiler_readKeyword_10 rfl (lv_at hl 0 rfl) ?_
    refine lv_iconst (v := 1) hx hb d_Compiler_readKeyword_11 (by decide) ?_
    refine lv_aload_n hx hb d_Compiler_readKeyword_12 rfl (lv_at hl 0 rfl) ?_
    refine va_get (D := (dC, dI)) (ci := 4) (v := .int coW) (C := R_Compiler) (T := F_Compiler) (N := 14) hx hb hts in_Compiler hown hK hP 0 rfl rfl 9 (by decide) (hts _ (List.mem_cons_of_mem _ k115_fieldLink)) (fun _ h9 => h9) rfl d_Compiler_readKeyword_13 ?_
    obtain ⟨coF_16, coE_16, c16, hd⟩ := hd
    refine ct_V (As := [.int 1, .int coW]) (rest := []) (C := R_Compiler) (ci := 4) (q := (R_Compiler, F_Compiler, 14)) ⟨hx, hb, hml, hown, hts⟩ fm_Compiler_blame (c_Compiler_blame l dC dI cI cL cZ co coHa coH coNa coN coLa coL coPa coP coK (.ref sr) (.ref bk) coF coE coW coX coI coD coM 1 coW coF_16 coE_16 c16) k134_methodLink k135_instanceMethod k136_selects ⟨Nat.le_of_ble_eq_true rfl, Nat.le_of_ble_eq_true rfl⟩ rfl rfl hK hN hP hD hS hA [0, 1, 2, 3, 4] [5, 6, 7, 8, 9, 10, 11, 12, 13, 14, 15, 16, 17] rfl rfl rfl (by decide) (by decide) (by decide) 0 rfl rfl rfl rfl hl.1 rfl (Nat.le_of_ble_eq_true rfl) d_Compiler_readKeyword_16 (fun H locs hP hD hS => ?_)
    have hP : va_P (dC, dI) classes ((sh_Compiler cI cL cZ co coHa coH coNa coN coLa coL coPa coP coK (.ref sr) (.ref bk) coF_16 coE_16 coW coX coI coD coM) ++ ((sh_Row cI cL cZ sr srEa srn srE srC srO) ++ ((sh_Book cI cL cZ bk bkNa bkN bkSa bkS bkB bkBEa bkBn bkBE bkBC bkBO bkK bkKWa bkKn bkKW bkKTa bkKT bkKC bkV bkVWa bkVn bkVW bkVTa bkVT bkVC bkT)))) H := hP.sub [13, 14, 15, 16, 17, 0, 1, 2, 3, 4, 5, 6, 7, 8, 9, 10, 11, 12] rfl
    have hD : va_D A ((sh_Compiler cI cL cZ co coHa coH coNa coN coLa coL coPa coP coK (.ref sr) (.ref bk) coF_16 coE_16 coW coX coI coD coM) ++ ((sh_Row cI cL cZ sr srEa srn srE srC srO) ++ ((sh_Book cI cL cZ bk bkNa bkN bkSa bkS bkB bkBEa bkBn bkBE bkBC bkBO bkK bkKWa bkKn bkKW bkKTa bkKT bkKC bkV bkVWa bkVn bkVW bkVTa bkVT bkVC bkT)))) := hD.sub [13, 14, 15, 16, 17, 0, 1, 2, 3, 4, 5, 6, 7, 8, 9, 10, 11, 12] (by decide) rfl
    refine lv_goto (tgt := 64) hx hb d_Compiler_readKeyword_19 (by decide) ?_
    obtain ⟨e0, e1, e2, e3, e4⟩ := hd
    subst e0
    subst e1
    subst e2
    subst e3
    subst e4
    exact ct_vret hx hb hr hlocks hK hP hD hS d_Compiler_readKeyword_64
-- Compiler.appendDueBlank
abbrev b_Compiler_appendDueBlank : ByteArray := prog_3_method_12_code
def y_Compiler_appendDueBlank : MethodName := ⟨"HelpFile$Compiler", "appendDueBlank", "()V"⟩
theorem k140_methodLink : Cond.methodLink "HelpFile$Compiler" 144 ⟨"HelpFile$Book", "append", "(I)V"⟩ ∈ ga := ga_t 321 (by decide +kernel) rfl
theorem k141_instanceMethod : Cond.instanceMethod ⟨"HelpFile$Book", "append", "(I)V"⟩ ∈ ga := ga_t 322 (by decide +kernel) rfl
theorem k142_selects : Cond.selects "HelpFile$Book" ⟨"HelpFile$Book", "append", "(I)V"⟩ ⟨"HelpFile$Book", "append", "(I)V"⟩ ∈ ga := ga_t 323 (by decide +kernel) rfl
set_option maxRecDepth 100000 in
theorem fm_Compiler_appendDueBlank : Fm y_Compiler_appendDueBlank b_Compiler_appendDueBlank 1 none 0 := ⟨ga_t 389 rfl rfl, k108_initialized, by decide, by decide, by decide +kernel⟩
def B_Compiler_appendDueBlank_16 (bkBn : Nat) (bkT : Int32) (coI' : Bool) (coD' : Bool) (bkS' : Nat → Int32) (bkBE' : Nat → Int32) (bkBC' : Int32) (bkBO' : Bool) (X : Bool → Bool → (Nat → Int32) → (Nat → Int32) → Int32 → Bool → Prop) (coI : Bool) (coD : Bool) (bkS : Nat → Int32) (bkBE : Nat → Int32) (bkBC : Int32) (bkBO : Bool) : Prop := (coI' = true ∧ coD' = false ∧ bkS' = bkS ∧ bkBE' = bkBE ∧ bkBC' = bkBC ∧ bkBO' = bkBO)
def S_Compiler_appendDueBlank (bkBn : Nat) (bkT : Int32) (coI' : Bool) (coD' : Bool) (bkS' : Nat → Int32) (bkBE' : Nat → Int32) (bkBC' : Int32) (bkBO' : Bool) (X : Bool → Bool → (Nat → Int32) → (Nat → Int32) → Int32 → Bool → Prop) : Bool → Bool → (Nat → Int32) → (Nat → Int32) → Int32 → Bool → Prop := fun coI coD bkS bkBE bkBC bkBO => B_Compiler_appendDueBlank_16 bkBn bkT coI' coD' bkS' bkBE' bkBC' bkBO' X coI coD bkS bkBE bkBC bkBO
def T_Compiler_appendDueBlank (bkBn : Nat) (bkT : Int32) (coI' : Bool) (coD' : Bool) (bkS' : Nat → Int32) (bkBE' : Nat → Int32) (bkBC' : Int32) (bkBO' : Bool) : Nat → (Bool → Bool → (Nat → Int32) → (Nat → Int32) → Int32 → Bool → Prop)
  | 0 => fun _ _ _ _ _ _ => False
  | n + 1 => S_Compiler_appendDueBlank bkBn bkT coI' coD' bkS' bkBE' bkBC' bkBO' (T_Compiler_appendDueBlank bkBn bkT coI' coD' bkS' bkBE' bkBC' bkBO' n)
def D_Compiler_appendDueBlank (bkBn : Nat) (coI : Bool) (coD : Bool) (bkS : Nat → Int32) (bkBE : Nat → Int32) (bkBC : Int32) (bkBO : Bool) (bkT : Int32) (coI' : Bool) (coD' : Bool) (bkS' : Nat → Int32) (bkBE' : Nat → Int32) (bkBC' : Int32) (bkBO' : Bool) : Prop := ∃ n : Nat, (((bI coD) = 0 → T_Compiler_appendDueBlank bkBn bkT coI' coD' bkS' bkBE' bkBC' bkBO' n coI coD bkS bkBE bkBC bkBO) ∧ (¬ ((bI coD) = 0) → (∃ bkS_13 : Nat → Int32, ∃ bkBE_13 : Nat → Int32, ∃ bkBC_13 : Int32, ∃ bkBO_13 : Bool, D_Book_append bkBn 32 bkS bkBE bkBC bkBO bkT bkS_13 bkBE_13 bkBC_13 bkBO_13 ∧ T_Compiler_appendDueBlank bkBn bkT coI' coD' bkS' bkBE' bkBC' bkBO' n coI coD bkS_13 bkBE_13 bkBC_13 bkBO_13)))
theorem d_Compiler_appendDueBlank_0 : decode b_Compiler_appendDueBlank 0 = .ok (.aload_n 0, 1) := by decide +kernel
theorem d_Compiler_appendDueBlank_1 : decode b_Compiler_appendDueBlank 1 = .ok (.getfield 90, 3) := by decide +kernel
theorem d_Compiler_appendDueBlank_4 : decode b_Compiler_appendDueBlank 4 = .ok (.ifCond .eq 12, 3) := by decide +kernel
theorem d_Compiler_appendDueBlank_7 : decode b_Compiler_appendDueBlank 7 = .ok (.aload_n 0, 1) := by decide +kernel
theorem d_Compiler_appendDueBlank_8 : decode b_Compiler_appendDueBlank 8 = .ok (.getfield 29, 3) := by decide +kernel
theorem d_Compiler_appendDueBlank_11 : decode b_Compiler_appendDueBlank 11 = .ok (.bipush 32, 2) := by decide +kernel
theorem d_Compiler_appendDueBlank_13 : decode b_Compiler_appendDueBlank 13 = .ok (.invokevirtual 144, 3) := by decide +kernel
theorem d_Compiler_appendDueBlank_16 : decode b_Compiler_appendDueBlank 16 = .ok (.aload_n 0, 1) := by decide +kernel
theorem d_Compiler_appendDueBlank_17 : decode b_Compiler_appendDueBlank 17 = .ok (.iconst 0, 1) := by decide +kernel
theorem d_Compiler_appendDueBlank_18 : decode b_Compiler_appendDueBlank 18 = .ok (.putfield 90, 3) := by decide +kernel
theorem d_Compiler_appendDueBlank_21 : decode b_Compiler_appendDueBlank 21 = .ok (.aload_n 0, 1) := by decide +kernel
theorem d_Compiler_appendDueBlank_22 : decode b_Compiler_appendDueBlank 22 = .ok (.iconst 1, 1) := by decide +kernel
theorem d_Compiler_appendDueBlank_23 : decode b_Compiler_appendDueBlank 23 = .ok (.putfield 86, 3) := by decide +kernel
theorem d_Compiler_appendDueBlank_26 : decode b_Compiler_appendDueBlank 26 = .ok (.return_, 1) := by decide +kernel
set_option maxHeartbeats 4000000 in
set_option maxRecDepth 100000 in
theorem c_Compiler_appendDueBlank (l : Launch) (dC : Nat → ClassId) (dI : Nat → Nat → Nat) (cI cL cZ : ClassId) (co : Nat) (coHa : Nat) (coH : Nat → Int32) (coNa : Nat) (coN : Nat → Int64) (coLa : Nat) (coL : Nat → Int32) (coPa : Nat) (coP : Nat → Int32) (coK : Int32) (coS : Value) (coF : Int32) (coE : Int32) (coW : Int32) (coX : Int32) (coI : Bool) (coD : Bool) (coM : Bool) (bk : Nat) (bkNa : Nat) (bkN : Nat → Int64) (bkSa : Nat) (bkS : Nat → Int32) (bkB : Nat) (bkBEa : Nat) (bkBn : Nat) (bkBE : Nat → Int32) (bkBC : Int32) (bkBO : Bool) (bkK : Nat) (bkKWa : Nat) (bkKn : Nat) (bkKW : Nat → Int64) (bkKTa : Nat) (bkKT : Nat → Int32) (bkKC : Int32) (bkV : Nat) (bkVWa : Nat) (bkVn : Nat) (bkVW : Nat → Int64) (bkVTa : Nat) (bkVT : Nat → Int32) (bkVC : Int32) (bkT : Int32) (coI' : Bool) (coD' : Bool) (bkS' : Nat → Int32) (bkBE' : Nat → Int32) (bkBC' : Int32) (bkBO' : Bool) (hd : D_Compiler_appendDueBlank bkBn coI coD bkS bkBE bkBC bkBO bkT coI' coD' bkS' bkBE' bkBC' bkBO') : Ctr l y_Compiler_appendDueBlank (Cond.code y_Compiler_appendDueBlank b_Compiler_appendDueBlank 1 none :: ga) { frames := 2, cells := 0, slots := 0, locals := 42 } (dC, dI) classes (Tys cI cL cZ) [.ref co] ((sh_Compiler cI cL cZ co coHa coH coNa coN coLa coL coPa coP coK coS (.ref bk) coF coE coW coX coI coD coM) ++ ((sh_Book cI cL cZ bk bkNa bkN bkSa bkS bkB bkBEa bkBn bkBE bkBC bkBO bkK bkKWa bkKn bkKW bkKTa bkKT bkKC bkV bkVWa bkVn bkVW bkVTa bkVT bkVC bkT))) none ((sh_Compiler cI cL cZ co coHa coH coNa coN coLa coL coPa coP coK coS (.ref bk) coF coE coW coX coI' coD' coM) ++ ((sh_Book cI cL cZ bk bkNa bkN bkSa bkS' bkB bkBEa bkBn bkBE' bkBC' bkBO' bkK bkKWa bkKn bkKW bkKTa bkKT bkKC bkV bkVWa bkVn bkVW bkVTa bkVT bkVC bkT))) := by
  refine Ctr.ofW (by decide) (Nat.le_of_ble_eq_true rfl) ?_
  intro p e s m below meth c A ls hx hb hr hml hown hlocks hts hK hN hA hP hD hS hl
  have hown : s.vm.findClass R_Compiler = some m.cls := hown
  have hl : lv_has ls 1 [(0, .ref co)] := hl
  have key : ∀ n : Nat, (∀ (coI : Bool) (coD : Bool) (bkS : Nat → Int32) (bkBE : Nat → Int32) (bkBC : Int32) (bkBO : Bool) (ls : Array Slot) (H : Heap) (locs : List Loc), lv_has ls 1 [(0, .ref co)] → va_P (dC, dI) classes ((sh_Compiler cI cL cZ co coHa coH coNa coN coLa coL coPa coP coK coS (.ref bk) coF coE coW coX coI coD coM) ++ ((sh_Book cI cL cZ bk bkNa bkN bkSa bkS bkB bkBEa bkBn bkBE bkBC bkBO bkK bkKWa bkKn bkKW bkKTa bkKT bkKC bkV bkVWa bkVn bkVW bkVTa bkVT bkVC bkT))) H → va_D A ((sh_Compiler cI cL cZ co coHa coH coNa coN coLa coL coPa coP coK coS (.ref bk) coF coE coW coX coI coD coM) ++ ((sh_Book cI cL cZ bk bkNa bkN bkSa bkS bkB bkBEa bkBn bkBE bkBC bkBO bkK bkKWa bkKn bkKW bkKTa bkKT bkKC bkV bkVWa bkVn bkVW bkVTa bkVT bkVC bkT))) → va_S A s.heap H locs → T_Compiler_appendDueBlank bkBn bkT coI' coD' bkS' bkBE' bkBC' bkBO' n coI coD bkS bkBE bkBC bkBO → W p l e ({ frames := 2, cells := 0, slots := 0, locals := 42 }) s m ([.ref co] : List Value).toArray below meth c H locs 0 0 (MQ below (Qs (dC, dI) classes (Tys cI cL cZ) none ((sh_Compiler cI cL cZ co coHa coH coNa coN coLa coL coPa coP coK coS (.ref bk) coF coE coW coX coI' coD' coM) ++ ((sh_Book cI cL cZ bk bkNa bkN bkSa bkS' bkB bkBEa bkBn bkBE' bkBC' bkBO' bkK bkKWa bkKn bkKW bkKTa bkKT bkKC bkV bkVWa bkVn bkVW bkVTa bkVT bkVC bkT))) A) ([.ref co] : List Value).toArray s 0 0 A) (F0 m 16 ls [])) := by
    intro n
    induction n with
    | zero =>
      exact fun _ _ _ _ _ _ _ _ _ _ _ _ _ hd => False.elim hd
    | succ n ih =>
      · intro coI coD bkS bkBE bkBC bkBO ls H locs hl hP hD hS hd
        have hd : B_Compiler_appendDueBlank_16 bkBn bkT coI' coD' bkS' bkBE' bkBC' bkBO' (T_Compiler_appendDueBlank bkBn bkT coI' coD' bkS' bkBE' bkBC' bkBO' n) coI coD bkS bkBE bkBC bkBO := hd
        refine lv_aload_n hx hb d_Compiler_appendDueBlank_16 rfl (lv_at hl 0 rfl) ?_
        refine lv_iconst (v := 0) hx hb d_Compiler_appendDueBlank_17 (by decide) ?_
        refine va_put (D := (dC, dI)) (ci := 4) (v := .int (bI false)) (ty := t_Compiler 12) (C := R_Compiler) (T := F_Compiler) (N := 14) hx hb hts in_Compiler t_Compiler t_Compiler_ok n_Compiler hown hK hP hD hS 0 rfl rfl 12 (by decide) (hts _ (List.mem_cons_of_mem _ k118_fieldLink)) (fun _ h9 => h9) rfl (t_Compiler_ok 12 (by decide)) (bI_nar _) (bI_fit _) (Nat.le_of_ble_eq_true rfl) d_Compiler_appendDueBlank_18 (fun H locs hP hD hS => ?_)
        have hP : va_P (dC, dI) classes ((sh_Compiler cI cL cZ co coHa coH coNa coN coLa coL coPa coP coK coS (.ref bk) coF coE coW coX coI false coM) ++ ((sh_Book cI cL cZ bk bkNa bkN bkSa bkS bkB bkBEa bkBn bkBE bkBC bkBO bkK bkKWa bkKn bkKW bkKTa bkKT bkKC bkV bkVWa bkVn bkVW bkVTa bkVT bkVC bkT))) H := hP
        have hD : va_D A ((sh_Compiler cI cL cZ co coHa coH coNa coN coLa coL coPa coP coK coS (.ref bk) coF coE coW coX coI false coM) ++ ((sh_Book cI cL cZ bk bkNa bkN bkSa bkS bkB bkBEa bkBn bkBE bkBC bkBO bkK bkKWa bkKn bkKW bkKTa bkKT bkKC bkV bkVWa bkVn bkVW bkVTa bkVT bkVC bkT))) := hD
        refine lv_aload_n hx hb d_Compiler_appendDueBlank_21 rfl (lv_at hl 0 rfl) ?_
        refine lv_iconst (v := 1) hx hb d_Compiler_appendDueBlank_22 (by decide) ?_
        refine va_put (D := (dC, dI)) (ci := 4) (v := .int (bI true)) (ty := t_Compiler 11) (C := R_Compiler) (T := F_Compiler) (N := 14) hx hb hts in_Compiler t_Compiler t_Compiler_ok n_Compiler hown hK hP hD hS 0 rfl rfl 11 (by decide) (hts _ (List.mem_cons_of_mem _ k117_fieldLink)) (fun _ h9 => h9) rfl (t_Compiler_ok 11 (by decide)) (bI_nar _) (bI_fit _) (Nat.le_of_ble_eq_true rfl) d_Compiler_appendDueBlank_23 (fun H locs hP hD hS => ?_)
        have hP : va_P (dC, dI) classes ((sh_Compiler cI cL cZ co coHa coH coNa coN coLa coL coPa coP coK coS (.ref bk) coF coE coW coX true false coM) ++ ((sh_Book cI cL cZ bk bkNa bkN bkSa bkS bkB bkBEa bkBn bkBE bkBC bkBO bkK bkKWa bkKn bkKW bkKTa bkKT bkKC bkV bkVWa bkVn bkVW bkVTa bkVT bkVC bkT))) H := hP
        have hD : va_D A ((sh_Compiler cI cL cZ co coHa coH coNa coN coLa coL coPa coP coK coS (.ref bk) coF coE coW coX true false coM) ++ ((sh_Book cI cL cZ bk bkNa bkN bkSa bkS bkB bkBEa bkBn bkBE bkBC bkBO bkK bkKWa bkKn bkKW bkKTa bkKT bkKC bkV bkVWa bkVn bkVW bkVTa bkVT bkVC bkT))) := hD
        obtain ⟨e0, e1, e2, e3, e4, e5⟩ := hd
        subst e0
        subst e1
        subst e2
        subst e3
        subst e4
        subst e5
        exact ct_vret hx hb hr hlocks hK hP hD hS d_Compiler_appendDueBlank_26
  obtain ⟨n, hd⟩ := hd
  refine lv_aload_n hx hb d_Compiler_appendDueBlank_0 rfl (lv_at hl 0 rfl) ?_
  refine va_get (D := (dC, dI)) (ci := 4) (v := .int (bI coD)) (C := R_Compiler) (T := F_Compiler) (N := 14) hx hb hts in_Compiler hown hK hP 0 rfl rfl 12 (by decide) (hts _ (List.mem_cons_of_mem _ k118_fieldLink)) (fun _ h9 => h9) rfl d_Compiler_appendDueBlank_1 ?_
  refine lv_if_eq (tgt := 16) hx hb d_Compiler_appendDueBlank_4 (by decide) (fun h4 => ?_) (fun h4 => ?_)
  · have hd := hd.1 h4
    exact (key n) coI coD bkS bkBE bkBC bkBO _ _ _ (lv_sub hl [0] rfl) hP hD hS hd
  · have hd := hd.2 h4
    refine lv_aload_n hx hb d_Compiler_appendDueBlank_7 rfl (lv_at hl 0 rfl) ?_
    refine va_get (D := (dC, dI)) (ci := 4) (v := .ref bk) (C := R_Compiler) (T := F_Compiler) (N := 14) hx hb hts in_Compiler hown hK hP 0 rfl rfl 6 (by decide) (hts _ (List.mem_cons_of_mem _ k110_fieldLink)) (fun _ h9 => h9) rfl d_Compiler_appendDueBlank_8 ?_
    refine lv_bipush (v := 32) hx hb d_Compiler_appendDueBlank_11 (by decide) ?_
    obtain ⟨bkS_13, bkBE_13, bkBC_13, bkBO_13, c13, hd⟩ := hd
    refine ct_V (As := [.int 32]) (rest := []) (C := R_Book) (ci := 3) (q := (R_Book, F_Book, 6)) ⟨hx, hb, hml, hown, hts⟩ fm_Book_append (c_Book_append l dC dI cI cL cZ bk bkNa bkN bkSa bkS bkB bkBEa bkBn bkBE bkBC bkBO bkK bkKWa bkKn bkKW bkKTa bkKT bkKC bkV bkVWa bkVn bkVW bkVTa bkVT bkVC bkT 32 bkS_13 bkBE_13 bkBC_13 bkBO_13 c13) k140_methodLink k141_instanceMethod k142_selects ⟨Nat.le_of_ble_eq_true rfl, Nat.le_of_ble_eq_true rfl⟩ rfl rfl hK hN hP hD hS hA [5, 6, 7, 8, 9, 10, 11, 12, 13, 14, 15] [0, 1, 2, 3, 4] rfl rfl rfl (by decide) (by decide) (by decide) 5 rfl rfl rfl rfl hl.1 rfl (Nat.le_of_ble_eq_true rfl) d_Compiler_appendDueBlank_13 (fun H locs hP hD hS => ?_)
    have hP : va_P (dC, dI) classes ((sh_Compiler cI cL cZ co coHa coH coNa coN coLa coL coPa coP coK coS (.ref bk) coF coE coW coX coI coD coM) ++ ((sh_Book cI cL cZ bk bkNa bkN bkSa bkS_13 bkB bkBEa bkBn bkBE_13 bkBC_13 bkBO_13 bkK bkKWa bkKn bkKW bkKTa bkKT bkKC bkV bkVWa bkVn bkVW bkVTa bkVT bkVC bkT))) H := hP.sub [0, 1, 2, 3, 4, 5, 6, 7, 8, 9, 10, 11, 12, 13, 14, 15] rfl
    have hD : va_D A ((sh_Compiler cI cL cZ co coHa coH coNa coN coLa coL coPa coP coK coS (.ref bk) coF coE coW coX coI coD coM) ++ ((sh_Book cI cL cZ bk bkNa bkN bkSa bkS_13 bkB bkBEa bkBn bkBE_13 bkBC_13 bkBO_13 bkK bkKWa bkKn bkKW bkKTa bkKT bkKC bkV bkVWa bkVn bkVW bkVTa bkVT bkVC bkT))) := hD.sub [0, 1, 2, 3, 4, 5, 6, 7, 8, 9, 10, 11, 12, 13, 14, 15] (by decide) rfl
    exact (key n) coI coD bkS_13 bkBE_13 bkBC_13 bkBO_13 _ _ _ (lv_sub hl [0] rfl) hP hD hS hd
-- Compiler.readSign
abbrev b_Compiler_readSign : ByteArray := prog_3_method_13_code
def y_Compiler_readSign : MethodName := ⟨"HelpFile$Compiler", "readSign", "(I)V"⟩
set_option maxRecDepth 100000 in
theorem fm_Compiler_readSign : Fm y_Compiler_readSign b_Compiler_readSign 2 none 1 := ⟨ga_t 404 rfl rfl, k108_initialized, by decide, by decide, by decide +kernel⟩
def B_Compiler_readSign_41 (bkBn : Nat) (coW : Int32) (bkT : Int32) (coF' : Int32) (coE' : Int32) (coM' : Bool) (bkS' : Nat → Int32) (bkBE' : Nat → Int32) (bkBC' : Int32) (bkBO' : Bool) (X : Int32 → Int32 → Bool → (Nat → Int32) → (Nat → Int32) → Int32 → Bool → Prop) (coF : Int32) (coE : Int32) (coM : Bool) (bkS : Nat → Int32) (bkBE : Nat → Int32) (bkBC : Int32) (bkBO : Bool) : Prop := (∃ bkS_46 : Nat → Int32, ∃ bkBE_46 : Nat → Int32, ∃ bkBC_46 : Int32, ∃ bkBO_46 : Bool, D_Book_append bkBn 1 bkS bkBE bkBC bkBO bkT bkS_46 bkBE_46 bkBC_46 bkBO_46 ∧ (coF' = coF ∧ coE' = coE ∧ coM' = coM ∧ bkS' = bkS_46 ∧ bkBE' = bkBE_46 ∧ bkBC' = bkBC_46 ∧ bkBO' = bkBO_46))
def S_Compiler_readSign (bkBn : Nat) (coW : Int32) (bkT : Int32) (coF' : Int32) (coE' : Int32) (coM' : Bool) (bkS' : Nat → Int32) (bkBE' : Nat → Int32) (bkBC' : Int32) (bkBO' : Bool) (X : Int32 → Int32 → Bool → (Nat → Int32) → (Nat → Int32) → Int32 → Bool → Prop) : Int32 → Int32 → Bool → (Nat → Int32) → (Nat → Int32) → Int32 → Bool → Prop := fun coF coE coM bkS bkBE bkBC bkBO => B_Compiler_readSign_41 bkBn coW bkT coF' coE' coM' bkS' bkBE' bkBC' bkBO' X coF coE coM bkS bkBE bkBC bkBO
def T_Compiler_readSign (bkBn : Nat) (coW : Int32) (bkT : Int32) (coF' : Int32) (coE' : Int32) (coM' : Bool) (bkS' : Nat → Int32) (bkBE' : Nat → Int32) (bkBC' : Int32) (bkBO' : Bool) : Nat → (Int32 → Int32 → Bool → (Nat → Int32) → (Nat → Int32) → Int32 → Bool → Prop)
  | 0 => fun _ _ _ _ _ _ _ => False
  | n + 1 => S_Compiler_readSign bkBn coW bkT coF' coE' coM' bkS' bkBE' bkBC' bkBO' (T_Compiler_readSign bkBn coW bkT coF' coE' coM' bkS' bkBE' bkBC' bkBO' n)
def D_Compiler_readSign (bkBn : Nat) (k0 : Int32) (coF : Int32) (coE : Int32) (coW : Int32) (coM : Bool) (bkS : Nat → Int32) (bkBE : Nat → Int32) (bkBC : Int32) (bkBO : Bool) (bkT : Int32) (coF' : Int32) (coE' : Int32) (coM' : Bool) (bkS' : Nat → Int32) (bkBE' : Nat → Int32) (bkBC' : Int32) (bkBO' : Bool) : Prop := ∃ n : Nat, ((k0 = 93 → (∃ coF_13 : Int32, ∃ coE_13 : Int32, D_Compiler_blame 6 coW coF coE coF_13 coE_13 ∧ (coF' = coF_13 ∧ coE' = coE_13 ∧ coM' = coM ∧ bkS' = bkS ∧ bkBE' = bkBE ∧ bkBC' = bkBC ∧ bkBO' = bkBO))) ∧ (¬ (k0 = 93) → ((k0 = 42 → (((bI coM) = 0 → T_Compiler_readSign bkBn coW bkT coF' coE' coM' bkS' bkBE' bkBC' bkBO' n coF coE true bkS bkBE bkBC bkBO) ∧ (¬ ((bI coM) = 0) → T_Compiler_readSign bkBn coW bkT coF' coE' coM' bkS' bkBE' bkBC' bkBO' n coF coE false bkS bkBE bkBC bkBO))) ∧ (¬ (k0 = 42) → (∃ bkS_57 : Nat → Int32, ∃ bkBE_57 : Nat → Int32, ∃ bkBC_57 : Int32, ∃ bkBO_57 : Bool, D_Book_append bkBn k0 bkS bkBE bkBC bkBO bkT bkS_57 bkBE_57 bkBC_57 bkBO_57 ∧ (coF' = coF ∧ coE' = coE ∧ coM' = coM ∧ bkS' = bkS_57 ∧ bkBE' = bkBE_57 ∧ bkBC' = bkBC_57 ∧ bkBO' = bkBO_57))))))
theorem d_Compiler_readSign_0 : decode b_Compiler_readSign 0 = .ok (.iload_n 1, 1) := by decide +kernel
theorem d_Compiler_readSign_1 : decode b_Compiler_readSign 1 = .ok (.bipush 93, 2) := by decide +kernel
theorem d_Compiler_readSign_3 : decode b_Compiler_readSign 3 = .ok (.if_icmp .ne 16, 3) := by decide +kernel
theorem d_Compiler_readSign_6 : decode b_Compiler_readSign 6 = .ok (.aload_n 0, 1) := by decide +kernel
theorem d_Compiler_readSign_7 : decode b_Compiler_readSign 7 = .ok (.bipush 6, 2) := by decide +kernel
theorem d_Compiler_readSign_9 : decode b_Compiler_readSign 9 = .ok (.aload_n 0, 1) := by decide +kernel
theorem d_Compiler_readSign_10 : decode b_Compiler_readSign 10 = .ok (.getfield 57, 3) := by decide +kernel
theorem d_Compiler_readSign_13 : decode b_Compiler_readSign 13 = .ok (.invokevirtual 74, 3) := by decide +kernel
theorem d_Compiler_readSign_16 : decode b_Compiler_readSign 16 = .ok (.goto 44, 3) := by decide +kernel
theorem d_Compiler_readSign_19 : decode b_Compiler_readSign 19 = .ok (.iload_n 1, 1) := by decide +kernel
theorem d_Compiler_readSign_20 : decode b_Compiler_readSign 20 = .ok (.bipush 42, 2) := by decide +kernel
theorem d_Compiler_readSign_22 : decode b_Compiler_readSign 22 = .ok (.if_icmp .ne 30, 3) := by decide +kernel
theorem d_Compiler_readSign_25 : decode b_Compiler_readSign 25 = .ok (.aload_n 0, 1) := by decide +kernel
theorem d_Compiler_readSign_26 : decode b_Compiler_readSign 26 = .ok (.aload_n 0, 1) := by decide +kernel
theorem d_Compiler_readSign_27 : decode b_Compiler_readSign 27 = .ok (.getfield 93, 3) := by decide +kernel
theorem d_Compiler_readSign_30 : decode b_Compiler_readSign 30 = .ok (.ifCond .ne 7, 3) := by decide +kernel
theorem d_Compiler_readSign_33 : decode b_Compiler_readSign 33 = .ok (.iconst 1, 1) := by decide +kernel
theorem d_Compiler_readSign_34 : decode b_Compiler_readSign 34 = .ok (.goto 4, 3) := by decide +kernel
theorem d_Compiler_readSign_37 : decode b_Compiler_readSign 37 = .ok (.iconst 0, 1) := by decide +kernel
theorem d_Compiler_readSign_38 : decode b_Compiler_readSign 38 = .ok (.putfield 93, 3) := by decide +kernel
theorem d_Compiler_readSign_41 : decode b_Compiler_readSign 41 = .ok (.aload_n 0, 1) := by decide +kernel
theorem d_Compiler_readSign_42 : decode b_Compiler_readSign 42 = .ok (.getfield 29, 3) := by decide +kernel
theorem d_Compiler_readSign_45 : decode b_Compiler_readSign 45 = .ok (.iconst 1, 1) := by decide +kernel
theorem d_Compiler_readSign_46 : decode b_Compiler_readSign 46 = .ok (.invokevirtual 144, 3) := by decide +kernel
theorem d_Compiler_readSign_49 : decode b_Compiler_readSign 49 = .ok (.goto 11, 3) := by decide +kernel
theorem d_Compiler_readSign_52 : decode b_Compiler_readSign 52 = .ok (.aload_n 0, 1) := by decide +kernel
theorem d_Compiler_readSign_53 : decode b_Compiler_readSign 53 = .ok (.getfield 29, 3) := by decide +kernel
theorem d_Compiler_readSign_56 : decode b_Compiler_readSign 56 = .ok (.iload_n 1, 1) := by decide +kernel
theorem d_Compiler_readSign_57 : decode b_Compiler_readSign 57 = .ok (.invokevirtual 144, 3) := by decide +kernel
theorem d_Compiler_readSign_60 : decode b_Compiler_readSign 60 = .ok (.return_, 1) := by decide +kernel
set_option maxHeartbeats 4000000 in
set_option maxRecDepth 100000 in
theorem c_Compiler_readSign (l : Launch) (dC : Nat → ClassId) (dI : Nat → Nat → Nat) (cI cL cZ : ClassId) (co : Nat) (coHa : Nat) (coH : Nat → Int32) (coNa : Nat) (coN : Nat → Int64) (coLa : Nat) (coL : Nat → Int32) (coPa : Nat) (coP : Nat → Int32) (coK : Int32) (coS : Value) (coF : Int32) (coE : Int32) (coW : Int32) (coX : Int32) (coI : Bool) (coD : Bool) (coM : Bool) (bk : Nat) (bkNa : Nat) (bkN : Nat → Int64) (bkSa : Nat) (bkS : Nat → Int32) (bkB : Nat) (bkBEa : Nat) (bkBn : Nat) (bkBE : Nat → Int32) (bkBC : Int32) (bkBO : Bool) (bkK : Nat) (bkKWa : Nat) (bkKn : Nat) (bkKW : Nat → Int64) (bkKTa : Nat) (bkKT : Nat → Int32) (bkKC : Int32) (bkV : Nat) (bkVWa : Nat) (bkVn : Nat) (bkVW : Nat → Int64) (bkVTa : Nat) (bkVT : Nat → Int32) (bkVC : Int32) (bkT : Int32) (k0 : Int32) (coF' : Int32) (coE' : Int32) (coM' : Bool) (bkS' : Nat → Int32) (bkBE' : Nat → Int32) (bkBC' : Int32) (bkBO' : Bool) (hd : D_Compiler_readSign bkBn k0 coF coE coW coM bkS bkBE bkBC bkBO bkT coF' coE' coM' bkS' bkBE' bkBC' bkBO') : Ctr l y_Compiler_readSign (Cond.code y_Compiler_readSign b_Compiler_readSign 2 none :: ga) { frames := 2, cells := 0, slots := 0, locals := 42 } (dC, dI) classes (Tys cI cL cZ) [.ref co, .int k0] ((sh_Compiler cI cL cZ co coHa coH coNa coN coLa coL coPa coP coK coS (.ref bk) coF coE coW coX coI coD coM) ++ ((sh_Book cI cL cZ bk bkNa bkN bkSa bkS bkB bkBEa bkBn bkBE bkBC bkBO bkK bkKWa bkKn bkKW bkKTa bkKT bkKC bkV bkVWa bkVn bkVW bkVTa bkVT bkVC bkT))) none ((sh_Compiler cI cL cZ co coHa coH coNa coN coLa coL coPa coP coK coS (.ref bk) coF' coE' coW coX coI coD coM') ++ ((sh_Book cI cL cZ bk bkNa bkN bkSa bkS' bkB bkBEa bkBn bkBE' bkBC' bkBO' bkK bkKWa bkKn bkKW bkKTa bkKT bkKC bkV bkVWa bkVn bkVW bkVTa bkVT bkVC bkT))) := by
  refine Ctr.ofW (by decide) (Nat.le_of_ble_eq_true rfl) ?_
  intro p e s m below meth c A ls hx hb hr hml hown hlocks hts hK hN hA hP hD hS hl
  have hown : s.vm.findClass R_Compiler = some m.cls := hown
  have hl : lv_has ls 2 [(0, .ref co), (1, .int k0)] := hl
  have key : ∀ n : Nat, (∀ (coF : Int32) (coE : Int32) (coM : Bool) (bkS : Nat → Int32) (bkBE : Nat → Int32) (bkBC : Int32) (bkBO : Bool) (ls : Array Slot) (H : Heap) (locs : List Loc), lv_has ls 2 [(0, .ref co)] → va_P (dC, dI) classes ((sh_Compiler cI cL cZ co coHa coH coNa coN coLa coL coPa coP coK coS (.ref bk) coF coE coW coX coI coD coM) ++ ((sh_Book cI cL cZ bk bkNa bkN bkSa bkS bkB bkBEa bkBn bkBE bkBC bkBO bkK bkKWa bkKn bkKW bkKTa bkKT bkKC bkV bkVWa bkVn bkVW bkVTa bkVT bkVC bkT))) H → va_D A ((sh_Compiler cI cL cZ co coHa coH coNa coN coLa coL coPa coP coK coS (.ref bk) coF coE coW coX coI coD coM) ++ ((sh_Book cI cL cZ bk bkNa bkN bkSa bkS bkB bkBEa bkBn bkBE bkBC bkBO bkK bkKWa bkKn bkKW bkKTa bkKT bkKC bkV bkVWa bkVn bkVW bkVTa bkVT bkVC bkT))) → va_S A s.heap H locs → T_Compiler_readSign bkBn coW bkT coF' coE' coM' bkS' bkBE' bkBC' bkBO' n coF coE coM bkS bkBE bkBC bkBO → W p l e ({ frames := 2, cells := 0, slots := 0, locals := 42 }) s m ([.ref co, .int k0] : List Value).toArray below meth c H locs 0 0 (MQ below (Qs (dC, dI) classes (Tys cI cL cZ) none ((sh_Compiler cI cL cZ co coHa coH coNa coN coLa coL coPa coP coK coS (.ref bk) coF' coE' coW coX coI coD coM') ++ ((sh_Book cI cL cZ bk bkNa bkN bkSa bkS' bkB bkBEa bkBn bkBE' bkBC' bkBO' bkK bkKWa bkKn bkKW bkKTa bkKT bkKC bkV bkVWa bkVn bkVW bkVTa bkVT bkVC bkT))) A) ([.ref co, .int k0] : List Value).toArray s 0 0 A) (F0 m 41 ls [])) := by
    intro n
    induction n with
    | zero =>
      exact fun _ _ _ _ _ _ _ _ _ _ _ _ _ _ hd => False.elim hd
    | succ n ih =>
      · intro coF coE coM bkS bkBE bkBC bkBO ls H locs hl hP hD hS hd
        have hd : B_Compiler_readSign_41 bkBn coW bkT coF' coE' coM' bkS' bkBE' bkBC' bkBO' (T_Compiler_readSign bkBn coW bkT coF' coE' coM' bkS' bkBE' bkBC' bkBO' n) coF coE coM bkS bkBE bkBC bkBO := hd
        refine lv_aload_n hx hb d_Compiler_readSign_41 rfl (lv_at hl 0 rfl) ?_
        refine va_get (D := (dC, dI)) (ci := 4) (v := .ref bk) (C := R_Compiler) (T := F_Compiler) (N := 14) hx hb hts in_Compiler hown hK hP 0 rfl rfl 6 (by decide) (hts _ (List.mem_cons_of_mem _ k110_fieldLink)) (fun _ h9 => h9) rfl d_Compiler_readSign_42 ?_
        refine lv_iconst (v := 1) hx hb d_Compiler_readSign_45 (by decide) ?_
        obtain ⟨bkS_46, bkBE_46, bkBC_46, bkBO_46, c46, hd⟩ := hd
        refine ct_V (As := [.int 1]) (rest := []) (C := R_Book) (ci := 3) (q := (R_Book, F_Book, 6)) ⟨hx, hb, hml, hown, hts⟩ fm_Book_append (c_Book_append l dC dI cI cL cZ bk bkNa bkN bkSa bkS bkB bkBEa bkBn bkBE bkBC bkBO bkK bkKWa bkKn bkKW bkKTa bkKT bkKC bkV bkVWa bkVn bkVW bkVTa bkVT bkVC bkT 1 bkS_46 bkBE_46 bkBC_46 bkBO_46 c46) k140_methodLink k141_instanceMethod k142_selects ⟨Nat.le_of_ble_eq_true rfl, Nat.le_of_ble_eq_true rfl⟩ rfl rfl hK hN hP hD hS hA [5, 6, 7, 8, 9, 10, 11, 12, 13, 14, 15] [0, 1, 2, 3, 4] rfl rfl rfl (by decide) (by decide) (by decide) 5 rfl rfl rfl rfl hl.1 rfl (Nat.le_of_ble_eq_true rfl) d_Compiler_readSign_46 (fun H locs hP hD hS => ?_)
        have hP : va_P (dC, dI) classes ((sh_Compiler cI cL cZ co coHa coH coNa coN coLa coL coPa coP coK coS (.ref bk) coF coE coW coX coI coD coM) ++ ((sh_Book cI cL cZ bk bkNa bkN bkSa bkS_46 bkB bkBEa bkBn bkBE_46 bkBC_46 bkBO_46 bkK bkKWa bkKn bkKW bkKTa bkKT bkKC bkV bkVWa bkVn bkVW bkVTa bkVT bkVC bkT))) H := hP.sub [0, 1, 2, 3, 4, 5, 6, 7, 8, 9, 10, 11, 12, 13, 14, 15] rfl
        have hD : va_D A ((sh_Compiler cI cL cZ co coHa coH coNa coN coLa coL coPa coP coK coS (.ref bk) coF coE coW coX coI coD coM) ++ ((sh_Book cI cL cZ bk bkNa bkN bkSa bkS_46 bkB bkBEa bkBn bkBE_46 bkBC_46 bkBO_46 bkK bkKWa bkKn bkKW bkKTa bkKT bkKC bkV bkVWa bkVn bkVW bkVTa bkVT bkVC bkT))) := hD.sub [0, 1, 2, 3, 4, 5, 6, 7, 8, 9, 10, 11, 12, 13, 14, 15] (by decide) rfl
        refine lv_goto (tgt := 60) hx hb d_Compiler_readSign_49 (by decide) ?_
        obtain ⟨e0, e1, e2, e3, e4, e5, e6⟩ := hd
        subst e0
        subst e1
        subst e2
        subst e3
        subst e4
        subst e5
        subst e6
        exact ct_vret hx hb hr hlocks hK hP hD hS d_Compiler_readSign_60
  obtain ⟨n, hd⟩ := hd
  refine lv_iload_n hx hb d_Compiler_readSign_0 rfl (lv_at hl 1 rfl) ?_
  refine lv_bipush (v := 93) hx hb d_Compiler_readSign_1 (by decide) ?_
  refine lv_icmp_ne (tgt := 19) hx hb d_Compiler_readSign_3 (by decide) (fun h3 => ?_) (fun h3 => ?_)
  · have hd := hd.2 h3
    refine lv_iload_n hx hb d_Compiler_readSign_19 rfl (lv_at hl 1 rfl) ?_
    refine lv_bipush (v := 42) hx hb d_Compiler_readSign_20 (by decide) ?_
    refine lv_icmp_ne (tgt := 52) hx hb d_Compiler_readSign_22 (by decide) (fun h22 => ?_) (fun h22 => ?_)
    · have hd := hd.2 h22
      refine lv_aload_n hx hb d_Compiler_readSign_52 rfl (lv_at hl 0 rfl) ?_
      refine va_get (D := (dC, dI)) (ci := 4) (v := .ref bk) (C := R_Compiler) (T := F_Compiler) (N := 14) hx hb hts in_Compiler hown hK hP 0 rfl rfl 6 (by decide) (hts _ (List.mem_cons_of_mem _ k110_fieldLink)) (fun _ h9 => h9) rfl d_Compiler_readSign_53 ?_
      refine lv_iload_n hx hb d_Compiler_readSign_56 rfl (lv_at hl 1 rfl) ?_
      obtain ⟨bkS_57, bkBE_57, bkBC_57, bkBO_57, c57, hd⟩ := hd
      refine ct_V (As := [.int k0]) (rest := []) (C := R_Book) (ci := 3) (q := (R_Book, F_Book, 6)) ⟨hx, hb, hml, hown, hts⟩ fm_Book_append (c_Book_append l dC dI cI cL cZ bk bkNa bkN bkSa bkS bkB bkBEa bkBn bkBE bkBC bkBO bkK bkKWa bkKn bkKW bkKTa bkKT bkKC bkV bkVWa bkVn bkVW bkVTa bkVT bkVC bkT k0 bkS_57 bkBE_57 bkBC_57 bkBO_57 c57) k140_methodLink k141_instanceMethod k142_selects ⟨Nat.le_of_ble_eq_true rfl, Nat.le_of_ble_eq_true rfl⟩ rfl rfl hK hN hP hD hS hA [5, 6, 7, 8, 9, 10, 11, 12, 13, 14, 15] [0, 1, 2, 3, 4] rfl rfl rfl (by decide) (by decide) (by decide) 5 rfl rfl rfl rfl hl.1 rfl (Nat.le_of_ble_eq_true rfl) d_Compiler_readSign_57 (fun H locs hP hD hS => ?_)
      have hP : va_P (dC, dI) classes ((sh_Compiler cI cL cZ co coHa coH coNa coN coLa coL coPa coP coK coS (.ref bk) coF coE coW coX coI coD coM) ++ ((sh_Book cI cL cZ bk bkNa bkN bkSa bkS_57 bkB bkBEa bkBn bkBE_57 bkBC_57 bkBO_57 bkK bkKWa bkKn bkKW bkKTa bkKT bkKC bkV bkVWa bkVn bkVW bkVTa bkVT bkVC bkT))) H := hP.sub [0, 1, 2, 3, 4, 5, 6, 7, 8, 9, 10, 11, 12, 13, 14, 15] rfl
      have hD : va_D A ((sh_Compiler cI cL cZ co coHa coH coNa coN coLa coL coPa coP coK coS (.ref bk) coF coE coW coX coI coD coM) ++ ((sh_Book cI cL cZ bk bkNa bkN bkSa bkS_57 bkB bkBEa bkBn bkBE_57 bkBC_57 bkBO_57 bkK bkKWa bkKn bkKW bkKTa bkKT bkKC bkV bkVWa bkVn bkVW bkVTa bkVT bkVC bkT))) := hD.sub [0, 1, 2, 3, 4, 5, 6, 7, 8, 9, 10, 11, 12, 13, 14, 15] (by decide) rfl
      obtain ⟨e0, e1, e2, e3, e4, e5, e6⟩ := hd
      subst e0
      subst e1
      subst e2
      subst e3
      subst e4
      subst e5
      subst e6
      exact ct_vret hx hb hr hlocks hK hP hD hS d_Compiler_readSign_60
    · have hd := hd.1 h22
      refine lv_aload_n hx hb d_Compiler_readSign_25 rfl (lv_at hl 0 rfl) ?_
      refine lv_aload_n hx hb d_Compiler_readSign_26 rfl (lv_at hl 0 rfl) ?_
      refine va_get (D := (dC, dI)) (ci := 4) (v := .int (bI coM)) (C := R_Compiler) (T := F_Compiler) (N := 14) hx hb hts in_Compiler hown hK hP 0 rfl rfl 13 (by decide) (hts _ (List.mem_cons_of_mem _ k119_fieldLink)) (fun _ h9 => h9) rfl d_Compiler_readSign_27 ?_
      refine lv_if_ne (tgt := 37) hx hb d_Compiler_readSign_30 (by decide) (fun h30 => ?_) (fun h30 => ?_)
      · have hd := hd.2 h30
        refine lv_iconst (v := 0) hx hb d_Compiler_readSign_37 (by decide) ?_
        refine va_put (D := (dC, dI)) (ci := 4) (v := .int (bI false)) (ty := t_Compiler 13) (C := R_Compiler) (T := F_Compiler) (N := 14) hx hb hts in_Compiler t_Compiler t_Compiler_ok n_Compiler hown hK hP hD hS 0 rfl rfl 13 (by decide) (hts _ (List.mem_cons_of_mem _ k119_fieldLink)) (fun _ h9 => h9) rfl (t_Compiler_ok 13 (by decide)) (bI_nar _) (bI_fit _) (Nat.le_of_ble_eq_true rfl) d_Compiler_readSign_38 (fun H locs hP hD hS => ?_)
        have hP : va_P (dC, dI) classes ((sh_Compiler cI cL cZ co coHa coH coNa coN coLa coL coPa coP coK coS (.ref bk) coF coE coW coX coI coD false) ++ ((sh_Book cI cL cZ bk bkNa bkN bkSa bkS bkB bkBEa bkBn bkBE bkBC bkBO bkK bkKWa bkKn bkKW bkKTa bkKT bkKC bkV bkVWa bkVn bkVW bkVTa bkVT bkVC bkT))) H := hP
        have hD : va_D A ((sh_Compiler cI cL cZ co coHa coH coNa coN coLa coL coPa coP coK coS (.ref bk) coF coE coW coX coI coD false) ++ ((sh_Book cI cL cZ bk bkNa bkN bkSa bkS bkB bkBEa bkBn bkBE bkBC bkBO bkK bkKWa bkKn bkKW bkKTa bkKT bkKC bkV bkVWa bkVn bkVW bkVTa bkVT bkVC bkT))) := hD
        exact (key n) coF coE false bkS bkBE bkBC bkBO _ _ _ (lv_sub hl [0] rfl) hP hD hS hd
      · have hd := hd.1 h30
        refine lv_iconst (v := 1) hx hb d_Compiler_readSign_33 (by decide) ?_
        refine lv_goto (tgt := 38) hx hb d_Compiler_readSign_34 (by decide) ?_
        refine va_put (D := (dC, dI)) (ci := 4) (v := .int (bI true)) (ty := t_Compiler 13) (C := R_Compiler) (T := F_Compiler) (N := 14) hx hb hts in_Compiler t_Compiler t_Compiler_ok n_Compiler hown hK hP hD hS 0 rfl rfl 13 (by decide) (hts _ (List.mem_cons_of_mem _ k119_fieldLink)) (fun _ h9 => h9) rfl (t_Compiler_ok 13 (by decide)) (bI_nar _) (bI_fit _) (Nat.le_of_ble_eq_true rfl) d_Compiler_readSign_38 (fun H locs hP hD hS => ?_)
        have hP : va_P (dC, dI) classes ((sh_Compiler cI cL cZ co coHa coH coNa coN coLa coL coPa coP coK coS (.ref bk) coF coE coW coX coI coD true) ++ ((sh_Book cI cL cZ bk bkNa bkN bkSa bkS bkB bkBEa bkBn bkBE bkBC bkBO bkK bkKWa bkKn bkKW bkKTa bkKT bkKC bkV bkVWa bkVn bkVW bkVTa bkVT bkVC bkT))) H := hP
        have hD : va_D A ((sh_Compiler cI cL cZ co coHa coH coNa coN coLa coL coPa coP coK coS (.ref bk) coF coE coW coX coI coD true) ++ ((sh_Book cI cL cZ bk bkNa bkN bkSa bkS bkB bkBEa bkBn bkBE bkBC bkBO bkK bkKWa bkKn bkKW bkKTa bkKT bkKC bkV bkVWa bkVn bkVW bkVTa bkVT bkVC bkT))) := hD
        exact (key n) coF coE true bkS bkBE bkBC bkBO _ _ _ (lv_sub hl [0] rfl) hP hD hS hd
  · have hd := hd.1 h3
    refine lv_aload_n hx hb d_Compiler_readSign_6 rfl (lv_at hl 0 rfl) ?_
    refine lv_bipush (v := 6) hx hb d_Compiler_readSign_7 (by decide) ?_
    refine lv_aload_n hx hb d_Compiler_readSign_9 rfl (lv_at hl 0 rfl) ?_
    refine va_get (D := (dC, dI)) (ci := 4) (v := .int coW) (C := R_Compiler) (T := F_Compiler) (N := 14) hx hb hts in_Compiler hown hK hP 0 rfl rfl 9 (by decide) (hts _ (List.mem_cons_of_mem _ k115_fieldLink)) (fun _ h9 => h9) rfl d_Compiler_readSign_10 ?_
    obtain ⟨coF_13, coE_13, c13, hd⟩ := hd
    refine ct_V (As := [.int 6, .int coW]) (rest := []) (C := R_Compiler) (ci := 4) (q := (R_Compiler, F_Compiler, 14)) ⟨hx, hb, hml, hown, hts⟩ fm_Compiler_blame (c_Compiler_blame l dC dI cI cL cZ co coHa coH coNa coN coLa coL coPa coP coK coS (.ref bk) coF coE coW coX coI coD coM 6 coW coF_13 coE_13 c13) k134_methodLink k135_instanceMethod k136_selects ⟨Nat.le_of_ble_eq_true rfl, Nat.le_of_ble_eq_true rfl⟩ rfl rfl hK hN hP hD hS hA [0, 1, 2, 3, 4] [5, 6, 7, 8, 9, 10, 11, 12, 13, 14, 15] rfl rfl rfl (by decide) (by decide) (by decide) 0 rfl rfl rfl rfl hl.1 rfl (Nat.le_of_ble_eq_true rfl) d_Compiler_readSign_13 (fun H locs hP hD hS => ?_)
    have hP : va_P (dC, dI) classes ((sh_Compiler cI cL cZ co coHa coH coNa coN coLa coL coPa coP coK coS (.ref bk) coF_13 coE_13 coW coX coI coD coM) ++ ((sh_Book cI cL cZ bk bkNa bkN bkSa bkS bkB bkBEa bkBn bkBE bkBC bkBO bkK bkKWa bkKn bkKW bkKTa bkKT bkKC bkV bkVWa bkVn bkVW bkVTa bkVT bkVC bkT))) H := hP.sub [11, 12, 13, 14, 15, 0, 1, 2, 3, 4, 5, 6, 7, 8, 9, 10] rfl
    have hD : va_D A ((sh_Compiler cI cL cZ co coHa coH coNa coN coLa coL coPa coP coK coS (.ref bk) coF_13 coE_13 coW coX coI coD coM) ++ ((sh_Book cI cL cZ bk bkNa bkN bkSa bkS bkB bkBEa bkBn bkBE bkBC bkBO bkK bkKWa bkKn bkKW bkKTa bkKT bkKC bkV bkVWa bkVn bkVW bkVTa bkVT bkVC bkT))) := hD.sub [11, 12, 13, 14, 15, 0, 1, 2, 3, 4, 5, 6, 7, 8, 9, 10] (by decide) rfl
    refine lv_goto (tgt := 60) hx hb d_Compiler_readSign_16 (by decide) ?_
    obtain ⟨e0, e1, e2, e3, e4, e5, e6⟩ := hd
    subst e0
    subst e1
    subst e2
    subst e3
    subst e4
    subst e5
    subst e6
    exact ct_vret hx hb hr hlocks hK hP hD hS d_Compiler_readSign_60
