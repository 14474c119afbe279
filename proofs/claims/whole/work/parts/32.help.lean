/-! 32.help: what each method does, read off its bytecode (D_..), and its contract (c_..); written by a program of mine. -/
-- HelpFile.follow
abbrev b_HelpFile_follow : ByteArray := prog_1_method_10_code
def y_HelpFile_follow : MethodName := ⟨"HelpFile", "follow", "(I)I"⟩
theorem k431_methodLink : Cond.methodLink "HelpFile" 163 ⟨"HelpFile$Visits", "topic", "()I"⟩ ∈ ga := ga_t 849 (by decide +kernel) rfl
theorem k432_instanceMethod : Cond.instanceMethod ⟨"HelpFile$Visits", "topic", "()I"⟩ ∈ ga := ga_t 850 (by decide +kernel) rfl
theorem k433_selects : Cond.selects "HelpFile$Visits" ⟨"HelpFile$Visits", "topic", "()I"⟩ ⟨"HelpFile$Visits", "topic", "()I"⟩ ∈ ga := ga_t 851 (by decide +kernel) rfl
theorem k434_methodLink : Cond.methodLink "HelpFile" 166 ⟨"HelpFile$Book", "linkTarget", "(II)I"⟩ ∈ ga := ga_t 853 (by decide +kernel) rfl
theorem k435_instanceMethod : Cond.instanceMethod ⟨"HelpFile$Book", "linkTarget", "(II)I"⟩ ∈ ga := ga_t 854 (by decide +kernel) rfl
theorem k436_selects : Cond.selects "HelpFile$Book" ⟨"HelpFile$Book", "linkTarget", "(II)I"⟩ ⟨"HelpFile$Book", "linkTarget", "(II)I"⟩ ∈ ga := ga_t 855 (by decide +kernel) rfl
set_option maxRecDepth 100000 in
theorem fm_HelpFile_follow : Fm y_HelpFile_follow b_HelpFile_follow 3 (some .int) 1 := ⟨ga_t 848 rfl rfl, k54_initialized, by decide, by decide, by decide +kernel⟩
def D_HelpFile_follow (zvBn : Nat) (bbBn : Nat) (k0 : Int32) (hfO : Bool) (zvBE : Nat → Int32) (zvBC : Int32) (zvBO : Bool) (zvFC : Int32) (zvFO : Bool) (zvT : Int32) (bbS : Nat → Int32) (bbBE : Nat → Int32) (bbBC : Int32) (bbT : Int32) (res : Int32) (zvBE' : Nat → Int32) (zvBC' : Int32) (zvBO' : Bool) (zvFC' : Int32) (zvFO' : Bool) (zvT' : Int32) : Prop := (D_HelpFile_requireOpen hfO ∧ (∃ r16 : Int32, D_Book_linkTarget bbBn zvT k0 bbS bbBE bbBC bbT r16 ∧ ((r16 = (-1) → False) ∧ (¬ (r16 = (-1)) → (∃ zvBE_40 : Nat → Int32, ∃ zvBC_40 : Int32, ∃ zvBO_40 : Bool, ∃ zvFC_40 : Int32, ∃ zvFO_40 : Bool, ∃ zvT_40 : Int32, D_Visits_visit zvBn r16 zvBE zvBC zvBO zvFC zvFO zvT zvBE_40 zvBC_40 zvBO_40 zvFC_40 zvFO_40 zvT_40 ∧ (res = r16 ∧ zvBE' = zvBE_40 ∧ zvBC' = zvBC_40 ∧ zvBO' = zvBO_40 ∧ zvFC' = zvFC_40 ∧ zvFO' = zvFO_40 ∧ zvT' = zvT_40))))))
theorem d_HelpFile_follow_0 : decode b_HelpFile_follow 0 = .ok (.aload_n 0, 1) := by decide +kernel
theorem d_HelpFile_follow_1 : decode b_HelpFile_follow 1 = .ok (.invokevirtual 149, 3) := by decide +kernel
theorem d_HelpFile_follow_4 : decode b_HelpFile_follow 4 = .ok (.aload_n 0, 1) := by decide +kernel
theorem d_HelpFile_follow_5 : decode b_HelpFile_follow 5 = .ok (.getfield 69, 3) := by decide +kernel
theorem d_HelpFile_follow_8 : decode b_HelpFile_follow 8 = .ok (.aload_n 0, 1) := by decide +kernel
theorem d_HelpFile_follow_9 : decode b_HelpFile_follow 9 = .ok (.getfield 44, 3) := by decide +kernel
theorem d_HelpFile_follow_12 : decode b_HelpFile_follow 12 = .ok (.invokevirtual 163, 3) := by decide +kernel
theorem d_HelpFile_follow_15 : decode b_HelpFile_follow 15 = .ok (.iload_n 1, 1) := by decide +kernel
theorem d_HelpFile_follow_16 : decode b_HelpFile_follow 16 = .ok (.invokevirtual 166, 3) := by decide +kernel
theorem d_HelpFile_follow_19 : decode b_HelpFile_follow 19 = .ok (.istore_n 2, 1) := by decide +kernel
theorem d_HelpFile_follow_20 : decode b_HelpFile_follow 20 = .ok (.iload_n 2, 1) := by decide +kernel
theorem d_HelpFile_follow_21 : decode b_HelpFile_follow 21 = .ok (.iconst (-1), 1) := by decide +kernel
theorem d_HelpFile_follow_22 : decode b_HelpFile_follow 22 = .ok (.if_icmp .ne 13, 3) := by decide +kernel
theorem d_HelpFile_follow_25 : decode b_HelpFile_follow 25 = .ok (.new 155, 3) := by decide +kernel
theorem d_HelpFile_follow_35 : decode b_HelpFile_follow 35 = .ok (.aload_n 0, 1) := by decide +kernel
theorem d_HelpFile_follow_36 : decode b_HelpFile_follow 36 = .ok (.getfield 44, 3) := by decide +kernel
theorem d_HelpFile_follow_39 : decode b_HelpFile_follow 39 = .ok (.iload_n 2, 1) := by decide +kernel
theorem d_HelpFile_follow_40 : decode b_HelpFile_follow 40 = .ok (.invokevirtual 160, 3) := by decide +kernel
theorem d_HelpFile_follow_43 : decode b_HelpFile_follow 43 = .ok (.iload_n 2, 1) := by decide +kernel
theorem d_HelpFile_follow_44 : decode b_HelpFile_follow 44 = .ok (.ireturn, 1) := by decide +kernel
set_option maxHeartbeats 4000000 in
set_option maxRecDepth 100000 in
theorem c_HelpFile_follow (l : Launch) (dC : Nat → ClassId) (dI : Nat → Nat → Nat) (cI cL cZ : ClassId) (hf : Nat) (hfS : Value) (hfI : Value) (hfR : Value) (hfT : Value) (hfC : Value) (hfE : Value) (hfQ : Value) (hfN : Value) (hfD : Value) (hfO : Bool) (hfF : Int32) (hfY : Int32) (zv : Nat) (zvB : Nat) (zvBEa : Nat) (zvBn : Nat) (zvBE : Nat → Int32) (zvBC : Int32) (zvBO : Bool) (zvF : Nat) (zvFEa : Nat) (zvFn : Nat) (zvFE : Nat → Int32) (zvFC : Int32) (zvFO : Bool) (zvT : Int32) (bb : Nat) (bbNa : Nat) (bbN : Nat → Int64) (bbSa : Nat) (bbS : Nat → Int32) (bbB : Nat) (bbBEa : Nat) (bbBn : Nat) (bbBE : Nat → Int32) (bbBC : Int32) (bbBO : Bool) (bbK : Nat) (bbKWa : Nat) (bbKn : Nat) (bbKW : Nat → Int64) (bbKTa : Nat) (bbKT : Nat → Int32) (bbKC : Int32) (bbV : Nat) (bbVWa : Nat) (bbVn : Nat) (bbVW : Nat → Int64) (bbVTa : Nat) (bbVT : Nat → Int32) (bbVC : Int32) (bbT : Int32) (k0 : Int32) (res : Int32) (zvBE' : Nat → Int32) (zvBC' : Int32) (zvBO' : Bool) (zvFC' : Int32) (zvFO' : Bool) (zvT' : Int32) (hd : D_HelpFile_follow zvBn bbBn k0 hfO zvBE zvBC zvBO zvFC zvFO zvT bbS bbBE bbBC bbT res zvBE' zvBC' zvBO' zvFC' zvFO' zvT') : Ctr l y_HelpFile_follow (Cond.code y_HelpFile_follow b_HelpFile_follow 3 (some .int) :: ga) { frames := 4, cells := 0, slots := 0, locals := 84 } (dC, dI) classes (Tys cI cL cZ) [.ref hf, .int k0] ((sh_HelpFile cI cL cZ hf hfS hfI hfR hfT hfC hfE (.ref zv) hfQ hfN hfD (.ref bb) hfO hfF hfY) ++ ((sh_Visits cI cL cZ zv zvB zvBEa zvBn zvBE zvBC zvBO zvF zvFEa zvFn zvFE zvFC zvFO zvT) ++ ((sh_Book cI cL cZ bb bbNa bbN bbSa bbS bbB bbBEa bbBn bbBE bbBC bbBO bbK bbKWa bbKn bbKW bbKTa bbKT bbKC bbV bbVWa bbVn bbVW bbVTa bbVT bbVC bbT)))) (some (.int res)) ((sh_HelpFile cI cL cZ hf hfS hfI hfR hfT hfC hfE (.ref zv) hfQ hfN hfD (.ref bb) hfO hfF hfY) ++ ((sh_Visits cI cL cZ zv zvB zvBEa zvBn zvBE' zvBC' zvBO' zvF zvFEa zvFn zvFE zvFC' zvFO' zvT') ++ ((sh_Book cI cL cZ bb bbNa bbN bbSa bbS bbB bbBEa bbBn bbBE bbBC bbBO bbK bbKWa bbKn bbKW bbKTa bbKT bbKC bbV bbVWa bbVn bbVW bbVTa bbVT bbVC bbT)))) := by
  refine Ctr.ofW (by decide) (Nat.le_of_ble_eq_true rfl) ?_
  intro p e s m below meth c A ls hx hb hr hml hown hlocks hts hK hN hA hP hD hS hl
  have hown : s.vm.findClass R_HelpFile = some m.cls := hown
  have hl : lv_has ls 3 [(0, .ref hf), (1, .int k0)] := hl
  refine lv_aload_n hx hb d_HelpFile_follow_0 rfl (lv_at hl 0 rfl) ?_
  obtain ⟨c1, hd⟩ := hd
  refine ct_VR (As := []) (rest := []) (C := R_HelpFile) (ci := 0) (q := (R_HelpFile, F_HelpFile, 14)) ⟨hx, hb, hml, hown, hts⟩ fm_HelpFile_requireOpen (c_HelpFile_requireOpen l dC dI cI cL cZ hf hfS hfI hfR hfT hfC hfE (.ref zv) hfQ hfN hfD (.ref bb) hfO hfF hfY c1) k421_methodLink k422_instanceMethod k423_selects ⟨Nat.le_of_ble_eq_true rfl, Nat.le_of_ble_eq_true rfl⟩ rfl rfl hK hN hP hD [0] rfl rfl (by decide) 0 rfl rfl rfl rfl hl.1 rfl (Nat.le_of_ble_eq_true rfl) d_HelpFile_follow_1 ?_
  refine lv_aload_n hx hb d_HelpFile_follow_4 rfl (lv_at hl 0 rfl) ?_
  refine va_get (D := (dC, dI)) (ci := 0) (v := .ref bb) (C := R_HelpFile) (T := F_HelpFile) (N := 14) hx hb hts in_HelpFile hown hK hP 0 rfl rfl 10 (by decide) (hts _ (List.mem_cons_of_mem _ k396_fieldLink)) (fun _ h9 => h9) rfl d_HelpFile_follow_5 ?_
  refine lv_aload_n hx hb d_HelpFile_follow_8 rfl (lv_at hl 0 rfl) ?_
  refine va_get (D := (dC, dI)) (ci := 0) (v := .ref zv) (C := R_HelpFile) (T := F_HelpFile) (N := 14) hx hb hts in_HelpFile hown hK hP 0 rfl rfl 6 (by decide) (hts _ (List.mem_cons_of_mem _ k397_fieldLink)) (fun _ h9 => h9) rfl d_HelpFile_follow_9 ?_
  refine ct_VR (As := []) (rest := [.ref bb]) (C := R_Visits) (ci := 6) (q := (R_Visits, F_Visits, 3)) ⟨hx, hb, hml, hown, hts⟩ fm_Visits_topic (c_Visits_topic l dC dI cI cL cZ zv zvB zvBEa zvBn zvBE zvBC zvBO zvF zvFEa zvFn zvFE zvFC zvFO zvT zvT rfl) k431_methodLink k432_instanceMethod k433_selects ⟨Nat.le_of_ble_eq_true rfl, Nat.le_of_ble_eq_true rfl⟩ rfl rfl hK hN hP hD [1, 2, 3, 4, 5] rfl rfl (by decide) 1 rfl rfl rfl rfl hl.1 rfl (Nat.le_of_ble_eq_true rfl) d_HelpFile_follow_12 ?_
  refine lv_iload_n hx hb d_HelpFile_follow_15 rfl (lv_at hl 1 rfl) ?_
  obtain ⟨r16, c16, hd⟩ := hd
  refine ct_VR (As := [.int zvT, .int k0]) (rest := []) (C := R_Book) (ci := 3) (q := (R_Book, F_Book, 6)) ⟨hx, hb, hml, hown, hts⟩ fm_Book_linkTarget (c_Book_linkTarget l dC dI cI cL cZ bb bbNa bbN bbSa bbS bbB bbBEa bbBn bbBE bbBC bbBO bbK bbKWa bbKn bbKW bbKTa bbKT bbKC bbV bbVWa bbVn bbVW bbVTa bbVT bbVC bbT zvT k0 r16 c16) k434_methodLink k435_instanceMethod k436_selects ⟨Nat.le_of_ble_eq_true rfl, Nat.le_of_ble_eq_true rfl⟩ rfl rfl hK hN hP hD [6, 7, 8, 9, 10, 11, 12, 13, 14, 15, 16] rfl rfl (by decide) 6 rfl rfl rfl rfl hl.1 rfl (Nat.le_of_ble_eq_true rfl) d_HelpFile_follow_16 ?_
  refine lv_istore_n (lv' := [(2, .int r16), (0, .ref hf), (1, .int k0)]) hx hb d_HelpFile_follow_19 rfl hl (by decide) rfl (fun ls hl => ?_)
  refine lv_iload_n hx hb d_HelpFile_follow_20 rfl (lv_at hl 0 rfl) ?_
  refine lv_iconst (v := (-1)) hx hb d_HelpFile_follow_21 (by decide) ?_
  refine lv_icmp_ne (tgt := 35) hx hb d_HelpFile_follow_22 (by decide) (fun h22 => ?_) (fun h22 => ?_)
  · have hd := hd.2 h22
    refine lv_aload_n hx hb d_HelpFile_follow_35 rfl (lv_at hl 1 rfl) ?_
    refine va_get (D := (dC, dI)) (ci := 0) (v := .ref zv) (C := R_HelpFile) (T := F_HelpFile) (N := 14) hx hb hts in_HelpFile hown hK hP 0 rfl rfl 6 (by decide) (hts _ (List.mem_cons_of_mem _ k397_fieldLink)) (fun _ h9 => h9) rfl d_HelpFile_follow_36 ?_
    refine lv_iload_n hx hb d_HelpFile_follow_39 rfl (lv_at hl 0 rfl) ?_
    obtain ⟨zvBE_40, zvBC_40, zvBO_40, zvFC_40, zvFO_40, zvT_40, c40, hd⟩ := hd
    refine ct_V (As := [.int r16]) (rest := []) (C := R_Visits) (ci := 6) (q := (R_Visits, F_Visits, 3)) ⟨hx, hb, hml, hown, hts⟩ fm_Visits_visit (c_Visits_visit l dC dI cI cL cZ zv zvB zvBEa zvBn zvBE zvBC zvBO zvF zvFEa zvFn zvFE zvFC zvFO zvT r16 zvBE_40 zvBC_40 zvBO_40 zvFC_40 zvFO_40 zvT_40 c40) k425_methodLink k426_instanceMethod k427_selects ⟨Nat.le_of_ble_eq_true rfl, Nat.le_of_ble_eq_true rfl⟩ rfl rfl hK hN hP hD hS hA [1, 2, 3, 4, 5] [0, 6, 7, 8, 9, 10, 11, 12, 13, 14, 15, 16] rfl rfl rfl (by decide) (by decide) (by decide) 1 rfl rfl rfl rfl hl.1 rfl (Nat.le_of_ble_eq_true rfl) d_HelpFile_follow_40 (fun H locs hP hD hS => ?_)
    have hP : va_P (dC, dI) classes ((sh_HelpFile cI cL cZ hf hfS hfI hfR hfT hfC hfE (.ref zv) hfQ hfN hfD (.ref bb) hfO hfF hfY) ++ ((sh_Visits cI cL cZ zv zvB zvBEa zvBn zvBE_40 zvBC_40 zvBO_40 zvF zvFEa zvFn zvFE zvFC_40 zvFO_40 zvT_40) ++ ((sh_Book cI cL cZ bb bbNa bbN bbSa bbS bbB bbBEa bbBn bbBE bbBC bbBO bbK bbKWa bbKn bbKW bbKTa bbKT bbKC bbV bbVWa bbVn bbVW bbVTa bbVT bbVC bbT)))) H := hP.sub [0, 12, 13, 14, 15, 16, 1, 2, 3, 4, 5, 6, 7, 8, 9, 10, 11] rfl
    have hD : va_D A ((sh_HelpFile cI cL cZ hf hfS hfI hfR hfT hfC hfE (.ref zv) hfQ hfN hfD (.ref bb) hfO hfF hfY) ++ ((sh_Visits cI cL cZ zv zvB zvBEa zvBn zvBE_40 zvBC_40 zvBO_40 zvF zvFEa zvFn zvFE zvFC_40 zvFO_40 zvT_40) ++ ((sh_Book cI cL cZ bb bbNa bbN bbSa bbS bbB bbBEa bbBn bbBE bbBC bbBO bbK bbKWa bbKn bbKW bbKTa bbKT bbKC bbV bbVWa bbVn bbVW bbVTa bbVT bbVC bbT)))) := hD.sub [0, 12, 13, 14, 15, 16, 1, 2, 3, 4, 5, 6, 7, 8, 9, 10, 11] (by decide) rfl
    refine lv_iload_n hx hb d_HelpFile_follow_43 rfl (lv_at hl 0 rfl) ?_
    obtain ⟨e0, e1, e2, e3, e4, e5, e6⟩ := hd
    subst e0
    subst e1
    subst e2
    subst e3
    subst e4
    subst e5
    subst e6
    exact ct_iret hx hb hr hlocks hK hP hD hS d_HelpFile_follow_44
  · have hd := hd.1 h22
    exact False.elim hd
def X_HelpFile_follow (bbBn : Nat) (k0 : Int32) (hfO : Bool) (zvT : Int32) (bbS : Nat → Int32) (bbBE : Nat → Int32) (bbBC : Int32) (bbT : Int32) (xc : String) : Prop := ((D_HelpFile_requireOpen hfO ∧ (∃ r16 : Int32, D_Book_linkTarget bbBn zvT k0 bbS bbBE bbBC bbT r16 ∧ ((r16 = (-1) → (xc = "java/util/NoSuchElementException")) ∧ (¬ (r16 = (-1)) → False)))) ∨ X_HelpFile_requireOpen hfO xc)
theorem d_HelpFile_follow_28 : decode b_HelpFile_follow 28 = .ok (.dup, 1) := by decide +kernel
theorem d_HelpFile_follow_29 : decode b_HelpFile_follow 29 = .ok (.ldc 170, 2) := by decide +kernel
theorem d_HelpFile_follow_31 : decode b_HelpFile_follow 31 = .ok (.invokespecial 159, 3) := by decide +kernel
theorem d_HelpFile_follow_34 : decode b_HelpFile_follow 34 = .ok (.athrow, 1) := by decide +kernel
set_option maxHeartbeats 4000000 in
set_option maxRecDepth 100000 in
theorem x_HelpFile_follow (l : Launch) (htr : ∀ e : Env, l.admits e → e.platform.stackTraces = false) (dC : Nat → ClassId) (dI : Nat → Nat → Nat) (cI cL cZ : ClassId) (hf : Nat) (hfS : Value) (hfI : Value) (hfR : Value) (hfT : Value) (hfC : Value) (hfE : Value) (hfQ : Value) (hfN : Value) (hfD : Value) (hfO : Bool) (hfF : Int32) (hfY : Int32) (zv : Nat) (zvB : Nat) (zvBEa : Nat) (zvBn : Nat) (zvBE : Nat → Int32) (zvBC : Int32) (zvBO : Bool) (zvF : Nat) (zvFEa : Nat) (zvFn : Nat) (zvFE : Nat → Int32) (zvFC : Int32) (zvFO : Bool) (zvT : Int32) (bb : Nat) (bbNa : Nat) (bbN : Nat → Int64) (bbSa : Nat) (bbS : Nat → Int32) (bbB : Nat) (bbBEa : Nat) (bbBn : Nat) (bbBE : Nat → Int32) (bbBC : Int32) (bbBO : Bool) (bbK : Nat) (bbKWa : Nat) (bbKn : Nat) (bbKW : Nat → Int64) (bbKTa : Nat) (bbKT : Nat → Int32) (bbKC : Int32) (bbV : Nat) (bbVWa : Nat) (bbVn : Nat) (bbVW : Nat → Int64) (bbVTa : Nat) (bbVT : Nat → Int32) (bbVC : Int32) (bbT : Int32) (k0 : Int32) (xc : String) (hd : X_HelpFile_follow bbBn k0 hfO zvT bbS bbBE bbBC bbT xc) : CtT l y_HelpFile_follow (Cond.code y_HelpFile_follow b_HelpFile_follow 3 (some .int) :: ga) { frames := 7, cells := 1, slots := 6, locals := 102 } (dC, dI) classes (Tys cI cL cZ) [.ref hf, .int k0] ((sh_HelpFile cI cL cZ hf hfS hfI hfR hfT hfC hfE (.ref zv) hfQ hfN hfD (.ref bb) hfO hfF hfY) ++ ((sh_Visits cI cL cZ zv zvB zvBEa zvBn zvBE zvBC zvBO zvF zvFEa zvFn zvFE zvFC zvFO zvT) ++ ((sh_Book cI cL cZ bb bbNa bbN bbSa bbS bbB bbBEa bbBn bbBE bbBC bbBO bbK bbKWa bbKn bbKW bbKTa bbKT bbKC bbV bbVWa bbVn bbVW bbVTa bbVT bbVC bbT)))) xc := by
  refine CtT.ofW (by decide) (Nat.le_of_ble_eq_true rfl) ?_
  intro p e s m below meth c A ls hx hb hr hml hown hlocks hnh hts hK hN hZ hT hA hP hD hl
  have hown : s.vm.findClass R_HelpFile = some m.cls := hown
  have hl : lv_has ls 3 [(0, .ref hf), (1, .int k0)] := hl
  refine lv_aload_n hx hb d_HelpFile_follow_0 rfl (lv_at hl 0 rfl) ?_
  rcases hd with hd | hd
  · skip
    obtain ⟨c1, hd⟩ := hd
    refine ct_VR (As := []) (rest := []) (C := R_HelpFile) (ci := 0) (q := (R_HelpFile, F_HelpFile, 14)) ⟨hx, hb, hml, hown, hts⟩ fm_HelpFile_requireOpen (c_HelpFile_requireOpen l dC dI cI cL cZ hf hfS hfI hfR hfT hfC hfE (.ref zv) hfQ hfN hfD (.ref bb) hfO hfF hfY c1) k421_methodLink k422_instanceMethod k423_selects ⟨Nat.le_of_ble_eq_true rfl, Nat.le_of_ble_eq_true rfl⟩ rfl rfl hK hN hP hD [0] rfl rfl (by decide) 0 rfl rfl rfl rfl hl.1 rfl (Nat.le_of_ble_eq_true rfl) d_HelpFile_follow_1 ?_
    refine lv_aload_n hx hb d_HelpFile_follow_4 rfl (lv_at hl 0 rfl) ?_
    refine va_get (D := (dC, dI)) (ci := 0) (v := .ref bb) (C := R_HelpFile) (T := F_HelpFile) (N := 14) hx hb hts in_HelpFile hown hK hP 0 rfl rfl 10 (by decide) (hts _ (List.mem_cons_of_mem _ k396_fieldLink)) (fun _ h9 => h9) rfl d_HelpFile_follow_5 ?_
    refine lv_aload_n hx hb d_HelpFile_follow_8 rfl (lv_at hl 0 rfl) ?_
    refine va_get (D := (dC, dI)) (ci := 0) (v := .ref zv) (C := R_HelpFile) (T := F_HelpFile) (N := 14) hx hb hts in_HelpFile hown hK hP 0 rfl rfl 6 (by decide) (hts _ (List.mem_cons_of_mem _ k397_fieldLink)) (fun _ h9 => h9) rfl d_HelpFile_follow_9 ?_
    refine ct_VR (As := []) (rest := [.ref bb]) (C := R_Visits) (ci := 6) (q := (R_Visits, F_Visits, 3)) ⟨hx, hb, hml, hown, hts⟩ fm_Visits_topic (c_Visits_topic l dC dI cI cL cZ zv zvB zvBEa zvBn zvBE zvBC zvBO zvF zvFEa zvFn zvFE zvFC zvFO zvT zvT rfl) k431_methodLink k432_instanceMethod k433_selects ⟨Nat.le_of_ble_eq_true rfl, Nat.le_of_ble_eq_true rfl⟩ rfl rfl hK hN hP hD [1, 2, 3, 4, 5] rfl rfl (by decide) 1 rfl rfl rfl rfl hl.1 rfl (Nat.le_of_ble_eq_true rfl) d_HelpFile_follow_12 ?_
    refine lv_iload_n hx hb d_HelpFile_follow_15 rfl (lv_at hl 1 rfl) ?_
    obtain ⟨r16, c16, hd⟩ := hd
    refine ct_VR (As := [.int zvT, .int k0]) (rest := []) (C := R_Book) (ci := 3) (q := (R_Book, F_Book, 6)) ⟨hx, hb, hml, hown, hts⟩ fm_Book_linkTarget (c_Book_linkTarget l dC dI cI cL cZ bb bbNa bbN bbSa bbS bbB bbBEa bbBn bbBE bbBC bbBO bbK bbKWa bbKn bbKW bbKTa bbKT bbKC bbV bbVWa bbVn bbVW bbVTa bbVT bbVC bbT zvT k0 r16 c16) k434_methodLink k435_instanceMethod k436_selects ⟨Nat.le_of_ble_eq_true rfl, Nat.le_of_ble_eq_true rfl⟩ rfl rfl hK hN hP hD [6, 7, 8, 9, 10, 11, 12, 13, 14, 15, 16] rfl rfl (by decide) 6 rfl rfl rfl rfl hl.1 rfl (Nat.le_of_ble_eq_true rfl) d_HelpFile_follow_16 ?_
    refine lv_istore_n (lv' := [(2, .int r16), (0, .ref hf), (1, .int k0)]) hx hb d_HelpFile_follow_19 rfl hl (by decide) rfl (fun ls hl => ?_)
    refine lv_iload_n hx hb d_HelpFile_follow_20 rfl (lv_at hl 0 rfl) ?_
    refine lv_iconst (v := (-1)) hx hb d_HelpFile_follow_21 (by decide) ?_
    refine lv_icmp_ne (tgt := 35) hx hb d_HelpFile_follow_22 (by decide) (fun h22 => ?_) (fun h22 => ?_)
    · have hd := hd.2 h22
      refine lv_aload_n hx hb d_HelpFile_follow_35 rfl (lv_at hl 1 rfl) ?_
      refine va_get (D := (dC, dI)) (ci := 0) (v := .ref zv) (C := R_HelpFile) (T := F_HelpFile) (N := 14) hx hb hts in_HelpFile hown hK hP 0 rfl rfl 6 (by decide) (hts _ (List.mem_cons_of_mem _ k397_fieldLink)) (fun _ h9 => h9) rfl d_HelpFile_follow_36 ?_
      refine lv_iload_n hx hb d_HelpFile_follow_39 rfl (lv_at hl 0 rfl) ?_
      exact False.elim hd
    · have hd := hd.1 h22
      have e0 : xc = "java/util/NoSuchElementException" := hd
      subst e0
      obtain ⟨q9, hq9⟩ := hT.1 (170, "no such link") (by decide +kernel)
      exact ct_throwN htr hx hb hml hl.1 hown hlocks hnh hts hZ hT oa_4 (by decide +kernel) k428_classLink k429_instantiable k430_initialized hq9 d_HelpFile_follow_25 d_HelpFile_follow_28 d_HelpFile_follow_29 d_HelpFile_follow_31 d_HelpFile_follow_34 (by decide) (by decide) (by decide) (by decide)
  · exact ct_VT (As := []) (rest := []) (C := R_HelpFile) (ci := 0) (q := (R_HelpFile, F_HelpFile, 14)) ⟨hx, hb, hml, hown, hts⟩ hlocks hnh fm_HelpFile_requireOpen (x_HelpFile_requireOpen l htr dC dI cI cL cZ hf hfS hfI hfR hfT hfC hfE (.ref zv) hfQ hfN hfD (.ref bb) hfO hfF hfY xc hd) k421_methodLink k422_instanceMethod k423_selects ⟨Nat.le_of_ble_eq_true rfl, Nat.le_of_ble_eq_true rfl⟩ (by decide) (by decide) hK hN hZ hT hA hP hD [0] rfl rfl (by decide) 0 rfl rfl rfl rfl hl.1 rfl (Nat.le_of_ble_eq_true rfl) d_HelpFile_follow_1
-- HelpFile.go
abbrev b_HelpFile_go : ByteArray := prog_1_method_11_code
def y_HelpFile_go : MethodName := ⟨"HelpFile", "go", "(Z)I"⟩
theorem k437_methodLink : Cond.methodLink "HelpFile" 175 ⟨"HelpFile$Visits", "backCount", "()I"⟩ ∈ ga := ga_t 869 (by decide +kernel) rfl
theorem k438_instanceMethod : Cond.instanceMethod ⟨"HelpFile$Visits", "backCount", "()I"⟩ ∈ ga := ga_t 870 (by decide +kernel) rfl
theorem k439_selects : Cond.selects "HelpFile$Visits" ⟨"HelpFile$Visits", "backCount", "()I"⟩ ⟨"HelpFile$Visits", "backCount", "()I"⟩ ∈ ga := ga_t 871 (by decide +kernel) rfl
theorem k440_methodLink : Cond.methodLink "HelpFile" 172 ⟨"HelpFile$Visits", "forwardCount", "()I"⟩ ∈ ga := ga_t 865 (by decide +kernel) rfl
theorem k441_instanceMethod : Cond.instanceMethod ⟨"HelpFile$Visits", "forwardCount", "()I"⟩ ∈ ga := ga_t 866 (by decide +kernel) rfl
theorem k442_selects : Cond.selects "HelpFile$Visits" ⟨"HelpFile$Visits", "forwardCount", "()I"⟩ ⟨"HelpFile$Visits", "forwardCount", "()I"⟩ ∈ ga := ga_t 867 (by decide +kernel) rfl
theorem k443_methodLink : Cond.methodLink "HelpFile" 183 ⟨"HelpFile$Visits", "stepBack", "()V"⟩ ∈ ga := ga_t 882 (by decide +kernel) rfl
theorem k444_instanceMethod : Cond.instanceMethod ⟨"HelpFile$Visits", "stepBack", "()V"⟩ ∈ ga := ga_t 883 (by decide +kernel) rfl
theorem k445_selects : Cond.selects "HelpFile$Visits" ⟨"HelpFile$Visits", "stepBack", "()V"⟩ ⟨"HelpFile$Visits", "stepBack", "()V"⟩ ∈ ga := ga_t 884 (by decide +kernel) rfl
theorem k446_methodLink : Cond.methodLink "HelpFile" 180 ⟨"HelpFile$Visits", "stepForward", "()V"⟩ ∈ ga := ga_t 874 (by decide +kernel) rfl
theorem k447_instanceMethod : Cond.instanceMethod ⟨"HelpFile$Visits", "stepForward", "()V"⟩ ∈ ga := ga_t 875 (by decide +kernel) rfl
theorem k448_selects : Cond.selects "HelpFile$Visits" ⟨"HelpFile$Visits", "stepForward", "()V"⟩ ⟨"HelpFile$Visits", "stepForward", "()V"⟩ ∈ ga := ga_t 876 (by decide +kernel) rfl
set_option maxRecDepth 100000 in
theorem fm_HelpFile_go : Fm y_HelpFile_go b_HelpFile_go 3 (some .int) 1 := ⟨ga_t 864 rfl rfl, k54_initialized, by decide, by decide, by decide +kernel⟩
def B_HelpFile_go_26 (zvBn : Nat) (zvFn : Nat) (hfO : Bool) (res : Int32) (zvBE' : Nat → Int32) (zvBC' : Int32) (zvBO' : Bool) (zvFE' : Nat → Int32) (zvFC' : Int32) (zvFO' : Bool) (zvT' : Int32) (X : Nat → Bool → Int32 → (Nat → Int32) → Int32 → Bool → (Nat → Int32) → Int32 → Bool → Int32 → Prop) (b1 : Bool) (x2 : Int32) (zvBE : Nat → Int32) (zvBC : Int32) (zvBO : Bool) (zvFE : Nat → Int32) (zvFC : Int32) (zvFO : Bool) (zvT : Int32) : Prop := ((x2 = 0 → False) ∧ (¬ (x2 = 0) → (((bI b1) = 0 → (∃ zvBC_58 : Int32, ∃ zvBO_58 : Bool, ∃ zvFE_58 : Nat → Int32, ∃ zvFC_58 : Int32, ∃ zvFO_58 : Bool, ∃ zvT_58 : Int32, D_Visits_stepBack zvBn zvFn zvBE zvBC zvBO zvFE zvFC zvFO zvT zvBC_58 zvBO_58 zvFE_58 zvFC_58 zvFO_58 zvT_58 ∧ X 1 false 0 zvBE zvBC_58 zvBO_58 zvFE_58 zvFC_58 zvFO_58 zvT_58)) ∧ (¬ ((bI b1) = 0) → (∃ zvBE_48 : Nat → Int32, ∃ zvBC_48 : Int32, ∃ zvBO_48 : Bool, ∃ zvFC_48 : Int32, ∃ zvFO_48 : Bool, ∃ zvT_48 : Int32, D_Visits_stepForward zvBn zvFn zvBE zvBC zvBO zvFE zvFC zvFO zvT zvBE_48 zvBC_48 zvBO_48 zvFC_48 zvFO_48 zvT_48 ∧ X 1 false 0 zvBE_48 zvBC_48 zvBO_48 zvFE zvFC_48 zvFO_48 zvT_48)))))
def B_HelpFile_go_61 (zvBn : Nat) (zvFn : Nat) (hfO : Bool) (res : Int32) (zvBE' : Nat → Int32) (zvBC' : Int32) (zvBO' : Bool) (zvFE' : Nat → Int32) (zvFC' : Int32) (zvFO' : Bool) (zvT' : Int32) (X : Nat → Bool → Int32 → (Nat → Int32) → Int32 → Bool → (Nat → Int32) → Int32 → Bool → Int32 → Prop) (zvBE : Nat → Int32) (zvBC : Int32) (zvBO : Bool) (zvFE : Nat → Int32) (zvFC : Int32) (zvFO : Bool) (zvT : Int32) : Prop := (res = zvT ∧ zvBE' = zvBE ∧ zvBC' = zvBC ∧ zvBO' = zvBO ∧ zvFE' = zvFE ∧ zvFC' = zvFC ∧ zvFO' = zvFO ∧ zvT' = zvT)
def S_HelpFile_go (zvBn : Nat) (zvFn : Nat) (hfO : Bool) (res : Int32) (zvBE' : Nat → Int32) (zvBC' : Int32) (zvBO' : Bool) (zvFE' : Nat → Int32) (zvFC' : Int32) (zvFO' : Bool) (zvT' : Int32) (X : Nat → Bool → Int32 → (Nat → Int32) → Int32 → Bool → (Nat → Int32) → Int32 → Bool → Int32 → Prop) : Nat → Bool → Int32 → (Nat → Int32) → Int32 → Bool → (Nat → Int32) → Int32 → Bool → Int32 → Prop := fun q_lab b1 x2 zvBE zvBC zvBO zvFE zvFC zvFO zvT => match q_lab with | 0 => B_HelpFile_go_26 zvBn zvFn hfO res zvBE' zvBC' zvBO' zvFE' zvFC' zvFO' zvT' X b1 x2 zvBE zvBC zvBO zvFE zvFC zvFO zvT | 1 => B_HelpFile_go_61 zvBn zvFn hfO res zvBE' zvBC' zvBO' zvFE' zvFC' zvFO' zvT' X zvBE zvBC zvBO zvFE zvFC zvFO zvT | _ => False
def T_HelpFile_go (zvBn : Nat) (zvFn : Nat) (hfO : Bool) (res : Int32) (zvBE' : Nat → Int32) (zvBC' : Int32) (zvBO' : Bool) (zvFE' : Nat → Int32) (zvFC' : Int32) (zvFO' : Bool) (zvT' : Int32) : Nat → (Nat → Bool → Int32 → (Nat → Int32) → Int32 → Bool → (Nat → Int32) → Int32 → Bool → Int32 → Prop)
  | 0 => fun _ _ _ _ _ _ _ _ _ _ => False
  | n + 1 => S_HelpFile_go zvBn zvFn hfO res zvBE' zvBC' zvBO' zvFE' zvFC' zvFO' zvT' (T_HelpFile_go zvBn zvFn hfO res zvBE' zvBC' zvBO' zvFE' zvFC' zvFO' zvT' n)
def D_HelpFile_go (zvBn : Nat) (zvFn : Nat) (p0 : Bool) (hfO : Bool) (zvBE : Nat → Int32) (zvBC : Int32) (zvBO : Bool) (zvFE : Nat → Int32) (zvFC : Int32) (zvFO : Bool) (zvT : Int32) (res : Int32) (zvBE' : Nat → Int32) (zvBC' : Int32) (zvBO' : Bool) (zvFE' : Nat → Int32) (zvFC' : Int32) (zvFO' : Bool) (zvT' : Int32) : Prop := ∃ n : Nat, (D_HelpFile_requireOpen hfO ∧ (((bI p0) = 0 → T_HelpFile_go zvBn zvFn hfO res zvBE' zvBC' zvBO' zvFE' zvFC' zvFO' zvT' n 0 p0 zvBC zvBE zvBC zvBO zvFE zvFC zvFO zvT) ∧ (¬ ((bI p0) = 0) → T_HelpFile_go zvBn zvFn hfO res zvBE' zvBC' zvBO' zvFE' zvFC' zvFO' zvT' n 0 p0 zvFC zvBE zvBC zvBO zvFE zvFC zvFO zvT)))
theorem d_HelpFile_go_0 : decode b_HelpFile_go 0 = .ok (.aload_n 0, 1) := by decide +kernel
theorem d_HelpFile_go_1 : decode b_HelpFile_go 1 = .ok (.invokevirtual 149, 3) := by decide +kernel
theorem d_HelpFile_go_4 : decode b_HelpFile_go 4 = .ok (.iload_n 1, 1) := by decide +kernel
theorem d_HelpFile_go_5 : decode b_HelpFile_go 5 = .ok (.ifCond .eq 13, 3) := by decide +kernel
theorem d_HelpFile_go_8 : decode b_HelpFile_go 8 = .ok (.aload_n 0, 1) := by decide +kernel
theorem d_HelpFile_go_9 : decode b_HelpFile_go 9 = .ok (.getfield 44, 3) := by decide +kernel
theorem d_HelpFile_go_12 : decode b_HelpFile_go 12 = .ok (.invokevirtual 172, 3) := by decide +kernel
theorem d_HelpFile_go_15 : decode b_HelpFile_go 15 = .ok (.goto 10, 3) := by decide +kernel
theorem d_HelpFile_go_18 : decode b_HelpFile_go 18 = .ok (.aload_n 0, 1) := by decide +kernel
theorem d_HelpFile_go_19 : decode b_HelpFile_go 19 = .ok (.getfield 44, 3) := by decide +kernel
theorem d_HelpFile_go_22 : decode b_HelpFile_go 22 = .ok (.invokevirtual 175, 3) := by decide +kernel
theorem d_HelpFile_go_25 : decode b_HelpFile_go 25 = .ok (.istore_n 2, 1) := by decide +kernel
theorem d_HelpFile_go_26 : decode b_HelpFile_go 26 = .ok (.iload_n 2, 1) := by decide +kernel
theorem d_HelpFile_go_27 : decode b_HelpFile_go 27 = .ok (.ifCond .ne 13, 3) := by decide +kernel
theorem d_HelpFile_go_30 : decode b_HelpFile_go 30 = .ok (.new 155, 3) := by decide +kernel
theorem d_HelpFile_go_40 : decode b_HelpFile_go 40 = .ok (.iload_n 1, 1) := by decide +kernel
theorem d_HelpFile_go_41 : decode b_HelpFile_go 41 = .ok (.ifCond .eq 13, 3) := by decide +kernel
theorem d_HelpFile_go_44 : decode b_HelpFile_go 44 = .ok (.aload_n 0, 1) := by decide +kernel
theorem d_HelpFile_go_45 : decode b_HelpFile_go 45 = .ok (.getfield 44, 3) := by decide +kernel
theorem d_HelpFile_go_48 : decode b_HelpFile_go 48 = .ok (.invokevirtual 180, 3) := by decide +kernel
theorem d_HelpFile_go_51 : decode b_HelpFile_go 51 = .ok (.goto 10, 3) := by decide +kernel
theorem d_HelpFile_go_54 : decode b_HelpFile_go 54 = .ok (.aload_n 0, 1) := by decide +kernel
theorem d_HelpFile_go_55 : decode b_HelpFile_go 55 = .ok (.getfield 44, 3) := by decide +kernel
theorem d_HelpFile_go_58 : decode b_HelpFile_go 58 = .ok (.invokevirtual 183, 3) := by decide +kernel
theorem d_HelpFile_go_61 : decode b_HelpFile_go 61 = .ok (.aload_n 0, 1) := by decide +kernel
theorem d_HelpFile_go_62 : decode b_HelpFile_go 62 = .ok (.getfield 44, 3) := by decide +kernel
theorem d_HelpFile_go_65 : decode b_HelpFile_go 65 = .ok (.invokevirtual 163, 3) := by decide +kernel
theorem d_HelpFile_go_68 : decode b_HelpFile_go 68 = .ok (.ireturn, 1) := by decide +kernel
set_option maxHeartbeats 4000000 in
set_option maxRecDepth 100000 in
theorem c_HelpFile_go (l : Launch) (dC : Nat → ClassId) (dI : Nat → Nat → Nat) (cI cL cZ : ClassId) (hf : Nat) (hfS : Value) (hfI : Value) (hfR : Value) (hfT : Value) (hfC : Value) (hfE : Value) (hfQ : Value) (hfN : Value) (hfD : Value) (hfB : Value) (hfO : Bool) (hfF : Int32) (hfY : Int32) (zv : Nat) (zvB : Nat) (zvBEa : Nat) (zvBn : Nat) (zvBE : Nat → Int32) (zvBC : Int32) (zvBO : Bool) (zvF : Nat) (zvFEa : Nat) (zvFn : Nat) (zvFE : Nat → Int32) (zvFC : Int32) (zvFO : Bool) (zvT : Int32) (p0 : Bool) (res : Int32) (zvBE' : Nat → Int32) (zvBC' : Int32) (zvBO' : Bool) (zvFE' : Nat → Int32) (zvFC' : Int32) (zvFO' : Bool) (zvT' : Int32) (hd : D_HelpFile_go zvBn zvFn p0 hfO zvBE zvBC zvBO zvFE zvFC zvFO zvT res zvBE' zvBC' zvBO' zvFE' zvFC' zvFO' zvT') : Ctr l y_HelpFile_go (Cond.code y_HelpFile_go b_HelpFile_go 3 (some .int) :: ga) { frames := 4, cells := 0, slots := 0, locals := 83 } (dC, dI) classes (Tys cI cL cZ) [.ref hf, .int (bI p0)] ((sh_HelpFile cI cL cZ hf hfS hfI hfR hfT hfC hfE (.ref zv) hfQ hfN hfD hfB hfO hfF hfY) ++ ((sh_Visits cI cL cZ zv zvB zvBEa zvBn zvBE zvBC zvBO zvF zvFEa zvFn zvFE zvFC zvFO zvT))) (some (.int res)) ((sh_HelpFile cI cL cZ hf hfS hfI hfR hfT hfC hfE (.ref zv) hfQ hfN hfD hfB hfO hfF hfY) ++ ((sh_Visits cI cL cZ zv zvB zvBEa zvBn zvBE' zvBC' zvBO' zvF zvFEa zvFn zvFE' zvFC' zvFO' zvT'))) := by
  refine Ctr.ofW (by decide) (Nat.le_of_ble_eq_true rfl) ?_
  intro p e s m below meth c A ls hx hb hr hml hown hlocks hts hK hN hA hP hD hS hl
  have hown : s.vm.findClass R_HelpFile = some m.cls := hown
  have hl : lv_has ls 3 [(0, .ref hf), (1, .int (bI p0))] := hl
  have key : ∀ n : Nat, (∀ (b1 : Bool) (x2 : Int32) (zvBE : Nat → Int32) (zvBC : Int32) (zvBO : Bool) (zvFE : Nat → Int32) (zvFC : Int32) (zvFO : Bool) (zvT : Int32) (ls : Array Slot) (H : Heap) (locs : List Loc), lv_has ls 3 [(0, .ref hf), (1, .int (bI b1)), (2, .int x2)] → va_P (dC, dI) classes ((sh_HelpFile cI cL cZ hf hfS hfI hfR hfT hfC hfE (.ref zv) hfQ hfN hfD hfB hfO hfF hfY) ++ ((sh_Visits cI cL cZ zv zvB zvBEa zvBn zvBE zvBC zvBO zvF zvFEa zvFn zvFE zvFC zvFO zvT))) H → va_D A ((sh_HelpFile cI cL cZ hf hfS hfI hfR hfT hfC hfE (.ref zv) hfQ hfN hfD hfB hfO hfF hfY) ++ ((sh_Visits cI cL cZ zv zvB zvBEa zvBn zvBE zvBC zvBO zvF zvFEa zvFn zvFE zvFC zvFO zvT))) → va_S A s.heap H locs → T_HelpFile_go zvBn zvFn hfO res zvBE' zvBC' zvBO' zvFE' zvFC' zvFO' zvT' n 0 b1 x2 zvBE zvBC zvBO zvFE zvFC zvFO zvT → W p l e ({ frames := 4, cells := 0, slots := 0, locals := 83 }) s m ([.ref hf, .int (bI p0)] : List Value).toArray below meth c H locs 0 0 (MQ below (Qs (dC, dI) classes (Tys cI cL cZ) (some (.int res)) ((sh_HelpFile cI cL cZ hf hfS hfI hfR hfT hfC hfE (.ref zv) hfQ hfN hfD hfB hfO hfF hfY) ++ ((sh_Visits cI cL cZ zv zvB zvBEa zvBn zvBE' zvBC' zvBO' zvF zvFEa zvFn zvFE' zvFC' zvFO' zvT'))) A) ([.ref hf, .int (bI p0)] : List Value).toArray s 0 0 A) (F0 m 26 ls [])) ∧ (∀ (zvBE : Nat → Int32) (zvBC : Int32) (zvBO : Bool) (zvFE : Nat → Int32) (zvFC : Int32) (zvFO : Bool) (zvT : Int32) (ls : Array Slot) (H : Heap) (locs : List Loc), lv_has ls 3 [(0, .ref hf)] → va_P (dC, dI) classes ((sh_HelpFile cI cL cZ hf hfS hfI hfR hfT hfC hfE (.ref zv) hfQ hfN hfD hfB hfO hfF hfY) ++ ((sh_Visits cI cL cZ zv zvB zvBEa zvBn zvBE zvBC zvBO zvF zvFEa zvFn zvFE zvFC zvFO zvT))) H → va_D A ((sh_HelpFile cI cL cZ hf hfS hfI hfR hfT hfC hfE (.ref zv) hfQ hfN hfD hfB hfO hfF hfY) ++ ((sh_Visits cI cL cZ zv zvB zvBEa zvBn zvBE zvBC zvBO zvF zvFEa zvFn zvFE zvFC zvFO zvT))) → va_S A s.heap H locs → T_HelpFile_go zvBn zvFn hfO res zvBE' zvBC' zvBO' zvFE' zvFC' zvFO' zvT' n 1 false 0 zvBE zvBC zvBO zvFE zvFC zvFO zvT → W p l e ({ frames := 4, cells := 0, slots := 0, locals := 83 }) s m ([.ref hf, .int (bI p0)] : List Value).toArray below meth c H locs 0 0 (MQ below (Qs (dC, dI) classes (Tys cI cL cZ) (some (.int res)) ((sh_HelpFile cI cL cZ hf hfS hfI hfR hfT hfC hfE (.ref zv) hfQ hfN hfD hfB hfO hfF hfY) ++ ((sh_Visits cI cL cZ zv zvB zvBEa zvBn zvBE' zvBC' zvBO' zvF zvFEa zvFn zvFE' zvFC' zvFO' zvT'))) A) ([.ref hf, .int (bI p0)] : List Value).toArray s 0 0 A) (F0 m 61 ls [])) := by
    intro n
    induction n with
    | zero =>
      exact ⟨fun _ _ _ _ _ _ _ _ _ _ _ _ _ _ _ _ hd => False.elim hd, fun _ _ _ _ _ _ _ _ _ _ _ _ _ _ hd => False.elim hd⟩
    | succ n ih =>
      refine ⟨?_, ?_⟩
      · intro b1 x2 zvBE zvBC zvBO zvFE zvFC zvFO zvT ls H locs hl hP hD hS hd
        have hd : B_HelpFile_go_26 zvBn zvFn hfO res zvBE' zvBC' zvBO' zvFE' zvFC' zvFO' zvT' (T_HelpFile_go zvBn zvFn hfO res zvBE' zvBC' zvBO' zvFE' zvFC' zvFO' zvT' n) b1 x2 zvBE zvBC zvBO zvFE zvFC zvFO zvT := hd
        refine lv_iload_n hx hb d_HelpFile_go_26 rfl (lv_at hl 2 rfl) ?_
        refine lv_if_ne (tgt := 40) hx hb d_HelpFile_go_27 (by decide) (fun h27 => ?_) (fun h27 => ?_)
        · have hd := hd.2 h27
          refine lv_iload_n hx hb d_HelpFile_go_40 rfl (lv_at hl 1 rfl) ?_
          refine lv_if_eq (tgt := 54) hx hb d_HelpFile_go_41 (by decide) (fun h41 => ?_) (fun h41 => ?_)
          · have hd := hd.1 h41
            refine lv_aload_n hx hb d_HelpFile_go_54 rfl (lv_at hl 0 rfl) ?_
            refine va_get (D := (dC, dI)) (ci := 0) (v := .ref zv) (C := R_HelpFile) (T := F_HelpFile) (N := 14) hx hb hts in_HelpFile hown hK hP 0 rfl rfl 6 (by decide) (hts _ (List.mem_cons_of_mem _ k397_fieldLink)) (fun _ h9 => h9) rfl d_HelpFile_go_55 ?_
            obtain ⟨zvBC_58, zvBO_58, zvFE_58, zvFC_58, zvFO_58, zvT_58, c58, hd⟩ := hd
            refine ct_V (As := []) (rest := []) (C := R_Visits) (ci := 6) (q := (R_Visits, F_Visits, 3)) ⟨hx, hb, hml, hown, hts⟩ fm_Visits_stepBack (c_Visits_stepBack l dC dI cI cL cZ zv zvB zvBEa zvBn zvBE zvBC zvBO zvF zvFEa zvFn zvFE zvFC zvFO zvT zvBC_58 zvBO_58 zvFE_58 zvFC_58 zvFO_58 zvT_58 c58) k443_methodLink k444_instanceMethod k445_selects ⟨Nat.le_of_ble_eq_true rfl, Nat.le_of_ble_eq_true rfl⟩ rfl rfl hK hN hP hD hS hA [1, 2, 3, 4, 5] [0] rfl rfl rfl (by decide) (by decide) (by decide) 1 rfl rfl rfl rfl hl.1 rfl (Nat.le_of_ble_eq_true rfl) d_HelpFile_go_58 (fun H locs hP hD hS => ?_)
            have hP : va_P (dC, dI) classes ((sh_HelpFile cI cL cZ hf hfS hfI hfR hfT hfC hfE (.ref zv) hfQ hfN hfD hfB hfO hfF hfY) ++ ((sh_Visits cI cL cZ zv zvB zvBEa zvBn zvBE zvBC_58 zvBO_58 zvF zvFEa zvFn zvFE_58 zvFC_58 zvFO_58 zvT_58))) H := hP.sub [0, 1, 2, 3, 4, 5] rfl
            have hD : va_D A ((sh_HelpFile cI cL cZ hf hfS hfI hfR hfT hfC hfE (.ref zv) hfQ hfN hfD hfB hfO hfF hfY) ++ ((sh_Visits cI cL cZ zv zvB zvBEa zvBn zvBE zvBC_58 zvBO_58 zvF zvFEa zvFn zvFE_58 zvFC_58 zvFO_58 zvT_58))) := hD.sub [0, 1, 2, 3, 4, 5] (by decide) rfl
            exact ih.2 zvBE zvBC_58 zvBO_58 zvFE_58 zvFC_58 zvFO_58 zvT_58 _ _ _ (lv_sub hl [0] rfl) hP hD hS hd
          · have hd := hd.2 h41
            refine lv_aload_n hx hb d_HelpFile_go_44 rfl (lv_at hl 0 rfl) ?_
            refine va_get (D := (dC, dI)) (ci := 0) (v := .ref zv) (C := R_HelpFile) (T := F_HelpFile) (N := 14) hx hb hts in_HelpFile hown hK hP 0 rfl rfl 6 (by decide) (hts _ (List.mem_cons_of_mem _ k397_fieldLink)) (fun _ h9 => h9) rfl d_HelpFile_go_45 ?_
            obtain ⟨zvBE_48, zvBC_48, zvBO_48, zvFC_48, zvFO_48, zvT_48, c48, hd⟩ := hd
            refine ct_V (As := []) (rest := []) (C := R_Visits) (ci := 6) (q := (R_Visits, F_Visits, 3)) ⟨hx, hb, hml, hown, hts⟩ fm_Visits_stepForward (c_Visits_stepForward l dC dI cI cL cZ zv zvB zvBEa zvBn zvBE zvBC zvBO zvF zvFEa zvFn zvFE zvFC zvFO zvT zvBE_48 zvBC_48 zvBO_48 zvFC_48 zvFO_48 zvT_48 c48) k446_methodLink k447_instanceMethod k448_selects ⟨Nat.le_of_ble_eq_true rfl, Nat.le_of_ble_eq_true rfl⟩ rfl rfl hK hN hP hD hS hA [1, 2, 3, 4, 5] [0] rfl rfl rfl (by decide) (by decide) (by decide) 1 rfl rfl rfl rfl hl.1 rfl (Nat.le_of_ble_eq_true rfl) d_HelpFile_go_48 (fun H locs hP hD hS => ?_)
            have hP : va_P (dC, dI) classes ((sh_HelpFile cI cL cZ hf hfS hfI hfR hfT hfC hfE (.ref zv) hfQ hfN hfD hfB hfO hfF hfY) ++ ((sh_Visits cI cL cZ zv zvB zvBEa zvBn zvBE_48 zvBC_48 zvBO_48 zvF zvFEa zvFn zvFE zvFC_48 zvFO_48 zvT_48))) H := hP.sub [0, 1, 2, 3, 4, 5] rfl
            have hD : va_D A ((sh_HelpFile cI cL cZ hf hfS hfI hfR hfT hfC hfE (.ref zv) hfQ hfN hfD hfB hfO hfF hfY) ++ ((sh_Visits cI cL cZ zv zvB zvBEa zvBn zvBE_48 zvBC_48 zvBO_48 zvF zvFEa zvFn zvFE zvFC_48 zvFO_48 zvT_48))) := hD.sub [0, 1, 2, 3, 4, 5] (by decide) rfl
            refine lv_goto (tgt := 61) hx hb d_HelpFile_go_51 (by decide) ?_
            exact ih.2 zvBE_48 zvBC_48 zvBO_48 zvFE zvFC_48 zvFO_48 zvT_48 _ _ _ (lv_sub hl [0] rfl) hP hD hS hd
        · have hd := hd.1 h27
          exact False.elim hd
      · intro zvBE zvBC zvBO zvFE zvFC zvFO zvT ls H locs hl hP hD hS hd
        have hd : B_HelpFile_go_61 zvBn zvFn hfO res zvBE' zvBC' zvBO' zvFE' zvFC' zvFO' zvT' (T_HelpFile_go zvBn zvFn hfO res zvBE' zvBC' zvBO' zvFE' zvFC' zvFO' zvT' n) zvBE zvBC zvBO zvFE zvFC zvFO zvT := hd
        refine lv_aload_n hx hb d_HelpFile_go_61 rfl (lv_at hl 0 rfl) ?_
        refine va_get (D := (dC, dI)) (ci := 0) (v := .ref zv) (C := R_HelpFile) (T := F_HelpFile) (N := 14) hx hb hts in_HelpFile hown hK hP 0 rfl rfl 6 (by decide) (hts _ (List.mem_cons_of_mem _ k397_fieldLink)) (fun _ h9 => h9) rfl d_HelpFile_go_62 ?_
        refine ct_VR (As := []) (rest := []) (C := R_Visits) (ci := 6) (q := (R_Visits, F_Visits, 3)) ⟨hx, hb, hml, hown, hts⟩ fm_Visits_topic (c_Visits_topic l dC dI cI cL cZ zv zvB zvBEa zvBn zvBE zvBC zvBO zvF zvFEa zvFn zvFE zvFC zvFO zvT zvT rfl) k431_methodLink k432_instanceMethod k433_selects ⟨Nat.le_of_ble_eq_true rfl, Nat.le_of_ble_eq_true rfl⟩ rfl rfl hK hN hP hD [1, 2, 3, 4, 5] rfl rfl (by decide) 1 rfl rfl rfl rfl hl.1 rfl (Nat.le_of_ble_eq_true rfl) d_HelpFile_go_65 ?_
        obtain ⟨e0, e1, e2, e3, e4, e5, e6, e7⟩ := hd
        subst e0
        subst e1
        subst e2
        subst e3
        subst e4
        subst e5
        subst e6
        subst e7
        exact ct_iret hx hb hr hlocks hK hP hD hS d_HelpFile_go_68
  obtain ⟨n, hd⟩ := hd
  refine lv_aload_n hx hb d_HelpFile_go_0 rfl (lv_at hl 0 rfl) ?_
  obtain ⟨c1, hd⟩ := hd
  refine ct_VR (As := []) (rest := []) (C := R_HelpFile) (ci := 0) (q := (R_HelpFile, F_HelpFile, 14)) ⟨hx, hb, hml, hown, hts⟩ fm_HelpFile_requireOpen (c_HelpFile_requireOpen l dC dI cI cL cZ hf hfS hfI hfR hfT hfC hfE (.ref zv) hfQ hfN hfD hfB hfO hfF hfY c1) k421_methodLink k422_instanceMethod k423_selects ⟨Nat.le_of_ble_eq_true rfl, Nat.le_of_ble_eq_true rfl⟩ rfl rfl hK hN hP hD [0] rfl rfl (by decide) 0 rfl rfl rfl rfl hl.1 rfl (Nat.le_of_ble_eq_true rfl) d_HelpFile_go_1 ?_
  refine lv_iload_n hx hb d_HelpFile_go_4 rfl (lv_at hl 1 rfl) ?_
  refine lv_if_eq (tgt := 18) hx hb d_HelpFile_go_5 (by decide) (fun h5 => ?_) (fun h5 => ?_)
  · have hd := hd.1 h5
    refine lv_aload_n hx hb d_HelpFile_go_18 rfl (lv_at hl 0 rfl) ?_
    refine va_get (D := (dC, dI)) (ci := 0) (v := .ref zv) (C := R_HelpFile) (T := F_HelpFile) (N := 14) hx hb hts in_HelpFile hown hK hP 0 rfl rfl 6 (by decide) (hts _ (List.mem_cons_of_mem _ k397_fieldLink)) (fun _ h9 => h9) rfl d_HelpFile_go_19 ?_
    refine ct_VR (As := []) (rest := []) (C := R_Visits) (ci := 6) (q := (R_Visits, F_Visits, 3)) ⟨hx, hb, hml, hown, hts⟩ fm_Visits_backCount (c_Visits_backCount l dC dI cI cL cZ zv zvB zvBEa zvBn zvBE zvBC zvBO zvF zvFEa zvFn zvFE zvFC zvFO zvT zvBC rfl) k437_methodLink k438_instanceMethod k439_selects ⟨Nat.le_of_ble_eq_true rfl, Nat.le_of_ble_eq_true rfl⟩ rfl rfl hK hN hP hD [1, 2, 3, 4, 5] rfl rfl (by decide) 1 rfl rfl rfl rfl hl.1 rfl (Nat.le_of_ble_eq_true rfl) d_HelpFile_go_22 ?_
    refine lv_istore_n (lv' := [(2, .int zvBC), (0, .ref hf), (1, .int (bI p0))]) hx hb d_HelpFile_go_25 rfl hl (by decide) rfl (fun ls hl => ?_)
    exact (key n).1 p0 zvBC zvBE zvBC zvBO zvFE zvFC zvFO zvT _ _ _ (lv_sub hl [1, 2, 0] rfl) hP hD hS hd
  · have hd := hd.2 h5
    refine lv_aload_n hx hb d_HelpFile_go_8 rfl (lv_at hl 0 rfl) ?_
    refine va_get (D := (dC, dI)) (ci := 0) (v := .ref zv) (C := R_HelpFile) (T := F_HelpFile) (N := 14) hx hb hts in_HelpFile hown hK hP 0 rfl rfl 6 (by decide) (hts _ (List.mem_cons_of_mem _ k397_fieldLink)) (fun _ h9 => h9) rfl d_HelpFile_go_9 ?_
    refine ct_VR (As := []) (rest := []) (C := R_Visits) (ci := 6) (q := (R_Visits, F_Visits, 3)) ⟨hx, hb, hml, hown, hts⟩ fm_Visits_forwardCount (c_Visits_forwardCount l dC dI cI cL cZ zv zvB zvBEa zvBn zvBE zvBC zvBO zvF zvFEa zvFn zvFE zvFC zvFO zvT zvFC rfl) k440_methodLink k441_instanceMethod k442_selects ⟨Nat.le_of_ble_eq_true rfl, Nat.le_of_ble_eq_true rfl⟩ rfl rfl hK hN hP hD [1, 2, 3, 4, 5] rfl rfl (by decide) 1 rfl rfl rfl rfl hl.1 rfl (Nat.le_of_ble_eq_true rfl) d_HelpFile_go_12 ?_
    refine lv_goto (tgt := 25) hx hb d_HelpFile_go_15 (by decide) ?_
    refine lv_istore_n (lv' := [(2, .int zvFC), (0, .ref hf), (1, .int (bI p0))]) hx hb d_HelpFile_go_25 rfl hl (by decide) rfl (fun ls hl => ?_)
    exact (key n).1 p0 zvFC zvBE zvBC zvBO zvFE zvFC zvFO zvT _ _ _ (lv_sub hl [1, 2, 0] rfl) hP hD hS hd
def BX_HelpFile_go_26 (hfO : Bool) (zvBC : Int32) (zvFC : Int32) (xc : String) (X : Bool → Int32 → Prop) (b1 : Bool) (x2 : Int32) : Prop := ((x2 = 0 → (xc = "java/util/NoSuchElementException")) ∧ (¬ (x2 = 0) → (((bI b1) = 0 → False) ∧ (¬ ((bI b1) = 0) → False))))
def SX_HelpFile_go (hfO : Bool) (zvBC : Int32) (zvFC : Int32) (xc : String) (X : Bool → Int32 → Prop) : Bool → Int32 → Prop := fun b1 x2 => BX_HelpFile_go_26 hfO zvBC zvFC xc X b1 x2
def TX_HelpFile_go (hfO : Bool) (zvBC : Int32) (zvFC : Int32) (xc : String) : Nat → (Bool → Int32 → Prop)
  | 0 => fun _ _ => False
  | n + 1 => SX_HelpFile_go hfO zvBC zvFC xc (TX_HelpFile_go hfO zvBC zvFC xc n)
def X_HelpFile_go (p0 : Bool) (hfO : Bool) (zvBC : Int32) (zvFC : Int32) (xc : String) : Prop := ∃ n : Nat, ((D_HelpFile_requireOpen hfO ∧ (((bI p0) = 0 → TX_HelpFile_go hfO zvBC zvFC xc n p0 zvBC) ∧ (¬ ((bI p0) = 0) → TX_HelpFile_go hfO zvBC zvFC xc n p0 zvFC))) ∨ X_HelpFile_requireOpen hfO xc)
theorem d_HelpFile_go_33 : decode b_HelpFile_go 33 = .ok (.dup, 1) := by decide +kernel
theorem d_HelpFile_go_34 : decode b_HelpFile_go 34 = .ok (.ldc 178, 2) := by decide +kernel
theorem d_HelpFile_go_36 : decode b_HelpFile_go 36 = .ok (.invokespecial 159, 3) := by decide +kernel
theorem d_HelpFile_go_39 : decode b_HelpFile_go 39 = .ok (.athrow, 1) := by decide +kernel
set_option maxHeartbeats 4000000 in
set_option maxRecDepth 100000 in
theorem x_HelpFile_go (l : Launch) (htr : ∀ e : Env, l.admits e → e.platform.stackTraces = false) (dC : Nat → ClassId) (dI : Nat → Nat → Nat) (cI cL cZ : ClassId) (hf : Nat) (hfS : Value) (hfI : Value) (hfR : Value) (hfT : Value) (hfC : Value) (hfE : Value) (hfQ : Value) (hfN : Value) (hfD : Value) (hfB : Value) (hfO : Bool) (hfF : Int32) (hfY : Int32) (zv : Nat) (zvB : Nat) (zvBEa : Nat) (zvBn : Nat) (zvBE : Nat → Int32) (zvBC : Int32) (zvBO : Bool) (zvF : Nat) (zvFEa : Nat) (zvFn : Nat) (zvFE : Nat → Int32) (zvFC : Int32) (zvFO : Bool) (zvT : Int32) (p0 : Bool) (xc : String) (hd : X_HelpFile_go p0 hfO zvBC zvFC xc) : CtT l y_HelpFile_go (Cond.code y_HelpFile_go b_HelpFile_go 3 (some .int) :: ga) { frames := 7, cells := 1, slots := 6, locals := 102 } (dC, dI) classes (Tys cI cL cZ) [.ref hf, .int (bI p0)] ((sh_HelpFile cI cL cZ hf hfS hfI hfR hfT hfC hfE (.ref zv) hfQ hfN hfD hfB hfO hfF hfY) ++ ((sh_Visits cI cL cZ zv zvB zvBEa zvBn zvBE zvBC zvBO zvF zvFEa zvFn zvFE zvFC zvFO zvT))) xc := by
  refine CtT.ofW (by decide) (Nat.le_of_ble_eq_true rfl) ?_
  intro p e s m below meth c A ls hx hb hr hml hown hlocks hnh hts hK hN hZ hT hA hP hD hl
  have hown : s.vm.findClass R_HelpFile = some m.cls := hown
  have hl : lv_has ls 3 [(0, .ref hf), (1, .int (bI p0))] := hl
  have key : ∀ n : Nat, (∀ (b1 : Bool) (x2 : Int32) (ls : Array Slot), lv_has ls 3 [(0, .ref hf), (1, .int (bI b1)), (2, .int x2)] → TX_HelpFile_go hfO zvBC zvFC xc n b1 x2 → W p l e ({ frames := 7, cells := 1, slots := 6, locals := 102 }) s m ([.ref hf, .int (bI p0)] : List Value).toArray below meth c s.heap [] 0 0 (MX below (QT xc) ([.ref hf, .int (bI p0)] : List Value).toArray s) (F0 m 26 ls [])) := by
    intro n
    induction n with
    | zero =>
      exact fun _ _ _ _ hd => False.elim hd
    | succ n ih =>
      · intro b1 x2 ls hl hd
        have hd : BX_HelpFile_go_26 hfO zvBC zvFC xc (TX_HelpFile_go hfO zvBC zvFC xc n) b1 x2 := hd
        refine lv_iload_n hx hb d_HelpFile_go_26 rfl (lv_at hl 2 rfl) ?_
        refine lv_if_ne (tgt := 40) hx hb d_HelpFile_go_27 (by decide) (fun h27 => ?_) (fun h27 => ?_)
        · have hd := hd.2 h27
          refine lv_iload_n hx hb d_HelpFile_go_40 rfl (lv_at hl 1 rfl) ?_
          refine lv_if_eq (tgt := 54) hx hb d_HelpFile_go_41 (by decide) (fun h41 => ?_) (fun h41 => ?_)
          · have hd := hd.1 h41
            refine lv_aload_n hx hb d_HelpFile_go_54 rfl (lv_at hl 0 rfl) ?_
            refine va_get (D := (dC, dI)) (ci := 0) (v := .ref zv) (C := R_HelpFile) (T := F_HelpFile) (N := 14) hx hb hts in_HelpFile hown hK hP 0 rfl rfl 6 (by decide) (hts _ (List.mem_cons_of_mem _ k397_fieldLink)) (fun _ h9 => h9) rfl d_HelpFile_go_55 ?_
            exact False.elim hd
          · have hd := hd.2 h41
            refine lv_aload_n hx hb d_HelpFile_go_44 rfl (lv_at hl 0 rfl) ?_
            refine va_get (D := (dC, dI)) (ci := 0) (v := .ref zv) (C := R_HelpFile) (T := F_HelpFile) (N := 14) hx hb hts in_HelpFile hown hK hP 0 rfl rfl 6 (by decide) (hts _ (List.mem_cons_of_mem _ k397_fieldLink)) (fun _ h9 => h9) rfl d_HelpFile_go_45 ?_
            exact False.elim hd
        · have hd := hd.1 h27
          have e0 : xc = "java/util/NoSuchElementException" := hd
          subst e0
          obtain ⟨q9, hq9⟩ := hT.1 (178, "the stack is empty") (by decide +kernel)
          exact ct_throwN htr hx hb hml hl.1 hown hlocks hnh hts hZ hT oa_4 (by decide +kernel) k428_classLink k429_instantiable k430_initialized hq9 d_HelpFile_go_30 d_HelpFile_go_33 d_HelpFile_go_34 d_HelpFile_go_36 d_HelpFile_go_39 (by decide) (by decide) (by decide) (by decide)
  obtain ⟨n, hd⟩ := hd
  refine lv_aload_n hx hb d_HelpFile_go_0 rfl (lv_at hl 0 rfl) ?_
  rcases hd with hd | hd
  · skip
    obtain ⟨c1, hd⟩ := hd
    refine ct_VR (As := []) (rest := []) (C := R_HelpFile) (ci := 0) (q := (R_HelpFile, F_HelpFile, 14)) ⟨hx, hb, hml, hown, hts⟩ fm_HelpFile_requireOpen (c_HelpFile_requireOpen l dC dI cI cL cZ hf hfS hfI hfR hfT hfC hfE (.ref zv) hfQ hfN hfD hfB hfO hfF hfY c1) k421_methodLink k422_instanceMethod k423_selects ⟨Nat.le_of_ble_eq_true rfl, Nat.le_of_ble_eq_true rfl⟩ rfl rfl hK hN hP hD [0] rfl rfl (by decide) 0 rfl rfl rfl rfl hl.1 rfl (Nat.le_of_ble_eq_true rfl) d_HelpFile_go_1 ?_
    refine lv_iload_n hx hb d_HelpFile_go_4 rfl (lv_at hl 1 rfl) ?_
    refine lv_if_eq (tgt := 18) hx hb d_HelpFile_go_5 (by decide) (fun h5 => ?_) (fun h5 => ?_)
    · have hd := hd.1 h5
      refine lv_aload_n hx hb d_HelpFile_go_18 rfl (lv_at hl 0 rfl) ?_
      refine va_get (D := (dC, dI)) (ci := 0) (v := .ref zv) (C := R_HelpFile) (T := F_HelpFile) (N := 14) hx hb hts in_HelpFile hown hK hP 0 rfl rfl 6 (by decide) (hts _ (List.mem_cons_of_mem _ k397_fieldLink)) (fun _ h9 => h9) rfl d_HelpFile_go_19 ?_
      refine ct_VR (As := []) (rest := []) (C := R_Visits) (ci := 6) (q := (R_Visits, F_Visits, 3)) ⟨hx, hb, hml, hown, hts⟩ fm_Visits_backCount (c_Visits_backCount l dC dI cI cL cZ zv zvB zvBEa zvBn zvBE zvBC zvBO zvF zvFEa zvFn zvFE zvFC zvFO zvT zvBC rfl) k437_methodLink k438_instanceMethod k439_selects ⟨Nat.le_of_ble_eq_true rfl, Nat.le_of_ble_eq_true rfl⟩ rfl rfl hK hN hP hD [1, 2, 3, 4, 5] rfl rfl (by decide) 1 rfl rfl rfl rfl hl.1 rfl (Nat.le_of_ble_eq_true rfl) d_HelpFile_go_22 ?_
      refine lv_istore_n (lv' := [(2, .int zvBC), (0, .ref hf), (1, .int (bI p0))]) hx hb d_HelpFile_go_25 rfl hl (by decide) rfl (fun ls hl => ?_)
      exact (key n) p0 zvBC _ (lv_sub hl [1, 2, 0] rfl) hd
    · have hd := hd.2 h5
      refine lv_aload_n hx hb d_HelpFile_go_8 rfl (lv_at hl 0 rfl) ?_
      refine va_get (D := (dC, dI)) (ci := 0) (v := .ref zv) (C := R_HelpFile) (T := F_HelpFile) (N := 14) hx hb hts in_HelpFile hown hK hP 0 rfl rfl 6 (by decide) (hts _ (List.mem_cons_of_mem _ k397_fieldLink)) (fun _ h9 => h9) rfl d_HelpFile_go_9 ?_
      refine ct_VR (As := []) (rest := []) (C := R_Visits) (ci := 6) (q := (R_Visits, F_Visits, 3)) ⟨hx, hb, hml, hown, hts⟩ fm_Visits_forwardCount (c_Visits_forwardCount l dC dI cI cL cZ zv zvB zvBEa zvBn zvBE zvBC zvBO zvF zvFEa zvFn zvFE zvFC zvFO zvT zvFC rfl) k440_methodLink k441_instanceMethod k442_selects ⟨Nat.le_of_ble_eq_true rfl, Nat.le_of_ble_eq_true rfl⟩ rfl rfl hK hN hP hD [1, 2, 3, 4, 5] rfl rfl (by decide) 1 rfl rfl rfl rfl hl.1 rfl (Nat.le_of_ble_eq_true rfl) d_HelpFile_go_12 ?_
      refine lv_goto (tgt := 25) hx hb d_HelpFile_go_15 (by decide) ?_
      refine lv_istore_n (lv' := [(2, .int zvFC), (0, .ref hf), (1, .int (bI p0))]) hx hb d_HelpFile_go_25 rfl hl (by decide) rfl (fun ls hl => ?_)
      exact (key n) p0 zvFC _ (lv_sub hl [1, 2, 0] rfl) hd
  · exact ct_VT (As := []) (rest := []) (C := R_HelpFile) (ci := 0) (q := (R_HelpFile, F_HelpFile, 14)) ⟨hx, hb, hml, hown, hts⟩ hlocks hnh fm_HelpFile_requireOpen (x_HelpFile_requireOpen l htr dC dI cI cL cZ hf hfS hfI hfR hfT hfC hfE (.ref zv) hfQ hfN hfD hfB hfO hfF hfY xc hd) k421_methodLink k422_instanceMethod k423_selects ⟨Nat.le_of_ble_eq_true rfl, Nat.le_of_ble_eq_true rfl⟩ (by decide) (by decide) hK hN hZ hT hA hP hD [0] rfl rfl (by decide) 0 rfl rfl rfl rfl hl.1 rfl (Nat.le_of_ble_eq_true rfl) d_HelpFile_go_1
-- HelpFile.about
abbrev b_HelpFile_about : ByteArray := prog_1_method_12_code
def y_HelpFile_about : MethodName := ⟨"HelpFile", "about", "(I)I"⟩
theorem k449_methodLink : Cond.methodLink "HelpFile" 186 ⟨"HelpFile$Book", "links", "(I)I"⟩ ∈ ga := ga_t 893 (by decide +kernel) rfl
theorem k450_instanceMethod : Cond.instanceMethod ⟨"HelpFile$Book", "links", "(I)I"⟩ ∈ ga := ga_t 894 (by decide +kernel) rfl
theorem k451_selects : Cond.selects "HelpFile$Book" ⟨"HelpFile$Book", "links", "(I)I"⟩ ⟨"HelpFile$Book", "links", "(I)I"⟩ ∈ ga := ga_t 895 (by decide +kernel) rfl
theorem k452_methodLink : Cond.methodLink "HelpFile" 189 ⟨"HelpFile$Book", "bodyLength", "(I)I"⟩ ∈ ga := ga_t 897 (by decide +kernel) rfl
set_option maxRecDepth 100000 in
theorem fm_HelpFile_about : Fm y_HelpFile_about b_HelpFile_about 3 (some .int) 1 := ⟨ga_t 892 rfl rfl, k54_initialized, by decide, by decide, by decide +kernel⟩
def D_HelpFile_about (bbBn : Nat) (k0 : Int32) (hfO : Bool) (zvBC : Int32) (zvFC : Int32) (zvT : Int32) (bbS : Nat → Int32) (bbBE : Nat → Int32) (bbBC : Int32) (bbT : Int32) (res : Int32) : Prop := (D_HelpFile_requireOpen hfO ∧ ((k0 = 0 → (res = zvT)) ∧ (¬ k0 = 0 → ((k0 = 1 → (res = bbT)) ∧ (¬ k0 = 1 → ((k0 = 2 → (∃ r67 : Int32, D_Book_links bbBn zvT bbS bbBE bbBC bbT r67 ∧ (res = r67))) ∧ (¬ k0 = 2 → ((k0 = 3 → (res = zvBC)) ∧ (¬ k0 = 3 → ((k0 = 4 → (res = zvFC)) ∧ (¬ k0 = 4 → ((k0 = 5 → (∃ r92 : Int32, D_Book_bodyLength zvT bbS bbT r92 ∧ (res = r92))) ∧ (¬ k0 = 5 → False)))))))))))))
theorem d_HelpFile_about_0 : decode b_HelpFile_about 0 = .ok (.aload_n 0, 1) := by decide +kernel
theorem d_HelpFile_about_1 : decode b_HelpFile_about 1 = .ok (.invokevirtual 149, 3) := by decide +kernel
theorem d_HelpFile_about_4 : decode b_HelpFile_about 4 = .ok (.aload_n 0, 1) := by decide +kernel
theorem d_HelpFile_about_5 : decode b_HelpFile_about 5 = .ok (.getfield 44, 3) := by decide +kernel
theorem d_HelpFile_about_8 : decode b_HelpFile_about 8 = .ok (.invokevirtual 163, 3) := by decide +kernel
theorem d_HelpFile_about_11 : decode b_HelpFile_about 11 = .ok (.istore_n 2, 1) := by decide +kernel
theorem d_HelpFile_about_12 : decode b_HelpFile_about 12 = .ok (.iload_n 1, 1) := by decide +kernel
theorem d_HelpFile_about_13 : decode b_HelpFile_about 13 = .ok (.tableswitch 83 0 5 #[39, 41, 49, 58, 66, 74], 39) := by decide +kernel
theorem d_HelpFile_about_52 : decode b_HelpFile_about 52 = .ok (.iload_n 2, 1) := by decide +kernel
theorem d_HelpFile_about_53 : decode b_HelpFile_about 53 = .ok (.ireturn, 1) := by decide +kernel
theorem d_HelpFile_about_54 : decode b_HelpFile_about 54 = .ok (.aload_n 0, 1) := by decide +kernel
theorem d_HelpFile_about_55 : decode b_HelpFile_about 55 = .ok (.getfield 69, 3) := by decide +kernel
theorem d_HelpFile_about_58 : decode b_HelpFile_about 58 = .ok (.invokevirtual 152, 3) := by decide +kernel
theorem d_HelpFile_about_61 : decode b_HelpFile_about 61 = .ok (.ireturn, 1) := by decide +kernel
theorem d_HelpFile_about_62 : decode b_HelpFile_about 62 = .ok (.aload_n 0, 1) := by decide +kernel
theorem d_HelpFile_about_63 : decode b_HelpFile_about 63 = .ok (.getfield 69, 3) := by decide +kernel
theorem d_HelpFile_about_66 : decode b_HelpFile_about 66 = .ok (.iload_n 2, 1) := by decide +kernel
theorem d_HelpFile_about_67 : decode b_HelpFile_about 67 = .ok (.invokevirtual 186, 3) := by decide +kernel
theorem d_HelpFile_about_70 : decode b_HelpFile_about 70 = .ok (.ireturn, 1) := by decide +kernel
theorem d_HelpFile_about_71 : decode b_HelpFile_about 71 = .ok (.aload_n 0, 1) := by decide +kernel
theorem d_HelpFile_about_72 : decode b_HelpFile_about 72 = .ok (.getfield 44, 3) := by decide +kernel
theorem d_HelpFile_about_75 : decode b_HelpFile_about 75 = .ok (.invokevirtual 175, 3) := by decide +kernel
theorem d_HelpFile_about_78 : decode b_HelpFile_about 78 = .ok (.ireturn, 1) := by decide +kernel
theorem d_HelpFile_about_79 : decode b_HelpFile_about 79 = .ok (.aload_n 0, 1) := by decide +kernel
theorem d_HelpFile_about_80 : decode b_HelpFile_about 80 = .ok (.getfield 44, 3) := by decide +kernel
theorem d_HelpFile_about_83 : decode b_HelpFile_about 83 = .ok (.invokevirtual 172, 3) := by decide +kernel
theorem d_HelpFile_about_86 : decode b_HelpFile_about 86 = .ok (.ireturn, 1) := by decide +kernel
theorem d_HelpFile_about_87 : decode b_HelpFile_about 87 = .ok (.aload_n 0, 1) := by decide +kernel
theorem d_HelpFile_about_88 : decode b_HelpFile_about 88 = .ok (.getfield 69, 3) := by decide +kernel
theorem d_HelpFile_about_91 : decode b_HelpFile_about 91 = .ok (.iload_n 2, 1) := by decide +kernel
theorem d_HelpFile_about_92 : decode b_HelpFile_about 92 = .ok (.invokevirtual 189, 3) := by decide +kernel
theorem d_HelpFile_about_95 : decode b_HelpFile_about 95 = .ok (.ireturn, 1) := by decide +kernel
theorem d_HelpFile_about_96 : decode b_HelpFile_about 96 = .ok (.new 87, 3) := by decide +kernel
set_option maxHeartbeats 4000000 in
set_option maxRecDepth 100000 in
theorem c_HelpFile_about (l : Launch) (dC : Nat → ClassId) (dI : Nat → Nat → Nat) (cI cL cZ : ClassId) (hf : Nat) (hfS : Value) (hfI : Value) (hfR : Value) (hfT : Value) (hfC : Value) (hfE : Value) (hfQ : Value) (hfN : Value) (hfD : Value) (hfO : Bool) (hfF : Int32) (hfY : Int32) (zv : Nat) (zvB : Nat) (zvBEa : Nat) (zvBn : Nat) (zvBE : Nat → Int32) (zvBC : Int32) (zvBO : Bool) (zvF : Nat) (zvFEa : Nat) (zvFn : Nat) (zvFE : Nat → Int32) (zvFC : Int32) (zvFO : Bool) (zvT : Int32) (bb : Nat) (bbNa : Nat) (bbN : Nat → Int64) (bbSa : Nat) (bbS : Nat → Int32) (bbB : Nat) (bbBEa : Nat) (bbBn : Nat) (bbBE : Nat → Int32) (bbBC : Int32) (bbBO : Bool) (bbK : Nat) (bbKWa : Nat) (bbKn : Nat) (bbKW : Nat → Int64) (bbKTa : Nat) (bbKT : Nat → Int32) (bbKC : Int32) (bbV : Nat) (bbVWa : Nat) (bbVn : Nat) (bbVW : Nat → Int64) (bbVTa : Nat) (bbVT : Nat → Int32) (bbVC : Int32) (bbT : Int32) (k0 : Int32) (res : Int32) (hd : D_HelpFile_about bbBn k0 hfO zvBC zvFC zvT bbS bbBE bbBC bbT res) : CtrR l y_HelpFile_about (Cond.code y_HelpFile_about b_HelpFile_about 3 (some .int) :: ga) { frames := 3, cells := 0, slots := 0, locals := 65 } (dC, dI) classes (Tys cI cL cZ) [.ref hf, .int k0] ((sh_HelpFile cI cL cZ hf hfS hfI hfR hfT hfC hfE (.ref zv) hfQ hfN hfD (.ref bb) hfO hfF hfY) ++ ((sh_Visits cI cL cZ zv zvB zvBEa zvBn zvBE zvBC zvBO zvF zvFEa zvFn zvFE zvFC zvFO zvT) ++ ((sh_Book cI cL cZ bb bbNa bbN bbSa bbS bbB bbBEa bbBn bbBE bbBC bbBO bbK bbKWa bbKn bbKW bbKTa bbKT bbKC bbV bbVWa bbVn bbVW bbVTa bbVT bbVC bbT)))) (some (.int res)) := by
  refine CtrR.ofW (by decide) (Nat.le_of_ble_eq_true rfl) ?_
  intro p e s m below meth c ls hx hb hr hml hown hlocks hts hK hN hP hD hl
  have hown : s.vm.findClass R_HelpFile = some m.cls := hown
  have hl : lv_has ls 3 [(0, .ref hf), (1, .int k0)] := hl
  refine lv_aload_n hx hb d_HelpFile_about_0 rfl (lv_at hl 0 rfl) ?_
  obtain ⟨c1, hd⟩ := hd
  refine ct_VR (As := []) (rest := []) (C := R_HelpFile) (ci := 0) (q := (R_HelpFile, F_HelpFile, 14)) ⟨hx, hb, hml, hown, hts⟩ fm_HelpFile_requireOpen (c_HelpFile_requireOpen l dC dI cI cL cZ hf hfS hfI hfR hfT hfC hfE (.ref zv) hfQ hfN hfD (.ref bb) hfO hfF hfY c1) k421_methodLink k422_instanceMethod k423_selects ⟨Nat.le_of_ble_eq_true rfl, Nat.le_of_ble_eq_true rfl⟩ rfl rfl hK hN hP hD [0] rfl rfl (by decide) 0 rfl rfl rfl rfl hl.1 rfl (Nat.le_of_ble_eq_true rfl) d_HelpFile_about_1 ?_
  refine lv_aload_n hx hb d_HelpFile_about_4 rfl (lv_at hl 0 rfl) ?_
  refine va_get (D := (dC, dI)) (ci := 0) (v := .ref zv) (C := R_HelpFile) (T := F_HelpFile) (N := 14) hx hb hts in_HelpFile hown hK hP 0 rfl rfl 6 (by decide) (hts _ (List.mem_cons_of_mem _ k397_fieldLink)) (fun _ h9 => h9) rfl d_HelpFile_about_5 ?_
  refine ct_VR (As := []) (rest := []) (C := R_Visits) (ci := 6) (q := (R_Visits, F_Visits, 3)) ⟨hx, hb, hml, hown, hts⟩ fm_Visits_topic (c_Visits_topic l dC dI cI cL cZ zv zvB zvBEa zvBn zvBE zvBC zvBO zvF zvFEa zvFn zvFE zvFC zvFO zvT zvT rfl) k431_methodLink k432_instanceMethod k433_selects ⟨Nat.le_of_ble_eq_true rfl, Nat.le_of_ble_eq_true rfl⟩ rfl rfl hK hN hP hD [1, 2, 3, 4, 5] rfl rfl (by decide) 1 rfl rfl rfl rfl hl.1 rfl (Nat.le_of_ble_eq_true rfl) d_HelpFile_about_8 ?_
  refine lv_istore_n (lv' := [(2, .int zvT), (0, .ref hf), (1, .int k0)]) hx hb d_HelpFile_about_11 rfl hl (by decide) rfl (fun ls hl => ?_)
  refine lv_iload_n hx hb d_HelpFile_about_12 rfl (lv_at hl 2 rfl) ?_
  by_cases h13_0 : k0 = 0
  · have hd := hd.1 h13_0
    refine lv_tableIn (tgt := 52) (off := 39) hx hb d_HelpFile_about_13 (by rw [h13_0]; decide) (by rw [h13_0]; decide) (by rw [h13_0]; rfl) (by decide) ?_
    refine lv_iload_n hx hb d_HelpFile_about_52 rfl (lv_at hl 0 rfl) ?_
    have e0 : res = zvT := hd
    subst e0
    exact ct_iretR hx hb hr hlocks d_HelpFile_about_53
  · have hd := hd.2 h13_0
    by_cases h13_1 : k0 = 1
    · have hd := hd.1 h13_1
      refine lv_tableIn (tgt := 54) (off := 41) hx hb d_HelpFile_about_13 (by rw [h13_1]; decide) (by rw [h13_1]; decide) (by rw [h13_1]; rfl) (by decide) ?_
      refine lv_aload_n hx hb d_HelpFile_about_54 rfl (lv_at hl 1 rfl) ?_
      refine va_get (D := (dC, dI)) (ci := 0) (v := .ref bb) (C := R_HelpFile) (T := F_HelpFile) (N := 14) hx hb hts in_HelpFile hown hK hP 0 rfl rfl 10 (by decide) (hts _ (List.mem_cons_of_mem _ k396_fieldLink)) (fun _ h9 => h9) rfl d_HelpFile_about_55 ?_
      refine ct_VR (As := []) (rest := []) (C := R_Book) (ci := 3) (q := (R_Book, F_Book, 6)) ⟨hx, hb, hml, hown, hts⟩ fm_Book_topics (c_Book_topics l dC dI cI cL cZ bb bbNa bbN bbSa bbS bbB bbBEa bbBn bbBE bbBC bbBO bbK bbKWa bbKn bbKW bbKTa bbKT bbKC bbV bbVWa bbVn bbVW bbVTa bbVT bbVC bbT bbT rfl) k424_methodLink k128_instanceMethod k129_selects ⟨Nat.le_of_ble_eq_true rfl, Nat.le_of_ble_eq_true rfl⟩ rfl rfl hK hN hP hD [6, 7, 8, 9, 10, 11, 12, 13, 14, 15, 16] rfl rfl (by decide) 6 rfl rfl rfl rfl hl.1 rfl (Nat.le_of_ble_eq_true rfl) d_HelpFile_about_58 ?_
      have e0 : res = bbT := hd
      subst e0
      exact ct_iretR hx hb hr hlocks d_HelpFile_about_61
    · have hd := hd.2 h13_1
      by_cases h13_2 : k0 = 2
      · have hd := hd.1 h13_2
        refine lv_tableIn (tgt := 62) (off := 49) hx hb d_HelpFile_about_13 (by rw [h13_2]; decide) (by rw [h13_2]; decide) (by rw [h13_2]; rfl) (by decide) ?_
        refine lv_aload_n hx hb d_HelpFile_about_62 rfl (lv_at hl 1 rfl) ?_
        refine va_get (D := (dC, dI)) (ci := 0) (v := .ref bb) (C := R_HelpFile) (T := F_HelpFile) (N := 14) hx hb hts in_HelpFile hown hK hP 0 rfl rfl 10 (by decide) (hts _ (List.mem_cons_of_mem _ k396_fieldLink)) (fun _ h9 => h9) rfl d_HelpFile_about_63 ?_
        refine lv_iload_n hx hb d_HelpFile_about_66 rfl (lv_at hl 0 rfl) ?_
        obtain ⟨r67, c67, hd⟩ := hd
        refine ct_VR (As := [.int zvT]) (rest := []) (C := R_Book) (ci := 3) (q := (R_Book, F_Book, 6)) ⟨hx, hb, hml, hown, hts⟩ fm_Book_links (c_Book_links l dC dI cI cL cZ bb bbNa bbN bbSa bbS bbB bbBEa bbBn bbBE bbBC bbBO bbK bbKWa bbKn bbKW bbKTa bbKT bbKC bbV bbVWa bbVn bbVW bbVTa bbVT bbVC bbT zvT r67 c67) k449_methodLink k450_instanceMethod k451_selects ⟨Nat.le_of_ble_eq_true rfl, Nat.le_of_ble_eq_true rfl⟩ rfl rfl hK hN hP hD [6, 7, 8, 9, 10, 11, 12, 13, 14, 15, 16] rfl rfl (by decide) 6 rfl rfl rfl rfl hl.1 rfl (Nat.le_of_ble_eq_true rfl) d_HelpFile_about_67 ?_
        have e0 : res = r67 := hd
        subst e0
        exact ct_iretR hx hb hr hlocks d_HelpFile_about_70
      · have hd := hd.2 h13_2
        by_cases h13_3 : k0 = 3
        · have hd := hd.1 h13_3
          refine lv_tableIn (tgt := 71) (off := 58) hx hb d_HelpFile_about_13 (by rw [h13_3]; decide) (by rw [h13_3]; decide) (by rw [h13_3]; rfl) (by decide) ?_
          refine lv_aload_n hx hb d_HelpFile_about_71 rfl (lv_at hl 1 rfl) ?_
          refine va_get (D := (dC, dI)) (ci := 0) (v := .ref zv) (C := R_HelpFile) (T := F_HelpFile) (N := 14) hx hb hts in_HelpFile hown hK hP 0 rfl rfl 6 (by decide) (hts _ (List.mem_cons_of_mem _ k397_fieldLink)) (fun _ h9 => h9) rfl d_HelpFile_about_72 ?_
          refine ct_VR (As := []) (rest := []) (C := R_Visits) (ci := 6) (q := (R_Visits, F_Visits, 3)) ⟨hx, hb, hml, hown, hts⟩ fm_Visits_backCount (c_Visits_backCount l dC dI cI cL cZ zv zvB zvBEa zvBn zvBE zvBC zvBO zvF zvFEa zvFn zvFE zvFC zvFO zvT zvBC rfl) k437_methodLink k438_instanceMethod k439_selects ⟨Nat.le_of_ble_eq_true rfl, Nat.le_of_ble_eq_true rfl⟩ rfl rfl hK hN hP hD [1, 2, 3, 4, 5] rfl rfl (by decide) 1 rfl rfl rfl rfl hl.1 rfl (Nat.le_of_ble_eq_true rfl) d_HelpFile_about_75 ?_
          have e0 : res = zvBC := hd
          subst e0
          exact ct_iretR hx hb hr hlocks d_HelpFile_about_78
        · have hd := hd.2 h13_3
          by_cases h13_4 : k0 = 4
          · have hd := hd.1 h13_4
            refine lv_tableIn (tgt := 79) (off := 66) hx hb d_HelpFile_about_13 (by rw [h13_4]; decide) (by rw [h13_4]; decide) (by rw [h13_4]; rfl) (by decide) ?_
            refine lv_aload_n hx hb d_HelpFile_about_79 rfl (lv_at hl 1 rfl) ?_
            refine va_get (D := (dC, dI)) (ci := 0) (v := .ref zv) (C := R_HelpFile) (T := F_HelpFile) (N := 14) hx hb hts in_HelpFile hown hK hP 0 rfl rfl 6 (by decide) (hts _ (List.mem_cons_of_mem _ k397_fieldLink)) (fun _ h9 => h9) rfl d_HelpFile_about_80 ?_
            refine ct_VR (As := []) (rest := []) (C := R_Visits) (ci := 6) (q := (R_Visits, F_Visits, 3)) ⟨hx, hb, hml, hown, hts⟩ fm_Visits_forwardCount (c_Visits_forwardCount l dC dI cI cL cZ zv zvB zvBEa zvBn zvBE zvBC zvBO zvF zvFEa zvFn zvFE zvFC zvFO zvT zvFC rfl) k440_methodLink k441_instanceMethod k442_selects ⟨Nat.le_of_ble_eq_true rfl, Nat.le_of_ble_eq_true rfl⟩ rfl rfl hK hN hP hD [1, 2, 3, 4, 5] rfl rfl (by decide) 1 rfl rfl rfl rfl hl.1 rfl (Nat.le_of_ble_eq_true rfl) d_HelpFile_about_83 ?_
            have e0 : res = zvFC := hd
            subst e0
            exact ct_iretR hx hb hr hlocks d_HelpFile_about_86
          · have hd := hd.2 h13_4
            by_cases h13_5 : k0 = 5
            · have hd := hd.1 h13_5
              refine lv_tableIn (tgt := 87) (off := 74) hx hb d_HelpFile_about_13 (by rw [h13_5]; decide) (by rw [h13_5]; decide) (by rw [h13_5]; rfl) (by decide) ?_
              refine lv_aload_n hx hb d_HelpFile_about_87 rfl (lv_at hl 1 rfl) ?_
              refine va_get (D := (dC, dI)) (ci := 0) (v := .ref bb) (C := R_HelpFile) (T := F_HelpFile) (N := 14) hx hb hts in_HelpFile hown hK hP 0 rfl rfl 10 (by decide) (hts _ (List.mem_cons_of_mem _ k396_fieldLink)) (fun _ h9 => h9) rfl d_HelpFile_about_88 ?_
              refine lv_iload_n hx hb d_HelpFile_about_91 rfl (lv_at hl 0 rfl) ?_
              obtain ⟨r92, c92, hd⟩ := hd
              refine ct_VR (As := [.int zvT]) (rest := []) (C := R_Book) (ci := 3) (q := (R_Book, F_Book, 6)) ⟨hx, hb, hml, hown, hts⟩ fm_Book_bodyLength (c_Book_bodyLength l dC dI cI cL cZ bb bbNa bbN bbSa bbS bbB bbBEa bbBn bbBE bbBC bbBO bbK bbKWa bbKn bbKW bbKTa bbKT bbKC bbV bbVWa bbVn bbVW bbVTa bbVT bbVC bbT zvT r92 c92) k452_methodLink k89_instanceMethod k90_selects ⟨Nat.le_of_ble_eq_true rfl, Nat.le_of_ble_eq_true rfl⟩ rfl rfl hK hN hP hD [6, 7, 8, 9, 10, 11, 12, 13, 14, 15, 16] rfl rfl (by decide) 6 rfl rfl rfl rfl hl.1 rfl (Nat.le_of_ble_eq_true rfl) d_HelpFile_about_92 ?_
              have e0 : res = r92 := hd
              subst e0
              exact ct_iretR hx hb hr hlocks d_HelpFile_about_95
            · have hd := hd.2 h13_5
              have a_h13_0 := lv_neT (a := 0) h13_0 (by decide)
              have a_h13_1 := lv_neT (a := 1) h13_1 (by decide)
              have a_h13_2 := lv_neT (a := 2) h13_2 (by decide)
              have a_h13_3 := lv_neT (a := 3) h13_3 (by decide)
              have a_h13_4 := lv_neT (a := 4) h13_4 (by decide)
              have a_h13_5 := lv_neT (a := 5) h13_5 (by decide)
              refine lv_tableOut (tgt := 96) hx hb d_HelpFile_about_13 (by omega) (by decide) ?_
              exact False.elim hd
def X_HelpFile_about (bbBn : Nat) (k0 : Int32) (hfO : Bool) (zvT : Int32) (bbS : Nat → Int32) (bbBE : Nat → Int32) (bbBC : Int32) (bbT : Int32) (xc : String) : Prop := ((D_HelpFile_requireOpen hfO ∧ ((k0 = 0 → False) ∧ (¬ k0 = 0 → ((k0 = 1 → False) ∧ (¬ k0 = 1 → ((k0 = 2 → (∃ r67 : Int32, D_Book_links bbBn zvT bbS bbBE bbBC bbT r67 ∧ False)) ∧ (¬ k0 = 2 → ((k0 = 3 → False) ∧ (¬ k0 = 3 → ((k0 = 4 → False) ∧ (¬ k0 = 4 → ((k0 = 5 → (∃ r92 : Int32, D_Book_bodyLength zvT bbS bbT r92 ∧ False)) ∧ (¬ k0 = 5 → (xc = "java/lang/IllegalArgumentException")))))))))))))) ∨ X_HelpFile_requireOpen hfO xc)
theorem d_HelpFile_about_99 : decode b_HelpFile_about 99 = .ok (.dup, 1) := by decide +kernel
theorem d_HelpFile_about_100 : decode b_HelpFile_about 100 = .ok (.ldc 192, 2) := by decide +kernel
theorem d_HelpFile_about_102 : decode b_HelpFile_about 102 = .ok (.invokespecial 91, 3) := by decide +kernel
theorem d_HelpFile_about_105 : decode b_HelpFile_about 105 = .ok (.athrow, 1) := by decide +kernel
set_option maxHeartbeats 4000000 in
set_option maxRecDepth 100000 in
theorem x_HelpFile_about (l : Launch) (htr : ∀ e : Env, l.admits e → e.platform.stackTraces = false) (dC : Nat → ClassId) (dI : Nat → Nat → Nat) (cI cL cZ : ClassId) (hf : Nat) (hfS : Value) (hfI : Value) (hfR : Value) (hfT : Value) (hfC : Value) (hfE : Value) (hfQ : Value) (hfN : Value) (hfD : Value) (hfO : Bool) (hfF : Int32) (hfY : Int32) (zv : Nat) (zvB : Nat) (zvBEa : Nat) (zvBn : Nat) (zvBE : Nat → Int32) (zvBC : Int32) (zvBO : Bool) (zvF : Nat) (zvFEa : Nat) (zvFn : Nat) (zvFE : Nat → Int32) (zvFC : Int32) (zvFO : Bool) (zvT : Int32) (bb : Nat) (bbNa : Nat) (bbN : Nat → Int64) (bbSa : Nat) (bbS : Nat → Int32) (bbB : Nat) (bbBEa : Nat) (bbBn : Nat) (bbBE : Nat → Int32) (bbBC : Int32) (bbBO : Bool) (bbK : Nat) (bbKWa : Nat) (bbKn : Nat) (bbKW : Nat → Int64) (bbKTa : Nat) (bbKT : Nat → Int32) (bbKC : Int32) (bbV : Nat) (bbVWa : Nat) (bbVn : Nat) (bbVW : Nat → Int64) (bbVTa : Nat) (bbVT : Nat → Int32) (bbVC : Int32) (bbT : Int32) (k0 : Int32) (xc : String) (hd : X_HelpFile_about bbBn k0 hfO zvT bbS bbBE bbBC bbT xc) : CtT l y_HelpFile_about (Cond.code y_HelpFile_about b_HelpFile_about 3 (some .int) :: ga) { frames := 7, cells := 1, slots := 6, locals := 102 } (dC, dI) classes (Tys cI cL cZ) [.ref hf, .int k0] ((sh_HelpFile cI cL cZ hf hfS hfI hfR hfT hfC hfE (.ref zv) hfQ hfN hfD (.ref bb) hfO hfF hfY) ++ ((sh_Visits cI cL cZ zv zvB zvBEa zvBn zvBE zvBC zvBO zvF zvFEa zvFn zvFE zvFC zvFO zvT) ++ ((sh_Book cI cL cZ bb bbNa bbN bbSa bbS bbB bbBEa bbBn bbBE bbBC bbBO bbK bbKWa bbKn bbKW bbKTa bbKT bbKC bbV bbVWa bbVn bbVW bbVTa bbVT bbVC bbT)))) xc := by
  refine CtT.ofW (by decide) (Nat.le_of_ble_eq_true rfl) ?_
  intro p e s m below meth c A ls hx hb hr hml hown hlocks hnh hts hK hN hZ hT hA hP hD hl
  have hown : s.vm.findClass R_HelpFile = some m.cls := hown
  have hl : lv_has ls 3 [(0, .ref hf), (1, .int k0)] := hl
  refine lv_aload_n hx hb d_HelpFile_about_0 rfl (lv_at hl 0 rfl) ?_
  rcases hd with hd | hd
  · skip
    obtain ⟨c1, hd⟩ := hd
    refine ct_VR (As := []) (rest := []) (C := R_HelpFile) (ci := 0) (q := (R_HelpFile, F_HelpFile, 14)) ⟨hx, hb, hml, hown, hts⟩ fm_HelpFile_requireOpen (c_HelpFile_requireOpen l dC dI cI cL cZ hf hfS hfI hfR hfT hfC hfE (.ref zv) hfQ hfN hfD (.ref bb) hfO hfF hfY c1) k421_methodLink k422_instanceMethod k423_selects ⟨Nat.le_of_ble_eq_true rfl, Nat.le_of_ble_eq_true rfl⟩ rfl rfl hK hN hP hD [0] rfl rfl (by decide) 0 rfl rfl rfl rfl hl.1 rfl (Nat.le_of_ble_eq_true rfl) d_HelpFile_about_1 ?_
    refine lv_aload_n hx hb d_HelpFile_about_4 rfl (lv_at hl 0 rfl) ?_
    refine va_get (D := (dC, dI)) (ci := 0) (v := .ref zv) (C := R_HelpFile) (T := F_HelpFile) (N := 14) hx hb hts in_HelpFile hown hK hP 0 rfl rfl 6 (by decide) (hts _ (List.mem_cons_of_mem _ k397_fieldLink)) (fun _ h9 => h9) rfl d_HelpFile_about_5 ?_
    refine ct_VR (As := []) (rest := []) (C := R_Visits) (ci := 6) (q := (R_Visits, F_Visits, 3)) ⟨hx, hb, hml, hown, hts⟩ fm_Visits_topic (c_Visits_topic l dC dI cI cL cZ zv zvB zvBEa zvBn zvBE zvBC zvBO zvF zvFEa zvFn zvFE zvFC zvFO zvT zvT rfl) k431_methodLink k432_instanceMethod k433_selects ⟨Nat.le_of_ble_eq_true rfl, Nat.le_of_ble_eq_true rfl⟩ rfl rfl hK hN hP hD [1, 2, 3, 4, 5] rfl rfl (by decide) 1 rfl rfl rfl rfl hl.1 rfl (Nat.le_of_ble_eq_true rfl) d_HelpFile_about_8 ?_
    refine lv_istore_n (lv' := [(2, .int zvT), (0, .ref hf), (1, .int k0)]) hx hb d_HelpFile_about_11 rfl hl (by decide) rfl (fun ls hl => ?_)
    refine lv_iload_n hx hb d_HelpFile_about_12 rfl (lv_at hl 2 rfl) ?_
    by_cases h13_0 : k0 = 0
    · have hd := hd.1 h13_0
      refine lv_tableIn (tgt := 52) (off := 39) hx hb d_HelpFile_about_13 (by rw [h13_0]; decide) (by rw [h13_0]; decide) (by rw [h13_0]; rfl) (by decide) ?_
      refine lv_iload_n hx hb d_HelpFile_about_52 rfl (lv_at hl 0 rfl) ?_
      exact False.elim hd
    · have hd := hd.2 h13_0
      by_cases h13_1 : k0 = 1
      · have hd := hd.1 h13_1
        refine lv_tableIn (tgt := 54) (off := 41) hx hb d_HelpFile_about_13 (by rw [h13_1]; decide) (by rw [h13_1]; decide) (by rw [h13_1]; rfl) (by decide) ?_
        refine lv_aload_n hx hb d_HelpFile_about_54 rfl (lv_at hl 1 rfl) ?_
        refine va_get (D := (dC, dI)) (ci := 0) (v := .ref bb) (C := R_HelpFile) (T := F_HelpFile) (N := 14) hx hb hts in_HelpFile hown hK hP 0 rfl rfl 10 (by decide) (hts _ (List.mem_cons_of_mem _ k396_fieldLink)) (fun _ h9 => h9) rfl d_HelpFile_about_55 ?_
        refine ct_VR (As := []) (rest := []) (C := R_Book) (ci := 3) (q := (R_Book, F_Book, 6)) ⟨hx, hb, hml, hown, hts⟩ fm_Book_topics (c_Book_topics l dC dI cI cL cZ bb bbNa bbN bbSa bbS bbB bbBEa bbBn bbBE bbBC bbBO bbK bbKWa bbKn bbKW bbKTa bbKT bbKC bbV bbVWa bbVn bbVW bbVTa bbVT bbVC bbT bbT rfl) k424_methodLink k128_instanceMethod k129_selects ⟨Nat.le_of_ble_eq_true rfl, Nat.le_of_ble_eq_true rfl⟩ rfl rfl hK hN hP hD [6, 7, 8, 9, 10, 11, 12, 13, 14, 15, 16] rfl rfl (by decide) 6 rfl rfl rfl rfl hl.1 rfl (Nat.le_of_ble_eq_true rfl) d_HelpFile_about_58 ?_
        exact False.elim hd
      · have hd := hd.2 h13_1
        by_cases h13_2 : k0 = 2
        · have hd := hd.1 h13_2
          refine lv_tableIn (tgt := 62) (off := 49) hx hb d_HelpFile_about_13 (by rw [h13_2]; decide) (by rw [h13_2]; decide) (by rw [h13_2]; rfl) (by decide) ?_
          refine lv_aload_n hx hb d_HelpFile_about_62 rfl (lv_at hl 1 rfl) ?_
          refine va_get (D := (dC, dI)) (ci := 0) (v := .ref bb) (C := R_HelpFile) (T := F_HelpFile) (N := 14) hx hb hts in_HelpFile hown hK hP 0 rfl rfl 10 (by decide) (hts _ (List.mem_cons_of_mem _ k396_fieldLink)) (fun _ h9 => h9) rfl d_HelpFile_about_63 ?_
          refine lv_iload_n hx hb d_HelpFile_about_66 rfl (lv_at hl 0 rfl) ?_
          obtain ⟨r67, c67, hd⟩ := hd
          refine ct_VR (As := [.int zvT]) (rest := []) (C := R_Book) (ci := 3) (q := (R_Book, F_Book, 6)) ⟨hx, hb, hml, hown, hts⟩ fm_Book_links (c_Book_links l dC dI cI cL cZ bb bbNa bbN bbSa bbS bbB bbBEa bbBn bbBE bbBC bbBO bbK bbKWa bbKn bbKW bbKTa bbKT bbKC bbV bbVWa bbVn bbVW bbVTa bbVT bbVC bbT zvT r67 c67) k449_methodLink k450_instanceMethod k451_selects ⟨Nat.le_of_ble_eq_true rfl, Nat.le_of_ble_eq_true rfl⟩ rfl rfl hK hN hP hD [6, 7, 8, 9, 10, 11, 12, 13, 14, 15, 16] rfl rfl (by decide) 6 rfl rfl rfl rfl hl.1 rfl (Nat.le_of_ble_eq_true rfl) d_HelpFile_about_67 ?_
          exact False.elim hd
        · have hd := hd.2 h13_2
          by_cases h13_3 : k0 = 3
          · have hd := hd.1 h13_3
            refine lv_tableIn (tgt := 71) (off := 58) hx hb d_HelpFile_about_13 (by rw [h13_3]; decide) (by rw [h13_3]; decide) (by rw [h13_3]; rfl) (by decide) ?_
            refine lv_aload_n hx hb d_HelpFile_about_71 rfl (lv_at hl 1 rfl) ?_
            refine va_get (D := (dC, dI)) (ci := 0) (v := .ref zv) (C := R_HelpFile) (T := F_HelpFile) (N := 14) hx hb hts in_HelpFile hown hK hP 0 rfl rfl 6 (by decide) (hts _ (List.mem_cons_of_mem _ k397_fieldLink)) (fun _ h9 => h9) rfl d_HelpFile_about_72 ?_
            refine ct_VR (As := []) (rest := []) (C := R_Visits) (ci := 6) (q := (R_Visits, F_Visits, 3)) ⟨hx, hb, hml, hown, hts⟩ fm_Visits_backCount (c_Visits_backCount l dC dI cI cL cZ zv zvB zvBEa zvBn zvBE zvBC zvBO zvF zvFEa zvFn zvFE zvFC zvFO zvT zvBC rfl) k437_methodLink k438_instanceMethod k439_selects ⟨Nat.le_of_ble_eq_true rfl, Nat.le_of_ble_eq_true rfl⟩ rfl rfl hK hN hP hD [1, 2, 3, 4, 5] rfl rfl (by decide) 1 rfl rfl rfl rfl hl.1 rfl (Nat.le_of_ble_eq_true rfl) d_HelpFile_about_75 ?_
            exact False.elim hd
          · have hd := hd.2 h13_3
            by_cases h13_4 : k0 = 4
            · have hd := hd.1 h13_4
              refine lv_tableIn (tgt := 79) (off := 66) hx hb d_HelpFile_about_13 (by rw [h13_4]; decide) (by rw [h13_4]; decide) (by rw [h13_4]; rfl) (by decide) ?_
              refine lv_aload_n hx hb d_HelpFile_about_79 rfl (lv_at hl 1 rfl) ?_
              refine va_get (D := (dC, dI)) (ci := 0) (v := .ref zv) (C := R_HelpFile) (T := F_HelpFile) (N := 14) hx hb hts in_HelpFile hown hK hP 0 rfl rfl 6 (by decide) (hts _ (List.mem_cons_of_mem _ k397_fieldLink)) (fun _ h9 => h9) rfl d_HelpFile_about_80 ?_
              refine ct_VR (As := []) (rest := []) (C := R_Visits) (ci := 6) (q := (R_Visits, F_Visits, 3)) ⟨hx, hb, hml, hown, hts⟩ fm_Visits_forwardCount (c_Visits_forwardCount l dC dI cI cL cZ zv zvB zvBEa zvBn zvBE zvBC zvBO zvF zvFEa zvFn zvFE zvFC zvFO zvT zvFC rfl) k440_methodLink k441_instanceMethod k442_selects ⟨Nat.le_of_ble_eq_true rfl, Nat.le_of_ble_eq_true rfl⟩ rfl rfl hK hN hP hD [1, 2, 3, 4, 5] rfl rfl (by decide) 1 rfl rfl rfl rfl hl.1 rfl (Nat.le_of_ble_eq_true rfl) d_HelpFile_about_83 ?_
              exact False.elim hd
            · have hd := hd.2 h13_4
              by_cases h13_5 : k0 = 5
              · have hd := hd.1 h13_5
                refine lv_tableIn (tgt := 87) (off := 74) hx hb d_HelpFile_about_13 (by rw [h13_5]; decide) (by rw [h13_5]; decide) (by rw [h13_5]; rfl) (by decide) ?_
                refine lv_aload_n hx hb d_HelpFile_about_87 rfl (lv_at hl 1 rfl) ?_
                refine va_get (D := (dC, dI)) (ci := 0) (v := .ref bb) (C := R_HelpFile) (T := F_HelpFile) (N := 14) hx hb hts in_HelpFile hown hK hP 0 rfl rfl 10 (by decide) (hts _ (List.mem_cons_of_mem _ k396_fieldLink)) (fun _ h9 => h9) rfl d_HelpFile_about_88 ?_
                refine lv_iload_n hx hb d_HelpFile_about_91 rfl (lv_at hl 0 rfl) ?_
                obtain ⟨r92, c92, hd⟩ := hd
                refine ct_VR (As := [.int zvT]) (rest := []) (C := R_Book) (ci := 3) (q := (R_Book, F_Book, 6)) ⟨hx, hb, hml, hown, hts⟩ fm_Book_bodyLength (c_Book_bodyLength l dC dI cI cL cZ bb bbNa bbN bbSa bbS bbB bbBEa bbBn bbBE bbBC bbBO bbK bbKWa bbKn bbKW bbKTa bbKT bbKC bbV bbVWa bbVn bbVW bbVTa bbVT bbVC bbT zvT r92 c92) k452_methodLink k89_instanceMethod k90_selects ⟨Nat.le_of_ble_eq_true rfl, Nat.le_of_ble_eq_true rfl⟩ rfl rfl hK hN hP hD [6, 7, 8, 9, 10, 11, 12, 13, 14, 15, 16] rfl rfl (by decide) 6 rfl rfl rfl rfl hl.1 rfl (Nat.le_of_ble_eq_true rfl) d_HelpFile_about_92 ?_
                exact False.elim hd
              · have hd := hd.2 h13_5
                have a_h13_0 := lv_neT (a := 0) h13_0 (by decide)
                have a_h13_1 := lv_neT (a := 1) h13_1 (by decide)
                have a_h13_2 := lv_neT (a := 2) h13_2 (by decide)
                have a_h13_3 := lv_neT (a := 3) h13_3 (by decide)
                have a_h13_4 := lv_neT (a := 4) h13_4 (by decide)
                have a_h13_5 := lv_neT (a := 5) h13_5 (by decide)
                refine lv_tableOut (tgt := 96) hx hb d_HelpFile_about_13 (by omega) (by decide) ?_
                have e0 : xc = "java/lang/IllegalArgumentException" := hd
                subst e0
                obtain ⟨q9, hq9⟩ := hT.1 (192, "nothing is told about that") (by decide +kernel)
                exact ct_throw htr hx hb hml hl.1 hown hlocks hnh hts hZ hT oa_2 (by decide +kernel) (by decide +kernel) k411_classLink k412_instantiable k413_initialized hq9 d_HelpFile_about_96 d_HelpFile_about_99 d_HelpFile_about_100 d_HelpFile_about_102 d_HelpFile_about_105 (by decide) (by decide) (by decide) (by decide)
  · exact ct_VT (As := []) (rest := []) (C := R_HelpFile) (ci := 0) (q := (R_HelpFile, F_HelpFile, 14)) ⟨hx, hb, hml, hown, hts⟩ hlocks hnh fm_HelpFile_requireOpen (x_HelpFile_requireOpen l htr dC dI cI cL cZ hf hfS hfI hfR hfT hfC hfE (.ref zv) hfQ hfN hfD (.ref bb) hfO hfF hfY xc hd) k421_methodLink k422_instanceMethod k423_selects ⟨Nat.le_of_ble_eq_true rfl, Nat.le_of_ble_eq_true rfl⟩ (by decide) (by decide) hK hN hZ hT hA hP hD [0] rfl rfl (by decide) 0 rfl rfl rfl rfl hl.1 rfl (Nat.le_of_ble_eq_true rfl) d_HelpFile_about_1
-- HelpFile.type
abbrev b_HelpFile_type : ByteArray := prog_1_method_13_code
def y_HelpFile_type : MethodName := ⟨"HelpFile", "type", "(I)I"⟩
theorem k453_fieldLink : Cond.fieldLink "HelpFile" 24 "HelpFile" "typed" "LHelpFile$Row;" ∈ ga := ga_t 229 (by decide +kernel) rfl
set_option maxRecDepth 100000 in
theorem fm_HelpFile_type : Fm y_HelpFile_type b_HelpFile_type 2 (some .int) 1 := ⟨ga_t 905 rfl rfl, k54_initialized, by decide, by decide, by decide +kernel⟩
def D_HelpFile_type (ztn : Nat) (k0 : Int32) (ztE : Nat → Int32) (ztC : Int32) (ztO : Bool) (res : Int32) (ztE' : Nat → Int32) (ztC' : Int32) (ztO' : Bool) : Prop := (∃ r1 : Bool, D_HelpFile_isTyped k0 r1 ∧ (((bI r1) = 0 → False) ∧ (¬ ((bI r1) = 0) → ((ztC < 40 → (∃ ztE_44 : Nat → Int32, ∃ ztC_44 : Int32, ∃ ztO_44 : Bool, D_Row_append ztn k0 ztE ztC ztO ztE_44 ztC_44 ztO_44 ∧ (res = ztC_44 ∧ ztE' = ztE_44 ∧ ztC' = ztC_44 ∧ ztO' = ztO_44))) ∧ (¬ (ztC < 40) → False)))))
theorem d_HelpFile_type_0 : decode b_HelpFile_type 0 = .ok (.iload_n 1, 1) := by decide +kernel
theorem d_HelpFile_type_1 : decode b_HelpFile_type 1 = .ok (.invokestatic 83, 3) := by decide +kernel
theorem d_HelpFile_type_4 : decode b_HelpFile_type 4 = .ok (.ifCond .ne 13, 3) := by decide +kernel
theorem d_HelpFile_type_7 : decode b_HelpFile_type 7 = .ok (.new 87, 3) := by decide +kernel
theorem d_HelpFile_type_17 : decode b_HelpFile_type 17 = .ok (.aload_n 0, 1) := by decide +kernel
theorem d_HelpFile_type_18 : decode b_HelpFile_type 18 = .ok (.getfield 24, 3) := by decide +kernel
theorem d_HelpFile_type_21 : decode b_HelpFile_type 21 = .ok (.invokevirtual 94, 3) := by decide +kernel
theorem d_HelpFile_type_24 : decode b_HelpFile_type 24 = .ok (.bipush 40, 2) := by decide +kernel
theorem d_HelpFile_type_26 : decode b_HelpFile_type 26 = .ok (.if_icmp .lt 13, 3) := by decide +kernel
theorem d_HelpFile_type_29 : decode b_HelpFile_type 29 = .ok (.new 98, 3) := by decide +kernel
theorem d_HelpFile_type_39 : decode b_HelpFile_type 39 = .ok (.aload_n 0, 1) := by decide +kernel
theorem d_HelpFile_type_40 : decode b_HelpFile_type 40 = .ok (.getfield 24, 3) := by decide +kernel
theorem d_HelpFile_type_43 : decode b_HelpFile_type 43 = .ok (.iload_n 1, 1) := by decide +kernel
theorem d_HelpFile_type_44 : decode b_HelpFile_type 44 = .ok (.invokevirtual 103, 3) := by decide +kernel
theorem d_HelpFile_type_47 : decode b_HelpFile_type 47 = .ok (.aload_n 0, 1) := by decide +kernel
theorem d_HelpFile_type_48 : decode b_HelpFile_type 48 = .ok (.getfield 24, 3) := by decide +kernel
theorem d_HelpFile_type_51 : decode b_HelpFile_type 51 = .ok (.invokevirtual 94, 3) := by decide +kernel
theorem d_HelpFile_type_54 : decode b_HelpFile_type 54 = .ok (.ireturn, 1) := by decide +kernel
set_option maxHeartbeats 4000000 in
set_option maxRecDepth 100000 in
theorem c_HelpFile_type (l : Launch) (dC : Nat → ClassId) (dI : Nat → Nat → Nat) (cI cL cZ : ClassId) (hf : Nat) (hfS : Value) (hfI : Value) (hfR : Value) (hfC : Value) (hfE : Value) (hfV : Value) (hfQ : Value) (hfN : Value) (hfD : Value) (hfB : Value) (hfO : Bool) (hfF : Int32) (hfY : Int32) (zt : Nat) (ztEa : Nat) (ztn : Nat) (ztE : Nat → Int32) (ztC : Int32) (ztO : Bool) (k0 : Int32) (res : Int32) (ztE' : Nat → Int32) (ztC' : Int32) (ztO' : Bool) (hd : D_HelpFile_type ztn k0 ztE ztC ztO res ztE' ztC' ztO') : Ctr l y_HelpFile_type (Cond.code y_HelpFile_type b_HelpFile_type 2 (some .int) :: ga) { frames := 1, cells := 0, slots := 0, locals := 21 } (dC, dI) classes (Tys cI cL cZ) [.ref hf, .int k0] ((sh_HelpFile cI cL cZ hf hfS hfI hfR (.ref zt) hfC hfE hfV hfQ hfN hfD hfB hfO hfF hfY) ++ ((sh_Row cI cL cZ zt ztEa ztn ztE ztC ztO))) (some (.int res)) ((sh_HelpFile cI cL cZ hf hfS hfI hfR (.ref zt) hfC hfE hfV hfQ hfN hfD hfB hfO hfF hfY) ++ ((sh_Row cI cL cZ zt ztEa ztn ztE' ztC' ztO'))) := by
  refine Ctr.ofW (by decide) (Nat.le_of_ble_eq_true rfl) ?_
  intro p e s m below meth c A ls hx hb hr hml hown hlocks hts hK hN hA hP hD hS hl
  have hown : s.vm.findClass R_HelpFile = some m.cls := hown
  have hl : lv_has ls 2 [(0, .ref hf), (1, .int k0)] := hl
  refine lv_iload_n hx hb d_HelpFile_type_0 rfl (lv_at hl 1 rfl) ?_
  obtain ⟨r1, c1, hd⟩ := hd
  refine ct_SR (As := [.int k0]) (rest := []) ⟨hx, hb, hml, hown, hts⟩ fm_HelpFile_isTyped (c_HelpFile_isTyped l dC dI cI cL cZ k0 r1 c1) k406_methodLink k87_static ⟨Nat.le_of_ble_eq_true rfl, Nat.le_of_ble_eq_true rfl⟩ rfl rfl hK hN hP hD [] rfl rfl (by decide) rfl hl.1 rfl (Nat.le_of_ble_eq_true rfl) d_HelpFile_type_1 ?_
  refine lv_if_ne (tgt := 17) hx hb d_HelpFile_type_4 (by decide) (fun h4 => ?_) (fun h4 => ?_)
  · have hd := hd.2 h4
    refine lv_aload_n hx hb d_HelpFile_type_17 rfl (lv_at hl 0 rfl) ?_
    refine va_get (D := (dC, dI)) (ci := 0) (v := .ref zt) (C := R_HelpFile) (T := F_HelpFile) (N := 14) hx hb hts in_HelpFile hown hK hP 0 rfl rfl 3 (by decide) (hts _ (List.mem_cons_of_mem _ k453_fieldLink)) (fun _ h9 => h9) rfl d_HelpFile_type_18 ?_
    refine ct_VR (As := []) (rest := []) (C := R_Row) (ci := 1) (q := (R_Row, F_Row, 3)) ⟨hx, hb, hml, hown, hts⟩ fm_Row_count (c_Row_count l dC dI cI cL cZ zt ztEa ztn ztE ztC ztO ztC rfl) k405_methodLink k67_instanceMethod k68_selects ⟨Nat.le_of_ble_eq_true rfl, Nat.le_of_ble_eq_true rfl⟩ rfl rfl hK hN hP hD [1, 2] rfl rfl (by decide) 1 rfl rfl rfl rfl hl.1 rfl (Nat.le_of_ble_eq_true rfl) d_HelpFile_type_21 ?_
    refine lv_bipush (v := 40) hx hb d_HelpFile_type_24 (by decide) ?_
    refine lv_icmp_lt (tgt := 39) hx hb d_HelpFile_type_26 (by decide) (fun h26 => ?_) (fun h26 => ?_)
    · have hd := hd.1 h26
      refine lv_aload_n hx hb d_HelpFile_type_39 rfl (lv_at hl 0 rfl) ?_
      refine va_get (D := (dC, dI)) (ci := 0) (v := .ref zt) (C := R_HelpFile) (T := F_HelpFile) (N := 14) hx hb hts in_HelpFile hown hK hP 0 rfl rfl 3 (by decide) (hts _ (List.mem_cons_of_mem _ k453_fieldLink)) (fun _ h9 => h9) rfl d_HelpFile_type_40 ?_
      refine lv_iload_n hx hb d_HelpFile_type_43 rfl (lv_at hl 1 rfl) ?_
      obtain ⟨ztE_44, ztC_44, ztO_44, c44, hd⟩ := hd
      refine ct_V (As := [.int k0]) (rest := []) (C := R_Row) (ci := 1) (q := (R_Row, F_Row, 3)) ⟨hx, hb, hml, hown, hts⟩ fm_Row_append (c_Row_append l dC dI cI cL cZ zt ztEa ztn ztE ztC ztO k0 ztE_44 ztC_44 ztO_44 c44) k407_methodLink k8_instanceMethod k9_selects ⟨Nat.le_of_ble_eq_true rfl, Nat.le_of_ble_eq_true rfl⟩ rfl rfl hK hN hP hD hS hA [1, 2] [0] rfl rfl rfl (by decide) (by decide) (by decide) 1 rfl rfl rfl rfl hl.1 rfl (Nat.le_of_ble_eq_true rfl) d_HelpFile_type_44 (fun H locs hP hD hS => ?_)
      have hP : va_P (dC, dI) classes ((sh_HelpFile cI cL cZ hf hfS hfI hfR (.ref zt) hfC hfE hfV hfQ hfN hfD hfB hfO hfF hfY) ++ ((sh_Row cI cL cZ zt ztEa ztn ztE_44 ztC_44 ztO_44))) H := hP.sub [0, 1, 2] rfl
      have hD : va_D A ((sh_HelpFile cI cL cZ hf hfS hfI hfR (.ref zt) hfC hfE hfV hfQ hfN hfD hfB hfO hfF hfY) ++ ((sh_Row cI cL cZ zt ztEa ztn ztE_44 ztC_44 ztO_44))) := hD.sub [0, 1, 2] (by decide) rfl
      refine lv_aload_n hx hb d_HelpFile_type_47 rfl (lv_at hl 0 rfl) ?_
      refine va_get (D := (dC, dI)) (ci := 0) (v := .ref zt) (C := R_HelpFile) (T := F_HelpFile) (N := 14) hx hb hts in_HelpFile hown hK hP 0 rfl rfl 3 (by decide) (hts _ (List.mem_cons_of_mem _ k453_fieldLink)) (fun _ h9 => h9) rfl d_HelpFile_type_48 ?_
      refine ct_VR (As := []) (rest := []) (C := R_Row) (ci := 1) (q := (R_Row, F_Row, 3)) ⟨hx, hb, hml, hown, hts⟩ fm_Row_count (c_Row_count l dC dI cI cL cZ zt ztEa ztn ztE_44 ztC_44 ztO_44 ztC_44 rfl) k405_methodLink k67_instanceMethod k68_selects ⟨Nat.le_of_ble_eq_true rfl, Nat.le_of_ble_eq_true rfl⟩ rfl rfl hK hN hP hD [1, 2] rfl rfl (by decide) 1 rfl rfl rfl rfl hl.1 rfl (Nat.le_of_ble_eq_true rfl) d_HelpFile_type_51 ?_
      obtain ⟨e0, e1, e2, e3⟩ := hd
      subst e0
      subst e1
      subst e2
      subst e3
      exact ct_iret hx hb hr hlocks hK hP hD hS d_HelpFile_type_54
    · have hd := hd.2 h26
      exact False.elim hd
  · have hd := hd.1 h4
    exact False.elim hd
def X_HelpFile_type (k0 : Int32) (ztC : Int32) (xc : String) : Prop := (∃ r1 : Bool, D_HelpFile_isTyped k0 r1 ∧ (((bI r1) = 0 → (xc = "java/lang/IllegalArgumentException")) ∧ (¬ ((bI r1) = 0) → ((ztC < 40 → False) ∧ (¬ (ztC < 40) → (xc = "java/lang/UnsupportedOperationException"))))))
theorem d_HelpFile_type_10 : decode b_HelpFile_type 10 = .ok (.dup, 1) := by decide +kernel
theorem d_HelpFile_type_11 : decode b_HelpFile_type 11 = .ok (.ldc 194, 2) := by decide +kernel
theorem d_HelpFile_type_13 : decode b_HelpFile_type 13 = .ok (.invokespecial 91, 3) := by decide +kernel
theorem d_HelpFile_type_16 : decode b_HelpFile_type 16 = .ok (.athrow, 1) := by decide +kernel
theorem d_HelpFile_type_32 : decode b_HelpFile_type 32 = .ok (.dup, 1) := by decide +kernel
theorem d_HelpFile_type_33 : decode b_HelpFile_type 33 = .ok (.ldc 196, 2) := by decide +kernel
theorem d_HelpFile_type_35 : decode b_HelpFile_type 35 = .ok (.invokespecial 102, 3) := by decide +kernel
theorem d_HelpFile_type_38 : decode b_HelpFile_type 38 = .ok (.athrow, 1) := by decide +kernel
set_option maxHeartbeats 4000000 in
set_option maxRecDepth 100000 in
theorem x_HelpFile_type (l : Launch) (htr : ∀ e : Env, l.admits e → e.platform.stackTraces = false) (dC : Nat → ClassId) (dI : Nat → Nat → Nat) (cI cL cZ : ClassId) (hf : Nat) (hfS : Value) (hfI : Value) (hfR : Value) (hfC : Value) (hfE : Value) (hfV : Value) (hfQ : Value) (hfN : Value) (hfD : Value) (hfB : Value) (hfO : Bool) (hfF : Int32) (hfY : Int32) (zt : Nat) (ztEa : Nat) (ztn : Nat) (ztE : Nat → Int32) (ztC : Int32) (ztO : Bool) (k0 : Int32) (xc : String) (hd : X_HelpFile_type k0 ztC xc) : CtT l y_HelpFile_type (Cond.code y_HelpFile_type b_HelpFile_type 2 (some .int) :: ga) { frames := 6, cells := 1, slots := 6, locals := 82 } (dC, dI) classes (Tys cI cL cZ) [.ref hf, .int k0] ((sh_HelpFile cI cL cZ hf hfS hfI hfR (.ref zt) hfC hfE hfV hfQ hfN hfD hfB hfO hfF hfY) ++ ((sh_Row cI cL cZ zt ztEa ztn ztE ztC ztO))) xc := by
  refine CtT.ofW (by decide) (Nat.le_of_ble_eq_true rfl) ?_
  intro p e s m below meth c A ls hx hb hr hml hown hlocks hnh hts hK hN hZ hT hA hP hD hl
  have hown : s.vm.findClass R_HelpFile = some m.cls := hown
  have hl : lv_has ls 2 [(0, .ref hf), (1, .int k0)] := hl
  refine lv_iload_n hx hb d_HelpFile_type_0 rfl (lv_at hl 1 rfl) ?_
  obtain ⟨r1, c1, hd⟩ := hd
  refine ct_SR (As := [.int k0]) (rest := []) ⟨hx, hb, hml, hown, hts⟩ fm_HelpFile_isTyped (c_HelpFile_isTyped l dC dI cI cL cZ k0 r1 c1) k406_methodLink k87_static ⟨Nat.le_of_ble_eq_true rfl, Nat.le_of_ble_eq_true rfl⟩ rfl rfl hK hN hP hD [] rfl rfl (by decide) rfl hl.1 rfl (Nat.le_of_ble_eq_true rfl) d_HelpFile_type_1 ?_
  refine lv_if_ne (tgt := 17) hx hb d_HelpFile_type_4 (by decide) (fun h4 => ?_) (fun h4 => ?_)
  · have hd := hd.2 h4
    refine lv_aload_n hx hb d_HelpFile_type_17 rfl (lv_at hl 0 rfl) ?_
    refine va_get (D := (dC, dI)) (ci := 0) (v := .ref zt) (C := R_HelpFile) (T := F_HelpFile) (N := 14) hx hb hts in_HelpFile hown hK hP 0 rfl rfl 3 (by decide) (hts _ (List.mem_cons_of_mem _ k453_fieldLink)) (fun _ h9 => h9) rfl d_HelpFile_type_18 ?_
    refine ct_VR (As := []) (rest := []) (C := R_Row) (ci := 1) (q := (R_Row, F_Row, 3)) ⟨hx, hb, hml, hown, hts⟩ fm_Row_count (c_Row_count l dC dI cI cL cZ zt ztEa ztn ztE ztC ztO ztC rfl) k405_methodLink k67_instanceMethod k68_selects ⟨Nat.le_of_ble_eq_true rfl, Nat.le_of_ble_eq_true rfl⟩ rfl rfl hK hN hP hD [1, 2] rfl rfl (by decide) 1 rfl rfl rfl rfl hl.1 rfl (Nat.le_of_ble_eq_true rfl) d_HelpFile_type_21 ?_
    refine lv_bipush (v := 40) hx hb d_HelpFile_type_24 (by decide) ?_
    refine lv_icmp_lt (tgt := 39) hx hb d_HelpFile_type_26 (by decide) (fun h26 => ?_) (fun h26 => ?_)
    · have hd := hd.1 h26
      refine lv_aload_n hx hb d_HelpFile_type_39 rfl (lv_at hl 0 rfl) ?_
      refine va_get (D := (dC, dI)) (ci := 0) (v := .ref zt) (C := R_HelpFile) (T := F_HelpFile) (N := 14) hx hb hts in_HelpFile hown hK hP 0 rfl rfl 3 (by decide) (hts _ (List.mem_cons_of_mem _ k453_fieldLink)) (fun _ h9 => h9) rfl d_HelpFile_type_40 ?_
      refine lv_iload_n hx hb d_HelpFile_type_43 rfl (lv_at hl 1 rfl) ?_
      exact False.elim hd
    · have hd := hd.2 h26
      have e0 : xc = "java/lang/UnsupportedOperationException" := hd
      subst e0
      obtain ⟨q9, hq9⟩ := hT.1 (196, "the query is full") (by decide +kernel)
      exact ct_throw htr hx hb hml hl.1 hown hlocks hnh hts hZ hT oa_1 (by decide +kernel) (by decide +kernel) k408_classLink k409_instantiable k410_initialized hq9 d_HelpFile_type_29 d_HelpFile_type_32 d_HelpFile_type_33 d_HelpFile_type_35 d_HelpFile_type_38 (by decide) (by decide) (by decide) (by decide)
  · have hd := hd.1 h4
    have e0 : xc = "java/lang/IllegalArgumentException" := hd
    subst e0
    obtain ⟨q9, hq9⟩ := hT.1 (194, "no sign of a query") (by decide +kernel)
    exact ct_throw htr hx hb hml hl.1 hown hlocks hnh hts hZ hT oa_2 (by decide +kernel) (by decide +kernel) k411_classLink k412_instantiable k413_initialized hq9 d_HelpFile_type_7 d_HelpFile_type_10 d_HelpFile_type_11 d_HelpFile_type_13 d_HelpFile_type_16 (by decide) (by decide) (by decide) (by decide)
