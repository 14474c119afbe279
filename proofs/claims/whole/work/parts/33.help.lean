/-! 33.help: what each method does, read off its bytecode (D_..), and its contract (c_..); written by a program of mine. -/
-- HelpFile.keyword
abbrev b_HelpFile_keyword : ByteArray := prog_1_method_14_code
def y_HelpFile_keyword : MethodName := ⟨"HelpFile", "keyword", "()I"⟩
theorem k454_fieldLink : Cond.fieldLink "HelpFile" 51 "HelpFile" "query" "LHelpFile$Query;" ∈ ga := ga_t 233 (by decide +kernel) rfl
theorem k455_methodLink : Cond.methodLink "HelpFile" 198 ⟨"HelpFile$Query", "lettersAlone", "(LHelpFile$Row;)J"⟩ ∈ ga := ga_t 915 (by decide +kernel) rfl
theorem k456_instanceMethod : Cond.instanceMethod ⟨"HelpFile$Query", "lettersAlone", "(LHelpFile$Row;)J"⟩ ∈ ga := ga_t 916 (by decide +kernel) rfl
theorem k457_selects : Cond.selects "HelpFile$Query" ⟨"HelpFile$Query", "lettersAlone", "(LHelpFile$Row;)J"⟩ ⟨"HelpFile$Query", "lettersAlone", "(LHelpFile$Row;)J"⟩ ∈ ga := ga_t 917 (by decide +kernel) rfl
theorem k458_methodLink : Cond.methodLink "HelpFile" 202 ⟨"HelpFile$Book", "keywords", "()LHelpFile$WordList;"⟩ ∈ ga := ga_t 923 (by decide +kernel) rfl
theorem k459_methodLink : Cond.methodLink "HelpFile" 206 ⟨"HelpFile$Tree", "nodesOnTheWay", "(LHelpFile$WordList;J)I"⟩ ∈ ga := ga_t 924 (by decide +kernel) rfl
theorem k460_static : Cond.static ⟨"HelpFile$Tree", "nodesOnTheWay", "(LHelpFile$WordList;J)I"⟩ ∈ ga := ga_t 925 (by decide +kernel) rfl
theorem k461_methodLink : Cond.methodLink "HelpFile" 212 ⟨"HelpFile$WordList", "topicsOf", "(J)I"⟩ ∈ ga := ga_t 932 (by decide +kernel) rfl
set_option maxRecDepth 100000 in
theorem fm_HelpFile_keyword : Fm y_HelpFile_keyword b_HelpFile_keyword 3 (some .int) 0 := ⟨ga_t 914 rfl rfl, k54_initialized, by decide, by decide, by decide +kernel⟩
def D_HelpFile_keyword (ztn : Nat) (bbKn : Nat) (hfO : Bool) (hfY : Int32) (ztE : Nat → Int32) (ztC : Int32) (ztO : Bool) (bbKW : Nat → Int64) (bbKT : Nat → Int32) (bbKC : Int32) (res : Int32) (hfY' : Int32) (ztC' : Int32) (ztO' : Bool) : Prop := (D_HelpFile_requireOpen hfO ∧ (∃ r12 : Int64, D_Query_lettersAlone ztn ztE ztC r12 ∧ (∃ ztC_21 : Int32, ∃ ztO_21 : Bool, D_Row_shorten 0 ztC ztO ztC_21 ztO_21 ∧ (∃ r33 : Int32, D_Tree_nodesOnTheWay bbKn r12 bbKW bbKC r33 ∧ (∃ r47 : Int32, D_WordList_topicsOf bbKn r12 bbKW bbKT bbKC r47 ∧ (res = r47 ∧ hfY' = r33 ∧ ztC' = ztC_21 ∧ ztO' = ztO_21))))))
theorem d_HelpFile_keyword_0 : decode b_HelpFile_keyword 0 = .ok (.aload_n 0, 1) := by decide +kernel
theorem d_HelpFile_keyword_1 : decode b_HelpFile_keyword 1 = .ok (.invokevirtual 149, 3) := by decide +kernel
theorem d_HelpFile_keyword_4 : decode b_HelpFile_keyword 4 = .ok (.aload_n 0, 1) := by decide +kernel
theorem d_HelpFile_keyword_5 : decode b_HelpFile_keyword 5 = .ok (.getfield 51, 3) := by decide +kernel
theorem d_HelpFile_keyword_8 : decode b_HelpFile_keyword 8 = .ok (.aload_n 0, 1) := by decide +kernel
theorem d_HelpFile_keyword_9 : decode b_HelpFile_keyword 9 = .ok (.getfield 24, 3) := by decide +kernel
theorem d_HelpFile_keyword_12 : decode b_HelpFile_keyword 12 = .ok (.invokevirtual 198, 3) := by decide +kernel
theorem d_HelpFile_keyword_15 : decode b_HelpFile_keyword 15 = .ok (.lstore_n 1, 1) := by decide +kernel
theorem d_HelpFile_keyword_16 : decode b_HelpFile_keyword 16 = .ok (.aload_n 0, 1) := by decide +kernel
theorem d_HelpFile_keyword_17 : decode b_HelpFile_keyword 17 = .ok (.getfield 24, 3) := by decide +kernel
theorem d_HelpFile_keyword_20 : decode b_HelpFile_keyword 20 = .ok (.iconst 0, 1) := by decide +kernel
theorem d_HelpFile_keyword_21 : decode b_HelpFile_keyword 21 = .ok (.invokevirtual 108, 3) := by decide +kernel
theorem d_HelpFile_keyword_24 : decode b_HelpFile_keyword 24 = .ok (.aload_n 0, 1) := by decide +kernel
theorem d_HelpFile_keyword_25 : decode b_HelpFile_keyword 25 = .ok (.aload_n 0, 1) := by decide +kernel
theorem d_HelpFile_keyword_26 : decode b_HelpFile_keyword 26 = .ok (.getfield 69, 3) := by decide +kernel
theorem d_HelpFile_keyword_29 : decode b_HelpFile_keyword 29 = .ok (.invokevirtual 202, 3) := by decide +kernel
theorem d_HelpFile_keyword_32 : decode b_HelpFile_keyword 32 = .ok (.lload_n 1, 1) := by decide +kernel
theorem d_HelpFile_keyword_33 : decode b_HelpFile_keyword 33 = .ok (.invokestatic 206, 3) := by decide +kernel
theorem d_HelpFile_keyword_36 : decode b_HelpFile_keyword 36 = .ok (.putfield 80, 3) := by decide +kernel
theorem d_HelpFile_keyword_39 : decode b_HelpFile_keyword 39 = .ok (.aload_n 0, 1) := by decide +kernel
theorem d_HelpFile_keyword_40 : decode b_HelpFile_keyword 40 = .ok (.getfield 69, 3) := by decide +kernel
theorem d_HelpFile_keyword_43 : decode b_HelpFile_keyword 43 = .ok (.invokevirtual 202, 3) := by decide +kernel
theorem d_HelpFile_keyword_46 : decode b_HelpFile_keyword 46 = .ok (.lload_n 1, 1) := by decide +kernel
theorem d_HelpFile_keyword_47 : decode b_HelpFile_keyword 47 = .ok (.invokevirtual 212, 3) := by decide +kernel
theorem d_HelpFile_keyword_50 : decode b_HelpFile_keyword 50 = .ok (.ireturn, 1) := by decide +kernel
set_option maxHeartbeats 4000000 in
set_option maxRecDepth 100000 in
theorem c_HelpFile_keyword (l : Launch) (dC : Nat → ClassId) (dI : Nat → Nat → Nat) (cI cL cZ : ClassId) (hf : Nat) (hfS : Value) (hfI : Value) (hfR : Value) (hfC : Value) (hfE : Value) (hfV : Value) (hfN : Value) (hfD : Value) (hfO : Bool) (hfF : Int32) (hfY : Int32) (zt : Nat) (ztEa : Nat) (ztn : Nat) (ztE : Nat → Int32) (ztC : Int32) (ztO : Bool) (zq : Nat) (zqFa : Nat) (zqF : Nat → Int32) (zqJa : Nat) (zqJ : Nat → Int32) (zqNa : Nat) (zqN : Nat → Int32) (zqE : Int32) (zqL : Int32) (zqD : Bool) (bb : Nat) (bbNa : Nat) (bbN : Nat → Int64) (bbSa : Nat) (bbS : Nat → Int32) (bbB : Nat) (bbBEa : Nat) (bbBn : Nat) (bbBE : Nat → Int32) (bbBC : Int32) (bbBO : Bool) (bbK : Nat) (bbKWa : Nat) (bbKn : Nat) (bbKW : Nat → Int64) (bbKTa : Nat) (bbKT : Nat → Int32) (bbKC : Int32) (bbV : Nat) (bbVWa : Nat) (bbVn : Nat) (bbVW : Nat → Int64) (bbVTa : Nat) (bbVT : Nat → Int32) (bbVC : Int32) (bbT : Int32) (res : Int32) (hfY' : Int32) (ztC' : Int32) (ztO' : Bool) (hd : D_HelpFile_keyword ztn bbKn hfO hfY ztE ztC ztO bbKW bbKT bbKC res hfY' ztC' ztO') : Ctr l y_HelpFile_keyword (Cond.code y_HelpFile_keyword b_HelpFile_keyword 3 (some .int) :: ga) { frames := 3, cells := 0, slots := 0, locals := 72 } (dC, dI) classes (Tys cI cL cZ) [.ref hf] ((sh_HelpFile cI cL cZ hf hfS hfI hfR (.ref zt) hfC hfE hfV (.ref zq) hfN hfD (.ref bb) hfO hfF hfY) ++ ((sh_Row cI cL cZ zt ztEa ztn ztE ztC ztO) ++ ((sh_Query cI cL cZ zq zqFa zqF zqJa zqJ zqNa zqN zqE zqL zqD) ++ ((sh_Book cI cL cZ bb bbNa bbN bbSa bbS bbB bbBEa bbBn bbBE bbBC bbBO bbK bbKWa bbKn bbKW bbKTa bbKT bbKC bbV bbVWa bbVn bbVW bbVTa bbVT bbVC bbT))))) (some (.int res)) ((sh_HelpFile cI cL cZ hf hfS hfI hfR (.ref zt) hfC hfE hfV (.ref zq) hfN hfD (.ref bb) hfO hfF hfY') ++ ((sh_Row cI cL cZ zt ztEa ztn ztE ztC' ztO') ++ ((sh_Query cI cL cZ zq zqFa zqF zqJa zqJ zqNa zqN zqE zqL zqD) ++ ((sh_Book cI cL cZ bb bbNa bbN bbSa bbS bbB bbBEa bbBn bbBE bbBC bbBO bbK bbKWa bbKn bbKW bbKTa bbKT bbKC bbV bbVWa bbVn bbVW bbVTa bbVT bbVC bbT))))) := by
  refine Ctr.ofW (by decide) (Nat.le_of_ble_eq_true rfl) ?_
  intro p e s m below meth c A ls hx hb hr hml hown hlocks hts hK hN hA hP hD hS hl
  have hown : s.vm.findClass R_HelpFile = some m.cls := hown
  have hl : lv_has ls 3 [(0, .ref hf)] := hl
  refine lv_aload_n hx hb d_HelpFile_keyword_0 rfl (lv_at hl 0 rfl) ?_
  obtain ⟨c1, hd⟩ := hd
  refine ct_VR (As := []) (rest := []) (C := R_HelpFile) (ci := 0) (q := (R_HelpFile, F_HelpFile, 14)) ⟨hx, hb, hml, hown, hts⟩ fm_HelpFile_requireOpen (c_HelpFile_requireOpen l dC dI cI cL cZ hf hfS hfI hfR (.ref zt) hfC hfE hfV (.ref zq) hfN hfD (.ref bb) hfO hfF hfY c1) k421_methodLink k422_instanceMethod k423_selects ⟨Nat.le_of_ble_eq_true rfl, Nat.le_of_ble_eq_true rfl⟩ rfl rfl hK hN hP hD [0] rfl rfl (by decide) 0 rfl rfl rfl rfl hl.1 rfl (Nat.le_of_ble_eq_true rfl) d_HelpFile_keyword_1 ?_
  refine lv_aload_n hx hb d_HelpFile_keyword_4 rfl (lv_at hl 0 rfl) ?_
  refine va_get (D := (dC, dI)) (ci := 0) (v := .ref zq) (C := R_HelpFile) (T := F_HelpFile) (N := 14) hx hb hts in_HelpFile hown hK hP 0 rfl rfl 7 (by decide) (hts _ (List.mem_cons_of_mem _ k454_fieldLink)) (fun _ h9 => h9) rfl d_HelpFile_keyword_5 ?_
  refine lv_aload_n hx hb d_HelpFile_keyword_8 rfl (lv_at hl 0 rfl) ?_
  refine va_get (D := (dC, dI)) (ci := 0) (v := .ref zt) (C := R_HelpFile) (T := F_HelpFile) (N := 14) hx hb hts in_HelpFile hown hK hP 0 rfl rfl 3 (by decide) (hts _ (List.mem_cons_of_mem _ k453_fieldLink)) (fun _ h9 => h9) rfl d_HelpFile_keyword_9 ?_
  obtain ⟨r12, c12, hd⟩ := hd
  refine ct_VR (As := [.ref zt]) (rest := []) (C := R_Query) (ci := 7) (q := (R_Query, F_Query, 6)) ⟨hx, hb, hml, hown, hts⟩ fm_Query_lettersAlone (c_Query_lettersAlone l dC dI cI cL cZ zq zqFa zqF zqJa zqJ zqNa zqN zqE zqL zqD zt ztEa ztn ztE ztC ztO r12 c12) k455_methodLink k456_instanceMethod k457_selects ⟨Nat.le_of_ble_eq_true rfl, Nat.le_of_ble_eq_true rfl⟩ rfl rfl hK hN hP hD [3, 4, 5, 6, 1, 2] rfl rfl (by decide) 3 rfl rfl rfl rfl hl.1 rfl (Nat.le_of_ble_eq_true rfl) d_HelpFile_keyword_12 ?_
  refine lv_lstore_n (lv' := [(1, .long r12), (0, .ref hf)]) hx hb d_HelpFile_keyword_15 rfl hl (by decide) rfl (fun ls hl => ?_)
  refine lv_aload_n hx hb d_HelpFile_keyword_16 rfl (lv_at hl 1 rfl) ?_
  refine va_get (D := (dC, dI)) (ci := 0) (v := .ref zt) (C := R_HelpFile) (T := F_HelpFile) (N := 14) hx hb hts in_HelpFile hown hK hP 0 rfl rfl 3 (by decide) (hts _ (List.mem_cons_of_mem _ k453_fieldLink)) (fun _ h9 => h9) rfl d_HelpFile_keyword_17 ?_
  refine lv_iconst (v := 0) hx hb d_HelpFile_keyword_20 (by decide) ?_
  obtain ⟨ztC_21, ztO_21, c21, hd⟩ := hd
  refine ct_V (As := [.int 0]) (rest := []) (C := R_Row) (ci := 1) (q := (R_Row, F_Row, 3)) ⟨hx, hb, hml, hown, hts⟩ fm_Row_shorten (c_Row_shorten l dC dI cI cL cZ zt ztEa ztn ztE ztC ztO 0 ztC_21 ztO_21 c21) k414_methodLink k17_instanceMethod k18_selects ⟨Nat.le_of_ble_eq_true rfl, Nat.le_of_ble_eq_true rfl⟩ rfl rfl hK hN hP hD hS hA [1, 2] [0, 3, 4, 5, 6, 7, 8, 9, 10, 11, 12, 13, 14, 15, 16, 17] rfl rfl rfl (by decide) (by decide) (by decide) 1 rfl rfl rfl rfl hl.1 rfl (Nat.le_of_ble_eq_true rfl) d_HelpFile_keyword_21 (fun H locs hP hD hS => ?_)
  have hP : va_P (dC, dI) classes ((sh_HelpFile cI cL cZ hf hfS hfI hfR (.ref zt) hfC hfE hfV (.ref zq) hfN hfD (.ref bb) hfO hfF hfY) ++ ((sh_Row cI cL cZ zt ztEa ztn ztE ztC_21 ztO_21) ++ ((sh_Query cI cL cZ zq zqFa zqF zqJa zqJ zqNa zqN zqE zqL zqD) ++ ((sh_Book cI cL cZ bb bbNa bbN bbSa bbS bbB bbBEa bbBn bbBE bbBC bbBO bbK bbKWa bbKn bbKW bbKTa bbKT bbKC bbV bbVWa bbVn bbVW bbVTa bbVT bbVC bbT))))) H := hP.sub [0, 16, 17, 1, 2, 3, 4, 5, 6, 7, 8, 9, 10, 11, 12, 13, 14, 15] rfl
  have hD : va_D A ((sh_HelpFile cI cL cZ hf hfS hfI hfR (.ref zt) hfC hfE hfV (.ref zq) hfN hfD (.ref bb) hfO hfF hfY) ++ ((sh_Row cI cL cZ zt ztEa ztn ztE ztC_21 ztO_21) ++ ((sh_Query cI cL cZ zq zqFa zqF zqJa zqJ zqNa zqN zqE zqL zqD) ++ ((sh_Book cI cL cZ bb bbNa bbN bbSa bbS bbB bbBEa bbBn bbBE bbBC bbBO bbK bbKWa bbKn bbKW bbKTa bbKT bbKC bbV bbVWa bbVn bbVW bbVTa bbVT bbVC bbT))))) := hD.sub [0, 16, 17, 1, 2, 3, 4, 5, 6, 7, 8, 9, 10, 11, 12, 13, 14, 15] (by decide) rfl
  refine lv_aload_n hx hb d_HelpFile_keyword_24 rfl (lv_at hl 1 rfl) ?_
  refine lv_aload_n hx hb d_HelpFile_keyword_25 rfl (lv_at hl 1 rfl) ?_
  refine va_get (D := (dC, dI)) (ci := 0) (v := .ref bb) (C := R_HelpFile) (T := F_HelpFile) (N := 14) hx hb hts in_HelpFile hown hK hP 0 rfl rfl 10 (by decide) (hts _ (List.mem_cons_of_mem _ k396_fieldLink)) (fun _ h9 => h9) rfl d_HelpFile_keyword_26 ?_
  refine ct_VR (As := []) (rest := [.ref hf]) (C := R_Book) (ci := 3) (q := (R_Book, F_Book, 6)) ⟨hx, hb, hml, hown, hts⟩ fm_Book_keywords (c_Book_keywords l dC dI cI cL cZ bb bbNa bbN bbSa bbS bbB bbBEa bbBn bbBE bbBC bbBO bbK bbKWa bbKn bbKW bbKTa bbKT bbKC bbV bbVWa bbVn bbVW bbVTa bbVT bbVC bbT trivial) k458_methodLink k243_instanceMethod k244_selects ⟨Nat.le_of_ble_eq_true rfl, Nat.le_of_ble_eq_true rfl⟩ rfl rfl hK hN hP hD [7, 8, 9, 10, 11, 12, 13, 14, 15, 16, 17] rfl rfl (by decide) 7 rfl rfl rfl rfl hl.1 rfl (Nat.le_of_ble_eq_true rfl) d_HelpFile_keyword_29 ?_
  refine lv_lload_n hx hb d_HelpFile_keyword_32 rfl (lv_at hl 0 rfl) ?_
  obtain ⟨r33, c33, hd⟩ := hd
  refine ct_SR (As := [.ref bbK, .long r12]) (rest := [.ref hf]) ⟨hx, hb, hml, hown, hts⟩ fm_Tree_nodesOnTheWay (c_Tree_nodesOnTheWay l dC dI cI cL cZ bbK bbKWa bbKn bbKW bbKTa bbKT bbKC r12 r33 c33) k459_methodLink k460_static ⟨Nat.le_of_ble_eq_true rfl, Nat.le_of_ble_eq_true rfl⟩ rfl rfl hK hN hP hD [12, 13, 14] rfl rfl (by decide) rfl hl.1 rfl (Nat.le_of_ble_eq_true rfl) d_HelpFile_keyword_33 ?_
  refine va_put (D := (dC, dI)) (ci := 0) (v := .int r33) (ty := t_HelpFile 13) (C := R_HelpFile) (T := F_HelpFile) (N := 14) hx hb hts in_HelpFile t_HelpFile t_HelpFile_ok n_HelpFile hown hK hP hD hS 0 rfl rfl 13 (by decide) (hts _ (List.mem_cons_of_mem _ k381_fieldLink)) (fun _ h9 => h9) rfl (t_HelpFile_ok 13 (by decide)) rfl rfl (Nat.le_of_ble_eq_true rfl) d_HelpFile_keyword_36 (fun H locs hP hD hS => ?_)
  have hP : va_P (dC, dI) classes ((sh_HelpFile cI cL cZ hf hfS hfI hfR (.ref zt) hfC hfE hfV (.ref zq) hfN hfD (.ref bb) hfO hfF r33) ++ ((sh_Row cI cL cZ zt ztEa ztn ztE ztC_21 ztO_21) ++ ((sh_Query cI cL cZ zq zqFa zqF zqJa zqJ zqNa zqN zqE zqL zqD) ++ ((sh_Book cI cL cZ bb bbNa bbN bbSa bbS bbB bbBEa bbBn bbBE bbBC bbBO bbK bbKWa bbKn bbKW bbKTa bbKT bbKC bbV bbVWa bbVn bbVW bbVTa bbVT bbVC bbT))))) H := hP
  have hD : va_D A ((sh_HelpFile cI cL cZ hf hfS hfI hfR (.ref zt) hfC hfE hfV (.ref zq) hfN hfD (.ref bb) hfO hfF r33) ++ ((sh_Row cI cL cZ zt ztEa ztn ztE ztC_21 ztO_21) ++ ((sh_Query cI cL cZ zq zqFa zqF zqJa zqJ zqNa zqN zqE zqL zqD) ++ ((sh_Book cI cL cZ bb bbNa bbN bbSa bbS bbB bbBEa bbBn bbBE bbBC bbBO bbK bbKWa bbKn bbKW bbKTa bbKT bbKC bbV bbVWa bbVn bbVW bbVTa bbVT bbVC bbT))))) := hD
  refine lv_aload_n hx hb d_HelpFile_keyword_39 rfl (lv_at hl 1 rfl) ?_
  refine va_get (D := (dC, dI)) (ci := 0) (v := .ref bb) (C := R_HelpFile) (T := F_HelpFile) (N := 14) hx hb hts in_HelpFile hown hK hP 0 rfl rfl 10 (by decide) (hts _ (List.mem_cons_of_mem _ k396_fieldLink)) (fun _ h9 => h9) rfl d_HelpFile_keyword_40 ?_
  refine ct_VR (As := []) (rest := []) (C := R_Book) (ci := 3) (q := (R_Book, F_Book, 6)) ⟨hx, hb, hml, hown, hts⟩ fm_Book_keywords (c_Book_keywords l dC dI cI cL cZ bb bbNa bbN bbSa bbS bbB bbBEa bbBn bbBE bbBC bbBO bbK bbKWa bbKn bbKW bbKTa bbKT bbKC bbV bbVWa bbVn bbVW bbVTa bbVT bbVC bbT trivial) k458_methodLink k243_instanceMethod k244_selects ⟨Nat.le_of_ble_eq_true rfl, Nat.le_of_ble_eq_true rfl⟩ rfl rfl hK hN hP hD [7, 8, 9, 10, 11, 12, 13, 14, 15, 16, 17] rfl rfl (by decide) 7 rfl rfl rfl rfl hl.1 rfl (Nat.le_of_ble_eq_true rfl) d_HelpFile_keyword_43 ?_
  refine lv_lload_n hx hb d_HelpFile_keyword_46 rfl (lv_at hl 0 rfl) ?_
  obtain ⟨r47, c47, hd⟩ := hd
  refine ct_VR (As := [.long r12]) (rest := []) (C := R_WordList) (ci := 2) (q := (R_WordList, F_WordList, 3)) ⟨hx, hb, hml, hown, hts⟩ fm_WordList_topicsOf (c_WordList_topicsOf l dC dI cI cL cZ bbK bbKWa bbKn bbKW bbKTa bbKT bbKC r12 r47 c47) k461_methodLink k326_instanceMethod k327_selects ⟨Nat.le_of_ble_eq_true rfl, Nat.le_of_ble_eq_true rfl⟩ rfl rfl hK hN hP hD [12, 13, 14] rfl rfl (by decide) 12 rfl rfl rfl rfl hl.1 rfl (Nat.le_of_ble_eq_true rfl) d_HelpFile_keyword_47 ?_
  obtain ⟨e0, e1, e2, e3⟩ := hd
  subst e0
  subst e1
  subst e2
  subst e3
  exact ct_iret hx hb hr hlocks hK hP hD hS d_HelpFile_keyword_50
def X_HelpFile_keyword (ztn : Nat) (hfO : Bool) (ztE : Nat → Int32) (ztC : Int32) (xc : String) : Prop := ((D_HelpFile_requireOpen hfO ∧ (∃ r12 : Int64, D_Query_lettersAlone ztn ztE ztC r12 ∧ False)) ∨ X_HelpFile_requireOpen hfO xc)
set_option maxHeartbeats 4000000 in
set_option maxRecDepth 100000 in
theorem x_HelpFile_keyword (l : Launch) (htr : ∀ e : Env, l.admits e → e.platform.stackTraces = false) (dC : Nat → ClassId) (dI : Nat → Nat → Nat) (cI cL cZ : ClassId) (hf : Nat) (hfS : Value) (hfI : Value) (hfR : Value) (hfC : Value) (hfE : Value) (hfV : Value) (hfN : Value) (hfD : Value) (hfO : Bool) (hfF : Int32) (hfY : Int32) (zt : Nat) (ztEa : Nat) (ztn : Nat) (ztE : Nat → Int32) (ztC : Int32) (ztO : Bool) (zq : Nat) (zqFa : Nat) (zqF : Nat → Int32) (zqJa : Nat) (zqJ : Nat → Int32) (zqNa : Nat) (zqN : Nat → Int32) (zqE : Int32) (zqL : Int32) (zqD : Bool) (bb : Nat) (bbNa : Nat) (bbN : Nat → Int64) (bbSa : Nat) (bbS : Nat → Int32) (bbB : Nat) (bbBEa : Nat) (bbBn : Nat) (bbBE : Nat → Int32) (bbBC : Int32) (bbBO : Bool) (bbK : Nat) (bbKWa : Nat) (bbKn : Nat) (bbKW : Nat → Int64) (bbKTa : Nat) (bbKT : Nat → Int32) (bbKC : Int32) (bbV : Nat) (bbVWa : Nat) (bbVn : Nat) (bbVW : Nat → Int64) (bbVTa : Nat) (bbVT : Nat → Int32) (bbVC : Int32) (bbT : Int32) (xc : String) (hd : X_HelpFile_keyword ztn hfO ztE ztC xc) : CtT l y_HelpFile_keyword (Cond.code y_HelpFile_keyword b_HelpFile_keyword 3 (some .int) :: ga) { frames := 7, cells := 1, slots := 6, locals := 102 } (dC, dI) classes (Tys cI cL cZ) [.ref hf] ((sh_HelpFile cI cL cZ hf hfS hfI hfR (.ref zt) hfC hfE hfV (.ref zq) hfN hfD (.ref bb) hfO hfF hfY) ++ ((sh_Row cI cL cZ zt ztEa ztn ztE ztC ztO) ++ ((sh_Query cI cL cZ zq zqFa zqF zqJa zqJ zqNa zqN zqE zqL zqD) ++ ((sh_Book cI cL cZ bb bbNa bbN bbSa bbS bbB bbBEa bbBn bbBE bbBC bbBO bbK bbKWa bbKn bbKW bbKTa bbKT bbKC bbV bbVWa bbVn bbVW bbVTa bbVT bbVC bbT))))) xc := by
  refine CtT.ofW (by decide) (Nat.le_of_ble_eq_true rfl) ?_
  intro p e s m below meth c A ls hx hb hr hml hown hlocks hnh hts hK hN hZ hT hA hP hD hl
  have hown : s.vm.findClass R_HelpFile = some m.cls := hown
  have hl : lv_has ls 3 [(0, .ref hf)] := hl
  refine lv_aload_n hx hb d_HelpFile_keyword_0 rfl (lv_at hl 0 rfl) ?_
  rcases hd with hd | hd
  · skip
    obtain ⟨c1, hd⟩ := hd
    refine ct_VR (As := []) (rest := []) (C := R_HelpFile) (ci := 0) (q := (R_HelpFile, F_HelpFile, 14)) ⟨hx, hb, hml, hown, hts⟩ fm_HelpFile_requireOpen (c_HelpFile_requireOpen l dC dI cI cL cZ hf hfS hfI hfR (.ref zt) hfC hfE hfV (.ref zq) hfN hfD (.ref bb) hfO hfF hfY c1) k421_methodLink k422_instanceMethod k423_selects ⟨Nat.le_of_ble_eq_true rfl, Nat.le_of_ble_eq_true rfl⟩ rfl rfl hK hN hP hD [0] rfl rfl (by decide) 0 rfl rfl rfl rfl hl.1 rfl (Nat.le_of_ble_eq_true rfl) d_HelpFile_keyword_1 ?_
    refine lv_aload_n hx hb d_HelpFile_keyword_4 rfl (lv_at hl 0 rfl) ?_
    refine va_get (D := (dC, dI)) (ci := 0) (v := .ref zq) (C := R_HelpFile) (T := F_HelpFile) (N := 14) hx hb hts in_HelpFile hown hK hP 0 rfl rfl 7 (by decide) (hts _ (List.mem_cons_of_mem _ k454_fieldLink)) (fun _ h9 => h9) rfl d_HelpFile_keyword_5 ?_
    refine lv_aload_n hx hb d_HelpFile_keyword_8 rfl (lv_at hl 0 rfl) ?_
    refine va_get (D := (dC, dI)) (ci := 0) (v := .ref zt) (C := R_HelpFile) (T := F_HelpFile) (N := 14) hx hb hts in_HelpFile hown hK hP 0 rfl rfl 3 (by decide) (hts _ (List.mem_cons_of_mem _ k453_fieldLink)) (fun _ h9 => h9) rfl d_HelpFile_keyword_9 ?_
    obtain ⟨r12, c12, hd⟩ := hd
    refine ct_VR (As := [.ref zt]) (rest := []) (C := R_Query) (ci := 7) (q := (R_Query, F_Query, 6)) ⟨hx, hb, hml, hown, hts⟩ fm_Query_lettersAlone (c_Query_lettersAlone l dC dI cI cL cZ zq zqFa zqF zqJa zqJ zqNa zqN zqE zqL zqD zt ztEa ztn ztE ztC ztO r12 c12) k455_methodLink k456_instanceMethod k457_selects ⟨Nat.le_of_ble_eq_true rfl, Nat.le_of_ble_eq_true rfl⟩ rfl rfl hK hN hP hD [3, 4, 5, 6, 1, 2] rfl rfl (by decide) 3 rfl rfl rfl rfl hl.1 rfl (Nat.le_of_ble_eq_true rfl) d_HelpFile_keyword_12 ?_
    refine lv_lstore_n (lv' := [(1, .long r12), (0, .ref hf)]) hx hb d_HelpFile_keyword_15 rfl hl (by decide) rfl (fun ls hl => ?_)
    refine lv_aload_n hx hb d_HelpFile_keyword_16 rfl (lv_at hl 1 rfl) ?_
    refine va_get (D := (dC, dI)) (ci := 0) (v := .ref zt) (C := R_HelpFile) (T := F_HelpFile) (N := 14) hx hb hts in_HelpFile hown hK hP 0 rfl rfl 3 (by decide) (hts _ (List.mem_cons_of_mem _ k453_fieldLink)) (fun _ h9 => h9) rfl d_HelpFile_keyword_17 ?_
    refine lv_iconst (v := 0) hx hb d_HelpFile_keyword_20 (by decide) ?_
    exact False.elim hd
  · exact ct_VT (As := []) (rest := []) (C := R_HelpFile) (ci := 0) (q := (R_HelpFile, F_HelpFile, 14)) ⟨hx, hb, hml, hown, hts⟩ hlocks hnh fm_HelpFile_requireOpen (x_HelpFile_requireOpen l htr dC dI cI cL cZ hf hfS hfI hfR (.ref zt) hfC hfE hfV (.ref zq) hfN hfD (.ref bb) hfO hfF hfY xc hd) k421_methodLink k422_instanceMethod k423_selects ⟨Nat.le_of_ble_eq_true rfl, Nat.le_of_ble_eq_true rfl⟩ (by decide) (by decide) hK hN hZ hT hA hP hD [0] rfl rfl (by decide) 0 rfl rfl rfl rfl hl.1 rfl (Nat.le_of_ble_eq_true rfl) d_HelpFile_keyword_1
-- HelpFile.search
abbrev b_HelpFile_search : ByteArray := prog_1_method_16_code
def y_HelpFile_search : MethodName := ⟨"HelpFile", "search", "()I"⟩
theorem k462_methodLink : Cond.methodLink "HelpFile" 218 ⟨"HelpFile$Query", "find", "(LHelpFile$Row;LHelpFile$Book;)I"⟩ ∈ ga := ga_t 943 (by decide +kernel) rfl
theorem k463_instanceMethod : Cond.instanceMethod ⟨"HelpFile$Query", "find", "(LHelpFile$Row;LHelpFile$Book;)I"⟩ ∈ ga := ga_t 944 (by decide +kernel) rfl
theorem k464_selects : Cond.selects "HelpFile$Query" ⟨"HelpFile$Query", "find", "(LHelpFile$Row;LHelpFile$Book;)I"⟩ ⟨"HelpFile$Query", "find", "(LHelpFile$Row;LHelpFile$Book;)I"⟩ ∈ ga := ga_t 945 (by decide +kernel) rfl
set_option maxRecDepth 100000 in
theorem fm_HelpFile_search : Fm y_HelpFile_search b_HelpFile_search 2 (some .int) 0 := ⟨ga_t 942 rfl rfl, k54_initialized, by decide, by decide, by decide +kernel⟩
def D_HelpFile_search (ztn : Nat) (bbVn : Nat) (hfO : Bool) (ztE : Nat → Int32) (ztC : Int32) (ztO : Bool) (zqF : Nat → Int32) (zqJ : Nat → Int32) (zqN : Nat → Int32) (zqE : Int32) (zqL : Int32) (zqD : Bool) (bbVW : Nat → Int64) (bbVT : Nat → Int32) (bbVC : Int32) (bbT : Int32) (res : Int32) (ztC' : Int32) (ztO' : Bool) (zqF' : Nat → Int32) (zqJ' : Nat → Int32) (zqN' : Nat → Int32) (zqE' : Int32) (zqL' : Int32) (zqD' : Bool) : Prop := (D_HelpFile_requireOpen hfO ∧ (∃ r16 : Int32, ∃ zqF_16 : Nat → Int32, ∃ zqJ_16 : Nat → Int32, ∃ zqN_16 : Nat → Int32, ∃ zqE_16 : Int32, ∃ zqL_16 : Int32, ∃ zqD_16 : Bool, D_Query_find ztn bbVn zqF zqJ zqN zqE zqL zqD ztE ztC bbVW bbVT bbVC bbT r16 zqF_16 zqJ_16 zqN_16 zqE_16 zqL_16 zqD_16 ∧ (∃ ztC_25 : Int32, ∃ ztO_25 : Bool, D_Row_shorten 0 ztC ztO ztC_25 ztO_25 ∧ (res = r16 ∧ ztC' = ztC_25 ∧ ztO' = ztO_25 ∧ zqF' = zqF_16 ∧ zqJ' = zqJ_16 ∧ zqN' = zqN_16 ∧ zqE' = zqE_16 ∧ zqL' = zqL_16 ∧ zqD' = zqD_16))))
theorem d_HelpFile_search_0 : decode b_HelpFile_search 0 = .ok (.aload_n 0, 1) := by decide +kernel
theorem d_HelpFile_search_1 : decode b_HelpFile_search 1 = .ok (.invokevirtual 149, 3) := by decide +kernel
theorem d_HelpFile_search_4 : decode b_HelpFile_search 4 = .ok (.aload_n 0, 1) := by decide +kernel
theorem d_HelpFile_search_5 : decode b_HelpFile_search 5 = .ok (.getfield 51, 3) := by decide +kernel
theorem d_HelpFile_search_8 : decode b_HelpFile_search 8 = .ok (.aload_n 0, 1) := by decide +kernel
theorem d_HelpFile_search_9 : decode b_HelpFile_search 9 = .ok (.getfield 24, 3) := by decide +kernel
theorem d_HelpFile_search_12 : decode b_HelpFile_search 12 = .ok (.aload_n 0, 1) := by decide +kernel
theorem d_HelpFile_search_13 : decode b_HelpFile_search 13 = .ok (.getfield 69, 3) := by decide +kernel
theorem d_HelpFile_search_16 : decode b_HelpFile_search 16 = .ok (.invokevirtual 218, 3) := by decide +kernel
theorem d_HelpFile_search_19 : decode b_HelpFile_search 19 = .ok (.istore_n 1, 1) := by decide +kernel
theorem d_HelpFile_search_20 : decode b_HelpFile_search 20 = .ok (.aload_n 0, 1) := by decide +kernel
theorem d_HelpFile_search_21 : decode b_HelpFile_search 21 = .ok (.getfield 24, 3) := by decide +kernel
theorem d_HelpFile_search_24 : decode b_HelpFile_search 24 = .ok (.iconst 0, 1) := by decide +kernel
theorem d_HelpFile_search_25 : decode b_HelpFile_search 25 = .ok (.invokevirtual 108, 3) := by decide +kernel
theorem d_HelpFile_search_28 : decode b_HelpFile_search 28 = .ok (.iload_n 1, 1) := by decide +kernel
theorem d_HelpFile_search_29 : decode b_HelpFile_search 29 = .ok (.ireturn, 1) := by decide +kernel
set_option maxHeartbeats 4000000 in
set_option maxRecDepth 100000 in
theorem c_HelpFile_search (l : Launch) (dC : Nat → ClassId) (dI : Nat → Nat → Nat) (cI cL cZ : ClassId) (hf : Nat) (hfS : Value) (hfI : Value) (hfR : Value) (hfC : Value) (hfE : Value) (hfV : Value) (hfN : Value) (hfD : Value) (hfO : Bool) (hfF : Int32) (hfY : Int32) (zt : Nat) (ztEa : Nat) (ztn : Nat) (ztE : Nat → Int32) (ztC : Int32) (ztO : Bool) (zq : Nat) (zqFa : Nat) (zqF : Nat → Int32) (zqJa : Nat) (zqJ : Nat → Int32) (zqNa : Nat) (zqN : Nat → Int32) (zqE : Int32) (zqL : Int32) (zqD : Bool) (bb : Nat) (bbNa : Nat) (bbN : Nat → Int64) (bbSa : Nat) (bbS : Nat → Int32) (bbB : Nat) (bbBEa : Nat) (bbBn : Nat) (bbBE : Nat → Int32) (bbBC : Int32) (bbBO : Bool) (bbK : Nat) (bbKWa : Nat) (bbKn : Nat) (bbKW : Nat → Int64) (bbKTa : Nat) (bbKT : Nat → Int32) (bbKC : Int32) (bbV : Nat) (bbVWa : Nat) (bbVn : Nat) (bbVW : Nat → Int64) (bbVTa : Nat) (bbVT : Nat → Int32) (bbVC : Int32) (bbT : Int32) (res : Int32) (ztC' : Int32) (ztO' : Bool) (zqF' : Nat → Int32) (zqJ' : Nat → Int32) (zqN' : Nat → Int32) (zqE' : Int32) (zqL' : Int32) (zqD' : Bool) (hd : D_HelpFile_search ztn bbVn hfO ztE ztC ztO zqF zqJ zqN zqE zqL zqD bbVW bbVT bbVC bbT res ztC' ztO' zqF' zqJ' zqN' zqE' zqL' zqD') : Ctr l y_HelpFile_search (Cond.code y_HelpFile_search b_HelpFile_search 2 (some .int) :: ga) { frames := 3, cells := 0, slots := 0, locals := 75 } (dC, dI) classes (Tys cI cL cZ) [.ref hf] ((sh_HelpFile cI cL cZ hf hfS hfI hfR (.ref zt) hfC hfE hfV (.ref zq) hfN hfD (.ref bb) hfO hfF hfY) ++ ((sh_Row cI cL cZ zt ztEa ztn ztE ztC ztO) ++ ((sh_Query cI cL cZ zq zqFa zqF zqJa zqJ zqNa zqN zqE zqL zqD) ++ ((sh_Book cI cL cZ bb bbNa bbN bbSa bbS bbB bbBEa bbBn bbBE bbBC bbBO bbK bbKWa bbKn bbKW bbKTa bbKT bbKC bbV bbVWa bbVn bbVW bbVTa bbVT bbVC bbT))))) (some (.int res)) ((sh_HelpFile cI cL cZ hf hfS hfI hfR (.ref zt) hfC hfE hfV (.ref zq) hfN hfD (.ref bb) hfO hfF hfY) ++ ((sh_Row cI cL cZ zt ztEa ztn ztE ztC' ztO') ++ ((sh_Query cI cL cZ zq zqFa zqF' zqJa zqJ' zqNa zqN' zqE' zqL' zqD') ++ ((sh_Book cI cL cZ bb bbNa bbN bbSa bbS bbB bbBEa bbBn bbBE bbBC bbBO bbK bbKWa bbKn bbKW bbKTa bbKT bbKC bbV bbVWa bbVn bbVW bbVTa bbVT bbVC bbT))))) := by
  refine Ctr.ofW (by decide) (Nat.le_of_ble_eq_true rfl) ?_
  intro p e s m below meth c A ls hx hb hr hml hown hlocks hts hK hN hA hP hD hS hl
  have hown : s.vm.findClass R_HelpFile = some m.cls := hown
  have hl : lv_has ls 2 [(0, .ref hf)] := hl
  refine lv_aload_n hx hb d_HelpFile_search_0 rfl (lv_at hl 0 rfl) ?_
  obtain ⟨c1, hd⟩ := hd
  refine ct_VR (As := []) (rest := []) (C := R_HelpFile) (ci := 0) (q := (R_HelpFile, F_HelpFile, 14)) ⟨hx, hb, hml, hown, hts⟩ fm_HelpFile_requireOpen (c_HelpFile_requireOpen l dC dI cI cL cZ hf hfS hfI hfR (.ref zt) hfC hfE hfV (.ref zq) hfN hfD (.ref bb) hfO hfF hfY c1) k421_methodLink k422_instanceMethod k423_selects ⟨Nat.le_of_ble_eq_true rfl, Nat.le_of_ble_eq_true rfl⟩ rfl rfl hK hN hP hD [0] rfl rfl (by decide) 0 rfl rfl rfl rfl hl.1 rfl (Nat.le_of_ble_eq_true rfl) d_HelpFile_search_1 ?_
  refine lv_aload_n hx hb d_HelpFile_search_4 rfl (lv_at hl 0 rfl) ?_
  refine va_get (D := (dC, dI)) (ci := 0) (v := .ref zq) (C := R_HelpFile) (T := F_HelpFile) (N := 14) hx hb hts in_HelpFile hown hK hP 0 rfl rfl 7 (by decide) (hts _ (List.mem_cons_of_mem _ k454_fieldLink)) (fun _ h9 => h9) rfl d_HelpFile_search_5 ?_
  refine lv_aload_n hx hb d_HelpFile_search_8 rfl (lv_at hl 0 rfl) ?_
  refine va_get (D := (dC, dI)) (ci := 0) (v := .ref zt) (C := R_HelpFile) (T := F_HelpFile) (N := 14) hx hb hts in_HelpFile hown hK hP 0 rfl rfl 3 (by decide) (hts _ (List.mem_cons_of_mem _ k453_fieldLink)) (fun _ h9 => h9) rfl d_HelpFile_search_9 ?_
  refine lv_aload_n hx hb d_HelpFile_search_12 rfl (lv_at hl 0 rfl) ?_
  refine va_get (D := (dC, dI)) (ci := 0) (v := .ref bb) (C := R_HelpFile) (T := F_HelpFile) (N := 14) hx hb hts in_HelpFile hown hK hP 0 rfl rfl 10 (by decide) (hts _ (List.mem_cons_of_mem _ k396_fieldLink)) (fun _ h9 => h9) rfl d_HelpFile_search_13 ?_
  obtain ⟨r16, zqF_16, zqJ_16, zqN_16, zqE_16, zqL_16, zqD_16, c16, hd⟩ := hd
  refine ct_V (As := [.ref zt, .ref bb]) (rest := []) (C := R_Query) (ci := 7) (q := (R_Query, F_Query, 6)) ⟨hx, hb, hml, hown, hts⟩ fm_Query_find (c_Query_find l dC dI cI cL cZ zq zqFa zqF zqJa zqJ zqNa zqN zqE zqL zqD zt ztEa ztn ztE ztC ztO bb bbNa bbN bbSa bbS bbB bbBEa bbBn bbBE bbBC bbBO bbK bbKWa bbKn bbKW bbKTa bbKT bbKC bbV bbVWa bbVn bbVW bbVTa bbVT bbVC bbT r16 zqF_16 zqJ_16 zqN_16 zqE_16 zqL_16 zqD_16 c16) k462_methodLink k463_instanceMethod k464_selects ⟨Nat.le_of_ble_eq_true rfl, Nat.le_of_ble_eq_true rfl⟩ rfl rfl hK hN hP hD hS hA [3, 4, 5, 6, 1, 2, 7, 8, 9, 10, 11, 12, 13, 14, 15, 16, 17] [0] rfl rfl rfl (by decide) (by decide) (by decide) 3 rfl rfl rfl rfl hl.1 rfl (Nat.le_of_ble_eq_true rfl) d_HelpFile_search_16 (fun H locs hP hD hS => ?_)
  have hP : va_P (dC, dI) classes ((sh_HelpFile cI cL cZ hf hfS hfI hfR (.ref zt) hfC hfE hfV (.ref zq) hfN hfD (.ref bb) hfO hfF hfY) ++ ((sh_Row cI cL cZ zt ztEa ztn ztE ztC ztO) ++ ((sh_Query cI cL cZ zq zqFa zqF_16 zqJa zqJ_16 zqNa zqN_16 zqE_16 zqL_16 zqD_16) ++ ((sh_Book cI cL cZ bb bbNa bbN bbSa bbS bbB bbBEa bbBn bbBE bbBC bbBO bbK bbKWa bbKn bbKW bbKTa bbKT bbKC bbV bbVWa bbVn bbVW bbVTa bbVT bbVC bbT))))) H := hP.sub [0, 5, 6, 1, 2, 3, 4, 7, 8, 9, 10, 11, 12, 13, 14, 15, 16, 17] rfl
  have hD : va_D A ((sh_HelpFile cI cL cZ hf hfS hfI hfR (.ref zt) hfC hfE hfV (.ref zq) hfN hfD (.ref bb) hfO hfF hfY) ++ ((sh_Row cI cL cZ zt ztEa ztn ztE ztC ztO) ++ ((sh_Query cI cL cZ zq zqFa zqF_16 zqJa zqJ_16 zqNa zqN_16 zqE_16 zqL_16 zqD_16) ++ ((sh_Book cI cL cZ bb bbNa bbN bbSa bbS bbB bbBEa bbBn bbBE bbBC bbBO bbK bbKWa bbKn bbKW bbKTa bbKT bbKC bbV bbVWa bbVn bbVW bbVTa bbVT bbVC bbT))))) := hD.sub [0, 5, 6, 1, 2, 3, 4, 7, 8, 9, 10, 11, 12, 13, 14, 15, 16, 17] (by decide) rfl
  refine lv_istore_n (lv' := [(1, .int r16), (0, .ref hf)]) hx hb d_HelpFile_search_19 rfl hl (by decide) rfl (fun ls hl => ?_)
  refine lv_aload_n hx hb d_HelpFile_search_20 rfl (lv_at hl 1 rfl) ?_
  refine va_get (D := (dC, dI)) (ci := 0) (v := .ref zt) (C := R_HelpFile) (T := F_HelpFile) (N := 14) hx hb hts in_HelpFile hown hK hP 0 rfl rfl 3 (by decide) (hts _ (List.mem_cons_of_mem _ k453_fieldLink)) (fun _ h9 => h9) rfl d_HelpFile_search_21 ?_
  refine lv_iconst (v := 0) hx hb d_HelpFile_search_24 (by decide) ?_
  obtain ⟨ztC_25, ztO_25, c25, hd⟩ := hd
  refine ct_V (As := [.int 0]) (rest := []) (C := R_Row) (ci := 1) (q := (R_Row, F_Row, 3)) ⟨hx, hb, hml, hown, hts⟩ fm_Row_shorten (c_Row_shorten l dC dI cI cL cZ zt ztEa ztn ztE ztC ztO 0 ztC_25 ztO_25 c25) k414_methodLink k17_instanceMethod k18_selects ⟨Nat.le_of_ble_eq_true rfl, Nat.le_of_ble_eq_true rfl⟩ rfl rfl hK hN hP hD hS hA [1, 2] [0, 3, 4, 5, 6, 7, 8, 9, 10, 11, 12, 13, 14, 15, 16, 17] rfl rfl rfl (by decide) (by decide) (by decide) 1 rfl rfl rfl rfl hl.1 rfl (Nat.le_of_ble_eq_true rfl) d_HelpFile_search_25 (fun H locs hP hD hS => ?_)
  have hP : va_P (dC, dI) classes ((sh_HelpFile cI cL cZ hf hfS hfI hfR (.ref zt) hfC hfE hfV (.ref zq) hfN hfD (.ref bb) hfO hfF hfY) ++ ((sh_Row cI cL cZ zt ztEa ztn ztE ztC_25 ztO_25) ++ ((sh_Query cI cL cZ zq zqFa zqF_16 zqJa zqJ_16 zqNa zqN_16 zqE_16 zqL_16 zqD_16) ++ ((sh_Book cI cL cZ bb bbNa bbN bbSa bbS bbB bbBEa bbBn bbBE bbBC bbBO bbK bbKWa bbKn bbKW bbKTa bbKT bbKC bbV bbVWa bbVn bbVW bbVTa bbVT bbVC bbT))))) H := hP.sub [0, 16, 17, 1, 2, 3, 4, 5, 6, 7, 8, 9, 10, 11, 12, 13, 14, 15] rfl
  have hD : va_D A ((sh_HelpFile cI cL cZ hf hfS hfI hfR (.ref zt) hfC hfE hfV (.ref zq) hfN hfD (.ref bb) hfO hfF hfY) ++ ((sh_Row cI cL cZ zt ztEa ztn ztE ztC_25 ztO_25) ++ ((sh_Query cI cL cZ zq zqFa zqF_16 zqJa zqJ_16 zqNa zqN_16 zqE_16 zqL_16 zqD_16) ++ ((sh_Book cI cL cZ bb bbNa bbN bbSa bbS bbB bbBEa bbBn bbBE bbBC bbBO bbK bbKWa bbKn bbKW bbKTa bbKT bbKC bbV bbVWa bbVn bbVW bbVTa bbVT bbVC bbT))))) := hD.sub [0, 16, 17, 1, 2, 3, 4, 5, 6, 7, 8, 9, 10, 11, 12, 13, 14, 15] (by decide) rfl
  refine lv_iload_n hx hb d_HelpFile_search_28 rfl (lv_at hl 0 rfl) ?_
  obtain ⟨e0, e1, e2, e3, e4, e5, e6, e7, e8⟩ := hd
  subst e0
  subst e1
  subst e2
  subst e3
  subst e4
  subst e5
  subst e6
  subst e7
  subst e8
  exact ct_iret hx hb hr hlocks hK hP hD hS d_HelpFile_search_29
def X_HelpFile_search (hfO : Bool) (xc : String) : Prop := ((D_HelpFile_requireOpen hfO ∧ False) ∨ X_HelpFile_requireOpen hfO xc)
set_option maxHeartbeats 4000000 in
set_option maxRecDepth 100000 in
theorem x_HelpFile_search (l : Launch) (htr : ∀ e : Env, l.admits e → e.platform.stackTraces = false) (dC : Nat → ClassId) (dI : Nat → Nat → Nat) (cI cL cZ : ClassId) (hf : Nat) (hfS : Value) (hfI : Value) (hfR : Value) (hfC : Value) (hfE : Value) (hfV : Value) (hfN : Value) (hfD : Value) (hfO : Bool) (hfF : Int32) (hfY : Int32) (zt : Nat) (ztEa : Nat) (ztn : Nat) (ztE : Nat → Int32) (ztC : Int32) (ztO : Bool) (zq : Nat) (zqFa : Nat) (zqF : Nat → Int32) (zqJa : Nat) (zqJ : Nat → Int32) (zqNa : Nat) (zqN : Nat → Int32) (zqE : Int32) (zqL : Int32) (zqD : Bool) (bb : Nat) (bbNa : Nat) (bbN : Nat → Int64) (bbSa : Nat) (bbS : Nat → Int32) (bbB : Nat) (bbBEa : Nat) (bbBn : Nat) (bbBE : Nat → Int32) (bbBC : Int32) (bbBO : Bool) (bbK : Nat) (bbKWa : Nat) (bbKn : Nat) (bbKW : Nat → Int64) (bbKTa : Nat) (bbKT : Nat → Int32) (bbKC : Int32) (bbV : Nat) (bbVWa : Nat) (bbVn : Nat) (bbVW : Nat → Int64) (bbVTa : Nat) (bbVT : Nat → Int32) (bbVC : Int32) (bbT : Int32) (xc : String) (hd : X_HelpFile_search hfO xc) : CtT l y_HelpFile_search (Cond.code y_HelpFile_search b_HelpFile_search 2 (some .int) :: ga) { frames := 7, cells := 1, slots := 6, locals := 102 } (dC, dI) classes (Tys cI cL cZ) [.ref hf] ((sh_HelpFile cI cL cZ hf hfS hfI hfR (.ref zt) hfC hfE hfV (.ref zq) hfN hfD (.ref bb) hfO hfF hfY) ++ ((sh_Row cI cL cZ zt ztEa ztn ztE ztC ztO) ++ ((sh_Query cI cL cZ zq zqFa zqF zqJa zqJ zqNa zqN zqE zqL zqD) ++ ((sh_Book cI cL cZ bb bbNa bbN bbSa bbS bbB bbBEa bbBn bbBE bbBC bbBO bbK bbKWa bbKn bbKW bbKTa bbKT bbKC bbV bbVWa bbVn bbVW bbVTa bbVT bbVC bbT))))) xc := by
  refine CtT.ofW (by decide) (Nat.le_of_ble_eq_true rfl) ?_
  intro p e s m below meth c A ls hx hb hr hml hown hlocks hnh hts hK hN hZ hT hA hP hD hl
  have hown : s.vm.findClass R_HelpFile = some m.cls := hown
  have hl : lv_has ls 2 [(0, .ref hf)] := hl
  refine lv_aload_n hx hb d_HelpFile_search_0 rfl (lv_at hl 0 rfl) ?_
  rcases hd with hd | hd
  · skip
    obtain ⟨c1, hd⟩ := hd
    refine ct_VR (As := []) (rest := []) (C := R_HelpFile) (ci := 0) (q := (R_HelpFile, F_HelpFile, 14)) ⟨hx, hb, hml, hown, hts⟩ fm_HelpFile_requireOpen (c_HelpFile_requireOpen l dC dI cI cL cZ hf hfS hfI hfR (.ref zt) hfC hfE hfV (.ref zq) hfN hfD (.ref bb) hfO hfF hfY c1) k421_methodLink k422_instanceMethod k423_selects ⟨Nat.le_of_ble_eq_true rfl, Nat.le_of_ble_eq_true rfl⟩ rfl rfl hK hN hP hD [0] rfl rfl (by decide) 0 rfl rfl rfl rfl hl.1 rfl (Nat.le_of_ble_eq_true rfl) d_HelpFile_search_1 ?_
    refine lv_aload_n hx hb d_HelpFile_search_4 rfl (lv_at hl 0 rfl) ?_
    refine va_get (D := (dC, dI)) (ci := 0) (v := .ref zq) (C := R_HelpFile) (T := F_HelpFile) (N := 14) hx hb hts in_HelpFile hown hK hP 0 rfl rfl 7 (by decide) (hts _ (List.mem_cons_of_mem _ k454_fieldLink)) (fun _ h9 => h9) rfl d_HelpFile_search_5 ?_
    refine lv_aload_n hx hb d_HelpFile_search_8 rfl (lv_at hl 0 rfl) ?_
    refine va_get (D := (dC, dI)) (ci := 0) (v := .ref zt) (C := R_HelpFile) (T := F_HelpFile) (N := 14) hx hb hts in_HelpFile hown hK hP 0 rfl rfl 3 (by decide) (hts _ (List.mem_cons_of_mem _ k453_fieldLink)) (fun _ h9 => h9) rfl d_HelpFile_search_9 ?_
    refine lv_aload_n hx hb d_HelpFile_search_12 rfl (lv_at hl 0 rfl) ?_
    refine va_get (D := (dC, dI)) (ci := 0) (v := .ref bb) (C := R_HelpFile) (T := F_HelpFile) (N := 14) hx hb hts in_HelpFile hown hK hP 0 rfl rfl 10 (by decide) (hts _ (List.mem_cons_of_mem _ k396_fieldLink)) (fun _ h9 => h9) rfl d_HelpFile_search_13 ?_
    exact False.elim hd
  · exact ct_VT (As := []) (rest := []) (C := R_HelpFile) (ci := 0) (q := (R_HelpFile, F_HelpFile, 14)) ⟨hx, hb, hml, hown, hts⟩ hlocks hnh fm_HelpFile_requireOpen (x_HelpFile_requireOpen l htr dC dI cI cL cZ hf hfS hfI hfR (.ref zt) hfC hfE hfV (.ref zq) hfN hfD (.ref bb) hfO hfF hfY xc hd) k421_methodLink k422_instanceMethod k423_selects ⟨Nat.le_of_ble_eq_true rfl, Nat.le_of_ble_eq_true rfl⟩ (by decide) (by decide) hK hN hZ hT hA hP hD [0] rfl rfl (by decide) 0 rfl rfl rfl rfl hl.1 rfl (Nat.le_of_ble_eq_true rfl) d_HelpFile_search_1
-- HelpFile.show
abbrev b_HelpFile_show : ByteArray := prog_1_method_17_code
def y_HelpFile_show : MethodName := ⟨"HelpFile", "show", "(I)I"⟩
theorem k465_fieldLink : Cond.fieldLink "HelpFile" 58 "HelpFile" "screen" "LHelpFile$Screen;" ∈ ga := ga_t 234 (by decide +kernel) rfl
theorem k466_methodLink : Cond.methodLink "HelpFile" 223 ⟨"HelpFile$Screen", "lay", "(LHelpFile$Book;II)V"⟩ ∈ ga := ga_t 976 (by decide +kernel) rfl
theorem k467_instanceMethod : Cond.instanceMethod ⟨"HelpFile$Screen", "lay", "(LHelpFile$Book;II)V"⟩ ∈ ga := ga_t 977 (by decide +kernel) rfl
theorem k468_selects : Cond.selects "HelpFile$Screen" ⟨"HelpFile$Screen", "lay", "(LHelpFile$Book;II)V"⟩ ⟨"HelpFile$Screen", "lay", "(LHelpFile$Book;II)V"⟩ ∈ ga := ga_t 978 (by decide +kernel) rfl
theorem k469_methodLink : Cond.methodLink "HelpFile" 227 ⟨"HelpFile$Screen", "lines", "()I"⟩ ∈ ga := ga_t 1010 (by decide +kernel) rfl
theorem k470_instanceMethod : Cond.instanceMethod ⟨"HelpFile$Screen", "lines", "()I"⟩ ∈ ga := ga_t 1011 (by decide +kernel) rfl
theorem k471_selects : Cond.selects "HelpFile$Screen" ⟨"HelpFile$Screen", "lines", "()I"⟩ ⟨"HelpFile$Screen", "lines", "()I"⟩ ∈ ga := ga_t 1012 (by decide +kernel) rfl
set_option maxRecDepth 100000 in
theorem fm_HelpFile_show : Fm y_HelpFile_show b_HelpFile_show 2 (some .int) 1 := ⟨ga_t 974 rfl rfl, k54_initialized, by decide, by decide, by decide +kernel⟩
def D_HelpFile_show (znSn : Nat) (znPn : Nat) (bbBn : Nat) (k0 : Int32) (hfO : Bool) (zvT : Int32) (znSE : Nat → Int32) (znSC : Int32) (znSO : Bool) (znPE : Nat → Int32) (znPC : Int32) (znPO : Bool) (znA : Nat → Int32) (znL : Int32) (znW : Int32) (bbN : Nat → Int64) (bbS : Nat → Int32) (bbBE : Nat → Int32) (bbBC : Int32) (bbT : Int32) (res : Int32) (znSE' : Nat → Int32) (znSC' : Int32) (znSO' : Bool) (znPE' : Nat → Int32) (znPC' : Int32) (znPO' : Bool) (znA' : Nat → Int32) (znL' : Int32) (znW' : Int32) : Prop := (D_HelpFile_requireOpen hfO ∧ ((k0 < 4 → False) ∧ (¬ (k0 < 4) → ((k0 ≤ 40 → (∃ znSE_41 : Nat → Int32, ∃ znSC_41 : Int32, ∃ znSO_41 : Bool, ∃ znPE_41 : Nat → Int32, ∃ znPC_41 : Int32, ∃ znPO_41 : Bool, ∃ znA_41 : Nat → Int32, ∃ znL_41 : Int32, ∃ znW_41 : Int32, D_Screen_lay znSn znPn bbBn zvT k0 znSE znSC znSO znPE znPC znPO znA znL znW bbN bbS bbBE bbBC bbT znSE_41 znSC_41 znSO_41 znPE_41 znPC_41 znPO_41 znA_41 znL_41 znW_41 ∧ (res = znL_41 ∧ znSE' = znSE_41 ∧ znSC' = znSC_41 ∧ znSO' = znSO_41 ∧ znPE' = znPE_41 ∧ znPC' = znPC_41 ∧ znPO' = znPO_41 ∧ znA' = znA_41 ∧ znL' = znL_41 ∧ znW' = znW_41))) ∧ (¬ (k0 ≤ 40) → False)))))
theorem d_HelpFile_show_0 : decode b_HelpFile_show 0 = .ok (.aload_n 0, 1) := by decide +kernel
theorem d_HelpFile_show_1 : decode b_HelpFile_show 1 = .ok (.invokevirtual 149, 3) := by decide +kernel
theorem d_HelpFile_show_4 : decode b_HelpFile_show 4 = .ok (.iload_n 1, 1) := by decide +kernel
theorem d_HelpFile_show_5 : decode b_HelpFile_show 5 = .ok (.iconst 4, 1) := by decide +kernel
theorem d_HelpFile_show_6 : decode b_HelpFile_show 6 = .ok (.if_icmp .lt 9, 3) := by decide +kernel
theorem d_HelpFile_show_9 : decode b_HelpFile_show 9 = .ok (.iload_n 1, 1) := by decide +kernel
theorem d_HelpFile_show_10 : decode b_HelpFile_show 10 = .ok (.bipush 40, 2) := by decide +kernel
theorem d_HelpFile_show_12 : decode b_HelpFile_show 12 = .ok (.if_icmp .le 13, 3) := by decide +kernel
theorem d_HelpFile_show_15 : decode b_HelpFile_show 15 = .ok (.new 87, 3) := by decide +kernel
theorem d_HelpFile_show_25 : decode b_HelpFile_show 25 = .ok (.aload_n 0, 1) := by decide +kernel
theorem d_HelpFile_show_26 : decode b_HelpFile_show 26 = .ok (.getfield 58, 3) := by decide +kernel
theorem d_HelpFile_show_29 : decode b_HelpFile_show 29 = .ok (.aload_n 0, 1) := by decide +kernel
theorem d_HelpFile_show_30 : decode b_HelpFile_show 30 = .ok (.getfield 69, 3) := by decide +kernel
theorem d_HelpFile_show_33 : decode b_HelpFile_show 33 = .ok (.aload_n 0, 1) := by decide +kernel
theorem d_HelpFile_show_34 : decode b_HelpFile_show 34 = .ok (.getfield 44, 3) := by decide +kernel
theorem d_HelpFile_show_37 : decode b_HelpFile_show 37 = .ok (.invokevirtual 163, 3) := by decide +kernel
theorem d_HelpFile_show_40 : decode b_HelpFile_show 40 = .ok (.iload_n 1, 1) := by decide +kernel
theorem d_HelpFile_show_41 : decode b_HelpFile_show 41 = .ok (.invokevirtual 223, 3) := by decide +kernel
theorem d_HelpFile_show_44 : decode b_HelpFile_show 44 = .ok (.aload_n 0, 1) := by decide +kernel
theorem d_HelpFile_show_45 : decode b_HelpFile_show 45 = .ok (.getfield 58, 3) := by decide +kernel
theorem d_HelpFile_show_48 : decode b_HelpFile_show 48 = .ok (.invokevirtual 227, 3) := by decide +kernel
theorem d_HelpFile_show_51 : decode b_HelpFile_show 51 = .ok (.ireturn, 1) := by decide +kernel
set_option maxHeartbeats 4000000 in
set_option maxRecDepth 100000 in
theorem c_HelpFile_show (l : Launch) (dC : Nat → ClassId) (dI : Nat → Nat → Nat) (cI cL cZ : ClassId) (hf : Nat) (hfS : Value) (hfI : Value) (hfR : Value) (hfT : Value) (hfC : Value) (hfE : Value) (hfQ : Value) (hfD : Value) (hfO : Bool) (hfF : Int32) (hfY : Int32) (zv : Nat) (zvB : Nat) (zvBEa : Nat) (zvBn : Nat) (zvBE : Nat → Int32) (zvBC : Int32) (zvBO : Bool) (zvF : Nat) (zvFEa : Nat) (zvFn : Nat) (zvFE : Nat → Int32) (zvFC : Int32) (zvFO : Bool) (zvT : Int32) (zn : Nat) (znS : Nat) (znSEa : Nat) (znSn : Nat) (znSE : Nat → Int32) (znSC : Int32) (znSO : Bool) (znP : Nat) (znPEa : Nat) (znPn : Nat) (znPE : Nat → Int32) (znPC : Int32) (znPO : Bool) (znAa : Nat) (znA : Nat → Int32) (znL : Int32) (znW : Int32) (bb : Nat) (bbNa : Nat) (bbN : Nat → Int64) (bbSa : Nat) (bbS : Nat → Int32) (bbB : Nat) (bbBEa : Nat) (bbBn : Nat) (bbBE : Nat → Int32) (bbBC : Int32) (bbBO : Bool) (bbK : Nat) (bbKWa : Nat) (bbKn : Nat) (bbKW : Nat → Int64) (bbKTa : Nat) (bbKT : Nat → Int32) (bbKC : Int32) (bbV : Nat) (bbVWa : Nat) (bbVn : Nat) (bbVW : Nat → Int64) (bbVTa : Nat) (bbVT : Nat → Int32) (bbVC : Int32) (bbT : Int32) (k0 : Int32) (res : Int32) (znSE' : Nat → Int32) (znSC' : Int32) (znSO' : Bool) (znPE' : Nat → Int32) (znPC' : Int32) (znPO' : Bool) (znA' : Nat → Int32) (znL' : Int32) (znW' : Int32) (hd : D_HelpFile_show znSn znPn bbBn k0 hfO zvT znSE znSC znSO znPE znPC znPO znA znL znW bbN bbS bbBE bbBC bbT res znSE' znSC' znSO' znPE' znPC' znPO' znA' znL' znW') : Ctr l y_HelpFile_show (Cond.code y_HelpFile_show b_HelpFile_show 2 (some .int) :: ga) { frames := 4, cells := 0, slots := 0, locals := 87 } (dC, dI) classes (Tys cI cL cZ) [.ref hf, .int k0] ((sh_HelpFile cI cL cZ hf hfS hfI hfR hfT hfC hfE (.ref zv) hfQ (.ref zn) hfD (.ref bb) hfO hfF hfY) ++ ((sh_Visits cI cL cZ zv zvB zvBEa zvBn zvBE zvBC zvBO zvF zvFEa zvFn zvFE zvFC zvFO zvT) ++ ((sh_Screen cI cL cZ zn znS znSEa znSn znSE znSC znSO znP znPEa znPn znPE znPC znPO znAa znA znL znW) ++ ((sh_Book cI cL cZ bb bbNa bbN bbSa bbS bbB bbBEa bbBn bbBE bbBC bbBO bbK bbKWa bbKn bbKW bbKTa bbKT bbKC bbV bbVWa bbVn bbVW bbVTa bbVT bbVC bbT))))) (some (.int res)) ((sh_HelpFile cI cL cZ hf hfS hfI hfR hfT hfC hfE (.ref zv) hfQ (.ref zn) hfD (.ref bb) hfO hfF hfY) ++ ((sh_Visits cI cL cZ zv zvB zvBEa zvBn zvBE zvBC zvBO zvF zvFEa zvFn zvFE zvFC zvFO zvT) ++ ((sh_Screen cI cL cZ zn znS znSEa znSn znSE' znSC' znSO' znP znPEa znPn znPE' znPC' znPO' znAa znA' znL' znW') ++ ((sh_Book cI cL cZ bb bbNa bbN bbSa bbS bbB bbBEa bbBn bbBE bbBC bbBO bbK bbKWa bbKn bbKW bbKTa bbKT bbKC bbV bbVWa bbVn bbVW bbVTa bbVT bbVC bbT))))) := by
  refine Ctr.ofW (by decide) (Nat.le_of_ble_eq_true rfl) ?_
  intro p e s m below meth c A ls hx hb hr hml hown hlocks hts hK hN hA hP hD hS hl
  have hown : s.vm.findClass R_HelpFile = some m.cls := hown
  have hl : lv_has ls 2 [(0, .ref hf), (1, .int k0)] := hl
  refine lv_aload_n hx hb d_HelpFile_show_0 rfl (lv_at hl 0 rfl) ?_
  obtain ⟨c1, hd⟩ := hd
  refine ct_VR (As := []) (rest := []) (C := R_HelpFile) (ci := 0) (q := (R_HelpFile, F_HelpFile, 14)) ⟨hx, hb, hml, hown, hts⟩ fm_HelpFile_requireOpen (c_HelpFile_requireOpen l dC dI cI cL cZ hf hfS hfI hfR hfT hfC hfE (.ref zv) hfQ (.ref zn) hfD (.ref bb) hfO hfF hfY c1) k421_methodLink k422_instanceMethod k423_selects ⟨Nat.le_of_ble_eq_true rfl, Nat.le_of_ble_eq_true rfl⟩ rfl rfl hK hN hP hD [0] rfl rfl (by decide) 0 rfl rfl rfl rfl hl.1 rfl (Nat.le_of_ble_eq_true rfl) d_HelpFile_show_1 ?_
  refine lv_iload_n hx hb d_HelpFile_show_4 rfl (lv_at hl 1 rfl) ?_
  refine lv_iconst (v := 4) hx hb d_HelpFile_show_5 (by decide) ?_
  refine lv_icmp_lt (tgt := 15) hx hb d_HelpFile_show_6 (by decide) (fun h6 => ?_) (fun h6 => ?_)
  · have hd := hd.1 h6
    exact False.elim hd
  · have hd := hd.2 h6
    refine lv_iload_n hx hb d_HelpFile_show_9 rfl (lv_at hl 1 rfl) ?_
    refine lv_bipush (v := 40) hx hb d_HelpFile_show_10 (by decide) ?_
    refine lv_icmp_le (tgt := 25) hx hb d_HelpFile_show_12 (by decide) (fun h12 => ?_) (fun h12 => ?_)
    · have hd := hd.1 h12
      refine lv_aload_n hx hb d_HelpFile_show_25 rfl (lv_at hl 0 rfl) ?_
      refine va_get (D := (dC, dI)) (ci := 0) (v := .ref zn) (C := R_HelpFile) (T := F_HelpFile) (N := 14) hx hb hts in_HelpFile hown hK hP 0 rfl rfl 8 (by decide) (hts _ (List.mem_cons_of_mem _ k465_fieldLink)) (fun _ h9 => h9) rfl d_HelpFile_show_26 ?_
      refine lv_aload_n hx hb d_HelpFile_show_29 rfl (lv_at hl 0 rfl) ?_
      refine va_get (D := (dC, dI)) (ci := 0) (v := .ref bb) (C := R_HelpFile) (T := F_HelpFile) (N := 14) hx hb hts in_HelpFile hown hK hP 0 rfl rfl 10 (by decide) (hts _ (List.mem_cons_of_mem _ k396_fieldLink)) (fun _ h9 => h9) rfl d_HelpFile_show_30 ?_
      refine lv_aload_n hx hb d_HelpFile_show_33 rfl (lv_at hl 0 rfl) ?_
      refine va_get (D := (dC, dI)) (ci := 0) (v := .ref zv) (C := R_HelpFile) (T := F_HelpFile) (N := 14) hx hb hts in_HelpFile hown hK hP 0 rfl rfl 6 (by decide) (hts _ (List.mem_cons_of_mem _ k397_fieldLink)) (fun _ h9 => h9) rfl d_HelpFile_show_34 ?_
      refine ct_VR (As := []) (rest := [.ref bb, .ref zn]) (C := R_Visits) (ci := 6) (q := (R_Visits, F_Visits, 3)) ⟨hx, hb, hml, hown, hts⟩ fm_Visits_topic (c_Visits_topic l dC dI cI cL cZ zv zvB zvBEa zvBn zvBE zvBC zvBO zvF zvFEa zvFn zvFE zvFC zvFO zvT zvT rfl) k431_methodLink k432_instanceMethod k433_selects ⟨Nat.le_of_ble_eq_true rfl, Nat.le_of_ble_eq_true rfl⟩ rfl rfl hK hN hP hD [1, 2, 3, 4, 5] rfl rfl (by decide) 1 rfl rfl rfl rfl hl.1 rfl (Nat.le_of_ble_eq_true rfl) d_HelpFile_show_37 ?_
      refine lv_iload_n hx hb d_HelpFile_show_40 rfl (lv_at hl 1 rfl) ?_
      obtain ⟨znSE_41, znSC_41, znSO_41, znPE_41, znPC_41, znPO_41, znA_41, znL_41, znW_41, c41, hd⟩ := hd
      refine ct_V (As := [.ref bb, .int zvT, .int k0]) (rest := []) (C := R_Screen) (ci := 8) (q := (R_Screen, F_Screen, 5)) ⟨hx, hb, hml, hown, hts⟩ fm_Screen_lay (c_Screen_lay l dC dI cI cL cZ zn znS znSEa znSn znSE znSC znSO znP znPEa znPn znPE znPC znPO znAa znA znL znW bb bbNa bbN bbSa bbS bbB bbBEa bbBn bbBE bbBC bbBO bbK bbKWa bbKn bbKW bbKTa bbKT bbKC bbV bbVWa bbVn bbVW bbVTa bbVT bbVC bbT zvT k0 znSE_41 znSC_41 znSO_41 znPE_41 znPC_41 znPO_41 znA_41 znL_41 znW_41 c41) k466_methodLink k467_instanceMethod k468_selects ⟨Nat.le_of_ble_eq_true rfl, Nat.le_of_ble_eq_true rfl⟩ rfl rfl hK hN hP hD hS hA [6, 7, 8, 9, 10, 11, 12, 13, 14, 15, 16, 17, 18, 19, 20, 21, 22] [0, 1, 2, 3, 4, 5] rfl rfl rfl (by decide) (by decide) (by decide) 6 rfl rfl rfl rfl hl.1 rfl (Nat.le_of_ble_eq_true rfl) d_HelpFile_show_41 (fun H locs hP hD hS => ?_)
      have hP : va_P (dC, dI) classes ((sh_HelpFile cI cL cZ hf hfS hfI hfR hfT hfC hfE (.ref zv) hfQ (.ref zn) hfD (.ref bb) hfO hfF hfY) ++ ((sh_Visits cI cL cZ zv zvB zvBEa zvBn zvBE zvBC zvBO zvF zvFEa zvFn zvFE zvFC zvFO zvT) ++ ((sh_Screen cI cL cZ zn znS znSEa znSn znSE_41 znSC_41 znSO_41 znP znPEa znPn znPE_41 znPC_41 znPO_41 znAa znA_41 znL_41 znW_41) ++ ((sh_Book cI cL cZ bb bbNa bbN bbSa bbS bbB bbBEa bbBn bbBE bbBC bbBO bbK bbKWa bbKn bbKW bbKTa bbKT bbKC bbV bbVWa bbVn bbVW bbVTa bbVT bbVC bbT))))) H := hP.sub [0, 1, 2, 3, 4, 5, 6, 7, 8, 9, 10, 11, 12, 13, 14, 15, 16, 17, 18, 19, 20, 21, 22] rfl
      have hD : va_D A ((sh_HelpFile cI cL cZ hf hfS hfI hfR hfT hfC hfE (.ref zv) hfQ (.ref zn) hfD (.ref bb) hfO hfF hfY) ++ ((sh_Visits cI cL cZ zv zvB zvBEa zvBn zvBE zvBC zvBO zvF zvFEa zvFn zvFE zvFC zvFO zvT) ++ ((sh_Screen cI cL cZ zn znS znSEa znSn znSE_41 znSC_41 znSO_41 znP znPEa znPn znPE_41 znPC_41 znPO_41 znAa znA_41 znL_41 znW_41) ++ ((sh_Book cI cL cZ bb bbNa bbN bbSa bbS bbB bbBEa bbBn bbBE bbBC bbBO bbK bbKWa bbKn bbKW bbKTa bbKT bbKC bbV bbVWa bbVn bbVW bbVTa bbVT bbVC bbT))))) := hD.sub [0, 1, 2, 3, 4, 5, 6, 7, 8, 9, 10, 11, 12, 13, 14, 15, 16, 17, 18, 19, 20, 21, 22] (by decide) rfl
      refine lv_aload_n hx hb d_HelpFile_show_44 rfl (lv_at hl 0 rfl) ?_
      refine va_get (D := (dC, dI)) (ci := 0) (v := .ref zn) (C := R_HelpFile) (T := F_HelpFile) (N := 14) hx hb hts in_HelpFile hown hK hP 0 rfl rfl 8 (by decide) (hts _ (List.mem_cons_of_mem _ k465_fieldLink)) (fun _ h9 => h9) rfl d_HelpFile_show_45 ?_
      refine ct_VR (As := []) (rest := []) (C := R_Screen) (ci := 8) (q := (R_Screen, F_Screen, 5)) ⟨hx, hb, hml, hown, hts⟩ fm_Screen_lines (c_Screen_lines l dC dI cI cL cZ zn znS znSEa znSn znSE_41 znSC_41 znSO_41 znP znPEa znPn znPE_41 znPC_41 znPO_41 znAa znA_41 znL_41 znW_41 znL_41 rfl) k469_methodLink k470_instanceMethod k471_selects ⟨Nat.le_of_ble_eq_true rfl, Nat.le_of_ble_eq_true rfl⟩ rfl rfl hK hN hP hD [6, 7, 8, 9, 10, 11] rfl rfl (by decide) 6 rfl rfl rfl rfl hl.1 rfl (Nat.le_of_ble_eq_true rfl) d_HelpFile_show_48 ?_
      obtain ⟨e0, e1, e2, e3, e4, e5, e6, e7, e8, e9⟩ := hd
      subst e0
      subst e1
      subst e2
      subst e3
      subst e4
      subst e5
      subst e6
      subst e7
      subst e8
      subst e9
      exact ct_iret hx hb hr hlocks hK hP hD hS d_HelpFile_show_51
    · have hd := hd.2 h12
      exact False.elim hd
def X_HelpFile_show (k0 : Int32) (hfO : Bool) (xc : String) : Prop := ((D_HelpFile_requireOpen hfO ∧ ((k0 < 4 → (xc = "java/lang/IllegalArgumentException")) ∧ (¬ (k0 < 4) → ((k0 ≤ 40 → False) ∧ (¬ (k0 ≤ 40) → (xc = "java/lang/IllegalArgumentException")))))) ∨ X_HelpFile_requireOpen hfO xc)
theorem d_HelpFile_show_18 : decode b_HelpFile_show 18 = .ok (.dup, 1) := by decide +kernel
theorem d_HelpFile_show_19 : decode b_HelpFile_show 19 = .ok (.ldc 221, 2) := by decide +kernel
theorem d_HelpFile_show_21 : decode b_HelpFile_show 21 = .ok (.invokespecial 91, 3) := by decide +kernel
theorem d_HelpFile_show_24 : decode b_HelpFile_show 24 = .ok (.athrow, 1) := by decide +kernel
set_option maxHeartbeats 4000000 in
set_option maxRecDepth 100000 in
theorem x_HelpFile_show (l : Launch) (htr : ∀ e : Env, l.admits e → e.platform.stackTraces = false) (dC : Nat → ClassId) (dI : Nat → Nat → Nat) (cI cL cZ : ClassId) (hf : Nat) (hfS : Value) (hfI : Value) (hfR : Value) (hfT : Value) (hfC : Value) (hfE : Value) (hfQ : Value) (hfD : Value) (hfO : Bool) (hfF : Int32) (hfY : Int32) (zv : Nat) (zvB : Nat) (zvBEa : Nat) (zvBn : Nat) (zvBE : Nat → Int32) (zvBC : Int32) (zvBO : Bool) (zvF : Nat) (zvFEa : Nat) (zvFn : Nat) (zvFE : Nat → Int32) (zvFC : Int32) (zvFO : Bool) (zvT : Int32) (zn : Nat) (znS : Nat) (znSEa : Nat) (znSn : Nat) (znSE : Nat → Int32) (znSC : Int32) (znSO : Bool) (znP : Nat) (znPEa : Nat) (znPn : Nat) (znPE : Nat → Int32) (znPC : Int32) (znPO : Bool) (znAa : Nat) (znA : Nat → Int32) (znL : Int32) (znW : Int32) (bb : Nat) (bbNa : Nat) (bbN : Nat → Int64) (bbSa : Nat) (bbS : Nat → Int32) (bbB : Nat) (bbBEa : Nat) (bbBn : Nat) (bbBE : Nat → Int32) (bbBC : Int32) (bbBO : Bool) (bbK : Nat) (bbKWa : Nat) (bbKn : Nat) (bbKW : Nat → Int64) (bbKTa : Nat) (bbKT : Nat → Int32) (bbKC : Int32) (bbV : Nat) (bbVWa : Nat) (bbVn : Nat) (bbVW : Nat → Int64) (bbVTa : Nat) (bbVT : Nat → Int32) (bbVC : Int32) (bbT : Int32) (k0 : Int32) (xc : String) (hd : X_HelpFile_show k0 hfO xc) : CtT l y_HelpFile_show (Cond.code y_HelpFile_show b_HelpFile_show 2 (some .int) :: ga) { frames := 7, cells := 1, slots := 6, locals := 102 } (dC, dI) classes (Tys cI cL cZ) [.ref hf, .int k0] ((sh_HelpFile cI cL cZ hf hfS hfI hfR hfT hfC hfE (.ref zv) hfQ (.ref zn) hfD (.ref bb) hfO hfF hfY) ++ ((sh_Visits cI cL cZ zv zvB zvBEa zvBn zvBE zvBC zvBO zvF zvFEa zvFn zvFE zvFC zvFO zvT) ++ ((sh_Screen cI cL cZ zn znS znSEa znSn znSE znSC znSO znP znPEa znPn znPE znPC znPO znAa znA znL znW) ++ ((sh_Book cI cL cZ bb bbNa bbN bbSa bbS bbB bbBEa bbBn bbBE bbBC bbBO bbK bbKWa bbKn bbKW bbKTa bbKT bbKC bbV bbVWa bbVn bbVW bbVTa bbVT bbVC bbT))))) xc := by
  refine CtT.ofW (by decide) (Nat.le_of_ble_eq_true rfl) ?_
  intro p e s m below meth c A ls hx hb hr hml hown hlocks hnh hts hK hN hZ hT hA hP hD hl
  have hown : s.vm.findClass R_HelpFile = some m.cls := hown
  have hl : lv_has ls 2 [(0, .ref hf), (1, .int k0)] := hl
  refine lv_aload_n hx hb d_HelpFile_show_0 rfl (lv_at hl 0 rfl) ?_
  rcases hd with hd | hd
  · skip
    obtain ⟨c1, hd⟩ := hd
    refine ct_VR (As := []) (rest := []) (C := R_HelpFile) (ci := 0) (q := (R_HelpFile, F_HelpFile, 14)) ⟨hx, hb, hml, hown, hts⟩ fm_HelpFile_requireOpen (c_HelpFile_requireOpen l dC dI cI cL cZ hf hfS hfI hfR hfT hfC hfE (.ref zv) hfQ (.ref zn) hfD (.ref bb) hfO hfF hfY c1) k421_methodLink k422_instanceMethod k423_selects ⟨Nat.le_of_ble_eq_true rfl, Nat.le_of_ble_eq_true rfl⟩ rfl rfl hK hN hP hD [0] rfl rfl (by decide) 0 rfl rfl rfl rfl hl.1 rfl (Nat.le_of_ble_eq_true rfl) d_HelpFile_show_1 ?_
    refine lv_iload_n hx hb d_HelpFile_show_4 rfl (lv_at hl 1 rfl) ?_
    refine lv_iconst (v := 4) hx hb d_HelpFile_show_5 (by decide) ?_
    refine lv_icmp_lt (tgt := 15) hx hb d_HelpFile_show_6 (by decide) (fun h6 => ?_) (fun h6 => ?_)
    · have hd := hd.1 h6
      have e0 : xc = "java/lang/IllegalArgumentException" := hd
      subst e0
      obtain ⟨q9, hq9⟩ := hT.1 (221, "no such width") (by decide +kernel)
      exact ct_throw htr hx hb hml hl.1 hown hlocks hnh hts hZ hT oa_2 (by decide +kernel) (by decide +kernel) k411_classLink k412_instantiable k413_initialized hq9 d_HelpFile_show_15 d_HelpFile_show_18 d_HelpFile_show_19 d_HelpFile_show_21 d_HelpFile_show_24 (by decide) (by decide) (by decide) (by decide)
    · have hd := hd.2 h6
      refine lv_iload_n hx hb d_HelpFile_show_9 rfl (lv_at hl 1 rfl) ?_
      refine lv_bipush (v := 40) hx hb d_HelpFile_show_10 (by decide) ?_
      refine lv_icmp_le (tgt := 25) hx hb d_HelpFile_show_12 (by decide) (fun h12 => ?_) (fun h12 => ?_)
      · have hd := hd.1 h12
        refine lv_aload_n hx hb d_HelpFile_show_25 rfl (lv_at hl 0 rfl) ?_
        refine va_get (D := (dC, dI)) (ci := 0) (v := .ref zn) (C := R_HelpFile) (T := F_HelpFile) (N := 14) hx hb hts in_HelpFile hown hK hP 0 rfl rfl 8 (by decide) (hts _ (List.mem_cons_of_mem _ k465_fieldLink)) (fun _ h9 => h9) rfl d_HelpFile_show_26 ?_
        refine lv_aload_n hx hb d_HelpFile_show_29 rfl (lv_at hl 0 rfl) ?_
        refine va_get (D := (dC, dI)) (ci := 0) (v := .ref bb) (C := R_HelpFile) (T := F_HelpFile) (N := 14) hx hb hts in_HelpFile hown hK hP 0 rfl rfl 10 (by decide) (hts _ (List.mem_cons_of_mem _ k396_fieldLink)) (fun _ h9 => h9) rfl d_HelpFile_show_30 ?_
        refine lv_aload_n hx hb d_HelpFile_show_33 rfl (lv_at hl 0 rfl) ?_
        refine va_get (D := (dC, dI)) (ci := 0) (v := .ref zv) (C := R_HelpFile) (T := F_HelpFile) (N := 14) hx hb hts in_HelpFile hown hK hP 0 rfl rfl 6 (by decide) (hts _ (List.mem_cons_of_mem _ k397_fieldLink)) (fun _ h9 => h9) rfl d_HelpFile_show_34 ?_
        refine ct_VR (As := []) (rest := [.ref bb, .ref zn]) (C := R_Visits) (ci := 6) (q := (R_Visits, F_Visits, 3)) ⟨hx, hb, hml, hown, hts⟩ fm_Visits_topic (c_Visits_topic l dC dI cI cL cZ zv zvB zvBEa zvBn zvBE zvBC zvBO zvF zvFEa zvFn zvFE zvFC zvFO zvT zvT rfl) k431_methodLink k432_instanceMethod k433_selects ⟨Nat.le_of_ble_eq_true rfl, Nat.le_of_ble_eq_true rfl⟩ rfl rfl hK hN hP hD [1, 2, 3, 4, 5] rfl rfl (by decide) 1 rfl rfl rfl rfl hl.1 rfl (Nat.le_of_ble_eq_true rfl) d_HelpFile_show_37 ?_
        refine lv_iload_n hx hb d_HelpFile_show_40 rfl (lv_at hl 1 rfl) ?_
        exact False.elim hd
      · have hd := hd.2 h12
        have e0 : xc = "java/lang/IllegalArgumentException" := hd
        subst e0
        obtain ⟨q9, hq9⟩ := hT.1 (221, "no such width") (by decide +kernel)
        exact ct_throw htr hx hb hml hl.1 hown hlocks hnh hts hZ hT oa_2 (by decide +kernel) (by decide +kernel) k411_classLink k412_instantiable k413_initialized hq9 d_HelpFile_show_15 d_HelpFile_show_18 d_HelpFile_show_19 d_HelpFile_show_21 d_HelpFile_show_24 (by decide) (by decide) (by decide) (by decide)
  · exact ct_VT (As := []) (rest := []) (C := R_HelpFile) (ci := 0) (q := (R_HelpFile, F_HelpFile, 14)) ⟨hx, hb, hml, hown, hts⟩ hlocks hnh fm_HelpFile_requireOpen (x_HelpFile_requireOpen l htr dC dI cI cL cZ hf hfS hfI hfR hfT hfC hfE (.ref zv) hfQ (.ref zn) hfD (.ref bb) hfO hfF hfY xc hd) k421_methodLink k422_instanceMethod k423_selects ⟨Nat.le_of_ble_eq_true rfl, Nat.le_of_ble_eq_true rfl⟩ (by decide) (by decide) hK hN hZ hT hA hP hD [0] rfl rfl (by decide) 0 rfl rfl rfl rfl hl.1 rfl (Nat.le_of_ble_eq_true rfl) d_HelpFile_show_1
-- HelpFile.sign
abbrev b_HelpFile_sign : ByteArray := prog_1_method_18_code
def y_HelpFile_sign : MethodName := ⟨"HelpFile", "sign", "(II)I"⟩
theorem k472_methodLink : Cond.methodLink "HelpFile" 230 ⟨"HelpFile$Screen", "width", "()I"⟩ ∈ ga := ga_t 1021 (by decide +kernel) rfl
theorem k473_instanceMethod : Cond.instanceMethod ⟨"HelpFile$Screen", "width", "()I"⟩ ∈ ga := ga_t 1022 (by decide +kernel) rfl
theorem k474_selects : Cond.selects "HelpFile$Screen" ⟨"HelpFile$Screen", "width", "()I"⟩ ⟨"HelpFile$Screen", "width", "()I"⟩ ∈ ga := ga_t 1023 (by decide +kernel) rfl
theorem k475_methodLink : Cond.methodLink "HelpFile" 235 ⟨"HelpFile$Screen", "shown", "(II)I"⟩ ∈ ga := ga_t 1026 (by decide +kernel) rfl
theorem k476_instanceMethod : Cond.instanceMethod ⟨"HelpFile$Screen", "shown", "(II)I"⟩ ∈ ga := ga_t 1027 (by decide +kernel) rfl
theorem k477_selects : Cond.selects "HelpFile$Screen" ⟨"HelpFile$Screen", "shown", "(II)I"⟩ ⟨"HelpFile$Screen", "shown", "(II)I"⟩ ∈ ga := ga_t 1028 (by decide +kernel) rfl
set_option maxRecDepth 100000 in
theorem fm_HelpFile_sign : Fm y_HelpFile_sign b_HelpFile_sign 3 (some .int) 2 := ⟨ga_t 1020 rfl rfl, k54_initialized, by decide, by decide, by decide +kernel⟩
def D_HelpFile_sign (znSn : Nat) (k0 : Int32) (k1 : Int32) (znSE : Nat → Int32) (znSC : Int32) (znA : Nat → Int32) (znL : Int32) (znW : Int32) (res : Int32) : Prop := ((k0 < 0 → False) ∧ (¬ (k0 < 0) → ((znL ≤ k0 → False) ∧ (¬ (znL ≤ k0) → ((k1 < 0 → False) ∧ (¬ (k1 < 0) → ((k1 < znW → (∃ r46 : Int32, D_Screen_shown znSn k0 k1 znSE znSC znA znL r46 ∧ (res = r46))) ∧ (¬ (k1 < znW) → False))))))))
theorem d_HelpFile_sign_0 : decode b_HelpFile_sign 0 = .ok (.iload_n 1, 1) := by decide +kernel
theorem d_HelpFile_sign_1 : decode b_HelpFile_sign 1 = .ok (.ifCond .lt 29, 3) := by decide +kernel
theorem d_HelpFile_sign_4 : decode b_HelpFile_sign 4 = .ok (.iload_n 1, 1) := by decide +kernel
theorem d_HelpFile_sign_5 : decode b_HelpFile_sign 5 = .ok (.aload_n 0, 1) := by decide +kernel
theorem d_HelpFile_sign_6 : decode b_HelpFile_sign 6 = .ok (.getfield 58, 3) := by decide +kernel
theorem d_HelpFile_sign_9 : decode b_HelpFile_sign 9 = .ok (.invokevirtual 227, 3) := by decide +kernel
theorem d_HelpFile_sign_12 : decode b_HelpFile_sign 12 = .ok (.if_icmp .ge 18, 3) := by decide +kernel
theorem d_HelpFile_sign_15 : decode b_HelpFile_sign 15 = .ok (.iload_n 2, 1) := by decide +kernel
theorem d_HelpFile_sign_16 : decode b_HelpFile_sign 16 = .ok (.ifCond .lt 14, 3) := by decide +kernel
theorem d_HelpFile_sign_19 : decode b_HelpFile_sign 19 = .ok (.iload_n 2, 1) := by decide +kernel
theorem d_HelpFile_sign_20 : decode b_HelpFile_sign 20 = .ok (.aload_n 0, 1) := by decide +kernel
theorem d_HelpFile_sign_21 : decode b_HelpFile_sign 21 = .ok (.getfield 58, 3) := by decide +kernel
theorem d_HelpFile_sign_24 : decode b_HelpFile_sign 24 = .ok (.invokevirtual 230, 3) := by decide +kernel
theorem d_HelpFile_sign_27 : decode b_HelpFile_sign 27 = .ok (.if_icmp .lt 13, 3) := by decide +kernel
theorem d_HelpFile_sign_30 : decode b_HelpFile_sign 30 = .ok (.new 129, 3) := by decide +kernel
theorem d_HelpFile_sign_40 : decode b_HelpFile_sign 40 = .ok (.aload_n 0, 1) := by decide +kernel
theorem d_HelpFile_sign_41 : decode b_HelpFile_sign 41 = .ok (.getfield 58, 3) := by decide +kernel
theorem d_HelpFile_sign_44 : decode b_HelpFile_sign 44 = .ok (.iload_n 1, 1) := by decide +kernel
theorem d_HelpFile_sign_45 : decode b_HelpFile_sign 45 = .ok (.iload_n 2, 1) := by decide +kernel
theorem d_HelpFile_sign_46 : decode b_HelpFile_sign 46 = .ok (.invokevirtual 235, 3) := by decide +kernel
theorem d_HelpFile_sign_49 : decode b_HelpFile_sign 49 = .ok (.ireturn, 1) := by decide +kernel
set_option maxHeartbeats 4000000 in
set_option maxRecDepth 100000 in
theorem c_HelpFile_sign (l : Launch) (dC : Nat → ClassId) (dI : Nat → Nat → Nat) (cI cL cZ : ClassId) (hf : Nat) (hfS : Value) (hfI : Value) (hfR : Value) (hfT : Value) (hfC : Value) (hfE : Value) (hfV : Value) (hfQ : Value) (hfD : Value) (hfB : Value) (hfO : Bool) (hfF : Int32) (hfY : Int32) (zn : Nat) (znS : Nat) (znSEa : Nat) (znSn : Nat) (znSE : Nat → Int32) (znSC : Int32) (znSO : Bool) (znP : Nat) (znPEa : Nat) (znPn : Nat) (znPE : Nat → Int32) (znPC : Int32) (znPO : Bool) (znAa : Nat) (znA : Nat → Int32) (znL : Int32) (znW : Int32) (k0 : Int32) (k1 : Int32) (res : Int32) (hd : D_HelpFile_sign znSn k0 k1 znSE znSC znA znL znW res) : CtrR l y_HelpFile_sign (Cond.code y_HelpFile_sign b_HelpFile_sign 3 (some .int) :: ga) { frames := 2, cells := 0, slots := 0, locals := 44 } (dC, dI) classes (Tys cI cL cZ) [.ref hf, .int k0, .int k1] ((sh_HelpFile cI cL cZ hf hfS hfI hfR hfT hfC hfE hfV hfQ (.ref zn) hfD hfB hfO hfF hfY) ++ ((sh_Screen cI cL cZ zn znS znSEa znSn znSE znSC znSO znP znPEa znPn znPE znPC znPO znAa znA znL znW))) (some (.int res)) := by
  refine CtrR.ofW (by decide) (Nat.le_of_ble_eq_true rfl) ?_
  intro p e s m below meth c ls hx hb hr hml hown hlocks hts hK hN hP hD hl
  have hown : s.vm.findClass R_HelpFile = some m.cls := hown
  have hl : lv_has ls 3 [(0, .ref hf), (1, .int k0), (2, .int k1)] := hl
  refine lv_iload_n hx hb d_HelpFile_sign_0 rfl (lv_at hl 1 rfl) ?_
  refine lv_if_lt (tgt := 30) hx hb d_HelpFile_sign_1 (by decide) (fun h1 => ?_) (fun h1 => ?_)
  · have hd := hd.1 h1
    exact False.elim hd
  · have hd := hd.2 h1
    refine lv_iload_n hx hb d_HelpFile_sign_4 rfl (lv_at hl 1 rfl) ?_
    refine lv_aload_n hx hb d_HelpFile_sign_5 rfl (lv_at hl 0 rfl) ?_
    refine va_get (D := (dC, dI)) (ci := 0) (v := .ref zn) (C := R_HelpFile) (T := F_HelpFile) (N := 14) hx hb hts in_HelpFile hown hK hP 0 rfl rfl 8 (by decide) (hts _ (List.mem_cons_of_mem _ k465_fieldLink)) (fun _ h9 => h9) rfl d_HelpFile_sign_6 ?_
    refine ct_VR (As := []) (rest := [.int k0]) (C := R_Screen) (ci := 8) (q := (R_Screen, F_Screen, 5)) ⟨hx, hb, hml, hown, hts⟩ fm_Screen_lines (c_Screen_lines l dC dI cI cL cZ zn znS znSEa znSn znSE znSC znSO znP znPEa znPn znPE znPC znPO znAa znA znL znW znL rfl) k469_methodLink k470_instanceMethod k471_selects ⟨Nat.le_of_ble_eq_true rfl, Nat.le_of_ble_eq_true rfl⟩ rfl rfl hK hN hP hD [1, 2, 3, 4, 5, 6] rfl rfl (by decide) 1 rfl rfl rfl rfl hl.1 rfl (Nat.le_of_ble_eq_true rfl) d_HelpFile_sign_9 ?_
    refine lv_icmp_ge (tgt := 30) hx hb d_HelpFile_sign_12 (by decide) (fun h12 => ?_) (fun h12 => ?_)
    · have hd := hd.1 h12
      exact False.elim hd
    · have hd := hd.2 h12
      refine lv_iload_n hx hb d_HelpFile_sign_15 rfl (lv_at hl 2 rfl) ?_
      refine lv_if_lt (tgt := 30) hx hb d_HelpFile_sign_16 (by decide) (fun h16 => ?_) (fun h16 => ?_)
      · have hd := hd.1 h16
        exact False.elim hd
      · have hd := hd.2 h16
        refine lv_iload_n hx hb d_HelpFile_sign_19 rfl (lv_at hl 2 rfl) ?_
        refine lv_aload_n hx hb d_HelpFile_sign_20 rfl (lv_at hl 0 rfl) ?_
        refine va_get (D := (dC, dI)) (ci := 0) (v := .ref zn) (C := R_HelpFile) (T := F_HelpFile) (N := 14) hx hb hts in_HelpFile hown hK hP 0 rfl rfl 8 (by decide) (hts _ (List.mem_cons_of_mem _ k465_fieldLink)) (fun _ h9 => h9) rfl d_HelpFile_sign_21 ?_
        refine ct_VR (As := []) (rest := [.int k1]) (C := R_Screen) (ci := 8) (q := (R_Screen, F_Screen, 5)) ⟨hx, hb, hml, hown, hts⟩ fm_Screen_width (c_Screen_width l dC dI cI cL cZ zn znS znSEa znSn znSE znSC znSO znP znPEa znPn znPE znPC znPO znAa znA znL znW znW rfl) k472_methodLink k473_instanceMethod k474_selects ⟨Nat.le_of_ble_eq_true rfl, Nat.le_of_ble_eq_true rfl⟩ rfl rfl hK hN hP hD [1, 2, 3, 4, 5, 6] rfl rfl (by decide) 1 rfl rfl rfl rfl hl.1 rfl (Nat.le_of_ble_eq_true rfl) d_HelpFile_sign_24 ?_
        refine lv_icmp_lt (tgt := 40) hx hb d_HelpFile_sign_27 (by decide) (fun h27 => ?_) (fun h27 => ?_)
        · have hd := hd.1 h27
          refine lv_aload_n hx hb d_HelpFile_sign_40 rfl (lv_at hl 0 rfl) ?_
          refine va_get (D := (dC, dI)) (ci := 0) (v := .ref zn) (C := R_HelpFile) (T := F_HelpFile) (N := 14) hx hb hts in_HelpFile hown hK hP 0 rfl rfl 8 (by decide) (hts _ (List.mem_cons_of_mem _ k465_fieldLink)) (fun _ h9 => h9) rfl d_HelpFile_sign_41 ?_
          refine lv_iload_n hx hb d_HelpFile_sign_44 rfl (lv_at hl 1 rfl) ?_
          refine lv_iload_n hx hb d_HelpFile_sign_45 rfl (lv_at hl 2 rfl) ?_
          obtain ⟨r46, c46, hd⟩ := hd
          refine ct_VR (As := [.int k0, .int k1]) (rest := []) (C := R_Screen) (ci := 8) (q := (R_Screen, F_Screen, 5)) ⟨hx, hb, hml, hown, hts⟩ fm_Screen_shown (c_Screen_shown l dC dI cI cL cZ zn znS znSEa znSn znSE znSC znSO znP znPEa znPn znPE znPC znPO znAa znA znL znW k0 k1 r46 c46) k475_methodLink k476_instanceMethod k477_selects ⟨Nat.le_of_ble_eq_true rfl, Nat.le_of_ble_eq_true rfl⟩ rfl rfl hK hN hP hD [1, 2, 3, 4, 5, 6] rfl rfl (by decide) 1 rfl rfl rfl rfl hl.1 rfl (Nat.le_of_ble_eq_true rfl) d_HelpFile_sign_46 ?_
          have e0 : res = r46 := hd
          subst e0
          exact ct_iretR hx hb hr hlocks d_HelpFile_sign_49
        · have hd := hd.2 h27
          exact False.elim hd
def X_HelpFile_sign (znSn : Nat) (k0 : Int32) (k1 : Int32) (znSE : Nat → Int32) (znSC : Int32) (znA : Nat → Int32) (znL : Int32) (znW : Int32) (xc : String) : Prop := ((k0 < 0 → (xc = "java/lang/IndexOutOfBoundsException")) ∧ (¬ (k0 < 0) → ((znL ≤ k0 → (xc = "java/lang/IndexOutOfBoundsException")) ∧ (¬ (znL ≤ k0) → ((k1 < 0 → (xc = "java/lang/IndexOutOfBoundsException")) ∧ (¬ (k1 < 0) → ((k1 < znW → (∃ r46 : Int32, D_Screen_shown znSn k0 k1 znSE znSC znA znL r46 ∧ False)) ∧ (¬ (k1 < znW) → (xc = "java/lang/IndexOutOfBoundsException")))))))))
theorem d_HelpFile_sign_33 : decode b_HelpFile_sign 33 = .ok (.dup, 1) := by decide +kernel
theorem d_HelpFile_sign_34 : decode b_HelpFile_sign 34 = .ok (.ldc 233, 2) := by decide +kernel
theorem d_HelpFile_sign_36 : decode b_HelpFile_sign 36 = .ok (.invokespecial 133, 3) := by decide +kernel
theorem d_HelpFile_sign_39 : decode b_HelpFile_sign 39 = .ok (.athrow, 1) := by decide +kernel
set_option maxHeartbeats 4000000 in
set_option maxRecDepth 100000 in
theorem x_HelpFile_sign (l : Launch) (htr : ∀ e : Env, l.admits e → e.platform.stackTraces = false) (dC : Nat → ClassId) (dI : Nat → Nat → Nat) (cI cL cZ : ClassId) (hf : Nat) (hfS : Value) (hfI : Value) (hfR : Value) (hfT : Value) (hfC : Value) (hfE : Value) (hfV : Value) (hfQ : Value) (hfD : Value) (hfB : Value) (hfO : Bool) (hfF : Int32) (hfY : Int32) (zn : Nat) (znS : Nat) (znSEa : Nat) (znSn : Nat) (znSE : Nat → Int32) (znSC : Int32) (znSO : Bool) (znP : Nat) (znPEa : Nat) (znPn : Nat) (znPE : Nat → Int32) (znPC : Int32) (znPO : Bool) (znAa : Nat) (znA : Nat → Int32) (znL : Int32) (znW : Int32) (k0 : Int32) (k1 : Int32) (xc : String) (hd : X_HelpFile_sign znSn k0 k1 znSE znSC znA znL znW xc) : CtT l y_HelpFile_sign (Cond.code y_HelpFile_sign b_HelpFile_sign 3 (some .int) :: ga) { frames := 6, cells := 1, slots := 6, locals := 82 } (dC, dI) classes (Tys cI cL cZ) [.ref hf, .int k0, .int k1] ((sh_HelpFile cI cL cZ hf hfS hfI hfR hfT hfC hfE hfV hfQ (.ref zn) hfD hfB hfO hfF hfY) ++ ((sh_Screen cI cL cZ zn znS znSEa znSn znSE znSC znSO znP znPEa znPn znPE znPC znPO znAa znA znL znW))) xc := by
  refine CtT.ofW (by decide) (Nat.le_of_ble_eq_true rfl) ?_
  intro p e s m below meth c A ls hx hb hr hml hown hlocks hnh hts hK hN hZ hT hA hP hD hl
  have hown : s.vm.findClass R_HelpFile = some m.cls := hown
  have hl : lv_has ls 3 [(0, .ref hf), (1, .int k0), (2, .int k1)] := hl
  refine lv_iload_n hx hb d_HelpFile_sign_0 rfl (lv_at hl 1 rfl) ?_
  refine lv_if_lt (tgt := 30) hx hb d_HelpFile_sign_1 (by decide) (fun h1 => ?_) (fun h1 => ?_)
  · have hd := hd.1 h1
    have e0 : xc = "java/lang/IndexOutOfBoundsException" := hd
    subst e0
    obtain ⟨q9, hq9⟩ := hT.1 (233, "no such place is shown") (by decide +kernel)
    exact ct_throw htr hx hb hml hl.1 hown hlocks hnh hts hZ hT oa_3 (by decide +kernel) (by decide +kernel) k417_classLink k418_instantiable k419_initialized hq9 d_HelpFile_sign_30 d_HelpFile_sign_33 d_HelpFile_sign_34 d_HelpFile_sign_36 d_HelpFile_sign_39 (by decide) (by decide) (by decide) (by decide)
  · have hd := hd.2 h1
    refine lv_iload_n hx hb d_HelpFile_sign_4 rfl (lv_at hl 1 rfl) ?_
    refine lv_aload_n hx hb d_HelpFile_sign_5 rfl (lv_at hl 0 rfl) ?_
    refine va_get (D := (dC, dI)) (ci := 0) (v := .ref zn) (C := R_HelpFile) (T := F_HelpFile) (N := 14) hx hb hts in_HelpFile hown hK hP 0 rfl rfl 8 (by decide) (hts _ (List.mem_cons_of_mem _ k465_fieldLink)) (fun _ h9 => h9) rfl d_HelpFile_sign_6 ?_
    refine ct_VR (As := []) (rest := [.int k0]) (C := R_Screen) (ci := 8) (q := (R_Screen, F_Screen, 5)) ⟨hx, hb, hml, hown, hts⟩ fm_Screen_lines (c_Screen_lines l dC dI cI cL cZ zn znS znSEa znSn znSE znSC znSO znP znPEa znPn znPE znPC znPO znAa znA znL znW znL rfl) k469_methodLink k470_instanceMethod k471_selects ⟨Nat.le_of_ble_eq_true rfl, Nat.le_of_ble_eq_true rfl⟩ rfl rfl hK hN hP hD [1, 2, 3, 4, 5, 6] rfl rfl (by decide) 1 rfl rfl rfl rfl hl.1 rfl (Nat.le_of_ble_eq_true rfl) d_HelpFile_sign_9 ?_
    refine lv_icmp_ge (tgt := 30) hx hb d_HelpFile_sign_12 (by decide) (fun h12 => ?_) (fun h12 => ?_)
    · have hd := hd.1 h12
      have e0 : xc = "java/lang/IndexOutOfBoundsException" := hd
      subst e0
      obtain ⟨q9, hq9⟩ := hT.1 (233, "no such place is shown") (by decide +kernel)
      exact ct_throw htr hx hb hml hl.1 hown hlocks hnh hts hZ hT oa_3 (by decide +kernel) (by decide +kernel) k417_classLink k418_instantiable k419_initialized hq9 d_HelpFile_sign_30 d_HelpFile_sign_33 d_HelpFile_sign_34 d_HelpFile_sign_36 d_HelpFile_sign_39 (by decide) (by decide) (by decide) (by decide)
    · have hd := hd.2 h12
      refine lv_iload_n hx hb d_HelpFile_sign_15 rfl (lv_at hl 2 rfl) ?_
      refine lv_if_lt (tgt := 30) hx hb d_HelpFile_sign_16 (by decide) (fun h16 => ?_) (fun h16 => ?_)
      · have hd := hd.1 h16
        have e0 : xc = "java/lang/IndexOutOfBoundsException" := hd
        subst e0
        obtain ⟨q9, hq9⟩ := hT.1 (233, "no such place is shown") (by decide +kernel)
        exact ct_throw htr hx hb hml hl.1 hown hlocks hnh hts hZ hT oa_3 (by decide +kernel) (by decide +kernel) k417_classLink k418_instantiable k419_initialized hq9 d_HelpFile_sign_30 d_HelpFile_sign_33 d_HelpFile_sign_34 d_HelpFile_sign_36 d_HelpFile_sign_39 (by decide) (by decide) (by decide) (by decide)
      · have hd := hd.2 h16
        refine lv_iload_n hx hb d_HelpFile_sign_19 rfl (lv_at hl 2 rfl) ?_
        refine lv_aload_n hx hb d_HelpFile_sign_20 rfl (lv_at hl 0 rfl) ?_
        refine va_get (D := (dC, dI)) (ci := 0) (v := .ref zn) (C := R_HelpFile) (T := F_HelpFile) (N := 14) hx hb hts in_HelpFile hown hK hP 0 rfl rfl 8 (by decide) (hts _ (List.mem_cons_of_mem _ k465_fieldLink)) (fun _ h9 => h9) rfl d_HelpFile_sign_21 ?_
        refine ct_VR (As := []) (rest := [.int k1]) (C := R_Screen) (ci := 8) (q := (R_Screen, F_Screen, 5)) ⟨hx, hb, hml, hown, hts⟩ fm_Screen_width (c_Screen_width l dC dI cI cL cZ zn znS znSEa znSn znSE znSC znSO znP znPEa znPn znPE znPC znPO znAa znA znL znW znW rfl) k472_methodLink k473_instanceMethod k474_selects ⟨Nat.le_of_ble_eq_true rfl, Nat.le_of_ble_eq_true rfl⟩ rfl rfl hK hN hP hD [1, 2, 3, 4, 5, 6] rfl rfl (by decide) 1 rfl rfl rfl rfl hl.1 rfl (Nat.le_of_ble_eq_true rfl) d_HelpFile_sign_24 ?_
        refine lv_icmp_lt (tgt := 40) hx hb d_HelpFile_sign_27 (by decide) (fun h27 => ?_) (fun h27 => ?_)
        · have hd := hd.1 h27
          refine lv_aload_n hx hb d_HelpFile_sign_40 rfl (lv_at hl 0 rfl) ?_
          refine va_get (D := (dC, dI)) (ci := 0) (v := .ref zn) (C := R_HelpFile) (T := F_HelpFile) (N := 14) hx hb hts in_HelpFile hown hK hP 0 rfl rfl 8 (by decide) (hts _ (List.mem_cons_of_mem _ k465_fieldLink)) (fun _ h9 => h9) rfl d_HelpFile_sign_41 ?_
          refine lv_iload_n hx hb d_HelpFile_sign_44 rfl (lv_at hl 1 rfl) ?_
          refine lv_iload_n hx hb d_HelpFile_sign_45 rfl (lv_at hl 2 rfl) ?_
          obtain ⟨r46, c46, hd⟩ := hd
          refine ct_VR (As := [.int k0, .int k1]) (rest := []) (C := R_Screen) (ci := 8) (q := (R_Screen, F_Screen, 5)) ⟨hx, hb, hml, hown, hts⟩ fm_Screen_shown (c_Screen_shown l dC dI cI cL cZ zn znS znSEa znSn znSE znSC znSO znP znPEa znPn znPE znPC znPO znAa znA znL znW k0 k1 r46 c46) k475_methodLink k476_instanceMethod k477_selects ⟨Nat.le_of_ble_eq_true rfl, Nat.le_of_ble_eq_true rfl⟩ rfl rfl hK hN hP hD [1, 2, 3, 4, 5, 6] rfl rfl (by decide) 1 rfl rfl rfl rfl hl.1 rfl (Nat.le_of_ble_eq_true rfl) d_HelpFile_sign_46 ?_
          exact False.elim hd
        · have hd := hd.2 h27
          have e0 : xc = "java/lang/IndexOutOfBoundsException" := hd
          subst e0
          obtain ⟨q9, hq9⟩ := hT.1 (233, "no such place is shown") (by decide +kernel)
          exact ct_throw htr hx hb hml hl.1 hown hlocks hnh hts hZ hT oa_3 (by decide +kernel) (by decide +kernel) k417_classLink k418_instantiable k419_initialized hq9 d_HelpFile_sign_30 d_HelpFile_sign_33 d_HelpFile_sign_34 d_HelpFile_sign_36 d_HelpFile_sign_39 (by decide) (by decide) (by decide) (by decide)
