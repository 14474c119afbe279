/-! 14.book: what each method does, read off its bytecode (D_..), and its contract (c_..); written by a program of mine. -/
-- HelpFile.isTyped
abbrev b_HelpFile_isTyped : ByteArray := prog_1_method_21_code
def y_HelpFile_isTyped : MethodName := ⟨"HelpFile", "isTyped", "(I)Z"⟩
theorem k54_initialized : Cond.initialized "HelpFile" ∈ ga := ga_t 1 (by decide +kernel) rfl
set_option maxRecDepth 100000 in
theorem fm_HelpFile_isTyped : Fm y_HelpFile_isTyped b_HelpFile_isTyped 1 (some .boolean) 1 := ⟨ga_t 618 rfl rfl, k54_initialized, by decide, by decide, by decide +kernel⟩
def D_HelpFile_isTyped (k0 : Int32) (res : Bool) : Prop := ((k0 < 32 → (res = false)) ∧ (¬ (k0 < 32) → ((126 < k0 → (res = false)) ∧ (¬ (126 < k0) → (res = true)))))
theorem d_HelpFile_isTyped_0 : decode b_HelpFile_isTyped 0 = .ok (.iload_n 0, 1) := by decide +kernel
theorem d_HelpFile_isTyped_1 : decode b_HelpFile_isTyped 1 = .ok (.bipush 32, 2) := by decide +kernel
theorem d_HelpFile_isTyped_3 : decode b_HelpFile_isTyped 3 = .ok (.if_icmp .lt 13, 3) := by decide +kernel
theorem d_HelpFile_isTyped_6 : decode b_HelpFile_isTyped 6 = .ok (.iload_n 0, 1) := by decide +kernel
theorem d_HelpFile_isTyped_7 : decode b_HelpFile_isTyped 7 = .ok (.bipush 126, 2) := by decide +kernel
theorem d_HelpFile_isTyped_9 : decode b_HelpFile_isTyped 9 = .ok (.if_icmp .gt 7, 3) := by decide +kernel
theorem d_HelpFile_isTyped_12 : decode b_HelpFile_isTyped 12 = .ok (.iconst 1, 1) := by decide +kernel
theorem d_HelpFile_isTyped_13 : decode b_HelpFile_isTyped 13 = .ok (.goto 4, 3) := by decide +kernel
theorem d_HelpFile_isTyped_16 : decode b_HelpFile_isTyped 16 = .ok (.iconst 0, 1) := by decide +kernel
theorem d_HelpFile_isTyped_17 : decode b_HelpFile_isTyped 17 = .ok (.ireturn, 1) := by decide +kernel
set_option maxHeartbeats 4000000 in
set_option maxRecDepth 100000 in
theorem c_HelpFile_isTyped (l : Launch) (dC : Nat → ClassId) (dI : Nat → Nat → Nat) (cI cL cZ : ClassId) (k0 : Int32) (res : Bool) (hd : D_HelpFile_isTyped k0 res) : CtrR l y_HelpFile_isTyped (Cond.code y_HelpFile_isTyped b_HelpFile_isTyped 1 (some .boolean) :: ga) { frames := 0, cells := 0, slots := 0, locals := 0 } (dC, dI) classes (Tys cI cL cZ) [.int k0] (([] : va_W)) (some (.int (bI res))) := by
  refine CtrR.ofW (by decide) (Nat.le_of_ble_eq_true rfl) ?_
  intro p e s m below meth c ls hx hb hr hml hown hlocks hts hK hN hP hD hl
  have hown : s.vm.findClass R_HelpFile = some m.cls := hown
  have hl : lv_has ls 1 [(0, .int k0)] := hl
  refine lv_iload_n hx hb d_HelpFile_isTyped_0 rfl (lv_at hl 0 rfl) ?_
  refine lv_bipush (v := 32) hx hb d_HelpFile_isTyped_1 (by decide) ?_
  refine lv_icmp_lt (tgt := 16) hx hb d_HelpFile_isTyped_3 (by decide) (fun h3 => ?_) (fun h3 => ?_)
  · have hd := hd.1 h3
    refine lv_iconst (v := 0) hx hb d_HelpFile_isTyped_16 (by decide) ?_
    have e0 : res = false := hd
    subst e0
    exact ct_zretR (b := false) hx hb hr hlocks d_HelpFile_isTyped_17
  · have hd := hd.2 h3
    refine lv_iload_n hx hb d_HelpFile_isTyped_6 rfl (lv_at hl 0 rfl) ?_
    refine lv_bipush (v := 126) hx hb d_HelpFile_isTyped_7 (by decide) ?_
    refine lv_icmp_gt (tgt := 16) hx hb d_HelpFile_isTyped_9 (by decide) (fun h9 => ?_) (fun h9 => ?_)
    · have hd := hd.1 h9
      refine lv_iconst (v := 0) hx hb d_HelpFile_isTyped_16 (by decide) ?_
      have e0 : res = false := hd
      subst e0
      exact ct_zretR (b := false) hx hb hr hlocks d_HelpFile_isTyped_17
    · have hd := hd.2 h9
      refine lv_iconst (v := 1) hx hb d_HelpFile_isTyped_12 (by decide) ?_
      refine lv_goto (tgt := 17) hx hb d_HelpFile_isTyped_13 (by decide) ?_
      have e0 : res = true := hd
      subst e0
      exact ct_zretR (b := true) hx hb hr hlocks d_HelpFile_isTyped_17
-- Book.clear
abbrev b_Book_clear : ByteArray := prog_2_method_2_code
def y_Book_clear : MethodName := ⟨"HelpFile$Book", "clear", "()V"⟩
theorem k55_fieldLink : Cond.fieldLink "HelpFile$Book" 38 "HelpFile$Book" "topics" "I" ∈ ga := ga_t 212 (by decide +kernel) rfl
theorem k56_fieldLink : Cond.fieldLink "HelpFile$Book" 24 "HelpFile$Book" "bodies" "LHelpFile$Row;" ∈ ga := ga_t 209 (by decide +kernel) rfl
theorem k57_methodLink : Cond.methodLink "HelpFile$Book" 42 ⟨"HelpFile$Row", "shorten", "(I)V"⟩ ∈ ga := ga_t 285 (by decide +kernel) rfl
theorem k58_fieldLink : Cond.fieldLink "HelpFile$Book" 31 "HelpFile$Book" "keywords" "LHelpFile$WordList;" ∈ ga := ga_t 210 (by decide +kernel) rfl
theorem k59_methodLink : Cond.methodLink "HelpFile$Book" 45 ⟨"HelpFile$WordList", "clear", "()V"⟩ ∈ ga := ga_t 289 (by decide +kernel) rfl
theorem k60_instanceMethod : Cond.instanceMethod ⟨"HelpFile$WordList", "clear", "()V"⟩ ∈ ga := ga_t 290 (by decide +kernel) rfl
theorem k61_selects : Cond.selects "HelpFile$WordList" ⟨"HelpFile$WordList", "clear", "()V"⟩ ⟨"HelpFile$WordList", "clear", "()V"⟩ ∈ ga := ga_t 291 (by decide +kernel) rfl
theorem k62_initialized : Cond.initialized "HelpFile$Book" ∈ ga := ga_t 8 (by decide +kernel) rfl
set_option maxRecDepth 100000 in
theorem fm_Book_clear : Fm y_Book_clear b_Book_clear 1 none 0 := ⟨ga_t 284 rfl rfl, k62_initialized, by decide, by decide, by decide +kernel⟩
def D_Book_clear (bkBC : Int32) (bkBO : Bool) (bkKC : Int32) (bkT : Int32) (bkBC' : Int32) (bkBO' : Bool) (bkKC' : Int32) (bkT' : Int32) : Prop := (∃ bkBC_10 : Int32, ∃ bkBO_10 : Bool, D_Row_shorten 0 bkBC bkBO bkBC_10 bkBO_10 ∧ (bkBC' = bkBC_10 ∧ bkBO' = bkBO_10 ∧ bkKC' = 0 ∧ bkT' = 0))
theorem d_Book_clear_0 : decode b_Book_clear 0 = .ok (.aload_n 0, 1) := by decide +kernel
theorem d_Book_clear_1 : decode b_Book_clear 1 = .ok (.iconst 0, 1) := by decide +kernel
theorem d_Book_clear_2 : decode b_Book_clear 2 = .ok (.putfield 38, 3) := by decide +kernel
theorem d_Book_clear_5 : decode b_Book_clear 5 = .ok (.aload_n 0, 1) := by decide +kernel
theorem d_Book_clear_6 : decode b_Book_clear 6 = .ok (.getfield 24, 3) := by decide +kernel
theorem d_Book_clear_9 : decode b_Book_clear 9 = .ok (.iconst 0, 1) := by decide +kernel
theorem d_Book_clear_10 : decode b_Book_clear 10 = .ok (.invokevirtual 42, 3) := by decide +kernel
theorem d_Book_clear_13 : decode b_Book_clear 13 = .ok (.aload_n 0, 1) := by decide +kernel
theorem d_Book_clear_14 : decode b_Book_clear 14 = .ok (.getfield 31, 3) := by decide +kernel
theorem d_Book_clear_17 : decode b_Book_clear 17 = .ok (.invokevirtual 45, 3) := by decide +kernel
theorem d_Book_clear_20 : decode b_Book_clear 20 = .ok (.return_, 1) := by decide +kernel
set_option maxHeartbeats 4000000 in
set_option maxRecDepth 100000 in
theorem c_Book_clear (l : Launch) (dC : Nat → ClassId) (dI : Nat → Nat → Nat) (cI cL cZ : ClassId) (bk : Nat) (bkNa : Nat) (bkN : Nat → Int64) (bkSa : Nat) (bkS : Nat → Int32) (bkB : Nat) (bkBEa : Nat) (bkBn : Nat) (bkBE : Nat → Int32) (bkBC : Int32) (bkBO : Bool) (bkK : Nat) (bkKWa : Nat) (bkKn : Nat) (bkKW : Nat → Int64) (bkKTa : Nat) (bkKT : Nat → Int32) (bkKC : Int32) (bkV : Nat) (bkVWa : Nat) (bkVn : Nat) (bkVW : Nat → Int64) (bkVTa : Nat) (bkVT : Nat → Int32) (bkVC : Int32) (bkT : Int32) (bkBC' : Int32) (bkBO' : Bool) (bkKC' : Int32) (bkT' : Int32) (hd : D_Book_clear bkBC bkBO bkKC bkT bkBC' bkBO' bkKC' bkT') : Ctr l y_Book_clear (Cond.code y_Book_clear b_Book_clear 1 none :: ga) { frames := 1, cells := 0, slots := 0, locals := 21 } (dC, dI) classes (Tys cI cL cZ) [.ref bk] ((sh_Book cI cL cZ bk bkNa bkN bkSa bkS bkB bkBEa bkBn bkBE bkBC bkBO bkK bkKWa bkKn bkKW bkKTa bkKT bkKC bkV bkVWa bkVn bkVW bkVTa bkVT bkVC bkT)) none ((sh_Book cI cL cZ bk bkNa bkN bkSa bkS bkB bkBEa bkBn bkBE bkBC' bkBO' bkK bkKWa bkKn bkKW bkKTa bkKT bkKC' bkV bkVWa bkVn bkVW bkVTa bkVT bkVC bkT')) := by
  refine Ctr.ofW (by decide) (Nat.le_of_ble_eq_true rfl) ?_
  intro p e s m below meth c A ls hx hb hr hml hown hlocks hts hK hN hA hP hD hS hl
  have hown : s.vm.findClass R_Book = some m.cls := hown
  have hl : lv_has ls 1 [(0, .ref bk)] := hl
  refine lv_aload_n hx hb d_Book_clear_0 rfl (lv_at hl 0 rfl) ?_
  refine lv_iconst (v := 0) hx hb d_Book_clear_1 (by decide) ?_
  refine va_put (D := (dC, dI)) (ci := 3) (v := .int 0) (ty := t_Book 5) (C := R_Book) (T := F_Book) (N := 6) hx hb hts in_Book t_Book t_Book_ok n_Book hown hK hP hD hS 0 rfl rfl 5 (by decide) (hts _ (List.mem_cons_of_mem _ k55_fieldLink)) (fun _ h9 => h9) rfl (t_Book_ok 5 (by decide)) rfl rfl (Nat.le_of_ble_eq_true rfl) d_Book_clear_2 (fun H locs hP hD hS => ?_)
  have hP : va_P (dC, dI) classes ((sh_Book cI cL cZ bk bkNa bkN bkSa bkS bkB bkBEa bkBn bkBE bkBC bkBO bkK bkKWa bkKn bkKW bkKTa bkKT bkKC bkV bkVWa bkVn bkVW bkVTa bkVT bkVC 0)) H := hP
  have hD : va_D A ((sh_Book cI cL cZ bk bkNa bkN bkSa bkS bkB bkBEa bkBn bkBE bkBC bkBO bkK bkKWa bkKn bkKW bkKTa bkKT bkKC bkV bkVWa bkVn bkVW bkVTa bkVT bkVC 0)) := hD
  refine lv_aload_n hx hb d_Book_clear_5 rfl (lv_at hl 0 rfl) ?_
  refine va_get (D := (dC, dI)) (ci := 3) (v := .ref bkB) (C := R_Book) (T := F_Book) (N := 6) hx hb hts in_Book hown hK hP 0 rfl rfl 2 (by decide) (hts _ (List.mem_cons_of_mem _ k56_fieldLink)) (fun _ h9 => h9) rfl d_Book_clear_6 ?_
  refine lv_iconst (v := 0) hx hb d_Book_clear_9 (by decide) ?_
  obtain ⟨bkBC_10, bkBO_10, c10, hd⟩ := hd
  refine ct_V (As := [.int 0]) (rest := []) (C := R_Row) (ci := 1) (q := (R_Row, F_Row, 3)) ⟨hx, hb, hml, hown, hts⟩ fm_Row_shorten (c_Row_shorten l dC dI cI cL cZ bkB bkBEa bkBn bkBE bkBC bkBO 0 bkBC_10 bkBO_10 c10) k57_methodLink k17_instanceMethod k18_selects ⟨Nat.le_of_ble_eq_true rfl, Nat.le_of_ble_eq_true rfl⟩ rfl rfl hK hN hP hD hS hA [3, 4] [0, 1, 2, 5, 6, 7, 8, 9, 10] rfl rfl rfl (by decide) (by decide) (by decide) 3 rfl rfl rfl rfl hl.1 rfl (Nat.le_of_ble_eq_true rfl) d_Book_clear_10 (fun H locs hP hD hS => ?_)
  have hP : va_P (dC, dI) classes ((sh_Book cI cL cZ bk bkNa bkN bkSa bkS bkB bkBEa bkBn bkBE bkBC_10 bkBO_10 bkK bkKWa bkKn bkKW bkKTa bkKT bkKC bkV bkVWa bkVn bkVW bkVTa bkVT bkVC 0)) H := hP.sub [0, 1, 2, 9, 10, 3, 4, 5, 6, 7, 8] rfl
  have hD : va_D A ((sh_Book cI cL cZ bk bkNa bkN bkSa bkS bkB bkBEa bkBn bkBE bkBC_10 bkBO_10 bkK bkKWa bkKn bkKW bkKTa bkKT bkKC bkV bkVWa bkVn bkVW bkVTa bkVT bkVC 0)) := hD.sub [0, 1, 2, 9, 10, 3, 4, 5, 6, 7, 8] (by decide) rfl
  refine lv_aload_n hx hb d_Book_clear_13 rfl (lv_at hl 0 rfl) ?_
  refine va_get (D := (dC, dI)) (ci := 3) (v := .ref bkK) (C := R_Book) (T := F_Book) (N := 6) hx hb hts in_Book hown hK hP 0 rfl rfl 3 (by decide) (hts _ (List.mem_cons_of_mem _ k58_fieldLink)) (fun _ h9 => h9) rfl d_Book_clear_14 ?_
  refine ct_V (As := []) (rest := []) (C := R_WordList) (ci := 2) (q := (R_WordList, F_WordList, 3)) ⟨hx, hb, hml, hown, hts⟩ fm_WordList_clear (c_WordList_clear l dC dI cI cL cZ bkK bkKWa bkKn bkKW bkKTa bkKT bkKC 0 rfl) k59_methodLink k60_instanceMethod k61_selects ⟨Nat.le_of_ble_eq_true rfl, Nat.le_of_ble_eq_true rfl⟩ rfl rfl hK hN hP hD hS hA [5, 6, 7] [0, 1, 2, 3, 4, 8, 9, 10] rfl rfl rfl (by decide) (by decide) (by decide) 5 rfl rfl rfl rfl hl.1 rfl (Nat.le_of_ble_eq_true rfl) d_Book_clear_17 (fun H locs hP hD hS => ?_)
  have hP : va_P (dC, dI) classes ((sh_Book cI cL cZ bk bkNa bkN bkSa bkS bkB bkBEa bkBn bkBE bkBC_10 bkBO_10 bkK bkKWa bkKn bkKW bkKTa bkKT 0 bkV bkVWa bkVn bkVW bkVTa bkVT bkVC 0)) H := hP.sub [0, 1, 2, 3, 4, 8, 9, 10, 5, 6, 7] rfl
  have hD : va_D A ((sh_Book cI cL cZ bk bkNa bkN bkSa bkS bkB bkBEa bkBn bkBE bkBC_10 bkBO_10 bkK bkKWa bkKn bkKW bkKTa bkKT 0 bkV bkVWa bkVn bkVW bkVTa bkVT bkVC 0)) := hD.sub [0, 1, 2, 3, 4, 8, 9, 10, 5, 6, 7] (by decide) rfl
  obtain ⟨e0, e1, e2, e3⟩ := hd
  subst e0
  subst e1
  subst e2
  subst e3
  exact ct_vret hx hb hr hlocks hK hP hD hS d_Book_clear_20
-- Book.topics
abbrev b_Book_topics : ByteArray := prog_2_method_3_code
def y_Book_topics : MethodName := ⟨"HelpFile$Book", "topics", "()I"⟩
set_option maxRecDepth 100000 in
theorem fm_Book_topics : Fm y_Book_topics b_Book_topics 1 (some .int) 0 := ⟨ga_t 357 rfl rfl, k62_initialized, by decide, by decide, by decide +kernel⟩
def D_Book_topics (bkT : Int32) (res : Int32) : Prop := (res = bkT)
theorem d_Book_topics_0 : decode b_Book_topics 0 = .ok (.aload_n 0, 1) := by decide +kernel
theorem d_Book_topics_1 : decode b_Book_topics 1 = .ok (.getfield 38, 3) := by decide +kernel
theorem d_Book_topics_4 : decode b_Book_topics 4 = .ok (.ireturn, 1) := by decide +kernel
set_option maxHeartbeats 4000000 in
set_option maxRecDepth 100000 in
theorem c_Book_topics (l : Launch) (dC : Nat → ClassId) (dI : Nat → Nat → Nat) (cI cL cZ : ClassId) (bk : Nat) (bkNa : Nat) (bkN : Nat → Int64) (bkSa : Nat) (bkS : Nat → Int32) (bkB : Nat) (bkBEa : Nat) (bkBn : Nat) (bkBE : Nat → Int32) (bkBC : Int32) (bkBO : Bool) (bkK : Nat) (bkKWa : Nat) (bkKn : Nat) (bkKW : Nat → Int64) (bkKTa : Nat) (bkKT : Nat → Int32) (bkKC : Int32) (bkV : Nat) (bkVWa : Nat) (bkVn : Nat) (bkVW : Nat → Int64) (bkVTa : Nat) (bkVT : Nat → Int32) (bkVC : Int32) (bkT : Int32) (res : Int32) (hd : D_Book_topics bkT res) : CtrR l y_Book_topics (Cond.code y_Book_topics b_Book_topics 1 (some .int) :: ga) { frames := 0, cells := 0, slots := 0, locals := 0 } (dC, dI) classes (Tys cI cL cZ) [.ref bk] ((sh_Book cI cL cZ bk bkNa bkN bkSa bkS bkB bkBEa bkBn bkBE bkBC bkBO bkK bkKWa bkKn bkKW bkKTa bkKT bkKC bkV bkVWa bkVn bkVW bkVTa bkVT bkVC bkT)) (some (.int res)) := by
  refine CtrR.ofW (by decide) (Nat.le_of_ble_eq_true rfl) ?_
  intro p e s m below meth c ls hx hb hr hml hown hlocks hts hK hN hP hD hl
  have hown : s.vm.findClass R_Book = some m.cls := hown
  have hl : lv_has ls 1 [(0, .ref bk)] := hl
  refine lv_aload_n hx hb d_Book_topics_0 rfl (lv_at hl 0 rfl) ?_
  refine va_get (D := (dC, dI)) (ci := 3) (v := .int bkT) (C := R_Book) (T := F_Book) (N := 6) hx hb hts in_Book hown hK hP 0 rfl rfl 5 (by decide) (hts _ (List.mem_cons_of_mem _ k55_fieldLink)) (fun _ h9 => h9) rfl d_Book_topics_1 ?_
  have e0 : res = bkT := hd
  subst e0
  exact ct_iretR hx hb hr hlocks d_Book_topics_4
-- Book.bodies
abbrev b_Book_bodies : ByteArray := prog_2_method_4_code
def y_Book_bodies : MethodName := ⟨"HelpFile$Book", "bodies", "()LHelpFile$Row;"⟩
set_option maxRecDepth 100000 in
theorem fm_Book_bodies : Fm y_Book_bodies b_Book_bodies 1 (some (.object "HelpFile$Row")) 0 := ⟨ga_t 400 rfl rfl, k62_initialized, by decide, by decide, by decide +kernel⟩
def D_Book_bodies  : Prop := True
theorem d_Book_bodies_0 : decode b_Book_bodies 0 = .ok (.aload_n 0, 1) := by decide +kernel
theorem d_Book_bodies_1 : decode b_Book_bodies 1 = .ok (.getfield 24, 3) := by decide +kernel
theorem d_Book_bodies_4 : decode b_Book_bodies 4 = .ok (.areturn, 1) := by decide +kernel
set_option maxHeartbeats 4000000 in
set_option maxRecDepth 100000 in
theorem c_Book_bodies (l : Launch) (dC : Nat → ClassId) (dI : Nat → Nat → Nat) (cI cL cZ : ClassId) (bk : Nat) (bkNa : Nat) (bkN : Nat → Int64) (bkSa : Nat) (bkS : Nat → Int32) (bkB : Nat) (bkBEa : Nat) (bkBn : Nat) (bkBE : Nat → Int32) (bkBC : Int32) (bkBO : Bool) (bkK : Nat) (bkKWa : Nat) (bkKn : Nat) (bkKW : Nat → Int64) (bkKTa : Nat) (bkKT : Nat → Int32) (bkKC : Int32) (bkV : Nat) (bkVWa : Nat) (bkVn : Nat) (bkVW : Nat → Int64) (bkVTa : Nat) (bkVT : Nat → Int32) (bkVC : Int32) (bkT : Int32) (hd : D_Book_bodies) : CtrR l y_Book_bodies (Cond.code y_Book_bodies b_Book_bodies 1 (some (.object "HelpFile$Row")) :: ga) { frames := 0, cells := 0, slots := 0, locals := 0 } (dC, dI) classes (Tys cI cL cZ) [.ref bk] ((sh_Book cI cL cZ bk bkNa bkN bkSa bkS bkB bkBEa bkBn bkBE bkBC bkBO bkK bkKWa bkKn bkKW bkKTa bkKT bkKC bkV bkVWa bkVn bkVW bkVTa bkVT bkVC bkT)) (some (.ref bkB)) := by
  refine CtrR.ofW (by decide) (Nat.le_of_ble_eq_true rfl) ?_
  intro p e s m below meth c ls hx hb hr hml hown hlocks hts hK hN hP hD hl
  have hown : s.vm.findClass R_Book = some m.cls := hown
  have hl : lv_has ls 1 [(0, .ref bk)] := hl
  refine lv_aload_n hx hb d_Book_bodies_0 rfl (lv_at hl 0 rfl) ?_
  refine va_get (D := (dC, dI)) (ci := 3) (v := .ref bkB) (C := R_Book) (T := F_Book) (N := 6) hx hb hts in_Book hown hK hP 0 rfl rfl 2 (by decide) (hts _ (List.mem_cons_of_mem _ k56_fieldLink)) (fun _ h9 => h9) rfl d_Book_bodies_1 ?_
  exact ct_aretR hx hb hr (by first | exact Or.inl ⟨_, rfl⟩ | exact Or.inr ⟨_, rfl⟩) hlocks d_Book_bodies_4
-- Book.keywords
abbrev b_Book_keywords : ByteArray := prog_2_method_5_code
def y_Book_keywords : MethodName := ⟨"HelpFile$Book", "keywords", "()LHelpFile$WordList;"⟩
set_option maxRecDepth 100000 in
theorem fm_Book_keywords : Fm y_Book_keywords b_Book_keywords 1 (some (.object "HelpFile$WordList")) 0 := ⟨ga_t 495 rfl rfl, k62_initialized, by decide, by decide, by decide +kernel⟩
def D_Book_keywords  : Prop := True
theorem d_Book_keywords_0 : decode b_Book_keywords 0 = .ok (.aload_n 0, 1) := by decide +kernel
theorem d_Book_keywords_1 : decode b_Book_keywords 1 = .ok (.getfield 31, 3) := by decide +kernel
theorem d_Book_keywords_4 : decode b_Book_keywords 4 = .ok (.areturn, 1) := by decide +kernel
set_option maxHeartbeats 4000000 in
set_option maxRecDepth 100000 in
theorem c_Book_keywords (l : Launch) (dC : Nat → ClassId) (dI : Nat → Nat → Nat) (cI cL cZ : ClassId) (bk : Nat) (bkNa : Nat) (bkN : Nat → Int64) (bkSa : Nat) (bkS : Nat → Int32) (bkB : Nat) (bkBEa : Nat) (bkBn : Nat) (bkBE : Nat → Int32) (bkBC : Int32) (bkBO : Bool) (bkK : Nat) (bkKWa : Nat) (bkKn : Nat) (bkKW : Nat → Int64) (bkKTa : Nat) (bkKT : Nat → Int32) (bkKC : Int32) (bkV : Nat) (bkVWa : Nat) (bkVn : Nat) (bkVW : Nat → Int64) (bkVTa : Nat) (bkVT : Nat → Int32) (bkVC : Int32) (bkT : Int32) (hd : D_Book_keywords) : CtrR l y_Book_keywords (Cond.code y_Book_keywords b_Book_keywords 1 (some (.object "HelpFile$WordList")) :: ga) { frames := 0, cells := 0, slots := 0, locals := 0 } (dC, dI) classes (Tys cI cL cZ) [.ref bk] ((sh_Book cI cL cZ bk bkNa bkN bkSa bkS bkB bkBEa bkBn bkBE bkBC bkBO bkK bkKWa bkKn bkKW bkKTa bkKT bkKC bkV bkVWa bkVn bkVW bkVTa bkVT bkVC bkT)) (some (.ref bkK)) := by
  refine CtrR.ofW (by decide) (Nat.le_of_ble_eq_true rfl) ?_
  intro p e s m below meth c ls hx hb hr hml hown hlocks hts hK hN hP hD hl
  have hown : s.vm.findClass R_Book = some m.cls := hown
  have hl : lv_has ls 1 [(0, .ref bk)] := hl
  refine lv_aload_n hx hb d_Book_keywords_0 rfl (lv_at hl 0 rfl) ?_
  refine va_get (D := (dC, dI)) (ci := 3) (v := .ref bkK) (C := R_Book) (T := F_Book) (N := 6) hx hb hts in_Book hown hK hP 0 rfl rfl 3 (by decide) (hts _ (List.mem_cons_of_mem _ k58_fieldLink)) (fun _ h9 => h9) rfl d_Book_keywords_1 ?_
  exact ct_aretR hx hb hr (by first | exact Or.inl ⟨_, rfl⟩ | exact Or.inr ⟨_, rfl⟩) hlocks d_Book_keywords_4
-- Book.words
abbrev b_Book_words : ByteArray := prog_2_method_6_code
def y_Book_words : MethodName := ⟨"HelpFile$Book", "words", "()LHelpFile$WordList;"⟩
theorem k63_fieldLink : Cond.fieldLink "HelpFile$Book" 35 "HelpFile$Book" "words" "LHelpFile$WordList;" ∈ ga := ga_t 211 (by decide +kernel) rfl
set_option maxRecDepth 100000 in
theorem fm_Book_words : Fm y_Book_words b_Book_words 1 (some (.object "HelpFile$WordList")) 0 := ⟨ga_t 539 rfl rfl, k62_initialized, by decide, by decide, by decide +kernel⟩
def D_Book_words  : Prop := True
theorem d_Book_words_0 : decode b_Book_words 0 = .ok (.aload_n 0, 1) := by decide +kernel
theorem d_Book_words_1 : decode b_Book_words 1 = .ok (.getfield 35, 3) := by decide +kernel
theorem d_Book_words_4 : decode b_Book_words 4 = .ok (.areturn, 1) := by decide +kernel
set_option maxHeartbeats 4000000 in
set_option maxRecDepth 100000 in
theorem c_Book_words (l : Launch) (dC : Nat → ClassId) (dI : Nat → Nat → Nat) (cI cL cZ : ClassId) (bk : Nat) (bkNa : Nat) (bkN : Nat → Int64) (bkSa : Nat) (bkS : Nat → Int32) (bkB : Nat) (bkBEa : Nat) (bkBn : Nat) (bkBE : Nat → Int32) (bkBC : Int32) (bkBO : Bool) (bkK : Nat) (bkKWa : Nat) (bkKn : Nat) (bkKW : Nat → Int64) (bkKTa : Nat) (bkKT : Nat → Int32) (bkKC : Int32) (bkV : Nat) (bkVWa : Nat) (bkVn : Nat) (bkVW : Nat → Int64) (bkVTa : Nat) (bkVT : Nat → Int32) (bkVC : Int32) (bkT : Int32) (hd : D_Book_words) : CtrR l y_Book_words (Cond.code y_Book_words b_Book_words 1 (some (.object "HelpFile$WordList")) :: ga) { frames := 0, cells := 0, slots := 0, locals := 0 } (dC, dI) classes (Tys cI cL cZ) [.ref bk] ((sh_Book cI cL cZ bk bkNa bkN bkSa bkS bkB bkBEa bkBn bkBE bkBC bkBO bkK bkKWa bkKn bkKW bkKTa bkKT bkKC bkV bkVWa bkVn bkVW bkVTa bkVT bkVC bkT)) (some (.ref bkV)) := by
  refine CtrR.ofW (by decide) (Nat.le_of_ble_eq_true rfl) ?_
  intro p e s m below meth c ls hx hb hr hml hown hlocks hts hK hN hP hD hl
  have hown : s.vm.findClass R_Book = some m.cls := hown
  have hl : lv_has ls 1 [(0, .ref bk)] := hl
  refine lv_aload_n hx hb d_Book_words_0 rfl (lv_at hl 0 rfl) ?_
  refine va_get (D := (dC, dI)) (ci := 3) (v := .ref bkV) (C := R_Book) (T := F_Book) (N := 6) hx hb hts in_Book hown hK hP 0 rfl rfl 4 (by decide) (hts _ (List.mem_cons_of_mem _ k63_fieldLink)) (fun _ h9 => h9) rfl d_Book_words_1 ?_
  exact ct_aretR hx hb hr (by first | exact Or.inl ⟨_, rfl⟩ | exact Or.inr ⟨_, rfl⟩) hlocks d_Book_words_4
-- Book.everyTopic
abbrev b_Book_everyTopic : ByteArray := prog_2_method_7_code
def y_Book_everyTopic : MethodName := ⟨"HelpFile$Book", "everyTopic", "()I"⟩
set_option maxRecDepth 100000 in
theorem fm_Book_everyTopic : Fm y_Book_everyTopic b_Book_everyTopic 1 (some .int) 0 := ⟨ga_t 626 rfl rfl, k62_initialized, by decide, by decide, by decide +kernel⟩
def D_Book_everyTopic (bkT : Int32) (res : Int32) : Prop := (res = (1 <<< (bkT &&& 31)) - 1)
theorem d_Book_everyTopic_0 : decode b_Book_everyTopic 0 = .ok (.iconst 1, 1) := by decide +kernel
theorem d_Book_everyTopic_1 : decode b_Book_everyTopic 1 = .ok (.aload_n 0, 1) := by decide +kernel
theorem d_Book_everyTopic_2 : decode b_Book_everyTopic 2 = .ok (.getfield 38, 3) := by decide +kernel
theorem d_Book_everyTopic_5 : decode b_Book_everyTopic 5 = .ok (.ishl, 1) := by decide +kernel
theorem d_Book_everyTopic_6 : decode b_Book_everyTopic 6 = .ok (.iconst 1, 1) := by decide +kernel
theorem d_Book_everyTopic_7 : decode b_Book_everyTopic 7 = .ok (.isub, 1) := by decide +kernel
theorem d_Book_everyTopic_8 : decode b_Book_everyTopic 8 = .ok (.ireturn, 1) := by decide +kernel
set_option maxHeartbeats 4000000 in
set_option maxRecDepth 100000 in
theorem c_Book_everyTopic (l : Launch) (dC : Nat → ClassId) (dI : Nat → Nat → Nat) (cI cL cZ : ClassId) (bk : Nat) (bkNa : Nat) (bkN : Nat → Int64) (bkSa : Nat) (bkS : Nat → Int32) (bkB : Nat) (bkBEa : Nat) (bkBn : Nat) (bkBE : Nat → Int32) (bkBC : Int32) (bkBO : Bool) (bkK : Nat) (bkKWa : Nat) (bkKn : Nat) (bkKW : Nat → Int64) (bkKTa : Nat) (bkKT : Nat → Int32) (bkKC : Int32) (bkV : Nat) (bkVWa : Nat) (bkVn : Nat) (bkVW : Nat → Int64) (bkVTa : Nat) (bkVT : Nat → Int32) (bkVC : Int32) (bkT : Int32) (res : Int32) (hd : D_Book_everyTopic bkT res) : CtrR l y_Book_everyTopic (Cond.code y_Book_everyTopic b_Book_everyTopic 1 (some .int) :: ga) { frames := 0, cells := 0, slots := 0, locals := 0 } (dC, dI) classes (Tys cI cL cZ) [.ref bk] ((sh_Book cI cL cZ bk bkNa bkN bkSa bkS bkB bkBEa bkBn bkBE bkBC bkBO bkK bkKWa bkKn bkKW bkKTa bkKT bkKC bkV bkVWa bkVn bkVW bkVTa bkVT bkVC bkT)) (some (.int res)) := by
  refine CtrR.ofW (by decide) (Nat.le_of_ble_eq_true rfl) ?_
  intro p e s m below meth c ls hx hb hr hml hown hlocks hts hK hN hP hD hl
  have hown : s.vm.findClass R_Book = some m.cls := hown
  have hl : lv_has ls 1 [(0, .ref bk)] := hl
  refine lv_iconst (v := 1) hx hb d_Book_everyTopic_0 (by decide) ?_
  refine lv_aload_n hx hb d_Book_everyTopic_1 rfl (lv_at hl 0 rfl) ?_
  refine va_get (D := (dC, dI)) (ci := 3) (v := .int bkT) (C := R_Book) (T := F_Book) (N := 6) hx hb hts in_Book hown hK hP 0 rfl rfl 5 (by decide) (hts _ (List.mem_cons_of_mem _ k55_fieldLink)) (fun _ h9 => h9) rfl d_Book_everyTopic_2 ?_
  refine lv_ishl hx hb d_Book_everyTopic_5 ?_
  refine lv_iconst (v := 1) hx hb d_Book_everyTopic_6 (by decide) ?_
  refine lv_isub hx hb d_Book_everyTopic_7 ?_
  have e0 : res = (1 <<< (bkT &&& 31)) - 1 := hd
  subst e0
  exact ct_iretR hx hb hr hlocks d_Book_everyTopic_8
-- Book.beginTopic
abbrev b_Book_beginTopic : ByteArray := prog_2_method_8_code
def y_Book_beginTopic : MethodName := ⟨"HelpFile$Book", "beginTopic", "(J)V"⟩
theorem k64_fieldLink : Cond.fieldLink "HelpFile$Book" 9 "HelpFile$Book" "names" "[J" ∈ ga := ga_t 207 (by decide +kernel) rfl
theorem k65_fieldLink : Cond.fieldLink "HelpFile$Book" 15 "HelpFile$Book" "starts" "[I" ∈ ga := ga_t 208 (by decide +kernel) rfl
theorem k66_methodLink : Cond.methodLink "HelpFile$Book" 48 ⟨"HelpFile$Row", "count", "()I"⟩ ∈ ga := ga_t 329 (by decide +kernel) rfl
theorem k67_instanceMethod : Cond.instanceMethod ⟨"HelpFile$Row", "count", "()I"⟩ ∈ ga := ga_t 294 (by decide +kernel) rfl
theorem k68_selects : Cond.selects "HelpFile$Row" ⟨"HelpFile$Row", "count", "()I"⟩ ⟨"HelpFile$Row", "count", "()I"⟩ ∈ ga := ga_t 295 (by decide +kernel) rfl
set_option maxRecDepth 100000 in
theorem fm_Book_beginTopic : Fm y_Book_beginTopic b_Book_beginTopic 3 none 1 := ⟨ga_t 361 rfl rfl, k62_initialized, by decide, by decide, by decide +kernel⟩
def D_Book_beginTopic (w0 : Int64) (bkN : Nat → Int64) (bkS : Nat → Int32) (bkBC : Int32) (bkT : Int32) (bkN' : Nat → Int64) (bkS' : Nat → Int32) (bkT' : Int32) : Prop := ((10 ≤ bkT → (bkN' = bkN ∧ bkS' = bkS ∧ bkT' = bkT)) ∧ (¬ (10 ≤ bkT) → (vp_in bkT 10 ∧ (vp_in bkT 11 ∧ (vp_in (bkT + 1) 11 ∧ (bkN' = vp_updL bkN (Int32.toNatClampNeg bkT) w0 ∧ bkS' = upd (upd bkS (Int32.toNatClampNeg bkT) bkBC) (Int32.toNatClampNeg (bkT + 1)) bkBC ∧ bkT' = bkT + 1))))))
theorem d_Book_beginTopic_0 : decode b_Book_beginTopic 0 = .ok (.aload_n 0, 1) := by decide +kernel
theorem d_Book_beginTopic_1 : decode b_Book_beginTopic 1 = .ok (.getfield 38, 3) := by decide +kernel
theorem d_Book_beginTopic_4 : decode b_Book_beginTopic 4 = .ok (.bipush 10, 2) := by decide +kernel
theorem d_Book_beginTopic_6 : decode b_Book_beginTopic 6 = .ok (.if_icmp .ge 55, 3) := by decide +kernel
theorem d_Book_beginTopic_9 : decode b_Book_beginTopic 9 = .ok (.aload_n 0, 1) := by decide +kernel
theorem d_Book_beginTopic_10 : decode b_Book_beginTopic 10 = .ok (.getfield 9, 3) := by decide +kernel
theorem d_Book_beginTopic_13 : decode b_Book_beginTopic 13 = .ok (.aload_n 0, 1) := by decide +kernel
theorem d_Book_beginTopic_14 : decode b_Book_beginTopic 14 = .ok (.getfield 38, 3) := by decide +kernel
theorem d_Book_beginTopic_17 : decode b_Book_beginTopic 17 = .ok (.lload_n 1, 1) := by decide +kernel
theorem d_Book_beginTopic_18 : decode b_Book_beginTopic 18 = .ok (.lastore, 1) := by decide +kernel
theorem d_Book_beginTopic_19 : decode b_Book_beginTopic 19 = .ok (.aload_n 0, 1) := by decide +kernel
theorem d_Book_beginTopic_20 : decode b_Book_beginTopic 20 = .ok (.getfield 15, 3) := by decide +kernel
theorem d_Book_beginTopic_23 : decode b_Book_beginTopic 23 = .ok (.aload_n 0, 1) := by decide +kernel
theorem d_Book_beginTopic_24 : decode b_Book_beginTopic 24 = .ok (.getfield 38, 3) := by decide +kernel
theorem d_Book_beginTopic_27 : decode b_Book_beginTopic 27 = .ok (.aload_n 0, 1) := by decide +kernel
theorem d_Book_beginTopic_28 : decode b_Book_beginTopic 28 = .ok (.getfield 24, 3) := by decide +kernel
theorem d_Book_beginTopic_31 : decode b_Book_beginTopic 31 = .ok (.invokevirtual 48, 3) := by decide +kernel
theorem d_Book_beginTopic_34 : decode b_Book_beginTopic 34 = .ok (.iastore, 1) := by decide +kernel
theorem d_Book_beginTopic_35 : decode b_Book_beginTopic 35 = .ok (.aload_n 0, 1) := by decide +kernel
theorem d_Book_beginTopic_36 : decode b_Book_beginTopic 36 = .ok (.dup, 1) := by decide +kernel
theorem d_Book_beginTopic_37 : decode b_Book_beginTopic 37 = .ok (.getfield 38, 3) := by decide +kernel
theorem d_Book_beginTopic_40 : decode b_Book_beginTopic 40 = .ok (.iconst 1, 1) := by decide +kernel
theorem d_Book_beginTopic_41 : decode b_Book_beginTopic 41 = .ok (.iadd, 1) := by decide +kernel
theorem d_Book_beginTopic_42 : decode b_Book_beginTopic 42 = .ok (.putfield 38, 3) := by decide +kernel
theorem d_Book_beginTopic_45 : decode b_Book_beginTopic 45 = .ok (.aload_n 0, 1) := by decide +kernel
theorem d_Book_beginTopic_46 : decode b_Book_beginTopic 46 = .ok (.getfield 15, 3) := by decide +kernel
theorem d_Book_beginTopic_49 : decode b_Book_beginTopic 49 = .ok (.aload_n 0, 1) := by decide +kernel
theorem d_Book_beginTopic_50 : decode b_Book_beginTopic 50 = .ok (.getfield 38, 3) := by decide +kernel
theorem d_Book_beginTopic_53 : decode b_Book_beginTopic 53 = .ok (.aload_n 0, 1) := by decide +kernel
theorem d_Book_beginTopic_54 : decode b_Book_beginTopic 54 = .ok (.getfield 24, 3) := by decide +kernel
theorem d_Book_beginTopic_57 : decode b_Book_beginTopic 57 = .ok (.invokevirtual 48, 3) := by decide +kernel
theorem d_Book_beginTopic_60 : decode b_Book_beginTopic 60 = .ok (.iastore, 1) := by decide +kernel
theorem d_Book_beginTopic_61 : decode b_Book_beginTopic 61 = .ok (.return_, 1) := by decide +kernel
set_option maxHeartbeats 4000000 in
set_option maxRecDepth 100000 in
theorem c_Book_beginTopic (l : Launch) (dC : Nat → ClassId) (dI : Nat → Nat → Nat) (cI cL cZ : ClassId) (bk : Nat) (bkNa : Nat) (bkN : Nat → Int64) (bkSa : Nat) (bkS : Nat → Int32) (bkB : Nat) (bkBEa : Nat) (bkBn : Nat) (bkBE : Nat → Int32) (bkBC : Int32) (bkBO : Bool) (bkK : Nat) (bkKWa : Nat) (bkKn : Nat) (bkKW : Nat → Int64) (bkKTa : Nat) (bkKT : Nat → Int32) (bkKC : Int32) (bkV : Nat) (bkVWa : Nat) (bkVn : Nat) (bkVW : Nat → Int64) (bkVTa : Nat) (bkVT : Nat → Int32) (bkVC : Int32) (bkT : Int32) (w0 : Int64) (bkN' : Nat → Int64) (bkS' : Nat → Int32) (bkT' : Int32) (hd : D_Book_beginTopic w0 bkN bkS bkBC bkT bkN' bkS' bkT') : Ctr l y_Book_beginTopic (Cond.code y_Book_beginTopic b_Book_beginTopic 3 none :: ga) { frames := 1, cells := 0, slots := 0, locals := 20 } (dC, dI) classes (Tys cI cL cZ) [.ref bk, .long w0] ((sh_Book cI cL cZ bk bkNa bkN bkSa bkS bkB bkBEa bkBn bkBE bkBC bkBO bkK bkKWa bkKn bkKW bkKTa bkKT bkKC bkV bkVWa bkVn bkVW bkVTa bkVT bkVC bkT)) none ((sh_Book cI cL cZ bk bkNa bkN' bkSa bkS' bkB bkBEa bkBn bkBE bkBC bkBO bkK bkKWa bkKn bkKW bkKTa bkKT bkKC bkV bkVWa bkVn bkVW bkVTa bkVT bkVC bkT')) := by
  refine Ctr.ofW (by decide) (Nat.le_of_ble_eq_true rfl) ?_
  intro p e s m below meth c A ls hx hb hr hml hown hlocks hts hK hN hA hP hD hS hl
  have hown : s.vm.findClass R_Book = some m.cls := hown
  have hl : lv_has ls 3 [(0, .ref bk), (1, .long w0)] := hl
  refine lv_aload_n hx hb d_Book_beginTopic_0 rfl (lv_at hl 0 rfl) ?_
  refine va_get (D := (dC, dI)) (ci := 3) (v := .int bkT) (C := R_Book) (T := F_Book) (N := 6) hx hb hts in_Book hown hK hP 0 rfl rfl 5 (by decide) (hts _ (List.mem_cons_of_mem _ k55_fieldLink)) (fun _ h9 => h9) rfl d_Book_beginTopic_1 ?_
  refine lv_bipush (v := 10) hx hb d_Book_beginTopic_4 (by decide) ?_
  refine lv_icmp_ge (tgt := 61) hx hb d_Book_beginTopic_6 (by decide) (fun h6 => ?_) (fun h6 => ?_)
  · have hd := hd.1 h6
    obtain ⟨e0, e1, e2⟩ := hd
    subst e0
    subst e1
    subst e2
    exact ct_vret hx hb hr hlocks hK hP hD hS d_Book_beginTopic_61
  · have hd := hd.2 h6
    refine lv_aload_n hx hb d_Book_beginTopic_9 rfl (lv_at hl 0 rfl) ?_
    refine va_get (D := (dC, dI)) (ci := 3) (v := .ref bkNa) (C := R_Book) (T := F_Book) (N := 6) hx hb hts in_Book hown hK hP 0 rfl rfl 0 (by decide) (hts _ (List.mem_cons_of_mem _ k64_fieldLink)) (fun _ h9 => h9) rfl d_Book_beginTopic_10 ?_
    refine lv_aload_n hx hb d_Book_beginTopic_13 rfl (lv_at hl 0 rfl) ?_
    refine va_get (D := (dC, dI)) (ci := 3) (v := .int bkT) (C := R_Book) (T := F_Book) (N := 6) hx hb hts in_Book hown hK hP 0 rfl rfl 5 (by decide) (hts _ (List.mem_cons_of_mem _ k55_fieldLink)) (fun _ h9 => h9) rfl d_Book_beginTopic_14 ?_
    refine lv_lload_n hx hb d_Book_beginTopic_17 rfl (lv_at hl 1 rfl) ?_
    obtain ⟨h18, hd⟩ := hd
    refine va_last hx hb hK hP hD hS 1 1 rfl rfl h18 d_Book_beginTopic_18 (fun H locs hP hD hS => ?_)
    have hP : va_P (dC, dI) classes ((sh_Book cI cL cZ bk bkNa (vp_updL bkN (Int32.toNatClampNeg bkT) w0) bkSa bkS bkB bkBEa bkBn bkBE bkBC bkBO bkK bkKWa bkKn bkKW bkKTa bkKT bkKC bkV bkVWa bkVn bkVW bkVTa bkVT bkVC bkT)) H := hP
    have hD : va_D A ((sh_Book cI cL cZ bk bkNa (vp_updL bkN (Int32.toNatClampNeg bkT) w0) bkSa bkS bkB bkBEa bkBn bkBE bkBC bkBO bkK bkKWa bkKn bkKW bkKTa bkKT bkKC bkV bkVWa bkVn bkVW bkVTa bkVT bkVC bkT)) := hD
    refine lv_aload_n hx hb d_Book_beginTopic_19 rfl (lv_at hl 0 rfl) ?_
    refine va_get (D := (dC, dI)) (ci := 3) (v := .ref bkSa) (C := R_Book) (T := F_Book) (N := 6) hx hb hts in_Book hown hK hP 0 rfl rfl 1 (by decide) (hts _ (List.mem_cons_of_mem _ k65_fieldLink)) (fun _ h9 => h9) rfl d_Book_beginTopic_20 ?_
    refine lv_aload_n hx hb d_Book_beginTopic_23 rfl (lv_at hl 0 rfl) ?_
    refine va_get (D := (dC, dI)) (ci := 3) (v := .int bkT) (C := R_Book) (T := F_Book) (N := 6) hx hb hts in_Book hown hK hP 0 rfl rfl 5 (by decide) (hts _ (List.mem_cons_of_mem _ k55_fieldLink)) (fun _ h9 => h9) rfl d_Book_beginTopic_24 ?_
    refine lv_aload_n hx hb d_Book_beginTopic_27 rfl (lv_at hl 0 rfl) ?_
    refine va_get (D := (dC, dI)) (ci := 3) (v := .ref bkB) (C := R_Book) (T := F_Book) (N := 6) hx hb hts in_Book hown hK hP 0 rfl rfl 2 (by decide) (hts _ (List.mem_cons_of_mem _ k56_fieldLink)) (fun _ h9 => h9) rfl d_Book_beginTopic_28 ?_
    refine ct_VR (As := []) (rest := [.int bkT, .ref bkSa]) (C := R_Row) (ci := 1) (q := (R_Row, F_Row, 3)) ⟨hx, hb, hml, hown, hts⟩ fm_Row_count (c_Row_count l dC dI cI cL cZ bkB bkBEa bkBn bkBE bkBC bkBO bkBC rfl) k66_methodLink k67_instanceMethod k68_selects ⟨Nat.le_of_ble_eq_true rfl, Nat.le_of_ble_eq_true rfl⟩ rfl rfl hK hN hP hD [3, 4] rfl rfl (by decide) 3 rfl rfl rfl rfl hl.1 rfl (Nat.le_of_ble_eq_true rfl) d_Book_beginTopic_31 ?_
    obtain ⟨h34, hd⟩ := hd
    refine va_iast hx hb hK hP hD hS 2 0 rfl rfl h34 d_Book_beginTopic_34 (fun H locs hP hD hS => ?_)
    have hP : va_P (dC, dI) classes ((sh_Book cI cL cZ bk bkNa (vp_updL bkN (Int32.toNatClampNeg bkT) w0) bkSa (upd bkS (Int32.toNatClampNeg bkT) bkBC) bkB bkBEa bkBn bkBE bkBC bkBO bkK bkKWa bkKn bkKW bkKTa bkKT bkKC bkV bkVWa bkVn bkVW bkVTa bkVT bkVC bkT)) H := hP
    have hD : va_D A ((sh_Book cI cL cZ bk bkNa (vp_updL bkN (Int32.toNatClampNeg bkT) w0) bkSa (upd bkS (Int32.toNatClampNeg bkT) bkBC) bkB bkBEa bkBn bkBE bkBC bkBO bkK bkKWa bkKn bkKW bkKTa bkKT bkKC bkV bkVWa bkVn bkVW bkVTa bkVT bkVC bkT)) := hD
    refine lv_aload_n hx hb d_Book_beginTopic_35 rfl (lv_at hl 0 rfl) ?_
    refine lv_dup hx hb d_Book_beginTopic_36 rfl ?_
    refine va_get (D := (dC, dI)) (ci := 3) (v := .int bkT) (C := R_Book) (T := F_Book) (N := 6) hx hb hts in_Book hown hK hP 0 rfl rfl 5 (by decide) (hts _ (List.mem_cons_of_mem _ k55_fieldLink)) (fun _ h9 => h9) rfl d_Book_beginTopic_37 ?_
    refine lv_iconst (v := 1) hx hb d_Book_beginTopic_40 (by decide) ?_
    refine lv_iadd hx hb d_Book_beginTopic_41 ?_
    refine va_put (D := (dC, dI)) (ci := 3) (v := .int (bkT + 1)) (ty := t_Book 5) (C := R_Book) (T := F_Book) (N := 6) hx hb hts in_Book t_Book t_Book_ok n_Book hown hK hP hD hS 0 rfl rfl 5 (by decide) (hts _ (List.mem_cons_of_mem _ k55_fieldLink)) (fun _ h9 => h9) rfl (t_Book_ok 5 (by decide)) rfl rfl (Nat.le_of_ble_eq_true rfl) d_Book_beginTopic_42 (fun H locs hP hD hS => ?_)
    have hP : va_P (dC, dI) classes ((sh_Book cI cL cZ bk bkNa (vp_updL bkN (Int32.toNatClampNeg bkT) w0) bkSa (upd bkS (Int32.toNatClampNeg bkT) bkBC) bkB bkBEa bkBn bkBE bkBC bkBO bkK bkKWa bkKn bkKW bkKTa bkKT bkKC bkV bkVWa bkVn bkVW bkVTa bkVT bkVC (bkT + 1))) H := hP
    have hD : va_D A ((sh_Book cI cL cZ bk bkNa (vp_updL bkN (Int32.toNatClampNeg bkT) w0) bkSa (upd bkS (Int32.toNatClampNeg bkT) bkBC) bkB bkBEa bkBn bkBE bkBC bkBO bkK bkKWa bkKn bkKW bkKTa bkKT bkKC bkV bkVWa bkVn bkVW bkVTa bkVT bkVC (bkT + 1))) := hD
    refine lv_aload_n hx hb d_Book_beginTopic_45 rfl (lv_at hl 0 rfl) ?_
    refine va_get (D := (dC, dI)) (ci := 3) (v := .ref bkSa) (C := R_Book) (T := F_Book) (N := 6) hx hb hts in_Book hown hK hP 0 rfl rfl 1 (by decide) (hts _ (List.mem_cons_of_mem _ k65_fieldLink)) (fun _ h9 => h9) rfl d_Book_beginTopic_46 ?_
    refine lv_aload_n hx hb d_Book_beginTopic_49 rfl (lv_at hl 0 rfl) ?_
    refine va_get (D := (dC, dI)) (ci := 3) (v := .int (bkT + 1)) (C := R_Book) (T := F_Book) (N := 6) hx hb hts in_Book hown hK hP 0 rfl rfl 5 (by decide) (hts _ (List.mem_cons_of_mem _ k55_fieldLink)) (fun _ h9 => h9) rfl d_Book_beginTopic_50 ?_
    refine lv_aload_n hx hb d_Book_beginTopic_53 rfl (lv_at hl 0 rfl) ?_
    refine va_get (D := (dC, dI)) (ci := 3) (v := .ref bkB) (C := R_Book) (T := F_Book) (N := 6) hx hb hts in_Book hown hK hP 0 rfl rfl 2 (by decide) (hts _ (List.mem_cons_of_mem _ k56_fieldLink)) (fun _ h9 => h9) rfl d_Book_beginTopic_54 ?_
    refine ct_VR (As := []) (rest := [.int (bkT + 1), .ref bkSa]) (C := R_Row) (ci := 1) (q := (R_Row, F_Row, 3)) ⟨hx, hb, hml, hown, hts⟩ fm_Row_count (c_Row_count l dC dI cI cL cZ bkB bkBEa bkBn bkBE bkBC bkBO bkBC rfl) k66_methodLink k67_instanceMethod k68_selects ⟨Nat.le_of_ble_eq_true rfl, Nat.le_of_ble_eq_true rfl⟩ rfl rfl hK hN hP hD [3, 4] rfl rfl (by decide) 3 rfl rfl rfl rfl hl.1 rfl (Nat.le_of_ble_eq_true rfl) d_Book_beginTopic_57 ?_
    obtain ⟨h60, hd⟩ := hd
    refine va_iast hx hb hK hP hD hS 2 0 rfl rfl h60 d_Book_beginTopic_60 (fun H locs hP hD hS => ?_)
    have hP : va_P (dC, dI) classes ((sh_Book cI cL cZ bk bkNa (vp_updL bkN (Int32.toNatClampNeg bkT) w0) bkSa (upd (upd bkS (Int32.toNatClampNeg bkT) bkBC) (Int32.toNatClampNeg (bkT + 1)) bkBC) bkB bkBEa bkBn bkBE bkBC bkBO bkK bkKWa bkKn bkKW bkKTa bkKT bkKC bkV bkVWa bkVn bkVW bkVTa bkVT bkVC (bkT + 1))) H := hP
    have hD : va_D A ((sh_Book cI cL cZ bk bkNa (vp_updL bkN (Int32.toNatClampNeg bkT) w0) bkSa (upd (upd bkS (Int32.toNatClampNeg bkT) bkBC) (Int32.toNatClampNeg (bkT + 1)) bkBC) bkB bkBEa bkBn bkBE bkBC bkBO bkK bkKWa bkKn bkKW bkKTa bkKT bkKC bkV bkVWa bkVn bkVW bkVTa bkVT bkVC (bkT + 1))) := hD
    obtain ⟨e0, e1, e2⟩ := hd
    subst e0
    subst e1
    subst e2
    exact ct_vret hx hb hr hlocks hK hP hD hS d_Book_beginTopic_61
-- Book.append
abbrev b_Book_append : ByteArray := prog_2_method_9_code
def y_Book_append : MethodName := ⟨"HelpFile$Book", "append", "(I)V"⟩
theorem k69_methodLink : Cond.methodLink "HelpFile$Book" 52 ⟨"HelpFile$Row", "append", "(I)V"⟩ ∈ ga := ga_t 325 (by decide +kernel) rfl
set_option maxRecDepth 100000 in
theorem fm_Book_append : Fm y_Book_append b_Book_append 2 none 1 := ⟨ga_t 324 rfl rfl, k62_initialized, by decide, by decide, by decide +kernel⟩
def D_Book_append (bkBn : Nat) (k0 : Int32) (bkS : Nat → Int32) (bkBE : Nat → Int32) (bkBC : Int32) (bkBO : Bool) (bkT : Int32) (bkS' : Nat → Int32) (bkBE' : Nat → Int32) (bkBC' : Int32) (bkBO' : Bool) : Prop := (∃ bkBE_5 : Nat → Int32, ∃ bkBC_5 : Int32, ∃ bkBO_5 : Bool, D_Row_append bkBn k0 bkBE bkBC bkBO bkBE_5 bkBC_5 bkBO_5 ∧ (vp_in bkT 11 ∧ (bkS' = upd bkS (Int32.toNatClampNeg bkT) bkBC_5 ∧ bkBE' = bkBE_5 ∧ bkBC' = bkBC_5 ∧ bkBO' = bkBO_5)))
theorem d_Book_append_0 : decode b_Book_append 0 = .ok (.aload_n 0, 1) := by decide +kernel
theorem d_Book_append_1 : decode b_Book_append 1 = .ok (.getfield 24, 3) := by decide +kernel
theorem d_Book_append_4 : decode b_Book_append 4 = .ok (.iload_n 1, 1) := by decide +kernel
theorem d_Book_append_5 : decode b_Book_append 5 = .ok (.invokevirtual 52, 3) := by decide +kernel
theorem d_Book_append_8 : decode b_Book_append 8 = .ok (.aload_n 0, 1) := by decide +kernel
theorem d_Book_append_9 : decode b_Book_append 9 = .ok (.getfield 15, 3) := by decide +kernel
theorem d_Book_append_12 : decode b_Book_append 12 = .ok (.aload_n 0, 1) := by decide +kernel
theorem d_Book_append_13 : decode b_Book_append 13 = .ok (.getfield 38, 3) := by decide +kernel
theorem d_Book_append_16 : decode b_Book_append 16 = .ok (.aload_n 0, 1) := by decide +kernel
theorem d_Book_append_17 : decode b_Book_append 17 = .ok (.getfield 24, 3) := by decide +kernel
theorem d_Book_append_20 : decode b_Book_append 20 = .ok (.invokevirtual 48, 3) := by decide +kernel
theorem d_Book_append_23 : decode b_Book_append 23 = .ok (.iastore, 1) := by decide +kernel
theorem d_Book_append_24 : decode b_Book_append 24 = .ok (.return_, 1) := by decide +kernel
set_option maxHeartbeats 4000000 in
set_option maxRecDepth 100000 in
theorem c_Book_append (l : Launch) (dC : Nat → ClassId) (dI : Nat → Nat → Nat) (cI cL cZ : ClassId) (bk : Nat) (bkNa : Nat) (bkN : Nat → Int64) (bkSa : Nat) (bkS : Nat → Int32) (bkB : Nat) (bkBEa : Nat) (bkBn : Nat) (bkBE : Nat → Int32) (bkBC : Int32) (bkBO : Bool) (bkK : Nat) (bkKWa : Nat) (bkKn : Nat) (bkKW : Nat → Int64) (bkKTa : Nat) (bkKT : Nat → Int32) (bkKC : Int32) (bkV : Nat) (bkVWa : Nat) (bkVn : Nat) (bkVW : Nat → Int64) (bkVTa : Nat) (bkVT : Nat → Int32) (bkVC : Int32) (bkT : Int32) (k0 : Int32) (bkS' : Nat → Int32) (bkBE' : Nat → Int32) (bkBC' : Int32) (bkBO' : Bool) (hd : D_Book_append bkBn k0 bkS bkBE bkBC bkBO bkT bkS' bkBE' bkBC' bkBO') : Ctr l y_Book_append (Cond.code y_Book_append b_Book_append 2 none :: ga) { frames := 1, cells := 0, slots := 0, locals := 21 } (dC, dI) classes (Tys cI cL cZ) [.ref bk, .int k0] ((sh_Book cI cL cZ bk bkNa bkN bkSa bkS bkB bkBEa bkBn bkBE bkBC bkBO bkK bkKWa bkKn bkKW bkKTa bkKT bkKC bkV bkVWa bkVn bkVW bkVTa bkVT bkVC bkT)) none ((sh_Book cI cL cZ bk bkNa bkN bkSa bkS' bkB bkBEa bkBn bkBE' bkBC' bkBO' bkK bkKWa bkKn bkKW bkKTa bkKT bkKC bkV bkVWa bkVn bkVW bkVTa bkVT bkVC bkT)) := by
  refine Ctr.ofW (by decide) (Nat.le_of_ble_eq_true rfl) ?_
  intro p e s m below meth c A ls hx hb hr hml hown hlocks hts hK hN hA hP hD hS hl
  have hown : s.vm.findClass R_Book = some m.cls := hown
  have hl : lv_has ls 2 [(0, .ref bk), (1, .int k0)] := hl
  refine lv_aload_n hx hb d_Book_append_0 rfl (lv_at hl 0 rfl) ?_
  refine va_get (D := (dC, dI)) (ci := 3) (v := .ref bkB) (C := R_Book) (T := F_Book) (N := 6) hx hb hts in_Book hown hK hP 0 rfl rfl 2 (by decide) (hts _ (List.mem_cons_of_mem _ k56_fieldLink)) (fun _ h9 => h9) rfl d_Book_append_1 ?_
  refine lv_iload_n hx hb d_Book_append_4 rfl (lv_at hl 1 rfl) ?_
  obtain ⟨bkBE_5, bkBC_5, bkBO_5, c5, hd⟩ := hd
  refine ct_V (As := [.int k0]) (rest := []) (C := R_Row) (ci := 1) (q := (R_Row, F_Row, 3)) ⟨hx, hb, hml, hown, hts⟩ fm_Row_append (c_Row_append l dC dI cI cL cZ bkB bkBEa bkBn bkBE bkBC bkBO k0 bkBE_5 bkBC_5 bkBO_5 c5) k69_methodLink k8_instanceMethod k9_selects ⟨Nat.le_of_ble_eq_true rfl, Nat.le_of_ble_eq_true rfl⟩ rfl rfl hK hN hP hD hS hA [3, 4] [0, 1, 2, 5, 6, 7, 8, 9, 10] rfl rfl rfl (by decide) (by decide) (by decide) 3 rfl rfl rfl rfl hl.1 rfl (Nat.le_of_ble_eq_true rfl) d_Book_append_5 (fun H locs hP hD hS => ?_)
  have hP : va_P (dC, dI) classes ((sh_Book cI cL cZ bk bkNa bkN bkSa bkS bkB bkBEa bkBn bkBE_5 bkBC_5 bkBO_5 bkK bkKWa bkKn bkKW bkKTa bkKT bkKC bkV bkVWa bkVn bkVW bkVTa bkVT bkVC bkT)) H := hP.sub [0, 1, 2, 9, 10, 3, 4, 5, 6, 7, 8] rfl
  have hD : va_D A ((sh_Book cI cL cZ bk bkNa bkN bkSa bkS bkB bkBEa bkBn bkBE_5 bkBC_5 bkBO_5 bkK bkKWa bkKn bkKW bkKTa bkKT bkKC bkV bkVWa bkVn bkVW bkVTa bkVT bkVC bkT)) := hD.sub [0, 1, 2, 9, 10, 3, 4, 5, 6, 7, 8] (by decide) rfl
  refine lv_aload_n hx hb d_Book_append_8 rfl (lv_at hl 0 rfl) ?_
  refine va_get (D := (dC, dI)) (ci := 3) (v := .ref bkSa) (C := R_Book) (T := F_Book) (N := 6) hx hb hts in_Book hown hK hP 0 rfl rfl 1 (by decide) (hts _ (List.mem_cons_of_mem _ k65_fieldLink)) (fun _ h9 => h9) rfl d_Book_append_9 ?_
  refine lv_aload_n hx hb d_Book_append_12 rfl (lv_at hl 0 rfl) ?_
  refine va_get (D := (dC, dI)) (ci := 3) (v := .int bkT) (C := R_Book) (T := F_Book) (N := 6) hx hb hts in_Book hown hK hP 0 rfl rfl 5 (by decide) (hts _ (List.mem_cons_of_mem _ k55_fieldLink)) (fun _ h9 => h9) rfl d_Book_append_13 ?_
  refine lv_aload_n hx hb d_Book_append_16 rfl (lv_at hl 0 rfl) ?_
  refine va_get (D := (dC, dI)) (ci := 3) (v := .ref bkB) (C := R_Book) (T := F_Book) (N := 6) hx hb hts in_Book hown hK hP 0 rfl rfl 2 (by decide) (hts _ (List.mem_cons_of_mem _ k56_fieldLink)) (fun _ h9 => h9) rfl d_Book_append_17 ?_
  refine ct_VR (As := []) (rest := [.int bkT, .ref bkSa]) (C := R_Row) (ci := 1) (q := (R_Row, F_Row, 3)) ⟨hx, hb, hml, hown, hts⟩ fm_Row_count (c_Row_count l dC dI cI cL cZ bkB bkBEa bkBn bkBE_5 bkBC_5 bkBO_5 bkBC_5 rfl) k66_methodLink k67_instanceMethod k68_selects ⟨Nat.le_of_ble_eq_true rfl, Nat.le_of_ble_eq_true rfl⟩ rfl rfl hK hN hP hD [3, 4] rfl rfl (by decide) 3 rfl rfl rfl rfl hl.1 rfl (Nat.le_of_ble_eq_true rfl) d_Book_append_20 ?_
  obtain ⟨h23, hd⟩ := hd
  refine va_iast hx hb hK hP hD hS 2 0 rfl rfl h23 d_Book_append_23 (fun H locs hP hD hS => ?_)
  have hP : va_P (dC, dI) classes ((sh_Book cI cL cZ bk bkNa bkN bkSa (upd bkS (Int32.toNatClampNeg bkT) bkBC_5) bkB bkBEa bkBn bkBE_5 bkBC_5 bkBO_5 bkK bkKWa bkKn bkKW bkKTa bkKT bkKC bkV bkVWa bkVn bkVW bkVTa bkVT bkVC bkT)) H := hP
  have hD : va_D A ((sh_Book cI cL cZ bk bkNa bkN bkSa (upd bkS (Int32.toNatClampNeg bkT) bkBC_5) bkB bkBEa bkBn bkBE_5 bkBC_5 bkBO_5 bkK bkKWa bkKn bkKW bkKTa bkKT bkKC bkV bkVWa bkVn bkVW bkVTa bkVT bkVC bkT)) := hD
  obtain ⟨e0, e1, e2, e3⟩ := hd
  subst e0
  subst e1
  subst e2
  subst e3
  exact ct_vret hx hb hr hlocks hK hP hD hS d_Book_append_24
-- Book.noteKeyword
abbrev b_Book_noteKeyword : ByteArray := prog_2_method_10_code
def y_Book_noteKeyword : MethodName := ⟨"HelpFile$Book", "noteKeyword", "(J)V"⟩
theorem k70_methodLink : Cond.methodLink "HelpFile$Book" 55 ⟨"HelpFile$WordList", "note", "(JI)V"⟩ ∈ ga := ga_t 370 (by decide +kernel) rfl
theorem k71_instanceMethod : Cond.instanceMethod ⟨"HelpFile$WordList", "note", "(JI)V"⟩ ∈ ga := ga_t 371 (by decide +kernel) rfl
theorem k72_selects : Cond.selects "HelpFile$WordList" ⟨"HelpFile$WordList", "note", "(JI)V"⟩ ⟨"HelpFile$WordList", "note", "(JI)V"⟩ ∈ ga := ga_t 372 (by decide +kernel) rfl
set_option maxRecDepth 100000 in
theorem fm_Book_noteKeyword : Fm y_Book_noteKeyword b_Book_noteKeyword 3 none 1 := ⟨ga_t 369 rfl rfl, k62_initialized, by decide, by decide, by decide +kernel⟩
def D_Book_noteKeyword (bkKn : Nat) (w0 : Int64) (bkKW : Nat → Int64) (bkKT : Nat → Int32) (bkKC : Int32) (bkT : Int32) (bkKW' : Nat → Int64) (bkKT' : Nat → Int32) (bkKC' : Int32) : Prop := (∃ bkKW_13 : Nat → Int64, ∃ bkKT_13 : Nat → Int32, ∃ bkKC_13 : Int32, D_WordList_note bkKn w0 (1 <<< ((bkT - 1) &&& 31)) bkKW bkKT bkKC bkKW_13 bkKT_13 bkKC_13 ∧ (bkKW' = bkKW_13 ∧ bkKT' = bkKT_13 ∧ bkKC' = bkKC_13))
theorem d_Book_noteKeyword_0 : decode b_Book_noteKeyword 0 = .ok (.aload_n 0, 1) := by decide +kernel
theorem d_Book_noteKeyword_1 : decode b_Book_noteKeyword 1 = .ok (.getfield 31, 3) := by decide +kernel
theorem d_Book_noteKeyword_4 : decode b_Book_noteKeyword 4 = .ok (.lload_n 1, 1) := by decide +kernel
theorem d_Book_noteKeyword_5 : decode b_Book_noteKeyword 5 = .ok (.iconst 1, 1) := by decide +kernel
theorem d_Book_noteKeyword_6 : decode b_Book_noteKeyword 6 = .ok (.aload_n 0, 1) := by decide +kernel
theorem d_Book_noteKeyword_7 : decode b_Book_noteKeyword 7 = .ok (.getfield 38, 3) := by decide +kernel
theorem d_Book_noteKeyword_10 : decode b_Book_noteKeyword 10 = .ok (.iconst 1, 1) := by decide +kernel
theorem d_Book_noteKeyword_11 : decode b_Book_noteKeyword 11 = .ok (.isub, 1) := by decide +kernel
theorem d_Book_noteKeyword_12 : decode b_Book_noteKeyword 12 = .ok (.ishl, 1) := by decide +kernel
theorem d_Book_noteKeyword_13 : decode b_Book_noteKeyword 13 = .ok (.invokevirtual 55, 3) := by decide +kernel
theorem d_Book_noteKeyword_16 : decode b_Book_noteKeyword 16 = .ok (.return_, 1) := by decide +kernel
set_option maxHeartbeats 4000000 in
set_option maxRecDepth 100000 in
theorem c_Book_noteKeyword (l : Launch) (dC : Nat → ClassId) (dI : Nat → Nat → Nat) (cI cL cZ : ClassId) (bk : Nat) (bkNa : Nat) (bkN : Nat → Int64) (bkSa : Nat) (bkS : Nat → Int32) (bkB : Nat) (bkBEa : Nat) (bkBn : Nat) (bkBE : Nat → Int32) (bkBC : Int32) (bkBO : Bool) (bkK : Nat) (bkKWa : Nat) (bkKn : Nat) (bkKW : Nat → Int64) (bkKTa : Nat) (bkKT : Nat → Int32) (bkKC : Int32) (bkV : Nat) (bkVWa : Nat) (bkVn : Nat) (bkVW : Nat → Int64) (bkVTa : Nat) (bkVT : Nat → Int32) (bkVC : Int32) (bkT : Int32) (w0 : Int64) (bkKW' : Nat → Int64) (bkKT' : Nat → Int32) (bkKC' : Int32) (hd : D_Book_noteKeyword bkKn w0 bkKW bkKT bkKC bkT bkKW' bkKT' bkKC') : Ctr l y_Book_noteKeyword (Cond.code y_Book_noteKeyword b_Book_noteKeyword 3 none :: ga) { frames := 2, cells := 0, slots := 0, locals := 49 } (dC, dI) classes (Tys cI cL cZ) [.ref bk, .long w0] ((sh_Book cI cL cZ bk bkNa bkN bkSa bkS bkB bkBEa bkBn bkBE bkBC bkBO bkK bkKWa bkKn bkKW bkKTa bkKT bkKC bkV bkVWa bkVn bkVW bkVTa bkVT bkVC bkT)) none ((sh_Book cI cL cZ bk bkNa bkN bkSa bkS bkB bkBEa bkBn bkBE bkBC bkBO bkK bkKWa bkKn bkKW' bkKTa bkKT' bkKC' bkV bkVWa bkVn bkVW bkVTa bkVT bkVC bkT)) := by
  refine Ctr.ofW (by decide) (Nat.le_of_ble_eq_true rfl) ?_
  intro p e s m below meth c A ls hx hb hr hml hown hlocks hts hK hN hA hP hD hS hl
  have hown : s.vm.findClass R_Book = some m.cls := hown
  have hl : lv_has ls 3 [(0, .ref bk), (1, .long w0)] := hl
  refine lv_aload_n hx hb d_Book_noteKeyword_0 rfl (lv_at hl 0 rfl) ?_
  refine va_get (D := (dC, dI)) (ci := 3) (v := .ref bkK) (C := R_Book) (T := F_Book) (N := 6) hx hb hts in_Book hown hK hP 0 rfl rfl 3 (by decide) (hts _ (List.mem_cons_of_mem _ k58_fieldLink)) (fun _ h9 => h9) rfl d_Book_noteKeyword_1 ?_
  refine lv_lload_n hx hb d_Book_noteKeyword_4 rfl (lv_at hl 1 rfl) ?_
  refine lv_iconst (v := 1) hx hb d_Book_noteKeyword_5 (by decide) ?_
  refine lv_aload_n hx hb d_Book_noteKeyword_6 rfl (lv_at hl 0 rfl) ?_
  refine va_get (D := (dC, dI)) (ci := 3) (v := .int bkT) (C := R_Book) (T := F_Book) (N := 6) hx hb hts in_Book hown hK hP 0 rfl rfl 5 (by decide) (hts _ (List.mem_cons_of_mem _ k55_fieldLink)) (fun _ h9 => h9) rfl d_Book_noteKeyword_7 ?_
  refine lv_iconst (v := 1) hx hb d_Book_noteKeyword_10 (by decide) ?_
  refine lv_isub hx hb d_Book_noteKeyword_11 ?_
  refine lv_ishl hx hb d_Book_noteKeyword_12 ?_
  obtain ⟨bkKW_13, bkKT_13, bkKC_13, c13, hd⟩ := hd
  refine ct_V (As := [.long w0, .int (1 <<< ((bkT - 1) &&& 31))]) (rest := []) (C := R_WordList) (ci := 2) (q := (R_WordList, F_WordList, 3)) ⟨hx, hb, hml, hown, hts⟩ fm_WordList_note (c_WordList_note l dC dI cI cL cZ bkK bkKWa bkKn bkKW bkKTa bkKT bkKC w0 (1 <<< ((bkT - 1) &&& 31)) bkKW_13 bkKT_13 bkKC_13 c13) k70_methodLink k71_instanceMethod k72_selects ⟨Nat.le_of_ble_eq_true rfl, Nat.le_of_ble_eq_true rfl⟩ rfl rfl hK hN hP hD hS hA [5, 6, 7] [0, 1, 2, 3, 4, 8, 9, 10] rfl rfl rfl (by decide) (by decide) (by decide) 5 rfl rfl rfl rfl hl.1 rfl (Nat.le_of_ble_eq_true rfl) d_Book_noteKeyword_13 (fun H locs hP hD hS => ?_)
  have hP : va_P (dC, dI) classes ((sh_Book cI cL cZ bk bkNa bkN bkSa bkS bkB bkBEa bkBn bkBE bkBC bkBO bkK bkKWa bkKn bkKW_13 bkKTa bkKT_13 bkKC_13 bkV bkVWa bkVn bkVW bkVTa bkVT bkVC bkT)) H := hP.sub [0, 1, 2, 3, 4, 8, 9, 10, 5, 6, 7] rfl
  have hD : va_D A ((sh_Book cI cL cZ bk bkNa bkN bkSa bkS bkB bkBEa bkBn bkBE bkBC bkBO bkK bkKWa bkKn bkKW_13 bkKTa bkKT_13 bkKC_13 bkV bkVWa bkVn bkVW bkVTa bkVT bkVC bkT)) := hD.sub [0, 1, 2, 3, 4, 8, 9, 10, 5, 6, 7] (by decide) rfl
  obtain ⟨e0, e1, e2⟩ := hd
  subst e0
  subst e1
  subst e2
  exact ct_vret hx hb hr hlocks hK hP hD hS d_Book_noteKeyword_16
-- Book.has
abbrev b_Book_has : ByteArray := prog_2_method_11_code
def y_Book_has : MethodName := ⟨"HelpFile$Book", "has", "(I)Z"⟩
set_option maxRecDepth 100000 in
theorem fm_Book_has : Fm y_Book_has b_Book_has 2 (some .boolean) 1 := ⟨ga_t 432 rfl rfl, k62_initialized, by decide, by decide, by decide +kernel⟩
def D_Book_has (k0 : Int32) (bkT : Int32) (res : Bool) : Prop := ((k0 < 0 → (res = false)) ∧ (¬ (k0 < 0) → ((bkT ≤ k0 → (res = false)) ∧ (¬ (bkT ≤ k0) → (res = true)))))
theorem d_Book_has_0 : decode b_Book_has 0 = .ok (.iload_n 1, 1) := by decide +kernel
theorem d_Book_has_1 : decode b_Book_has 1 = .ok (.ifCond .lt 15, 3) := by decide +kernel
theorem d_Book_has_4 : decode b_Book_has 4 = .ok (.iload_n 1, 1) := by decide +kernel
theorem d_Book_has_5 : decode b_Book_has 5 = .ok (.aload_n 0, 1) := by decide +kernel
theorem d_Book_has_6 : decode b_Book_has 6 = .ok (.getfield 38, 3) := by decide +kernel
theorem d_Book_has_9 : decode b_Book_has 9 = .ok (.if_icmp .ge 7, 3) := by decide +kernel
theorem d_Book_has_12 : decode b_Book_has 12 = .ok (.iconst 1, 1) := by decide +kernel
theorem d_Book_has_13 : decode b_Book_has 13 = .ok (.goto 4, 3) := by decide +kernel
theorem d_Book_has_16 : decode b_Book_has 16 = .ok (.iconst 0, 1) := by decide +kernel
theorem d_Book_has_17 : decode b_Book_has 17 = .ok (.ireturn, 1) := by decide +kernel
set_option maxHeartbeats 4000000 in
set_option maxRecDepth 100000 in
theorem c_Book_has (l : Launch) (dC : Nat → ClassId) (dI : Nat → Nat → Nat) (cI cL cZ : ClassId) (bk : Nat) (bkNa : Nat) (bkN : Nat → Int64) (bkSa : Nat) (bkS : Nat → Int32) (bkB : Nat) (bkBEa : Nat) (bkBn : Nat) (bkBE : Nat → Int32) (bkBC : Int32) (bkBO : Bool) (bkK : Nat) (bkKWa : Nat) (bkKn : Nat) (bkKW : Nat → Int64) (bkKTa : Nat) (bkKT : Nat → Int32) (bkKC : Int32) (bkV : Nat) (bkVWa : Nat) (bkVn : Nat) (bkVW : Nat → Int64) (bkVTa : Nat) (bkVT : Nat → Int32) (bkVC : Int32) (bkT : Int32) (k0 : Int32) (res : Bool) (hd : D_Book_has k0 bkT res) : CtrR l y_Book_has (Cond.code y_Book_has b_Book_has 2 (some .boolean) :: ga) { frames := 0, cells := 0, slots := 0, locals := 0 } (dC, dI) classes (Tys cI cL cZ) [.ref bk, .int k0] ((sh_Book cI cL cZ bk bkNa bkN bkSa bkS bkB bkBEa bkBn bkBE bkBC bkBO bkK bkKWa bkKn bkKW bkKTa bkKT bkKC bkV bkVWa bkVn bkVW bkVTa bkVT bkVC bkT)) (some (.int (bI res))) := by
  refine CtrR.ofW (by decide) (Nat.le_of_ble_eq_true rfl) ?_
  intro p e s m below meth c ls hx hb hr hml hown hlocks hts hK hN hP hD hl
  have hown : s.vm.findClass R_Book = some m.cls := hown
  have hl : lv_has ls 2 [(0, .ref bk), (1, .int k0)] := hl
  refine lv_iload_n hx hb d_Book_has_0 rfl (lv_at hl 1 rfl) ?_
  refine lv_if_lt (tgt := 16) hx hb d_Book_has_1 (by decide) (fun h1 => ?_) (fun h1 => ?_)
  · have hd := hd.1 h1
    refine lv_iconst (v := 0) hx hb d_Book_has_16 (by decide) ?_
    have e0 : res = false := hd
    subst e0
    exact ct_zretR (b := false) hx hb hr hlocks d_Book_has_17
  · have hd := hd.2 h1
    refine lv_iload_n hx hb d_Book_has_4 rfl (lv_at hl 1 rfl) ?_
    refine lv_aload_n hx hb d_Book_has_5 rfl (lv_at hl 0 rfl) ?_
    refine va_get (D := (dC, dI)) (ci := 3) (v := .int bkT) (C := R_Book) (T := F_Book) (N := 6) hx hb hts in_Book hown hK hP 0 rfl rfl 5 (by decide) (hts _ (List.mem_cons_of_mem _ k55_fieldLink)) (fun _ h9 => h9) rfl d_Book_has_6 ?_
    refine lv_icmp_ge (tgt := 16) hx hb d_Book_has_9 (by decide) (fun h9 => ?_) (fun h9 => ?_)
    · have hd := hd.1 h9
      refine lv_iconst (v := 0) hx hb d_Book_has_16 (by decide) ?_
      have e0 : res = false := hd
      subst e0
      exact ct_zretR (b := false) hx hb hr hlocks d_Book_has_17
    · have hd := hd.2 h9
      refine lv_iconst (v := 1) hx hb d_Book_has_12 (by decide) ?_
      refine lv_goto (tgt := 17) hx hb d_Book_has_13 (by decide) ?_
      have e0 : res = true := hd
      subst e0
      exact ct_zretR (b := true) hx hb hr hlocks d_Book_has_17
-- Book.name
abbrev b_Book_name : ByteArray := prog_2_method_12_code
def y_Book_name : MethodName := ⟨"HelpFile$Book", "name", "(I)J"⟩
theorem k73_methodLink : Cond.methodLink "HelpFile$Book" 59 ⟨"HelpFile$Book", "has", "(I)Z"⟩ ∈ ga := ga_t 429 (by decide +kernel) rfl
theorem k74_instanceMethod : Cond.instanceMethod ⟨"HelpFile$Book", "has", "(I)Z"⟩ ∈ ga := ga_t 430 (by decide +kernel) rfl
theorem k75_selects : Cond.selects "HelpFile$Book" ⟨"HelpFile$Book", "has", "(I)Z"⟩ ⟨"HelpFile$Book", "has", "(I)Z"⟩ ∈ ga := ga_t 431 (by decide +kernel) rfl
set_option maxRecDepth 100000 in
theorem fm_Book_name : Fm y_Book_name b_Book_name 2 (some .long) 1 := ⟨ga_t 456 rfl rfl, k62_initialized, by decide, by decide, by decide +kernel⟩
def D_Book_name (k0 : Int32) (bkN : Nat → Int64) (bkT : Int32) (res : Int64) : Prop := (∃ r2 : Bool, D_Book_has k0 bkT r2 ∧ (((bI r2) = 0 → (res = 0)) ∧ (¬ ((bI r2) = 0) → (vp_in k0 10 ∧ (res = bkN (Int32.toNatClampNeg k0))))))
theorem d_Book_name_0 : decode b_Book_name 0 = .ok (.aload_n 0, 1) := by decide +kernel
theorem d_Book_name_1 : decode b_Book_name 1 = .ok (.iload_n 1, 1) := by decide +kernel
theorem d_Book_name_2 : decode b_Book_name 2 = .ok (.invokevirtual 59, 3) := by decide +kernel
theorem d_Book_name_5 : decode b_Book_name 5 = .ok (.ifCond .eq 12, 3) := by decide +kernel
theorem d_Book_name_8 : decode b_Book_name 8 = .ok (.aload_n 0, 1) := by decide +kernel
theorem d_Book_name_9 : decode b_Book_name 9 = .ok (.getfield 9, 3) := by decide +kernel
theorem d_Book_name_12 : decode b_Book_name 12 = .ok (.iload_n 1, 1) := by decide +kernel
theorem d_Book_name_13 : decode b_Book_name 13 = .ok (.laload, 1) := by decide +kernel
theorem d_Book_name_14 : decode b_Book_name 14 = .ok (.goto 4, 3) := by decide +kernel
theorem d_Book_name_17 : decode b_Book_name 17 = .ok (.lconst 0, 1) := by decide +kernel
theorem d_Book_name_18 : decode b_Book_name 18 = .ok (.lreturn, 1) := by decide +kernel
set_option maxHeartbeats 4000000 in
set_option maxRecDepth 100000 in
theorem c_Book_name (l : Launch) (dC : Nat → ClassId) (dI : Nat → Nat → Nat) (cI cL cZ : ClassId) (bk : Nat) (bkNa : Nat) (bkN : Nat → Int64) (bkSa : Nat) (bkS : Nat → Int32) (bkB : Nat) (bkBEa : Nat) (bkBn : Nat) (bkBE : Nat → Int32) (bkBC : Int32) (bkBO : Bool) (bkK : Nat) (bkKWa : Nat) (bkKn : Nat) (bkKW : Nat → Int64) (bkKTa : Nat) (bkKT : Nat → Int32) (bkKC : Int32) (bkV : Nat) (bkVWa : Nat) (bkVn : Nat) (bkVW : Nat → Int64) (bkVTa : Nat) (bkVT : Nat → Int32) (bkVC : Int32) (bkT : Int32) (k0 : Int32) (res : Int64) (hd : D_Book_name k0 bkN bkT res) : CtrR l y_Book_name (Cond.code y_Book_name b_Book_name 2 (some .long) :: ga) { frames := 1, cells := 0, slots := 0, locals := 21 } (dC, dI) classes (Tys cI cL cZ) [.ref bk, .int k0] ((sh_Book cI cL cZ bk bkNa bkN bkSa bkS bkB bkBEa bkBn bkBE bkBC bkBO bkK bkKWa bkKn bkKW bkKTa bkKT bkKC bkV bkVWa bkVn bkVW bkVTa bkVT bkVC bkT)) (some (.long res)) := by
  refine CtrR.ofW (by decide) (Nat.le_of_ble_eq_true rfl) ?_
  intro p e s m below meth c ls hx hb hr hml hown hlocks hts hK hN hP hD hl
  have hown : s.vm.findClass R_Book = some m.cls := hown
  have hl : lv_has ls 2 [(0, .ref bk), (1, .int k0)] := hl
  refine lv_aload_n hx hb d_Book_name_0 rfl (lv_at hl 0 rfl) ?_
  refine lv_iload_n hx hb d_Book_name_1 rfl (lv_at hl 1 rfl) ?_
  obtain ⟨r2, c2, hd⟩ := hd
  refine ct_VR (As := [.int k0]) (rest := []) (C := R_Book) (ci := 3) (q := (R_Book, F_Book, 6)) ⟨hx, hb, hml, hown, hts⟩ fm_Book_has (c_Book_has l dC dI cI cL cZ bk bkNa bkN bkSa bkS bkB bkBEa bkBn bkBE bkBC bkBO bkK bkKWa bkKn bkKW bkKTa bkKT bkKC bkV bkVWa bkVn bkVW bkVTa bkVT bkVC bkT k0 r2 c2) k73_methodLink k74_instanceMethod k75_selects ⟨Nat.le_of_ble_eq_true rfl, Nat.le_of_ble_eq_true rfl⟩ rfl rfl hK hN hP hD [0, 1, 2, 3, 4, 5, 6, 7, 8, 9, 10] rfl rfl (by decide) 0 rfl rfl rfl rfl hl.1 rfl (Nat.le_of_ble_eq_true rfl) d_Book_name_2 ?_
  refine lv_if_eq (tgt := 17) hx hb d_Book_name_5 (by decide) (fun h5 => ?_) (fun h5 => ?_)
  · have hd := hd.1 h5
    refine lv_lconst (v := 0) hx hb d_Book_name_17 (by decide) ?_
    have e0 : res = 0 := hd
    subst e0
    exact ct_lretR hx hb hr hlocks d_Book_name_18
  · have hd := hd.2 h5
    refine lv_aload_n hx hb d_Book_name_8 rfl (lv_at hl 0 rfl) ?_
    refine va_get (D := (dC, dI)) (ci := 3) (v := .ref bkNa) (C := R_Book) (T := F_Book) (N := 6) hx hb hts in_Book hown hK hP 0 rfl rfl 0 (by decide) (hts _ (List.mem_cons_of_mem _ k64_fieldLink)) (fun _ h9 => h9) rfl d_Book_name_9 ?_
    refine lv_iload_n hx hb d_Book_name_12 rfl (lv_at hl 1 rfl) ?_
    obtain ⟨h13, hd⟩ := hd
    refine va_lald hx hb hK hP 1 1 rfl rfl h13 d_Book_name_13 ?_
    refine lv_goto (tgt := 18) hx hb d_Book_name_14 (by decide) ?_
    have e0 : res = bkN (Int32.toNatClampNeg k0) := hd
    subst e0
    exact ct_lretR hx hb hr hlocks d_Book_name_18
-- Book.topicNamed
abbrev b_Book_topicNamed : ByteArray := prog_2_method_13_code
def y_Book_topicNamed : MethodName := ⟨"HelpFile$Book", "topicNamed", "(J)I"⟩
set_option maxRecDepth 100000 in
theorem fm_Book_topicNamed : Fm y_Book_topicNamed b_Book_topicNamed 4 (some .int) 1 := ⟨ga_t 353 rfl rfl, k62_initialized, by decide, by decide, by decide +kernel⟩
def B_Book_topicNamed_2 (bkN : Nat → Int64) (bkT : Int32) (res : Int32) (X : Int64 → Int32 → Prop) (y1 : Int64) (x3 : Int32) : Prop := ((bkT ≤ x3 → (res = (-1))) ∧ (¬ (bkT ≤ x3) → (vp_in x3 10 ∧ (((lg_cmp (bkN (Int32.toNatClampNeg x3)) y1) = 0 → (res = x3)) ∧ (¬ ((lg_cmp (bkN (Int32.toNatClampNeg x3)) y1) = 0) → X y1 (x3 + 1))))))
def S_Book_topicNamed (bkN : Nat → Int64) (bkT : Int32) (res : Int32) (X : Int64 → Int32 → Prop) : Int64 → Int32 → Prop := fun y1 x3 => B_Book_topicNamed_2 bkN bkT res X y1 x3
def T_Book_topicNamed (bkN : Nat → Int64) (bkT : Int32) (res : Int32) : Nat → (Int64 → Int32 → Prop)
  | 0 => fun _ _ => False
  | n + 1 => S_Book_topicNamed bkN bkT res (T_Book_topicNamed bkN bkT res n)
def D_Book_topicNamed (w0 : Int64) (bkN : Nat → Int64) (bkT : Int32) (res : Int32) : Prop := ∃ n : Nat, T_Book_topicNamed bkN bkT res n w0 0
theorem d_Book_topicNamed_0 : decode b_Book_topicNamed 0 = .ok (.iconst 0, 1) := by decide +kernel
theorem d_Book_topicNamed_1 : decode b_Book_topicNamed 1 = .ok (.istore_n 3, 1) := by decide +kernel
theorem d_Book_topicNamed_2 : decode b_Book_topicNamed 2 = .ok (.iload_n 3, 1) := by decide +kernel
theorem d_Book_topicNamed_3 : decode b_Book_topicNamed 3 = .ok (.aload_n 0, 1) := by decide +kernel
theorem d_Book_topicNamed_4 : decode b_Book_topicNamed 4 = .ok (.getfield 38, 3) := by decide +kernel
theorem d_Book_topicNamed_7 : decode b_Book_topicNamed 7 = .ok (.if_icmp .ge 22, 3) := by decide +kernel
theorem d_Book_topicNamed_10 : decode b_Book_topicNamed 10 = .ok (.aload_n 0, 1) := by decide +kernel
theorem d_Book_topicNamed_11 : decode b_Book_topicNamed 11 = .ok (.getfield 9, 3) := by decide +kernel
theorem d_Book_topicNamed_14 : decode b_Book_topicNamed 14 = .ok (.iload_n 3, 1) := by decide +kernel
theorem d_Book_topicNamed_15 : decode b_Book_topicNamed 15 = .ok (.laload, 1) := by decide +kernel
theorem d_Book_topicNamed_16 : decode b_Book_topicNamed 16 = .ok (.lload_n 1, 1) := by decide +kernel
theorem d_Book_topicNamed_17 : decode b_Book_topicNamed 17 = .ok (.lcmp, 1) := by decide +kernel
theorem d_Book_topicNamed_18 : decode b_Book_topicNamed 18 = .ok (.ifCond .ne 5, 3) := by decide +kernel
theorem d_Book_topicNamed_21 : decode b_Book_topicNamed 21 = .ok (.iload_n 3, 1) := by decide +kernel
theorem d_Book_topicNamed_22 : decode b_Book_topicNamed 22 = .ok (.ireturn, 1) := by decide +kernel
theorem d_Book_topicNamed_23 : decode b_Book_topicNamed 23 = .ok (.iinc 3 1, 3) := by decide +kernel
theorem d_Book_topicNamed_26 : decode b_Book_topicNamed 26 = .ok (.goto (-24), 3) := by decide +kernel
theorem d_Book_topicNamed_29 : decode b_Book_topicNamed 29 = .ok (.iconst (-1), 1) := by decide +kernel
theorem d_Book_topicNamed_30 : decode b_Book_topicNamed 30 = .ok (.ireturn, 1) := by decide +kernel
set_option maxHeartbeats 4000000 in
set_option maxRecDepth 100000 in
theorem c_Book_topicNamed (l : Launch) (dC : Nat → ClassId) (dI : Nat → Nat → Nat) (cI cL cZ : ClassId) (bk : Nat) (bkNa : Nat) (bkN : Nat → Int64) (bkSa : Nat) (bkS : Nat → Int32) (bkB : Nat) (bkBEa : Nat) (bkBn : Nat) (bkBE : Nat → Int32) (bkBC : Int32) (bkBO : Bool) (bkK : Nat) (bkKWa : Nat) (bkKn : Nat) (bkKW : Nat → Int64) (bkKTa : Nat) (bkKT : Nat → Int32) (bkKC : Int32) (bkV : Nat) (bkVWa : Nat) (bkVn : Nat) (bkVW : Nat → Int64) (bkVTa : Nat) (bkVT : Nat → Int32) (bkVC : Int32) (bkT : Int32) (w0 : Int64) (res : Int32) (hd : D_Book_topicNamed w0 bkN bkT res) : CtrR l y_Book_topicNamed (Cond.code y_Book_topicNamed b_Book_topicNamed 4 (some .int) :: ga) { frames := 0, cells := 0, slots := 0, locals := 0 } (dC, dI) classes (Tys cI cL cZ) [.ref bk, .long w0] ((sh_Book cI cL cZ bk bkNa bkN bkSa bkS bkB bkBEa bkBn bkBE bkBC bkBO bkK bkKWa bkKn bkKW bkKTa bkKT bkKC bkV bkVWa bkVn bkVW bkVTa bkVT bkVC bkT)) (some (.int res)) := by
  refine CtrR.ofW (by decide) (Nat.le_of_ble_eq_true rfl) ?_
  intro p e s m below meth c ls hx hb hr hml hown hlocks hts hK hN hP hD hl
  have hown : s.vm.findClass R_Book = some m.cls := hown
  have hl : lv_has ls 4 [(0, .ref bk), (1, .long w0)] := hl
  have key : ∀ n : Nat, (∀ (y1 : Int64) (x3 : Int32) (ls : Array Slot), lv_has ls 4 [(0, .ref bk), (1, .long y1), (3, .int x3)] → T_Book_topicNamed bkN bkT res n y1 x3 → W p l e ({ frames := 0, cells := 0, slots := 0, locals := 0 }) s m ([.ref bk, .long w0] : List Value).toArray below meth c s.heap [] 0 0 (MQ below (Qr (some (.int res))) ([.ref bk, .long w0] : List Value).toArray s 0 0 (fun _ => False)) (F0 m 2 ls [])) := by
    intro n
    induction n with
    | zero =>
      exact fun _ _ _ _ hd => False.elim hd
    | succ n ih =>
      · intro y1 x3 ls hl hd
        have hd : B_Book_topicNamed_2 bkN bkT res (T_Book_topicNamed bkN bkT res n) y1 x3 := hd
        refine lv_iload_n hx hb d_Book_topicNamed_2 rfl (lv_at hl 2 rfl) ?_
        refine lv_aload_n hx hb d_Book_topicNamed_3 rfl (lv_at hl 0 rfl) ?_
        refine va_get (D := (dC, dI)) (ci := 3) (v := .int bkT) (C := R_Book) (T := F_Book) (N := 6) hx hb hts in_Book hown hK hP 0 rfl rfl 5 (by decide) (hts _ (List.mem_cons_of_mem _ k55_fieldLink)) (fun _ h9 => h9) rfl d_Book_topicNamed_4 ?_
        refine lv_icmp_ge (tgt := 29) hx hb d_Book_topicNamed_7 (by decide) (fun h7 => ?_) (fun h7 => ?_)
        · have hd := hd.1 h7
          refine lv_iconst (v := (-1)) hx hb d_Book_topicNamed_29 (by decide) ?_
          have e0 : res = (-1) := hd
          subst e0
          exact ct_iretR hx hb hr hlocks d_Book_topicNamed_30
        · have hd := hd.2 h7
          refine lv_aload_n hx hb d_Book_topicNamed_10 rfl (lv_at hl 0 rfl) ?_
          refine va_get (D := (dC, dI)) (ci := 3) (v := .ref bkNa) (C := R_Book) (T := F_Book) (N := 6) hx hb hts in_Book hown hK hP 0 rfl rfl 0 (by decide) (hts _ (List.mem_cons_of_mem _ k64_fieldLink)) (fun _ h9 => h9) rfl d_Book_topicNamed_11 ?_
          refine lv_iload_n hx hb d_Book_topicNamed_14 rfl (lv_at hl 2 rfl) ?_
          obtain ⟨h15, hd⟩ := hd
          refine va_lald hx hb hK hP 1 1 rfl rfl h15 d_Book_topicNamed_15 ?_
          refine lv_lload_n hx hb d_Book_topicNamed_16 rfl (lv_at hl 1 rfl) ?_
          refine W.lcmp hx hb d_Book_topicNamed_17 ?_
          refine lv_if_ne (tgt := 23) hx hb d_Book_topicNamed_18 (by decide) (fun h18 => ?_) (fun h18 => ?_)
          · have hd := hd.2 h18
            refine lv_iinc (k := 2) (v := x3 + 1) (lv' := [(3, .int (x3 + 1)), (0, .ref bk), (1, .long y1)]) hx hb d_Book_topicNamed_23 hl rfl (congrArg (fun z => x3 + z) (by decide)) (by decide) rfl (fun ls hl => ?_)
            refine lv_goto (tgt := 2) hx hb d_Book_topicNamed_26 (by decide) ?_
            exact ih y1 (x3 + 1) _ (lv_sub hl [1, 2, 0] rfl) hd
          · have hd := hd.1 h18
            refine lv_iload_n hx hb d_Book_topicNamed_21 rfl (lv_at hl 2 rfl) ?_
            have e0 : res = x3 := hd
            subst e0
            exact ct_iretR hx hb hr hlocks d_Book_topicNamed_22
  obtain ⟨n, hd⟩ := hd
  refine lv_iconst (v := 0) hx hb d_Book_topicNamed_0 (by decide) ?_
  refine lv_istore_n (lv' := [(3, .int 0), (0, .ref bk), (1, .long w0)]) hx hb d_Book_topicNamed_1 rfl hl (by decide) rfl (fun ls hl => ?_)
  exact (key n) w0 0 _ (lv_sub hl [1, 2, 0] rfl) hd
-- Book.bodyStart
abbrev b_Book_bodyStart : ByteArray := prog_2_method_14_code
def y_Book_bodyStart : MethodName := ⟨"HelpFile$Book", "bodyStart", "(I)I"⟩
set_option maxRecDepth 100000 in
theorem fm_Book_bodyStart : Fm y_Book_bodyStart b_Book_bodyStart 2 (some .int) 1 := ⟨ga_t 436 rfl rfl, k62_initialized, by decide, by decide, by decide +kernel⟩
def D_Book_bodyStart (k0 : Int32) (bkS : Nat → Int32) (bkT : Int32) (res : Int32) : Prop := (∃ r2 : Bool, D_Book_has k0 bkT r2 ∧ (((bI r2) = 0 → (res = 0)) ∧ (¬ ((bI r2) = 0) → (vp_in k0 11 ∧ (res = bkS (Int32.toNatClampNeg k0))))))
theorem d_Book_bodyStart_0 : decode b_Book_bodyStart 0 = .ok (.aload_n 0, 1) := by decide +kernel
theorem d_Book_bodyStart_1 : decode b_Book_bodyStart 1 = .ok (.iload_n 1, 1) := by decide +kernel
theorem d_Book_bodyStart_2 : decode b_Book_bodyStart 2 = .ok (.invokevirtual 59, 3) := by decide +kernel
theorem d_Book_bodyStart_5 : decode b_Book_bodyStart 5 = .ok (.ifCond .eq 12, 3) := by decide +kernel
theorem d_Book_bodyStart_8 : decode b_Book_bodyStart 8 = .ok (.aload_n 0, 1) := by decide +kernel
theorem d_Book_bodyStart_9 : decode b_Book_bodyStart 9 = .ok (.getfield 15, 3) := by decide +kernel
theorem d_Book_bodyStart_12 : decode b_Book_bodyStart 12 = .ok (.iload_n 1, 1) := by decide +kernel
theorem d_Book_bodyStart_13 : decode b_Book_bodyStart 13 = .ok (.iaload, 1) := by decide +kernel
theorem d_Book_bodyStart_14 : decode b_Book_bodyStart 14 = .ok (.goto 4, 3) := by decide +kernel
theorem d_Book_bodyStart_17 : decode b_Book_bodyStart 17 = .ok (.iconst 0, 1) := by decide +kernel
theorem d_Book_bodyStart_18 : decode b_Book_bodyStart 18 = .ok (.ireturn, 1) := by decide +kernel
set_option maxHeartbeats 4000000 in
set_option maxRecDepth 100000 in
theorem c_Book_bodyStart (l : Launch) (dC : Nat → ClassId) (dI : Nat → Nat → Nat) (cI cL cZ : ClassId) (bk : Nat) (bkNa : Nat) (bkN : Nat → Int64) (bkSa : Nat) (bkS : Nat → Int32) (bkB : Nat) (bkBEa : Nat) (bkBn : Nat) (bkBE : Nat → Int32) (bkBC : Int32) (bkBO : Bool) (bkK : Nat) (bkKWa : Nat) (bkKn : Nat) (bkKW : Nat → Int64) (bkKTa : Nat) (bkKT : Nat → Int32) (bkKC : Int32) (bkV : Nat) (bkVWa : Nat) (bkVn : Nat) (bkVW : Nat → Int64) (bkVTa : Nat) (bkVT : Nat → Int32) (bkVC : Int32) (bkT : Int32) (k0 : Int32) (res : Int32) (hd : D_Book_bodyStart k0 bkS bkT res) : CtrR l y_Book_bodyStart (Cond.code y_Book_bodyStart b_Book_bodyStart 2 (some .int) :: ga) { frames := 1, cells := 0, slots := 0, locals := 21 } (dC, dI) classes (Tys cI cL cZ) [.ref bk, .int k0] ((sh_Book cI cL cZ bk bkNa bkN bkSa bkS bkB bkBEa bkBn bkBE bkBC bkBO bkK bkKWa bkKn bkKW bkKTa bkKT bkKC bkV bkVWa bkVn bkVW bkVTa bkVT bkVC bkT)) (some (.int res)) := by
  refine CtrR.ofW (by decide) (Nat.le_of_ble_eq_true rfl) ?_
  intro p e s m below meth c ls hx hb hr hml hown hlocks hts hK hN hP hD hl
  have hown : s.vm.findClass R_Book = some m.cls := hown
  have hl : lv_has ls 2 [(0, .ref bk), (1, .int k0)] := hl
  refine lv_aload_n hx hb d_Book_bodyStart_0 rfl (lv_at hl 0 rfl) ?_
  refine lv_iload_n hx hb d_Book_bodyStart_1 rfl (lv_at hl 1 rfl) ?_
  obtain ⟨r2, c2, hd⟩ := hd
  refine ct_VR (As := [.int k0]) (rest := []) (C := R_Book) (ci := 3) (q := (R_Book, F_Book, 6)) ⟨hx, hb, hml, hown, hts⟩ fm_Book_has (c_Book_has l dC dI cI cL cZ bk bkNa bkN bkSa bkS bkB bkBEa bkBn bkBE bkBC bkBO bkK bkKWa bkKn bkKW bkKTa bkKT bkKC bkV bkVWa bkVn bkVW bkVTa bkVT bkVC bkT k0 r2 c2) k73_methodLink k74_instanceMethod k75_selects ⟨Nat.le_of_ble_eq_true rfl, Nat.le_of_ble_eq_true rfl⟩ rfl rfl hK hN hP hD [0, 1, 2, 3, 4, 5, 6, 7, 8, 9, 10] rfl rfl (by decide) 0 rfl rfl rfl rfl hl.1 rfl (Nat.le_of_ble_eq_true rfl) d_Book_bodyStart_2 ?_
  refine lv_if_eq (tgt := 17) hx hb d_Book_bodyStart_5 (by decide) (fun h5 => ?_) (fun h5 => ?_)
  · have hd := hd.1 h5
    refine lv_iconst (v := 0) hx hb d_Book_bodyStart_17 (by decide) ?_
    have e0 : res = 0 := hd
    subst e0
    exact ct_iretR hx hb hr hlocks d_Book_bodyStart_18
  · have hd := hd.2 h5
    refine lv_aload_n hx hb d_Book_bodyStart_8 rfl (lv_at hl 0 rfl) ?_
    refine va_get (D := (dC, dI)) (ci := 3) (v := .ref bkSa) (C := R_Book) (T := F_Book) (N := 6) hx hb hts in_Book hown hK hP 0 rfl rfl 1 (by decide) (hts _ (List.mem_cons_of_mem _ k65_fieldLink)) (fun _ h9 => h9) rfl d_Book_bodyStart_9 ?_
    refine lv_iload_n hx hb d_Book_bodyStart_12 rfl (lv_at hl 1 rfl) ?_
    obtain ⟨h13, hd⟩ := hd
    refine va_iald hx hb hK hP 2 0 rfl rfl h13 d_Book_bodyStart_13 ?_
    refine lv_goto (tgt := 18) hx hb d_Book_bodyStart_14 (by decide) ?_
    have e0 : res = bkS (Int32.toNatClampNeg k0) := hd
    subst e0
    exact ct_iretR hx hb hr hlocks d_Book_bodyStart_18
-- Book.bodyEnd
abbrev b_Book_bodyEnd : ByteArray := prog_2_method_15_code
def y_Book_bodyEnd : MethodName := ⟨"HelpFile$Book", "bodyEnd", "(I)I"⟩
set_option maxRecDepth 100000 in
theorem fm_Book_bodyEnd : Fm y_Book_bodyEnd b_Book_bodyEnd 2 (some .int) 1 := ⟨ga_t 428 rfl rfl, k62_initialized, by decide, by decide, by decide +kernel⟩
def D_Book_bodyEnd (k0 : Int32) (bkS : Nat → Int32) (bkT : Int32) (res : Int32) : Prop := (∃ r2 : Bool, D_Book_has k0 bkT r2 ∧ (((bI r2) = 0 → (res = 0)) ∧ (¬ ((bI r2) = 0) → (vp_in (k0 + 1) 11 ∧ (res = bkS (Int32.toNatClampNeg (k0 + 1)))))))
theorem d_Book_bodyEnd_0 : decode b_Book_bodyEnd 0 = .ok (.aload_n 0, 1) := by decide +kernel
theorem d_Book_bodyEnd_1 : decode b_Book_bodyEnd 1 = .ok (.iload_n 1, 1) := by decide +kernel
theorem d_Book_bodyEnd_2 : decode b_Book_bodyEnd 2 = .ok (.invokevirtual 59, 3) := by decide +kernel
theorem d_Book_bodyEnd_5 : decode b_Book_bodyEnd 5 = .ok (.ifCond .eq 14, 3) := by decide +kernel
theorem d_Book_bodyEnd_8 : decode b_Book_bodyEnd 8 = .ok (.aload_n 0, 1) := by decide +kernel
theorem d_Book_bodyEnd_9 : decode b_Book_bodyEnd 9 = .ok (.getfield 15, 3) := by decide +kernel
theorem d_Book_bodyEnd_12 : decode b_Book_bodyEnd 12 = .ok (.iload_n 1, 1) := by decide +kernel
theorem d_Book_bodyEnd_13 : decode b_Book_bodyEnd 13 = .ok (.iconst 1, 1) := by decide +kernel
theorem d_Book_bodyEnd_14 : decode b_Book_bodyEnd 14 = .ok (.iadd, 1) := by decide +kernel
theorem d_Book_bodyEnd_15 : decode b_Book_bodyEnd 15 = .ok (.iaload, 1) := by decide +kernel
theorem d_Book_bodyEnd_16 : decode b_Book_bodyEnd 16 = .ok (.goto 4, 3) := by decide +kernel
theorem d_Book_bodyEnd_19 : decode b_Book_bodyEnd 19 = .ok (.iconst 0, 1) := by decide +kernel
theorem d_Book_bodyEnd_20 : decode b_Book_bodyEnd 20 = .ok (.ireturn, 1) := by decide +kernel
set_option maxHeartbeats 4000000 in
set_option maxRecDepth 100000 in
theorem c_Book_bodyEnd (l : Launch) (dC : Nat → ClassId) (dI : Nat → Nat → Nat) (cI cL cZ : ClassId) (bk : Nat) (bkNa : Nat) (bkN : Nat → Int64) (bkSa : Nat) (bkS : Nat → Int32) (bkB : Nat) (bkBEa : Nat) (bkBn : Nat) (bkBE : Nat → Int32) (bkBC : Int32) (bkBO : Bool) (bkK : Nat) (bkKWa : Nat) (bkKn : Nat) (bkKW : Nat → Int64) (bkKTa : Nat) (bkKT : Nat → Int32) (bkKC : Int32) (bkV : Nat) (bkVWa : Nat) (bkVn : Nat) (bkVW : Nat → Int64) (bkVTa : Nat) (bkVT : Nat → Int32) (bkVC : Int32) (bkT : Int32) (k0 : Int32) (res : Int32) (hd : D_Book_bodyEnd k0 bkS bkT res) : CtrR l y_Book_bodyEnd (Cond.code y_Book_bodyEnd b_Book_bodyEnd 2 (some .int) :: ga) { frames := 1, cells := 0, slots := 0, locals := 21 } (dC, dI) classes (Tys cI cL cZ) [.ref bk, .int k0] ((sh_Book cI cL cZ bk bkNa bkN bkSa bkS bkB bkBEa bkBn bkBE bkBC bkBO bkK bkKWa bkKn bkKW bkKTa bkKT bkKC bkV bkVWa bkVn bkVW bkVTa bkVT bkVC bkT)) (some (.int res)) := by
  refine CtrR.ofW (by decide) (Nat.le_of_ble_eq_true rfl) ?_
  intro p e s m below meth c ls hx hb hr hml hown hlocks hts hK hN hP hD hl
  have hown : s.vm.findClass R_Book = some m.cls := hown
  have hl : lv_has ls 2 [(0, .ref bk), (1, .int k0)] := hl
  refine lv_aload_n hx hb d_Book_bodyEnd_0 rfl (lv_at hl 0 rfl) ?_
  refine lv_iload_n hx hb d_Book_bodyEnd_1 rfl (lv_at hl 1 rfl) ?_
  obtain ⟨r2, c2, hd⟩ := hd
  refine ct_VR (As := [.int k0]) (rest := []) (C := R_Book) (ci := 3) (q := (R_Book, F_Book, 6)) ⟨hx, hb, hml, hown, hts⟩ fm_Book_has (c_Book_has l dC dI cI cL cZ bk bkNa bkN bkSa bkS bkB bkBEa bkBn bkBE bkBC bkBO bkK bkKWa bkKn bkKW bkKTa bkKT bkKC bkV bkVWa bkVn bkVW bkVTa bkVT bkVC bkT k0 r2 c2) k73_methodLink k74_instanceMethod k75_selects ⟨Nat.le_of_ble_eq_true rfl, Nat.le_of_ble_eq_true rfl⟩ rfl rfl hK hN hP hD [0, 1, 2, 3, 4, 5, 6, 7, 8, 9, 10] rfl rfl (by decide) 0 rfl rfl rfl rfl hl.1 rfl (Nat.le_of_ble_eq_true rfl) d_Book_bodyEnd_2 ?_
  refine lv_if_eq (tgt := 19) hx hb d_Book_bodyEnd_5 (by decide) (fun h5 => ?_) (fun h5 => ?_)
  · have hd := hd.1 h5
    refine lv_iconst (v := 0) hx hb d_Book_bodyEnd_19 (by decide) ?_
    have e0 : res = 0 := hd
    subst e0
    exact ct_iretR hx hb hr hlocks d_Book_bodyEnd_20
  · have hd := hd.2 h5
    refine lv_aload_n hx hb d_Book_bodyEnd_8 rfl (lv_at hl 0 rfl) ?_
    refine va_get (D := (dC, dI)) (ci := 3) (v := .ref bkSa) (C := R_Book) (T := F_Book) (N := 6) hx hb hts in_Book hown hK hP 0 rfl rfl 1 (by decide) (hts _ (List.mem_cons_of_mem _ k65_fieldLink)) (fun _ h9 => h9) rfl d_Book_bodyEnd_9 ?_
    refine lv_iload_n hx hb d_Book_bodyEnd_12 rfl (lv_at hl 1 rfl) ?_
    refine lv_iconst (v := 1) hx hb d_Book_bodyEnd_13 (by decide) ?_
    refine lv_iadd hx hb d_Book_bodyEnd_14 ?_
    obtain ⟨h15, hd⟩ := hd
    refine va_iald hx hb hK hP 2 0 rfl rfl h15 d_Book_bodyEnd_15 ?_
    refine lv_goto (tgt := 20) hx hb d_Book_bodyEnd_16 (by decide) ?_
    have e0 : res = bkS (Int32.toNatClampNeg (k0 + 1)) := hd
    subst e0
    exact ct_iretR hx hb hr hlocks d_Book_bodyEnd_20
-- Book.bodyLength
abbrev b_Book_bodyLength : ByteArray := prog_2_method_16_code
def y_Book_bodyLength : MethodName := ⟨"HelpFile$Book", "bodyLength", "(I)I"⟩
theorem k76_methodLink : Cond.methodLink "HelpFile$Book" 63 ⟨"HelpFile$Book", "bodyEnd", "(I)I"⟩ ∈ ga := ga_t 425 (by decide +kernel) rfl
theorem k77_instanceMethod : Cond.instanceMethod ⟨"HelpFile$Book", "bodyEnd", "(I)I"⟩ ∈ ga := ga_t 426 (by decide +kernel) rfl
theorem k78_selects : Cond.selects "HelpFile$Book" ⟨"HelpFile$Book", "bodyEnd", "(I)I"⟩ ⟨"HelpFile$Book", "bodyEnd", "(I)I"⟩ ∈ ga := ga_t 427 (by decide +kernel) rfl
theorem k79_methodLink : Cond.methodLink "HelpFile$Book" 67 ⟨"HelpFile$Book", "bodyStart", "(I)I"⟩ ∈ ga := ga_t 433 (by decide +kernel) rfl
theorem k80_instanceMethod : Cond.instanceMethod ⟨"HelpFile$Book", "bodyStart", "(I)I"⟩ ∈ ga := ga_t 434 (by decide +kernel) rfl
theorem k81_selects : Cond.selects "HelpFile$Book" ⟨"HelpFile$Book", "bodyStart", "(I)I"⟩ ⟨"HelpFile$Book", "bodyStart", "(I)I"⟩ ∈ ga := ga_t 435 (by decide +kernel) rfl
set_option maxRecDepth 100000 in
theorem fm_Book_bodyLength : Fm y_Book_bodyLength b_Book_bodyLength 2 (some .int) 1 := ⟨ga_t 424 rfl rfl, k62_initialized, by decide, by decide, by decide +kernel⟩
def D_Book_bodyLength (k0 : Int32) (bkS : Nat → Int32) (bkT : Int32) (res : Int32) : Prop := (∃ r2 : Int32, D_Book_bodyEnd k0 bkS bkT r2 ∧ (∃ r7 : Int32, D_Book_bodyStart k0 bkS bkT r7 ∧ (res = r2 - r7)))
theorem d_Book_bodyLength_0 : decode b_Book_bodyLength 0 = .ok (.aload_n 0, 1) := by decide +kernel
theorem d_Book_bodyLength_1 : decode b_Book_bodyLength 1 = .ok (.iload_n 1, 1) := by decide +kernel
theorem d_Book_bodyLength_2 : decode b_Book_bodyLength 2 = .ok (.invokevirtual 63, 3) := by decide +kernel
theorem d_Book_bodyLength_5 : decode b_Book_bodyLength 5 = .ok (.aload_n 0, 1) := by decide +kernel
theorem d_Book_bodyLength_6 : decode b_Book_bodyLength 6 = .ok (.iload_n 1, 1) := by decide +kernel
theorem d_Book_bodyLength_7 : decode b_Book_bodyLength 7 = .ok (.invokevirtual 67, 3) := by decide +kernel
theorem d_Book_bodyLength_10 : decode b_Book_bodyLength 10 = .ok (.isub, 1) := by decide +kernel
theorem d_Book_bodyLength_11 : decode b_Book_bodyLength 11 = .ok (.ireturn, 1) := by decide +kernel
set_option maxHeartbeats 4000000 in
set_option maxRecDepth 100000 in
theorem c_Book_bodyLength (l : Launch) (dC : Nat → ClassId) (dI : Nat → Nat → Nat) (cI cL cZ : ClassId) (bk : Nat) (bkNa : Nat) (bkN : Nat → Int64) (bkSa : Nat) (bkS : Nat → Int32) (bkB : Nat) (bkBEa : Nat) (bkBn : Nat) (bkBE : Nat → Int32) (bkBC : Int32) (bkBO : Bool) (bkK : Nat) (bkKWa : Nat) (bkKn : Nat) (bkKW : Nat → Int64) (bkKTa : Nat) (bkKT : Nat → Int32) (bkKC : Int32) (bkV : Nat) (bkVWa : Nat) (bkVn : Nat) (bkVW : Nat → Int64) (bkVTa : Nat) (bkVT : Nat → Int32) (bkVC : Int32) (bkT : Int32) (k0 : Int32) (res : Int32) (hd : D_Book_bodyLength k0 bkS bkT res) : CtrR l y_Book_bodyLength (Cond.code y_Book_bodyLength b_Book_bodyLength 2 (some .int) :: ga) { frames := 2, cells := 0, slots := 0, locals := 42 } (dC, dI) classes (Tys cI cL cZ) [.ref bk, .int k0] ((sh_Book cI cL cZ bk bkNa bkN bkSa bkS bkB bkBEa bkBn bkBE bkBC bkBO bkK bkKWa bkKn bkKW bkKTa bkKT bkKC bkV bkVWa bkVn bkVW bkVTa bkVT bkVC bkT)) (some (.int res)) := by
  refine CtrR.ofW (by decide) (Nat.le_of_ble_eq_true rfl) ?_
  intro p e s m below meth c ls hx hb hr hml hown hlocks hts hK hN hP hD hl
  have hown : s.vm.findClass R_Book = some m.cls := hown
  have hl : lv_has ls 2 [(0, .ref bk), (1, .int k0)] := hl
  refine lv_aload_n hx hb d_Book_bodyLength_0 rfl (lv_at hl 0 rfl) ?_
  refine lv_iload_n hx hb d_Book_bodyLength_1 rfl (lv_at hl 1 rfl) ?_
  obtain ⟨r2, c2, hd⟩ := hd
  refine ct_VR (As := [.int k0]) (rest := []) (C := R_Book) (ci := 3) (q := (R_Book, F_Book, 6)) ⟨hx, hb, hml, hown, hts⟩ fm_Book_bodyEnd (c_Book_bodyEnd l dC dI cI cL cZ bk bkNa bkN bkSa bkS bkB bkBEa bkBn bkBE bkBC bkBO bkK bkKWa bkKn bkKW bkKTa bkKT bkKC bkV bkVWa bkVn bkVW bkVTa bkVT bkVC bkT k0 r2 c2) k76_methodLink k77_instanceMethod k78_selects ⟨Nat.le_of_ble_eq_true rfl, Nat.le_of_ble_eq_true rfl⟩ rfl rfl hK hN hP hD [0, 1, 2, 3, 4, 5, 6, 7, 8, 9, 10] rfl rfl (by decide) 0 rfl rfl rfl rfl hl.1 rfl (Nat.le_of_ble_eq_true rfl) d_Book_bodyLength_2 ?_
  refine lv_aload_n hx hb d_Book_bodyLength_5 rfl (lv_at hl 0 rfl) ?_
  refine lv_iload_n hx hb d_Book_bodyLength_6 rfl (lv_at hl 1 rfl) ?_
  obtain ⟨r7, c7, hd⟩ := hd
  refine ct_VR (As := [.int k0]) (rest := [.int r2]) (C := R_Book) (ci := 3) (q := (R_Book, F_Book, 6)) ⟨hx, hb, hml, hown, hts⟩ fm_Book_bodyStart (c_Book_bodyStart l dC dI cI cL cZ bk bkNa bkN bkSa bkS bkB bkBEa bkBn bkBE bkBC bkBO bkK bkKWa bkKn bkKW bkKTa bkKT bkKC bkV bkVWa bkVn bkVW bkVTa bkVT bkVC bkT k0 r7 c7) k79_methodLink k80_instanceMethod k81_selects ⟨Nat.le_of_ble_eq_true rfl, Nat.le_of_ble_eq_true rfl⟩ rfl rfl hK hN hP hD [0, 1, 2, 3, 4, 5, 6, 7, 8, 9, 10] rfl rfl (by decide) 0 rfl rfl rfl rfl hl.1 rfl (Nat.le_of_ble_eq_true rfl) d_Book_bodyLength_7 ?_
  refine lv_isub hx hb d_Book_bodyLength_10 ?_
  have e0 : res = r2 - r7 := hd
  subst e0
  exact ct_iretR hx hb hr hlocks d_Book_bodyLength_11
