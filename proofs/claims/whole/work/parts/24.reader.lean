/-! 24.reader: what each method does, read off its bytecode (D_..), and its contract (c_..); written by a program of mine. -/
-- ImageReader.next
abbrev b_ImageReader_next : ByteArray := prog_4_method_3_code
def y_ImageReader_next : MethodName := ⟨"HelpFile$ImageReader", "next", "()I"⟩
theorem k260_fieldLink : Cond.fieldLink "HelpFile$ImageReader" 9 "HelpFile$ImageReader" "image" "LHelpFile$Row;" ∈ ga := ga_t 105 (by decide +kernel) rfl
theorem k261_fieldLink : Cond.fieldLink "HelpFile$ImageReader" 19 "HelpFile$ImageReader" "place" "I" ∈ ga := ga_t 107 (by decide +kernel) rfl
theorem k262_methodLink : Cond.methodLink "HelpFile$ImageReader" 28 ⟨"HelpFile$Row", "element", "(I)I"⟩ ∈ ga := ga_t 573 (by decide +kernel) rfl
theorem k263_initialized : Cond.initialized "HelpFile$ImageReader" ∈ ga := ga_t 4 (by decide +kernel) rfl
set_option maxRecDepth 100000 in
theorem fm_ImageReader_next : Fm y_ImageReader_next b_ImageReader_next 2 (some .int) 0 := ⟨ga_t 588 rfl rfl, k263_initialized, by decide, by decide, by decide +kernel⟩
def D_ImageReader_next (imn : Nat) (irP : Int32) (imE : Nat → Int32) (imC : Int32) (res : Int32) (irP' : Int32) : Prop := (∃ r8 : Int32, D_Row_element imn irP imE imC r8 ∧ (res = r8 ∧ irP' = irP + 1))
theorem d_ImageReader_next_0 : decode b_ImageReader_next 0 = .ok (.aload_n 0, 1) := by decide +kernel
theorem d_ImageReader_next_1 : decode b_ImageReader_next 1 = .ok (.getfield 9, 3) := by decide +kernel
theorem d_ImageReader_next_4 : decode b_ImageReader_next 4 = .ok (.aload_n 0, 1) := by decide +kernel
theorem d_ImageReader_next_5 : decode b_ImageReader_next 5 = .ok (.getfield 19, 3) := by decide +kernel
theorem d_ImageReader_next_8 : decode b_ImageReader_next 8 = .ok (.invokevirtual 28, 3) := by decide +kernel
theorem d_ImageReader_next_11 : decode b_ImageReader_next 11 = .ok (.istore_n 1, 1) := by decide +kernel
theorem d_ImageReader_next_12 : decode b_ImageReader_next 12 = .ok (.aload_n 0, 1) := by decide +kernel
theorem d_ImageReader_next_13 : decode b_ImageReader_next 13 = .ok (.dup, 1) := by decide +kernel
theorem d_ImageReader_next_14 : decode b_ImageReader_next 14 = .ok (.getfield 19, 3) := by decide +kernel
theorem d_ImageReader_next_17 : decode b_ImageReader_next 17 = .ok (.iconst 1, 1) := by decide +kernel
theorem d_ImageReader_next_18 : decode b_ImageReader_next 18 = .ok (.iadd, 1) := by decide +kernel
theorem d_ImageReader_next_19 : decode b_ImageReader_next 19 = .ok (.putfield 19, 3) := by decide +kernel
theorem d_ImageReader_next_22 : decode b_ImageReader_next 22 = .ok (.iload_n 1, 1) := by decide +kernel
theorem d_ImageReader_next_23 : decode b_ImageReader_next 23 = .ok (.ireturn, 1) := by decide +kernel
set_option maxHeartbeats 4000000 in
set_option maxRecDepth 100000 in
theorem c_ImageReader_next (l : Launch) (dC : Nat → ClassId) (dI : Nat → Nat → Nat) (cI cL cZ : ClassId) (ir : Nat) (irB : Value) (irP : Int32) (im : Nat) (imEa : Nat) (imn : Nat) (imE : Nat → Int32) (imC : Int32) (imO : Bool) (res : Int32) (irP' : Int32) (hd : D_ImageReader_next imn irP imE imC res irP') : Ctr l y_ImageReader_next (Cond.code y_ImageReader_next b_ImageReader_next 2 (some .int) :: ga) { frames := 1, cells := 0, slots := 0, locals := 21 } (dC, dI) classes (Tys cI cL cZ) [.ref ir] ((sh_ImageReader cI cL cZ ir (.ref im) irB irP) ++ ((sh_Row cI cL cZ im imEa imn imE imC imO))) (some (.int res)) ((sh_ImageReader cI cL cZ ir (.ref im) irB irP') ++ ((sh_Row cI cL cZ im imEa imn imE imC imO))) := by
  refine Ctr.ofW (by decide) (Nat.le_of_ble_eq_true rfl) ?_
  intro p e s m below meth c A ls hx hb hr hml hown hlocks hts hK hN hA hP hD hS hl
  have hown : s.vm.findClass R_ImageReader = some m.cls := hown
  have hl : lv_has ls 2 [(0, .ref ir)] := hl
  refine lv_aload_n hx hb d_ImageReader_next_0 rfl (lv_at hl 0 rfl) ?_
  refine va_get (D := (dC, dI)) (ci := 5) (v := .ref im) (C := R_ImageReader) (T := F_ImageReader) (N := 3) hx hb hts in_ImageReader hown hK hP 0 rfl rfl 0 (by decide) (hts _ (List.mem_cons_of_mem _ k260_fieldLink)) (fun _ h9 => h9) rfl d_ImageReader_next_1 ?_
  refine lv_aload_n hx hb d_ImageReader_next_4 rfl (lv_at hl 0 rfl) ?_
  refine va_get (D := (dC, dI)) (ci := 5) (v := .int irP) (C := R_ImageReader) (T := F_ImageReader) (N := 3) hx hb hts in_ImageReader hown hK hP 0 rfl rfl 2 (by decide) (hts _ (List.mem_cons_of_mem _ k261_fieldLink)) (fun _ h9 => h9) rfl d_ImageReader_next_5 ?_
  obtain ⟨r8, c8, hd⟩ := hd
  refine ct_VR (As := [.int irP]) (rest := []) (C := R_Row) (ci := 1) (q := (R_Row, F_Row, 3)) ⟨hx, hb, hml, hown, hts⟩ fm_Row_element (c_Row_element l dC dI cI cL cZ im imEa imn imE imC imO irP r8 c8) k262_methodLink k4_instanceMethod k5_selects ⟨Nat.le_of_ble_eq_true rfl, Nat.le_of_ble_eq_true rfl⟩ rfl rfl hK hN hP hD [1, 2] rfl rfl (by decide) 1 rfl rfl rfl rfl hl.1 rfl (Nat.le_of_ble_eq_true rfl) d_ImageReader_next_8 ?_
  refine lv_istore_n (lv' := [(1, .int r8), (0, .ref ir)]) hx hb d_ImageReader_next_11 rfl hl (by decide) rfl (fun ls hl => ?_)
  refine lv_aload_n hx hb d_ImageReader_next_12 rfl (lv_at hl 1 rfl) ?_
  refine lv_dup hx hb d_ImageReader_next_13 rfl ?_
  refine va_get (D := (dC, dI)) (ci := 5) (v := .int irP) (C := R_ImageReader) (T := F_ImageReader) (N := 3) hx hb hts in_ImageReader hown hK hP 0 rfl rfl 2 (by decide) (hts _ (List.mem_cons_of_mem _ k261_fieldLink)) (fun _ h9 => h9) rfl d_ImageReader_next_14 ?_
  refine lv_iconst (v := 1) hx hb d_ImageReader_next_17 (by decide) ?_
  refine lv_iadd hx hb d_ImageReader_next_18 ?_
  refine va_put (D := (dC, dI)) (ci := 5) (v := .int (irP + 1)) (ty := t_ImageReader 2) (C := R_ImageReader) (T := F_ImageReader) (N := 3) hx hb hts in_ImageReader t_ImageReader t_ImageReader_ok n_ImageReader hown hK hP hD hS 0 rfl rfl 2 (by decide) (hts _ (List.mem_cons_of_mem _ k261_fieldLink)) (fun _ h9 => h9) rfl (t_ImageReader_ok 2 (by decide)) rfl rfl (Nat.le_of_ble_eq_true rfl) d_ImageReader_next_19 (fun H locs hP hD hS => ?_)
  have hP : va_P (dC, dI) classes ((sh_ImageReader cI cL cZ ir (.ref im) irB (irP + 1)) ++ ((sh_Row cI cL cZ im imEa imn imE imC imO))) H := hP
  have hD : va_D A ((sh_ImageReader cI cL cZ ir (.ref im) irB (irP + 1)) ++ ((sh_Row cI cL cZ im imEa imn imE imC imO))) := hD
  refine lv_iload_n hx hb d_ImageReader_next_22 rfl (lv_at hl 0 rfl) ?_
  obtain ⟨e0, e1⟩ := hd
  subst e0
  subst e1
  exact ct_iret hx hb hr hlocks hK hP hD hS d_ImageReader_next_23
-- ImageReader.unpack
abbrev b_ImageReader_unpack : ByteArray := prog_4_method_4_code
def y_ImageReader_unpack : MethodName := ⟨"HelpFile$ImageReader", "unpack", "(II)Z"⟩
theorem k264_methodLink : Cond.methodLink "HelpFile$ImageReader" 55 ⟨"HelpFile$ImageReader", "next", "()I"⟩ ∈ ga := ga_t 585 (by decide +kernel) rfl
theorem k265_instanceMethod : Cond.instanceMethod ⟨"HelpFile$ImageReader", "next", "()I"⟩ ∈ ga := ga_t 587 (by decide +kernel) rfl
theorem k266_selects : Cond.selects "HelpFile$ImageReader" ⟨"HelpFile$ImageReader", "next", "()I"⟩ ⟨"HelpFile$ImageReader", "next", "()I"⟩ ∈ ga := ga_s (q := (⟨"HelpFile$ImageReader", "next", "()I"⟩, _)) 18 rfl
theorem k267_fieldLink : Cond.fieldLink "HelpFile$ImageReader" 15 "HelpFile$ImageReader" "book" "LHelpFile$Book;" ∈ ga := ga_t 106 (by decide +kernel) rfl
theorem k268_methodLink : Cond.methodLink "HelpFile$ImageReader" 59 ⟨"HelpFile$Book", "bodyLength", "(I)I"⟩ ∈ ga := ga_t 589 (by decide +kernel) rfl
theorem k269_methodLink : Cond.methodLink "HelpFile$ImageReader" 62 ⟨"HelpFile$Book", "bodyEnd", "(I)I"⟩ ∈ ga := ga_t 590 (by decide +kernel) rfl
theorem k270_methodLink : Cond.methodLink "HelpFile$ImageReader" 65 ⟨"HelpFile$Book", "bodies", "()LHelpFile$Row;"⟩ ∈ ga := ga_t 591 (by decide +kernel) rfl
theorem k271_methodLink : Cond.methodLink "HelpFile$ImageReader" 69 ⟨"HelpFile$Book", "append", "(I)V"⟩ ∈ ga := ga_t 592 (by decide +kernel) rfl
set_option maxRecDepth 100000 in
theorem fm_ImageReader_unpack : Fm y_ImageReader_unpack b_ImageReader_unpack 11 (some .boolean) 2 := ⟨ga_t 584 rfl rfl, k263_initialized, by decide, by decide, by decide +kernel⟩
def B_ImageReader_unpack_10 (imn : Nat) (bkBn : Nat) (imE : Nat → Int32) (imC : Int32) (bkT : Int32) (res : Bool) (irP' : Int32) (bkS' : Nat → Int32) (bkBE' : Nat → Int32) (bkBC' : Int32) (bkBO' : Bool) (X : Nat → Int32 → Int32 → Int32 → Int32 → Bool → Int32 → Int32 → Int32 → Int32 → (Nat → Int32) → (Nat → Int32) → Int32 → Bool → Prop) (x1 : Int32) (x3 : Int32) (x4 : Int32) (irP : Int32) (bkS : Nat → Int32) (bkBE : Nat → Int32) (bkBC : Int32) (bkBO : Bool) : Prop := ((255 ≤ x4 → X 6 0 x3 0 0 false 0 0 0 irP bkS bkBE bkBC bkBO) ∧ (¬ (255 ≤ x4) → ((x3 ≤ irP → X 6 0 x3 0 0 false 0 0 0 irP bkS bkBE bkBC bkBO) ∧ (¬ (x3 ≤ irP) → (∃ r27 : Int32, ∃ irP_27 : Int32, D_ImageReader_next imn irP imE imC r27 irP_27 ∧ ((128 ≤ r27 → X 1 x1 x3 x4 r27 false 0 0 0 irP_27 bkS bkBE bkBC bkBO) ∧ (¬ (128 ≤ r27) → X 1 x1 x3 x4 r27 true 0 0 0 irP_27 bkS bkBE bkBC bkBO)))))))
def B_ImageReader_unpack_47 (imn : Nat) (bkBn : Nat) (imE : Nat → Int32) (imC : Int32) (bkT : Int32) (res : Bool) (irP' : Int32) (bkS' : Nat → Int32) (bkBE' : Nat → Int32) (bkBC' : Int32) (bkBO' : Bool) (X : Nat → Int32 → Int32 → Int32 → Int32 → Bool → Int32 → Int32 → Int32 → Int32 → (Nat → Int32) → (Nat → Int32) → Int32 → Bool → Prop) (x1 : Int32) (x3 : Int32) (x4 : Int32) (x5 : Int32) (b6 : Bool) (irP : Int32) (bkS : Nat → Int32) (bkBE : Nat → Int32) (bkBC : Int32) (bkBO : Bool) : Prop := (((bI b6) = 0 → X 2 x1 x3 x4 0 b6 ((x5 - 128) + 3) 0 0 irP bkS bkBE bkBC bkBO) ∧ (¬ ((bI b6) = 0) → X 2 x1 x3 x4 0 b6 (x5 + 1) 0 0 irP bkS bkBE bkBC bkBO))
def B_ImageReader_unpack_69 (imn : Nat) (bkBn : Nat) (imE : Nat → Int32) (imC : Int32) (bkT : Int32) (res : Bool) (irP' : Int32) (bkS' : Nat → Int32) (bkBE' : Nat → Int32) (bkBC' : Int32) (bkBO' : Bool) (X : Nat → Int32 → Int32 → Int32 → Int32 → Bool → Int32 → Int32 → Int32 → Int32 → (Nat → Int32) → (Nat → Int32) → Int32 → Bool → Prop) (x1 : Int32) (x3 : Int32) (x4 : Int32) (b6 : Bool) (x7 : Int32) (irP : Int32) (bkS : Nat → Int32) (bkBE : Nat → Int32) (bkBC : Int32) (bkBO : Bool) : Prop := (((bI b6) = 0 → (∃ r79 : Int32, ∃ irP_79 : Int32, D_ImageReader_next imn irP imE imC r79 irP_79 ∧ X 3 x1 x3 x4 0 b6 x7 r79 0 irP_79 bkS bkBE bkBC bkBO)) ∧ (¬ ((bI b6) = 0) → X 3 x1 x3 x4 0 b6 x7 0 0 irP bkS bkBE bkBC bkBO))
def B_ImageReader_unpack_84 (imn : Nat) (bkBn : Nat) (imE : Nat → Int32) (imC : Int32) (bkT : Int32) (res : Bool) (irP' : Int32) (bkS' : Nat → Int32) (bkBE' : Nat → Int32) (bkBC' : Int32) (bkBO' : Bool) (X : Nat → Int32 → Int32 → Int32 → Int32 → Bool → Int32 → Int32 → Int32 → Int32 → (Nat → Int32) → (Nat → Int32) → Int32 → Bool → Prop) (x1 : Int32) (x3 : Int32) (x4 : Int32) (b6 : Bool) (x7 : Int32) (x8 : Int32) (irP : Int32) (bkS : Nat → Int32) (bkBE : Nat → Int32) (bkBC : Int32) (bkBO : Bool) : Prop := (∃ r91 : Int32, D_Book_bodyLength x1 bkS bkT r91 ∧ ((r91 < x8 → (res = false ∧ irP' = irP ∧ bkS' = bkS ∧ bkBE' = bkBE ∧ bkBC' = bkBC ∧ bkBO' = bkBO)) ∧ (¬ (r91 < x8) → (((bI b6) = 0 → ((x8 = 0 → (res = false ∧ irP' = irP ∧ bkS' = bkS ∧ bkBE' = bkBE ∧ bkBC' = bkBC ∧ bkBO' = bkBO)) ∧ (¬ (x8 = 0) → X 4 x1 x3 x4 0 b6 x7 x8 0 irP bkS bkBE bkBC bkBO))) ∧ (¬ ((bI b6) = 0) → X 4 x1 x3 x4 0 b6 x7 x8 0 irP bkS bkBE bkBC bkBO)))))
def B_ImageReader_unpack_107 (imn : Nat) (bkBn : Nat) (imE : Nat → Int32) (imC : Int32) (bkT : Int32) (res : Bool) (irP' : Int32) (bkS' : Nat → Int32) (bkBE' : Nat → Int32) (bkBC' : Int32) (bkBO' : Bool) (X : Nat → Int32 → Int32 → Int32 → Int32 → Bool → Int32 → Int32 → Int32 → Int32 → (Nat → Int32) → (Nat → Int32) → Int32 → Bool → Prop) (x1 : Int32) (x3 : Int32) (x4 : Int32) (b6 : Bool) (x7 : Int32) (x8 : Int32) (irP : Int32) (bkS : Nat → Int32) (bkBE : Nat → Int32) (bkBC : Int32) (bkBO : Bool) : Prop := (∃ r114 : Int32, D_Book_bodyLength x1 bkS bkT r114 ∧ (((x7 + r114) ≤ 255 → X 5 x1 x3 x4 0 b6 x7 x8 0 irP bkS bkBE bkBC bkBO) ∧ (¬ ((x7 + r114) ≤ 255) → (res = false ∧ irP' = irP ∧ bkS' = bkS ∧ bkBE' = bkBE ∧ bkBC' = bkBC ∧ bkBO' = bkBO))))
def B_ImageReader_unpack_129 (imn : Nat) (bkBn : Nat) (imE : Nat → Int32) (imC : Int32) (bkT : Int32) (res : Bool) (irP' : Int32) (bkS' : Nat → Int32) (bkBE' : Nat → Int32) (bkBC' : Int32) (bkBO' : Bool) (X : Nat → Int32 → Int32 → Int32 → Int32 → Bool → Int32 → Int32 → Int32 → Int32 → (Nat → Int32) → (Nat → Int32) → Int32 → Bool → Prop) (x1 : Int32) (x3 : Int32) (x4 : Int32) (b6 : Bool) (x7 : Int32) (x8 : Int32) (x9 : Int32) (irP : Int32) (bkS : Nat → Int32) (bkBE : Nat → Int32) (bkBC : Int32) (bkBO : Bool) : Prop := ((x7 ≤ x9 → X 0 x1 x3 (x4 + 1) 0 false 0 0 0 irP bkS bkBE bkBC bkBO) ∧ (¬ (x7 ≤ x9) → (∃ r141 : Int32, D_Book_bodyEnd x1 bkS bkT r141 ∧ (((bI b6) = 0 → (∃ r174 : Int32, D_Row_element bkBn (r141 - x8) bkBE bkBC r174 ∧ (∃ bkS_177 : Nat → Int32, ∃ bkBE_177 : Nat → Int32, ∃ bkBC_177 : Int32, ∃ bkBO_177 : Bool, D_Book_append bkBn r174 bkS bkBE bkBC bkBO bkT bkS_177 bkBE_177 bkBC_177 bkBO_177 ∧ X 5 x1 x3 x4 0 b6 x7 x8 (x9 + 1) irP bkS_177 bkBE_177 bkBC_177 bkBO_177))) ∧ (¬ ((bI b6) = 0) → (∃ r159 : Int32, ∃ irP_159 : Int32, D_ImageReader_next imn irP imE imC r159 irP_159 ∧ (∃ bkS_177 : Nat → Int32, ∃ bkBE_177 : Nat → Int32, ∃ bkBC_177 : Int32, ∃ bkBO_177 : Bool, D_Book_append bkBn r159 bkS bkBE bkBC bkBO bkT bkS_177 bkBE_177 bkBC_177 bkBO_177 ∧ X 5 x1 x3 x4 0 b6 x7 x8 (x9 + 1) irP_159 bkS_177 bkBE_177 bkBC_177 bkBO_177)))))))
def B_ImageReader_unpack_192 (imn : Nat) (bkBn : Nat) (imE : Nat → Int32) (imC : Int32) (bkT : Int32) (res : Bool) (irP' : Int32) (bkS' : Nat → Int32) (bkBE' : Nat → Int32) (bkBC' : Int32) (bkBO' : Bool) (X : Nat → Int32 → Int32 → Int32 → Int32 → Bool → Int32 → Int32 → Int32 → Int32 → (Nat → Int32) → (Nat → Int32) → Int32 → Bool → Prop) (x3 : Int32) (irP : Int32) (bkS : Nat → Int32) (bkBE : Nat → Int32) (bkBC : Int32) (bkBO : Bool) : Prop := ((irP = x3 → (res = true ∧ irP' = irP ∧ bkS' = bkS ∧ bkBE' = bkBE ∧ bkBC' = bkBC ∧ bkBO' = bkBO)) ∧ (¬ (irP = x3) → (res = false ∧ irP' = irP ∧ bkS' = bkS ∧ bkBE' = bkBE ∧ bkBC' = bkBC ∧ bkBO' = bkBO)))
def S_ImageReader_unpack (imn : Nat) (bkBn : Nat) (imE : Nat → Int32) (imC : Int32) (bkT : Int32) (res : Bool) (irP' : Int32) (bkS' : Nat → Int32) (bkBE' : Nat → Int32) (bkBC' : Int32) (bkBO' : Bool) (X : Nat → Int32 → Int32 → Int32 → Int32 → Bool → Int32 → Int32 → Int32 → Int32 → (Nat → Int32) → (Nat → Int32) → Int32 → Bool → Prop) : Nat → Int32 → Int32 → Int32 → Int32 → Bool → Int32 → Int32 → Int32 → Int32 → (Nat → Int32) → (Nat → Int32) → Int32 → Bool → Prop := fun q_lab x1 x3 x4 x5 b6 x7 x8 x9 irP bkS bkBE bkBC bkBO => match q_lab with | 0 => B_ImageReader_unpack_10 imn bkBn imE imC bkT res irP' bkS' bkBE' bkBC' bkBO' X x1 x3 x4 irP bkS bkBE bkBC bkBO | 1 => B_ImageReader_unpack_47 imn bkBn imE imC bkT res irP' bkS' bkBE' bkBC' bkBO' X x1 x3 x4 x5 b6 irP bkS bkBE bkBC bkBO | 2 => B_ImageReader_unpack_69 imn bkBn imE imC bkT res irP' bkS' bkBE' bkBC' bkBO' X x1 x3 x4 b6 x7 irP bkS bkBE bkBC bkBO | 3 => B_ImageReader_unpack_84 imn bkBn imE imC bkT res irP' bkS' bkBE' bkBC' bkBO' X x1 x3 x4 b6 x7 x8 irP bkS bkBE bkBC bkBO | 4 => B_ImageReader_unpack_107 imn bkBn imE imC bkT res irP' bkS' bkBE' bkBC' bkBO' X x1 x3 x4 b6 x7 x8 irP bkS bkBE bkBC bkBO | 5 => B_ImageReader_unpack_129 imn bkBn imE imC bkT res irP' bkS' bkBE' bkBC' bkBO' X x1 x3 x4 b6 x7 x8 x9 irP bkS bkBE bkBC bkBO | 6 => B_ImageReader_unpack_192 imn bkBn imE imC bkT res irP' bkS' bkBE' bkBC' bkBO' X x3 irP bkS bkBE bkBC bkBO | _ => False
def T_ImageReader_unpack (imn : Nat) (bkBn : Nat) (imE : Nat → Int32) (imC : Int32) (bkT : Int32) (res : Bool) (irP' : Int32) (bkS' : Nat → Int32) (bkBE' : Nat → Int32) (bkBC' : Int32) (bkBO' : Bool) : Nat → (Nat → Int32 → Int32 → Int32 → Int32 → Bool → Int32 → Int32 → Int32 → Int32 → (Nat → Int32) → (Nat → Int32) → Int32 → Bool → Prop)
  | 0 => fun _ _ _ _ _ _ _ _ _ _ _ _ _ _ => False
  | n + 1 => S_ImageReader_unpack imn bkBn imE imC bkT res irP' bkS' bkBE' bkBC' bkBO' (T_ImageReader_unpack imn bkBn imE imC bkT res irP' bkS' bkBE' bkBC' bkBO' n)
def D_ImageReader_unpack (imn : Nat) (bkBn : Nat) (k0 : Int32) (k1 : Int32) (irP : Int32) (imE : Nat → Int32) (imC : Int32) (bkS : Nat → Int32) (bkBE : Nat → Int32) (bkBC : Int32) (bkBO : Bool) (bkT : Int32) (res : Bool) (irP' : Int32) (bkS' : Nat → Int32) (bkBE' : Nat → Int32) (bkBC' : Int32) (bkBO' : Bool) : Prop := ∃ n : Nat, T_ImageReader_unpack imn bkBn imE imC bkT res irP' bkS' bkBE' bkBC' bkBO' n 0 k0 (irP + k1) 0 0 false 0 0 0 irP bkS bkBE bkBC bkBO
theorem d_ImageReader_unpack_0 : decode b_ImageReader_unpack 0 = .ok (.aload_n 0, 1) := by decide +kernel
theorem d_ImageReader_unpack_1 : decode b_ImageReader_unpack 1 = .ok (.getfield 19, 3) := by decide +kernel
theorem d_ImageReader_unpack_4 : decode b_ImageReader_unpack 4 = .ok (.iload_n 2, 1) := by decide +kernel
theorem d_ImageReader_unpack_5 : decode b_ImageReader_unpack 5 = .ok (.iadd, 1) := by decide +kernel
theorem d_ImageReader_unpack_6 : decode b_ImageReader_unpack 6 = .ok (.istore_n 3, 1) := by decide +kernel
theorem d_ImageReader_unpack_7 : decode b_ImageReader_unpack 7 = .ok (.iconst 0, 1) := by decide +kernel
theorem d_ImageReader_unpack_8 : decode b_ImageReader_unpack 8 = .ok (.istore 4, 2) := by decide +kernel
theorem d_ImageReader_unpack_10 : decode b_ImageReader_unpack 10 = .ok (.iload 4, 2) := by decide +kernel
theorem d_ImageReader_unpack_12 : decode b_ImageReader_unpack 12 = .ok (.sipush 255, 3) := by decide +kernel
theorem d_ImageReader_unpack_15 : decode b_ImageReader_unpack 15 = .ok (.if_icmp .ge 177, 3) := by decide +kernel
theorem d_ImageReader_unpack_18 : decode b_ImageReader_unpack 18 = .ok (.aload_n 0, 1) := by decide +kernel
theorem d_ImageReader_unpack_19 : decode b_ImageReader_unpack 19 = .ok (.getfield 19, 3) := by decide +kernel
theorem d_ImageReader_unpack_22 : decode b_ImageReader_unpack 22 = .ok (.iload_n 3, 1) := by decide +kernel
theorem d_ImageReader_unpack_23 : decode b_ImageReader_unpack 23 = .ok (.if_icmp .ge 169, 3) := by decide +kernel
theorem d_ImageReader_unpack_26 : decode b_ImageReader_unpack 26 = .ok (.aload_n 0, 1) := by decide +kernel
theorem d_ImageReader_unpack_27 : decode b_ImageReader_unpack 27 = .ok (.invokevirtual 55, 3) := by decide +kernel
theorem d_ImageReader_unpack_30 : decode b_ImageReader_unpack 30 = .ok (.istore 5, 2) := by decide +kernel
theorem d_ImageReader_unpack_32 : decode b_ImageReader_unpack 32 = .ok (.iload 5, 2) := by decide +kernel
theorem d_ImageReader_unpack_34 : decode b_ImageReader_unpack 34 = .ok (.sipush 128, 3) := by decide +kernel
theorem d_ImageReader_unpack_37 : decode b_ImageReader_unpack 37 = .ok (.if_icmp .ge 7, 3) := by decide +kernel
theorem d_ImageReader_unpack_40 : decode b_ImageReader_unpack 40 = .ok (.iconst 1, 1) := by decide +kernel
theorem d_ImageReader_unpack_41 : decode b_ImageReader_unpack 41 = .ok (.goto 4, 3) := by decide +kernel
theorem d_ImageReader_unpack_44 : decode b_ImageReader_unpack 44 = .ok (.iconst 0, 1) := by decide +kernel
theorem d_ImageReader_unpack_45 : decode b_ImageReader_unpack 45 = .ok (.istore 6, 2) := by decide +kernel
theorem d_ImageReader_unpack_47 : decode b_ImageReader_unpack 47 = .ok (.iload 6, 2) := by decide +kernel
theorem d_ImageReader_unpack_49 : decode b_ImageReader_unpack 49 = .ok (.ifCond .eq 10, 3) := by decide +kernel
theorem d_ImageReader_unpack_52 : decode b_ImageReader_unpack 52 = .ok (.iload 5, 2) := by decide +kernel
theorem d_ImageReader_unpack_54 : decode b_ImageReader_unpack 54 = .ok (.iconst 1, 1) := by decide +kernel
theorem d_ImageReader_unpack_55 : decode b_ImageReader_unpack 55 = .ok (.iadd, 1) := by decide +kernel
theorem d_ImageReader_unpack_56 : decode b_ImageReader_unpack 56 = .ok (.goto 11, 3) := by decide +kernel
theorem d_ImageReader_unpack_59 : decode b_ImageReader_unpack 59 = .ok (.iload 5, 2) := by decide +kernel
theorem d_ImageReader_unpack_61 : decode b_ImageReader_unpack 61 = .ok (.sipush 128, 3) := by decide +kernel
theorem d_ImageReader_unpack_64 : decode b_ImageReader_unpack 64 = .ok (.isub, 1) := by decide +kernel
theorem d_ImageReader_unpack_65 : decode b_ImageReader_unpack 65 = .ok (.iconst 3, 1) := by decide +kernel
theorem d_ImageReader_unpack_66 : decode b_ImageReader_unpack 66 = .ok (.iadd, 1) := by decide +kernel
theorem d_ImageReader_unpack_67 : decode b_ImageReader_unpack 67 = .ok (.istore 7, 2) := by decide +kernel
theorem d_ImageReader_unpack_69 : decode b_ImageReader_unpack 69 = .ok (.iload 6, 2) := by decide +kernel
theorem d_ImageReader_unpack_71 : decode b_ImageReader_unpack 71 = .ok (.ifCond .eq 7, 3) := by decide +kernel
theorem d_ImageReader_unpack_74 : decode b_ImageReader_unpack 74 = .ok (.iconst 0, 1) := by decide +kernel
theorem d_ImageReader_unpack_75 : decode b_ImageReader_unpack 75 = .ok (.goto 7, 3) := by decide +kernel
theorem d_ImageReader_unpack_78 : decode b_ImageReader_unpack 78 = .ok (.aload_n 0, 1) := by decide +kernel
theorem d_ImageReader_unpack_79 : decode b_ImageReader_unpack 79 = .ok (.invokevirtual 55, 3) := by decide +kernel
theorem d_ImageReader_unpack_82 : decode b_ImageReader_unpack 82 = .ok (.istore 8, 2) := by decide +kernel
theorem d_ImageReader_unpack_84 : decode b_ImageReader_unpack 84 = .ok (.iload 8, 2) := by decide +kernel
theorem d_ImageReader_unpack_86 : decode b_ImageReader_unpack 86 = .ok (.aload_n 0, 1) := by decide +kernel
theorem d_ImageReader_unpack_87 : decode b_ImageReader_unpack 87 = .ok (.getfield 15, 3) := by decide +kernel
theorem d_ImageReader_unpack_90 : decode b_ImageReader_unpack 90 = .ok (.iload_n 1, 1) := by decide +kernel
theorem d_ImageReader_unpack_91 : decode b_ImageReader_unpack 91 = .ok (.invokevirtual 59, 3) := by decide +kernel
theorem d_ImageReader_unpack_94 : decode b_ImageReader_unpack 94 = .ok (.if_icmp .gt 30, 3) := by decide +kernel
theorem d_ImageReader_unpack_97 : decode b_ImageReader_unpack 97 = .ok (.iload 6, 2) := by decide +kernel
theorem d_ImageReader_unpack_99 : decode b_ImageReader_unpack 99 = .ok (.ifCond .ne 8, 3) := by decide +kernel
theorem d_ImageReader_unpack_102 : decode b_ImageReader_unpack 102 = .ok (.iload 8, 2) := by decide +kernel
theorem d_ImageReader_unpack_104 : decode b_ImageReader_unpack 104 = .ok (.ifCond .eq 20, 3) := by decide +kernel
theorem d_ImageReader_unpack_107 : decode b_ImageReader_unpack 107 = .ok (.iload 7, 2) := by decide +kernel
theorem d_ImageReader_unpack_109 : decode b_ImageReader_unpack 109 = .ok (.aload_n 0, 1) := by decide +kernel
theorem d_ImageReader_unpack_110 : decode b_ImageReader_unpack 110 = .ok (.getfield 15, 3) := by decide +kernel
theorem d_ImageReader_unpack_113 : decode b_ImageReader_unpack 113 = .ok (.iload_n 1, 1) := by decide +kernel
theorem d_ImageReader_unpack_114 : decode b_ImageReader_unpack 114 = .ok (.invokevirtual 59, 3) := by decide +kernel
theorem d_ImageReader_unpack_117 : decode b_ImageReader_unpack 117 = .ok (.iadd, 1) := by decide +kernel
theorem d_ImageReader_unpack_118 : decode b_ImageReader_unpack 118 = .ok (.sipush 255, 3) := by decide +kernel
theorem d_ImageReader_unpack_121 : decode b_ImageReader_unpack 121 = .ok (.if_icmp .le 5, 3) := by decide +kernel
theorem d_ImageReader_unpack_124 : decode b_ImageReader_unpack 124 = .ok (.iconst 0, 1) := by decide +kernel
theorem d_ImageReader_unpack_125 : decode b_ImageReader_unpack 125 = .ok (.ireturn, 1) := by decide +kernel
theorem d_ImageReader_unpack_126 : decode b_ImageReader_unpack 126 = .ok (.iconst 0, 1) := by decide +kernel
theorem d_ImageReader_unpack_127 : decode b_ImageReader_unpack 127 = .ok (.istore 9, 2) := by decide +kernel
theorem d_ImageReader_unpack_129 : decode b_ImageReader_unpack 129 = .ok (.iload 9, 2) := by decide +kernel
theorem d_ImageReader_unpack_131 : decode b_ImageReader_unpack 131 = .ok (.iload 7, 2) := by decide +kernel
theorem d_ImageReader_unpack_133 : decode b_ImageReader_unpack 133 = .ok (.if_icmp .ge 53, 3) := by decide +kernel
theorem d_ImageReader_unpack_136 : decode b_ImageReader_unpack 136 = .ok (.aload_n 0, 1) := by decide +kernel
theorem d_ImageReader_unpack_137 : decode b_ImageReader_unpack 137 = .ok (.getfield 15, 3) := by decide +kernel
theorem d_ImageReader_unpack_140 : decode b_ImageReader_unpack 140 = .ok (.iload_n 1, 1) := by decide +kernel
theorem d_ImageReader_unpack_141 : decode b_ImageReader_unpack 141 = .ok (.invokevirtual 62, 3) := by decide +kernel
theorem d_ImageReader_unpack_144 : decode b_ImageReader_unpack 144 = .ok (.iload 8, 2) := by decide +kernel
theorem d_ImageReader_unpack_146 : decode b_ImageReader_unpack 146 = .ok (.isub, 1) := by decide +kernel
theorem d_ImageReader_unpack_147 : decode b_ImageReader_unpack 147 = .ok (.istore 10, 2) := by decide +kernel
theorem d_ImageReader_unpack_149 : decode b_ImageReader_unpack 149 = .ok (.aload_n 0, 1) := by decide +kernel
theorem d_ImageReader_unpack_150 : decode b_ImageReader_unpack 150 = .ok (.getfield 15, 3) := by decide +kernel
theorem d_ImageReader_unpack_153 : decode b_ImageReader_unpack 153 = .ok (.iload 6, 2) := by decide +kernel
theorem d_ImageReader_unpack_155 : decode b_ImageReader_unpack 155 = .ok (.ifCond .eq 10, 3) := by decide +kernel
theorem d_ImageReader_unpack_158 : decode b_ImageReader_unpack 158 = .ok (.aload_n 0, 1) := by decide +kernel
theorem d_ImageReader_unpack_159 : decode b_ImageReader_unpack 159 = .ok (.invokevirtual 55, 3) := by decide +kernel
theorem d_ImageReader_unpack_162 : decode b_ImageReader_unpack 162 = .ok (.goto 15, 3) := by decide +kernel
theorem d_ImageReader_unpack_165 : decode b_ImageReader_unpack 165 = .ok (.aload_n 0, 1) := by decide +kernel
theorem d_ImageReader_unpack_166 : decode b_ImageReader_unpack 166 = .ok (.getfield 15, 3) := by decide +kernel
theorem d_ImageReader_unpack_169 : decode b_ImageReader_unpack 169 = .ok (.invokevirtual 65, 3) := by decide +kernel
theorem d_ImageReader_unpack_172 : decode b_ImageReader_unpack 172 = .ok (.iload 10, 2) := by decide +kernel
theorem d_ImageReader_unpack_174 : decode b_ImageReader_unpack 174 = .ok (.invokevirtual 28, 3) := by decide +kernel
theorem d_ImageReader_unpack_177 : decode b_ImageReader_unpack 177 = .ok (.invokevirtual 69, 3) := by decide +kernel
theorem d_ImageReader_unpack_180 : decode b_ImageReader_unpack 180 = .ok (.iinc 9 1, 3) := by decide +kernel
theorem d_ImageReader_unpack_183 : decode b_ImageReader_unpack 183 = .ok (.goto (-54), 3) := by decide +kernel
theorem d_ImageReader_unpack_186 : decode b_ImageReader_unpack 186 = .ok (.iinc 4 1, 3) := by decide +kernel
theorem d_ImageReader_unpack_189 : decode b_ImageReader_unpack 189 = .ok (.goto (-179), 3) := by decide +kernel
theorem d_ImageReader_unpack_192 : decode b_ImageReader_unpack 192 = .ok (.aload_n 0, 1) := by decide +kernel
theorem d_ImageReader_unpack_193 : decode b_ImageReader_unpack 193 = .ok (.getfield 19, 3) := by decide +kernel
theorem d_ImageReader_unpack_196 : decode b_ImageReader_unpack 196 = .ok (.iload_n 3, 1) := by decide +kernel
theorem d_ImageReader_unpack_197 : decode b_ImageReader_unpack 197 = .ok (.if_icmp .ne 7, 3) := by decide +kernel
theorem d_ImageReader_unpack_200 : decode b_ImageReader_unpack 200 = .ok (.iconst 1, 1) := by decide +kernel
theorem d_ImageReader_unpack_201 : decode b_ImageReader_unpack 201 = .ok (.goto 4, 3) := by decide +kernel
theorem d_ImageReader_unpack_204 : decode b_ImageReader_unpack 204 = .ok (.iconst 0, 1) := by decide +kernel
theorem d_ImageReader_unpack_205 : decode b_ImageReader_unpack 205 = .ok (.ireturn, 1) := by decide +kernel
set_option maxHeartbeats 4000000 in
set_option maxRecDepth 100000 in
theorem c_ImageReader_unpack (l : Launch) (dC : Nat → ClassId) (dI : Nat → Nat → Nat) (cI cL cZ : ClassId) (ir : Nat) (irP : Int32) (im : Nat) (imEa : Nat) (imn : Nat) (imE : Nat → Int32) (imC : Int32) (imO : Bool) (bk : Nat) (bkNa : Nat) (bkN : Nat → Int64) (bkSa : Nat) (bkS : Nat → Int32) (bkB : Nat) (bkBEa : Nat) (bkBn : Nat) (bkBE : Nat → Int32) (bkBC : Int32) (bkBO : Bool) (bkK : Nat) (bkKWa : Nat) (bkKn : Nat) (bkKW : Nat → Int64) (bkKTa : Nat) (bkKT : Nat → Int32) (bkKC : Int32) (bkV : Nat) (bkVWa : Nat) (bkVn : Nat) (bkVW : Nat → Int64) (bkVTa : Nat) (bkVT : Nat → Int32) (bkVC : Int32) (bkT : Int32) (k0 : Int32) (k1 : Int32) (res : Bool) (irP' : Int32) (bkS' : Nat → Int32) (bkBE' : Nat → Int32) (bkBC' : Int32) (bkBO' : Bool) (hd : D_ImageReader_unpack imn bkBn k0 k1 irP imE imC bkS bkBE bkBC bkBO bkT res irP' bkS' bkBE' bkBC' bkBO') : Ctr l y_ImageReader_unpack (Cond.code y_ImageReader_unpack b_ImageReader_unpack 11 (some .boolean) :: ga) { frames := 3, cells := 0, slots := 0, locals := 63 } (dC, dI) classes (Tys cI cL cZ) [.ref ir, .int k0, .int k1] ((sh_ImageReader cI cL cZ ir (.ref im) (.ref bk) irP) ++ ((sh_Row cI cL cZ im imEa imn imE imC imO) ++ ((sh_Book cI cL cZ bk bkNa bkN bkSa bkS bkB bkBEa bkBn bkBE bkBC bkBO bkK bkKWa bkKn bkKW bkKTa bkKT bkKC bkV bkVWa bkVn bkVW bkVTa bkVT bkVC bkT)))) (some (.int (bI res))) ((sh_ImageReader cI cL cZ ir (.ref im) (.ref bk) irP') ++ ((sh_Row cI cL cZ im imEa imn imE imC imO) ++ ((sh_Book cI cL cZ bk bkNa bkN bkSa bkS' bkB bkBEa bkBn bkBE' bkBC' bkBO' bkK bkKWa bkKn bkKW bkKTa bkKT bkKC bkV bkVWa bkVn bkVW bkVTa bkVT bkVC bkT)))) := by
  refine Ctr.ofW (by decide) (Nat.le_of_ble_eq_true rfl) ?_
  intro p e s m below meth c A ls hx hb hr hml hown hlocks hts hK hN hA hP hD hS hl
  have hown : s.vm.findClass R_ImageReader = some m.cls := hown
  have hl : lv_has ls 11 [(0, .ref ir), (1, .int k0), (2, .int k1)] := hl
  have key : ∀ n : Nat, (∀ (x1 : Int32) (x3 : Int32) (x4 : Int32) (irP : Int32) (bkS : Nat → Int32) (bkBE : Nat → Int32) (bkBC : Int32) (bkBO : Bool) (ls : Array Slot) (H : Heap) (locs : List Loc), lv_has ls 11 [(0, .ref ir), (1, .int x1), (3, .int x3), (4, .int x4)] → va_P (dC, dI) classes ((sh_ImageReader cI cL cZ ir (.ref im) (.ref bk) irP) ++ ((sh_Row cI cL cZ im imEa imn imE imC imO) ++ ((sh_Book cI cL cZ bk bkNa bkN bkSa bkS bkB bkBEa bkBn bkBE bkBC bkBO bkK bkKWa bkKn bkKW bkKTa bkKT bkKC bkV bkVWa bkVn bkVW bkVTa bkVT bkVC bkT)))) H → va_D A ((sh_ImageReader cI cL cZ ir (.ref im) (.ref bk) irP) ++ ((sh_Row cI cL cZ im imEa imn imE imC imO) ++ ((sh_Book cI cL cZ bk bkNa bkN bkSa bkS bkB bkBEa bkBn bkBE bkBC bkBO bkK bkKWa bkKn bkKW bkKTa bkKT bkKC bkV bkVWa bkVn bkVW bkVTa bkVT bkVC bkT)))) → va_S A s.heap H locs → T_ImageReader_unpack imn bkBn imE imC bkT res irP' bkS' bkBE' bkBC' bkBO' n 0 x1 x3 x4 0 false 0 0 0 irP bkS bkBE bkBC bkBO → W p l e ({ frames := 3, cells := 0, slots := 0, locals := 63 }) s m ([.ref ir, .int k0, .int k1] : List Value).toArray below meth c H locs 0 0 (MQ below (Qs (dC, dI) classes (Tys cI cL cZ) (some (.int (bI res))) ((sh_ImageReader cI cL cZ ir (.ref im) (.ref bk) irP') ++ ((sh_Row cI cL cZ im imEa imn imE imC imO) ++ ((sh_Book cI cL cZ bk bkNa bkN bkSa bkS' bkB bkBEa bkBn bkBE' bkBC' bkBO' bkK bkKWa bkKn bkKW bkKTa bkKT bkKC bkV bkVWa bkVn bkVW bkVTa bkVT bkVC bkT)))) A) ([.ref ir, .int k0, .int k1] : List Value).toArray s 0 0 A) (F0 m 10 ls [])) ∧ (∀ (x1 : Int32) (x3 : Int32) (x4 : Int32) (x5 : Int32) (b6 : Bool) (irP : Int32) (bkS : Nat → Int32) (bkBE : Nat → Int32) (bkBC : Int32) (bkBO : Bool) (ls : Array Slot) (H : Heap) (locs : List Loc), lv_has ls 11 [(0, .ref ir), (1, .int x1), (3, .int x3), (4, .int x4), (5, .int x5), (6, .int (bI b6))] → va_P (dC, dI) classes ((sh_ImageReader cI cL cZ ir (.ref im) (.ref bk) irP) ++ ((sh_Row cI cL cZ im imEa imn imE imC imO) ++ ((sh_Book cI cL cZ bk bkNa bkN bkSa bkS bkB bkBEa bkBn bkBE bkBC bkBO bkK bkKWa bkKn bkKW bkKTa bkKT bkKC bkV bkVWa bkVn bkVW bkVTa bkVT bkVC bkT)))) H → va_D A ((sh_ImageReader cI cL cZ ir (.ref im) (.ref bk) irP) ++ ((sh_Row cI cL cZ im imEa imn imE imC imO) ++ ((sh_Book cI cL cZ bk bkNa bkN bkSa bkS bkB bkBEa bkBn bkBE bkBC bkBO bkK bkKWa bkKn bkKW bkKTa bkKT bkKC bkV bkVWa bkVn bkVW bkVTa bkVT bkVC bkT)))) → va_S A s.heap H locs → T_ImageReader_unpack imn bkBn imE imC bkT res irP' bkS' bkBE' bkBC' bkBO' n 1 x1 x3 x4 x5 b6 0 0 0 irP bkS bkBE bkBC bkBO → W p l e ({ frames := 3, cells := 0, slots := 0, locals := 63 }) s m ([.ref ir, .int k0, .int k1] : List Value).toArray below meth c H locs 0 0 (MQ below (Qs (dC, dI) classes (Tys cI cL cZ) (some (.int (bI res))) ((sh_ImageReader cI cL cZ ir (.ref im) (.ref bk) irP') ++ ((sh_Row cI cL cZ im imEa imn imE imC imO) ++ ((sh_Book cI cL cZ bk bkNa bkN bkSa bkS' bkB bkBEa bkBn bkBE' bkBC' bkBO' bkK bkKWa bkKn bkKW bkKTa bkKT bkKC bkV bkVWa bkVn bkVW bkVTa bkVT bkVC bkT)))) A) ([.ref ir, .int k0, .int k1] : List Value).toArray s 0 0 A) (F0 m 47 ls [])) ∧ (∀ (x1 : Int32) (x3 : Int32) (x4 : Int32) (b6 : Bool) (x7 : Int32) (irP : Int32) (bkS : Nat → Int32) (bkBE : Nat → Int32) (bkBC : Int32) (bkBO : Bool) (ls : Array Slot) (H : Heap) (locs : List Loc), lv_has ls 11 [(0, .ref ir), (1, .int x1), (3, .int x3), (4, .int x4), (6, .int (bI b6)), (7, .int x7)] → va_P (dC, dI) classes ((sh_ImageReader cI cL cZ ir (.ref im) (.ref bk) irP) ++ ((sh_Row cI cL cZ im imEa imn imE imC imO) ++ ((sh_Book cI cL cZ bk bkNa bkN bkSa bkS bkB bkBEa bkBn bkBE bkBC bkBO bkK bkKWa bkKn bkKW bkKTa bkKT bkKC bkV bkVWa bkVn bkVW bkVTa bkVT bkVC bkT)))) H → va_D A ((sh_ImageReader cI cL cZ ir (.ref im) (.ref bk) irP) ++ ((sh_Row cI cL cZ im imEa imn imE imC imO) ++ ((sh_Book cI cL cZ bk bkNa bkN bkSa bkS bkB bkBEa bkBn bkBE bkBC bkBO bkK bkKWa bkKn bkKW bkKTa bkKT bkKC bkV bkVWa bkVn bkVW bkVTa bkVT bkVC bkT)))) → va_S A s.heap H locs → T_ImageReader_unpack imn bkBn imE imC bkT res irP' bkS' bkBE' bkBC' bkBO' n 2 x1 x3 x4 0 b6 x7 0 0 irP bkS bkBE bkBC bkBO → W p l e ({ frames := 3, cells := 0, slots := 0, locals := 63 }) s m ([.ref ir, .int k0, .int k1] : List Value).toArray below meth c H locs 0 0 (MQ below (Qs (dC, dI) classes (Tys cI cL cZ) (some (.int (bI res))) ((sh_ImageReader cI cL cZ ir (.ref im) (.ref bk) irP') ++ ((sh_Row cI cL cZ im imEa imn imE imC imO) ++ ((sh_Book cI cL cZ bk bkNa bkN bkSa bkS' bkB bkBEa bkBn bkBE' bkBC' bkBO' bkK bkKWa bkKn bkKW bkKTa bkKT bkKC bkV bkVWa bkVn bkVW bkVTa bkVT bkVC bkT)))) A) ([.ref ir, .int k0, .int k1] : List Value).toArray s 0 0 A) (F0 m 69 ls [])) ∧ (∀ (x1 : Int32) (x3 : Int32) (x4 : Int32) (b6 : Bool) (x7 : Int32) (x8 : Int32) (irP : Int32) (bkS : Nat → Int32) (bkBE : Nat → Int32) (bkBC : Int32) (bkBO : Bool) (ls : Array Slot) (H : Heap) (locs : List Loc), lv_has ls 11 [(0, .ref ir), (1, .int x1), (3, .int x3), (4, .int x4), (6, .int (bI b6)), (7, .int x7), (8, .int x8)] → va_P (dC, dI) classes ((sh_ImageReader cI cL cZ ir (.ref im) (.ref bk) irP) ++ ((sh_Row cI cL cZ im imEa imn imE imC imO) ++ ((sh_Book cI cL cZ bk bkNa bkN bkSa bkS bkB bkBEa bkBn bkBE bkBC bkBO bkK bkKWa bkKn bkKW bkKTa bkKT bkKC bkV bkVWa bkVn bkVW bkVTa bkVT bkVC bkT)))) H → va_D A ((sh_ImageReader cI cL cZ ir (.ref im) (.ref bk) irP) ++ ((sh_Row cI cL cZ im imEa imn imE imC imO) ++ ((sh_Book cI cL cZ bk bkNa bkN bkSa bkS bkB bkBEa bkBn bkBE bkBC bkBO bkK bkKWa bkKn bkKW bkKTa bkKT bkKC bkV bkVWa bkVn bkVW bkVTa bkVT bkVC bkT)))) → va_S A s.heap H locs → T_ImageReader_unpack imn bkBn imE imC bkT res irP' bkS' bkBE' bkBC' bkBO' n 3 x1 x3 x4 0 b6 x7 x8 0 irP bkS bkBE bkBC bkBO → W p l e ({ frames := 3, cells := 0, slots := 0, locals := 63 }) s m ([.ref ir, .int k0, .int k1] : List Value).toArray below meth c H locs 0 0 (MQ below (Qs (dC, dI) classes (Tys cI cL cZ) (some (.int (bI res))) ((sh_ImageReader cI cL cZ ir (.ref im) (.ref bk) irP') ++ ((sh_Row cI cL cZ im imEa imn imE imC imO) ++ ((sh_Book cI cL cZ bk bkNa bkN bkSa bkS' bkB bkBEa bkBn bkBE' bkBC' bkBO' bkK bkKWa bkKn bkKW bkKTa bkKT bkKC bkV bkVWa bkVn bkVW bkVTa bkVT bkVC bkT)))) A) ([.ref ir, .int k0, .int k1] : List Value).toArray s 0 0 A) (F0 m 84 ls [])) ∧ (∀ (x1 : Int32) (x3 : Int32) (x4 : Int32) (b6 : Bool) (x7 : Int32) (x8 : Int32) (irP : Int32) (bkS : Nat → Int32) (bkBE : Nat → Int32) (bkBC : Int32) (bkBO : Bool) (ls : Array Slot) (H : Heap) (locs : List Loc), lv_has ls 11 [(0, .ref ir), (1, .int x1), (3, .int x3), (4, .int x4), (6, .int (bI b6)), (7, .int x7), (8, .int x8)] → va_P (dC, dI) classes ((sh_ImageReader cI cL cZ ir (.ref im) (.ref bk) irP) ++ ((sh_Row cI cL cZ im imEa imn imE imC imO) ++ ((sh_Book cI cL cZ bk bkNa bkN bkSa bkS bkB bkBEa bkBn bkBE bkBC bkBO bkK bkKWa bkKn bkKW bkKTa bkKT bkKC bkV bkVWa bkVn bkVW bkVTa bkVT bkVC bkT)))) H → va_D A ((sh_ImageReader cI cL cZ ir (.ref im) (.ref bk) irP) ++ ((sh_Row cI cL cZ im imEa imn imE imC imO) ++ ((sh_Book cI cL cZ bk bkNa bkN bkSa bkS bkB bkBEa bkBn bkBE bkBC bkBO bkK bkKWa bkKn bkKW bkKTa bkKT bkKC bkV bkVWa bkVn bkVW bkVTa bkVT bkVC bkT)))) → va_S A s.heap H locs → T_ImageReader_unpack imn bkBn imE imC bkT res irP' bkS' bkBE' bkBC' bkBO' n 4 x1 x3 x4 0 b6 x7 x8 0 irP bkS bkBE bkBC bkBO → W p l e ({ frames := 3, cells := 0, slots := 0, locals := 63 }) s m ([.ref ir, .int k0, .int k1] : List Value).toArray below meth c H locs 0 0 (MQ below (Qs (dC, dI) classes (Tys cI cL cZ) (some (.int (bI res))) ((sh_ImageReader cI cL cZ ir (.ref im) (.ref bk) irP') ++ ((sh_Row cI cL cZ im imEa imn imE imC imO) ++ ((sh_Book cI cL cZ bk bkNa bkN bkSa bkS' bkB bkBEa bkBn bkBE' bkBC' bkBO' bkK bkKWa bkKn bkKW bkKTa bkKT bkKC bkV bkVWa bkVn bkVW bkVTa bkVT bkVC bkT)))) A) ([.ref ir, .int k0, .int k1] : List Value).toArray s 0 0 A) (F0 m 107 ls [])) ∧ (∀ (x1 : Int32) (x3 : Int32) (x4 : Int32) (b6 : Bool) (x7 : Int32) (x8 : Int32) (x9 : Int32) (irP : Int32) (bkS : Nat → Int32) (bkBE : Nat → Int32) (bkBC : Int32) (bkBO : Bool) (ls : Array Slot) (H : Heap) (locs : List Loc), lv_has ls 11 [(0, .ref ir), (1, .int x1), (3, .int x3), (4, .int x4), (6, .int (bI b6)), (7, .int x7), (8, .int x8), (9, .int x9)] → va_P (dC, dI) classes ((sh_ImageReader cI cL cZ ir (.ref im) (.ref bk) irP) ++ ((sh_Row cI cL cZ im imEa imn imE imC imO) ++ ((sh_Book cI cL cZ bk bkNa bkN bkSa bkS bkB bkBEa bkBn bkBE bkBC bkBO bkK bkKWa bkKn bkKW bkKTa bkKT bkKC bkV bkVWa bkVn bkVW bkVTa bkVT bkVC bkT)))) H → va_D A ((sh_ImageReader cI cL cZ ir (.ref im) (.ref bk) irP) ++ ((sh_Row cI cL cZ im imEa imn imE imC imO) ++ ((sh_Book cI cL cZ bk bkNa bkN bkSa bkS bkB bkBEa bkBn bkBE bkBC bkBO bkK bkKWa bkKn bkKW bkKTa bkKT bkKC bkV bkVWa bkVn bkVW bkVTa bkVT bkVC bkT)))) → va_S A s.heap H locs → T_ImageReader_unpack imn bkBn imE imC bkT res irP' bkS' bkBE' bkBC' bkBO' n 5 x1 x3 x4 0 b6 x7 x8 x9 irP bkS bkBE bkBC bkBO → W p l e ({ frames := 3, cells := 0, slots := 0, locals := 63 }) s m ([.ref ir, .int k0, .int k1] : List Value).toArray below meth c H locs 0 0 (MQ below (Qs (dC, dI) classes (Tys cI cL cZ) (some (.int (bI res))) ((sh_ImageReader cI cL cZ ir (.ref im) (.ref bk) irP') ++ ((sh_Row cI cL cZ im imEa imn imE imC imO) ++ ((sh_Book cI cL cZ bk bkNa bkN bkSa bkS' bkB bkBEa bkBn bkBE' bkBC' bkBO' bkK bkKWa bkKn bkKW bkKTa bkKT bkKC bkV bkVWa bkVn bkVW bkVTa bkVT bkVC bkT)))) A) ([.ref ir, .int k0, .int k1] : List Value).toArray s 0 0 A) (F0 m 129 ls [])) ∧ (∀ (x3 : Int32) (irP : Int32) (bkS : Nat → Int32) (bkBE : Nat → Int32) (bkBC : Int32) (bkBO : Bool) (ls : Array Slot) (H : Heap) (locs : List Loc), lv_has ls 11 [(0, .ref ir), (3, .int x3)] → va_P (dC, dI) classes ((sh_ImageReader cI cL cZ ir (.ref im) (.ref bk) irP) ++ ((sh_Row cI cL cZ im imEa imn imE imC imO) ++ ((sh_Book cI cL cZ bk bkNa bkN bkSa bkS bkB bkBEa bkBn bkBE bkBC bkBO bkK bkKWa bkKn bkKW bkKTa bkKT bkKC bkV bkVWa bkVn bkVW bkVTa bkVT bkVC bkT)))) H → va_D A ((sh_ImageReader cI cL cZ ir (.ref im) (.ref bk) irP) ++ ((sh_Row cI cL cZ im imEa imn imE imC imO) ++ ((sh_Book cI cL cZ bk bkNa bkN bkSa bkS bkB bkBEa bkBn bkBE bkBC bkBO bkK bkKWa bkKn bkKW bkKTa bkKT bkKC bkV bkVWa bkVn bkVW bkVTa bkVT bkVC bkT)))) → va_S A s.heap H locs → T_ImageReader_unpack imn bkBn imE imC bkT res irP' bkS' bkBE' bkBC' bkBO' n 6 0 x3 0 0 false 0 0 0 irP bkS bkBE bkBC bkBO → W p l e ({ frames := 3, cells := 0, slots := 0, locals := 63 }) s m ([.ref ir, .int k0, .int k1] : List Value).toArray below meth c H locs 0 0 (MQ below (Qs (dC, dI) classes (Tys cI cL cZ) (some (.int (bI res))) ((sh_ImageReader cI cL cZ ir (.ref im) (.ref bk) irP') ++ ((sh_Row cI cL cZ im imEa imn imE imC imO) ++ ((sh_Book cI cL cZ bk bkNa bkN bkSa bkS' bkB bkBEa bkBn bkBE' bkBC' bkBO' bkK bkKWa bkKn bkKW bkKTa bkKT bkKC bkV bkVWa bkVn bkVW bkVTa bkVT bkVC bkT)))) A) ([.ref ir, .int k0, .int k1] : List Value).toArray s 0 0 A) (F0 m 192 ls [])) := by
    intro n
    induction n with
    | zero =>
      exact ⟨fun _ _ _ _ _ _ _ _ _ _ _ _ _ _ _ hd => False.elim hd, fun _ _ _ _ _ _ _ _ _ _ _ _ _ _ _ _ _ hd => False.elim hd, fun _ _ _ _ _ _ _ _ _ _ _ _ _ _ _ _ _ hd => False.elim hd, fun _ _ _ _ _ _ _ _ _ _ _ _ _ _ _ _ _ _ hd => False.elim hd, fun _ _ _ _ _ _ _ _ _ _ _ _ _ _ _ _ _ _ hd => False.elim hd, fun _ _ _ _ _ _ _ _ _ _ _ _ _ _ _ _ _ _ _ hd => False.elim hd, fun _ _ _ _ _ _ _ _ _ _ _ _ _ hd => False.elim hd⟩
    | succ n ih =>
      refine ⟨?_, ?_, ?_, ?_, ?_, ?_, ?_⟩
      · intro x1 x3 x4 irP bkS bkBE bkBC bkBO ls H locs hl hP hD hS hd
        have hd : B_ImageReader_unpack_10 imn bkBn imE imC bkT res irP' bkS' bkBE' bkBC' bkBO' (T_ImageReader_unpack imn bkBn imE imC bkT res irP' bkS' bkBE' bkBC' bkBO' n) x1 x3 x4 irP bkS bkBE bkBC bkBO := hd
        refine lv_iload hx hb d_ImageReader_unpack_10 (lv_at hl 3 rfl) ?_
        refine lv_sipush (v := 255) hx hb d_ImageReader_unpack_12 (by decide) ?_
        refine lv_icmp_ge (tgt := 192) hx hb d_ImageReader_unpack_15 (by decide) (fun h15 => ?_) (fun h15 => ?_)
        · have hd := hd.1 h15
          exact ih.2.2.2.2.2.2 x3 irP bkS bkBE bkBC bkBO _ _ _ (lv_sub hl [0, 2] rfl) hP hD hS hd
        · have hd := hd.2 h15
          refine lv_aload_n hx hb d_ImageReader_unpack_18 rfl (lv_at hl 0 rfl) ?_
          refine va_get (D := (dC, dI)) (ci := 5) (v := .int irP) (C := R_ImageReader) (T := F_ImageReader) (N := 3) hx hb hts in_ImageReader hown hK hP 0 rfl rfl 2 (by decide) (hts _ (List.mem_cons_of_mem _ k261_fieldLink)) (fun _ h9 => h9) rfl d_ImageReader_unpack_19 ?_
          refine lv_iload_n hx hb d_ImageReader_unpack_22 rfl (lv_at hl 2 rfl) ?_
          refine lv_icmp_ge (tgt := 192) hx hb d_ImageReader_unpack_23 (by decide) (fun h23 => ?_) (fun h23 => ?_)
          · have hd := hd.1 h23
            exact ih.2.2.2.2.2.2 x3 irP bkS bkBE bkBC bkBO _ _ _ (lv_sub hl [0, 2] rfl) hP hD hS hd
          · have hd := hd.2 h23
            refine lv_aload_n hx hb d_ImageReader_unpack_26 rfl (lv_at hl 0 rfl) ?_
            obtain ⟨r27, irP_27, c27, hd⟩ := hd
            refine ct_V (As := []) (rest := []) (C := R_ImageReader) (ci := 5) (q := (R_ImageReader, F_ImageReader, 3)) ⟨hx, hb, hml, hown, hts⟩ fm_ImageReader_next (c_ImageReader_next l dC dI cI cL cZ ir (.ref bk) irP im imEa imn imE imC imO r27 irP_27 c27) k264_methodLink k265_instanceMethod k266_selects ⟨Nat.le_of_ble_eq_true rfl, Nat.le_of_ble_eq_true rfl⟩ rfl rfl hK hN hP hD hS hA [0, 1, 2] [3, 4, 5, 6, 7, 8, 9, 10, 11, 12, 13] rfl rfl rfl (by decide) (by decide) (by decide) 0 rfl rfl rfl rfl hl.1 rfl (Nat.le_of_ble_eq_true rfl) d_ImageReader_unpack_27 (fun H locs hP hD hS => ?_)
            have hP : va_P (dC, dI) classes ((sh_ImageReader cI cL cZ ir (.ref im) (.ref bk) irP_27) ++ ((sh_Row cI cL cZ im imEa imn imE imC imO) ++ ((sh_Book cI cL cZ bk bkNa bkN bkSa bkS bkB bkBEa bkBn bkBE bkBC bkBO bkK bkKWa bkKn bkKW bkKTa bkKT bkKC bkV bkVWa bkVn bkVW bkVTa bkVT bkVC bkT)))) H := hP.sub [11, 12, 13, 0, 1, 2, 3, 4, 5, 6, 7, 8, 9, 10] rfl
            have hD : va_D A ((sh_ImageReader cI cL cZ ir (.ref im) (.ref bk) irP_27) ++ ((sh_Row cI cL cZ im imEa imn imE imC imO) ++ ((sh_Book cI cL cZ bk bkNa bkN bkSa bkS bkB bkBEa bkBn bkBE bkBC bkBO bkK bkKWa bkKn bkKW bkKTa bkKT bkKC bkV bkVWa bkVn bkVW bkVTa bkVT bkVC bkT)))) := hD.sub [11, 12, 13, 0, 1, 2, 3, 4, 5, 6, 7, 8, 9, 10] (by decide) rfl
            refine lv_istore (lv' := [(5, .int r27), (0, .ref ir), (1, .int x1), (3, .int x3), (4, .int x4)]) hx hb d_ImageReader_unpack_30 hl (by decide) rfl (fun ls hl => ?_)
            refine lv_iload hx hb d_ImageReader_unpack_32 (lv_at hl 0 rfl) ?_
            refine lv_sipush (v := 128) hx hb d_ImageReader_unpack_34 (by decide) ?_
            refine lv_icmp_ge (tgt := 44) hx hb d_ImageReader_unpack_37 (by decide) (fun h37 => ?_) (fun h37 => ?_)
            · have hd := hd.1 h37
              refine lv_iconst (v := 0) hx hb d_ImageReader_unpack_44 (by decide) ?_
              refine lv_istore (lv' := [(6, .int 0), (5, .int r27), (0, .ref ir), (1, .int x1), (3, .int x3), (4, .int x4)]) hx hb d_ImageReader_unpack_45 hl (by decide) rfl (fun ls hl => ?_)
              exact ih.2.1 x1 x3 x4 r27 false irP_27 bkS bkBE bkBC bkBO _ _ _ (lv_sub hl [2, 3, 4, 5, 1, 0] rfl) hP hD hS hd
            · have hd := hd.2 h37
              refine lv_iconst (v := 1) hx hb d_ImageReader_unpack_40 (by decide) ?_
              refine lv_goto (tgt := 45) hx hb d_ImageReader_unpack_41 (by decide) ?_
              refine lv_istore (lv' := [(6, .int 1), (5, .int r27), (0, .ref ir), (1, .int x1), (3, .int x3), (4, .int x4)]) hx hb d_ImageReader_unpack_45 hl (by decide) rfl (fun ls hl => ?_)
              exact ih.2.1 x1 x3 x4 r27 true irP_27 bkS bkBE bkBC bkBO _ _ _ (lv_sub hl [2, 3, 4, 5, 1, 0] rfl) hP hD hS hd
      · intro x1 x3 x4 x5 b6 irP bkS bkBE bkBC bkBO ls H locs hl hP hD hS hd
        have hd : B_ImageReader_unpack_47 imn bkBn imE imC bkT res irP' bkS' bkBE' bkBC' bkBO' (T_ImageReader_unpack imn bkBn imE imC bkT res irP' bkS' bkBE' bkBC' bkBO' n) x1 x3 x4 x5 b6 irP bkS bkBE bkBC bkBO := hd
        refine lv_iload hx hb d_ImageReader_unpack_47 (lv_at hl 5 rfl) ?_
        refine lv_if_eq (tgt := 59) hx hb d_ImageReader_unpack_49 (by decide) (fun h49 => ?_) (fun h49 => ?_)
        · have hd := hd.1 h49
          refine lv_iload hx hb d_ImageReader_unpack_59 (lv_at hl 4 rfl) ?_
          refine lv_sipush (v := 128) hx hb d_ImageReader_unpack_61 (by decide) ?_
          refine lv_isub hx hb d_ImageReader_unpack_64 ?_
          refine lv_iconst (v := 3) hx hb d_ImageReader_unpack_65 (by decide) ?_
          refine lv_iadd hx hb d_ImageReader_unpack_66 ?_
          refine lv_istore (lv' := [(7, .int ((x5 - 128) + 3)), (0, .ref ir), (1, .int x1), (3, .int x3), (4, .int x4), (5, .int x5), (6, .int (bI b6))]) hx hb d_ImageReader_unpack_67 hl (by decide) rfl (fun ls hl => ?_)
          exact ih.2.2.1 x1 x3 x4 b6 ((x5 - 128) + 3) irP bkS bkBE bkBC bkBO _ _ _ (lv_sub hl [1, 2, 3, 4, 6, 0] rfl) hP hD hS hd
        · have hd := hd.2 h49
          refine lv_iload hx hb d_ImageReader_unpack_52 (lv_at hl 4 rfl) ?_
          refine lv_iconst (v := 1) hx hb d_ImageReader_unpack_54 (by decide) ?_
          refine lv_iadd hx hb d_ImageReader_unpack_55 ?_
          refine lv_goto (tgt := 67) hx hb d_ImageReader_unpack_56 (by decide) ?_
          refine lv_istore (lv' := [(7, .int (x5 + 1)), (0, .ref ir), (1, .int x1), (3, .int x3), (4, .int x4), (5, .int x5), (6, .int (bI b6))]) hx hb d_ImageReader_unpack_67 hl (by decide) rfl (fun ls hl => ?_)
          exact ih.2.2.1 x1 x3 x4 b6 (x5 + 1) irP bkS bkBE bkBC bkBO _ _ _ (lv_sub hl [1, 2, 3, 4, 6, 0] rfl) hP hD hS hd
      · intro x1 x3 x4 b6 x7 irP bkS bkBE bkBC bkBO ls H locs hl hP hD hS hd
        have hd : B_ImageReader_unpack_69 imn bkBn imE imC bkT res irP' bkS' bkBE' bkBC' bkBO' (T_ImageReader_unpack imn bkBn imE imC bkT res irP' bkS' bkBE' bkBC' bkBO' n) x1 x3 x4 b6 x7 irP bkS bkBE bkBC bkBO := hd
        refine lv_iload hx hb d_ImageReader_unpack_69 (lv_at hl 4 rfl) ?_
        refine lv_if_eq (tgt := 78) hx hb d_ImageReader_unpack_71 (by decide) (fun h71 => ?_) (fun h71 => ?_)
        · have hd := hd.1 h71
          refine lv_aload_n hx hb d_ImageReader_unpack_78 rfl (lv_at hl 0 rfl) ?_
          obtain ⟨r79, irP_79, c79, hd⟩ := hd
          refine ct_V (As := []) (rest := []) (C := R_ImageReader) (ci := 5) (q := (R_ImageReader, F_ImageReader, 3)) ⟨hx, hb, hml, hown, hts⟩ fm_ImageReader_next (c_ImageReader_next l dC dI cI cL cZ ir (.ref bk) irP im imEa imn imE imC imO r79 irP_79 c79) k264_methodLink k265_instanceMethod k266_selects ⟨Nat.le_of_ble_eq_true rfl, Nat.le_of_ble_eq_true rfl⟩ rfl rfl hK hN hP hD hS hA [0, 1, 2] [3, 4, 5, 6, 7, 8, 9, 10, 11, 12, 13] rfl rfl rfl (by decide) (by decide) (by decide) 0 rfl rfl rfl rfl hl.1 rfl (Nat.le_of_ble_eq_true rfl) d_ImageReader_unpack_79 (fun H locs hP hD hS => ?_)
          have hP : va_P (dC, dI) classes ((sh_ImageReader cI cL cZ ir (.ref im) (.ref bk) irP_79) ++ ((sh_Row cI cL cZ im imEa imn imE imC imO) ++ ((sh_Book cI cL cZ bk bkNa bkN bkSa bkS bkB bkBEa bkBn bkBE bkBC bkBO bkK bkKWa bkKn bkKW bkKTa bkKT bkKC bkV bkVWa bkVn bkVW bkVTa bkVT bkVC bkT)))) H := hP.sub [11, 12, 13, 0, 1, 2, 3, 4, 5, 6, 7, 8, 9, 10] rfl
          have hD : va_D A ((sh_ImageReader cI cL cZ ir (.ref im) (.ref bk) irP_79) ++ ((sh_Row cI cL cZ im imEa imn imE imC imO) ++ ((sh_Book cI cL cZ bk bkNa bkN bkSa bkS bkB bkBEa bkBn bkBE bkBC bkBO bkK bkKWa bkKn bkKW bkKTa bkKT bkKC bkV bkVWa bkVn bkVW bkVTa bkVT bkVC bkT)))) := hD.sub [11, 12, 13, 0, 1, 2, 3, 4, 5, 6, 7, 8, 9, 10] (by decide) rfl
          refine lv_istore (lv' := [(8, .int r79), (0, .ref ir), (1, .int x1), (3, .int x3), (4, .int x4), (6, .int (bI b6)), (7, .int x7)]) hx hb d_ImageReader_unpack_82 hl (by decide) rfl (fun ls hl => ?_)
          exact ih.2.2.2.1 x1 x3 x4 b6 x7 r79 irP_79 bkS bkBE bkBC bkBO _ _ _ (lv_sub hl [1, 2, 3, 4, 5, 6, 0] rfl) hP hD hS hd
        · have hd := hd.2 h71
          refine lv_iconst (v := 0) hx hb d_ImageReader_unpack_74 (by decide) ?_
          refine lv_goto (tgt := 82) hx hb d_ImageReader_unpack_75 (by decide) ?_
          refine lv_istore (lv' := [(8, .int 0), (0, .ref ir), (1, .int x1), (3, .int x3), (4, .int x4), (6, .int (bI b6)), (7, .int x7)]) hx hb d_ImageReader_unpack_82 hl (by decide) rfl (fun ls hl => ?_)
          exact ih.2.2.2.1 x1 x3 x4 b6 x7 0 irP bkS bkBE bkBC bkBO _ _ _ (lv_sub hl [1, 2, 3, 4, 5, 6, 0] rfl) hP hD hS hd
      · intro x1 x3 x4 b6 x7 x8 irP bkS bkBE bkBC bkBO ls H locs hl hP hD hS hd
        have hd : B_ImageReader_unpack_84 imn bkBn imE imC bkT res irP' bkS' bkBE' bkBC' bkBO' (T_ImageReader_unpack imn bkBn imE imC bkT res irP' bkS' bkBE' bkBC' bkBO' n) x1 x3 x4 b6 x7 x8 irP bkS bkBE bkBC bkBO := hd
        refine lv_iload hx hb d_ImageReader_unpack_84 (lv_at hl 6 rfl) ?_
        refine lv_aload_n hx hb d_ImageReader_unpack_86 rfl (lv_at hl 0 rfl) ?_
        refine va_get (D := (dC, dI)) (ci := 5) (v := .ref bk) (C := R_ImageReader) (T := F_ImageReader) (N := 3) hx hb hts in_ImageReader hown hK hP 0 rfl rfl 1 (by decide) (hts _ (List.mem_cons_of_mem _ k267_fieldLink)) (fun _ h9 => h9) rfl d_ImageReader_unpack_87 ?_
        refine lv_iload_n hx hb d_ImageReader_unpack_90 rfl (lv_at hl 1 rfl) ?_
        obtain ⟨r91, c91, hd⟩ := hd
        refine ct_VR (As := [.int x1]) (rest := [.int x8]) (C := R_Book) (ci := 3) (q := (R_Book, F_Book, 6)) ⟨hx, hb, hml, hown, hts⟩ fm_Book_bodyLength (c_Book_bodyLength l dC dI cI cL cZ bk bkNa bkN bkSa bkS bkB bkBEa bkBn bkBE bkBC bkBO bkK bkKWa bkKn bkKW bkKTa bkKT bkKC bkV bkVWa bkVn bkVW bkVTa bkVT bkVC bkT x1 r91 c91) k268_methodLink k89_instanceMethod k90_selects ⟨Nat.le_of_ble_eq_true rfl, Nat.le_of_ble_eq_true rfl⟩ rfl rfl hK hN hP hD [3, 4, 5, 6, 7, 8, 9, 10, 11, 12, 13] rfl rfl (by decide) 3 rfl rfl rfl rfl hl.1 rfl (Nat.le_of_ble_eq_true rfl) d_ImageReader_unpack_91 ?_
        refine lv_icmp_gt (tgt := 124) hx hb d_ImageReader_unpack_94 (by decide) (fun h94 => ?_) (fun h94 => ?_)
        · have hd := hd.1 h94
          refine lv_iconst (v := 0) hx hb d_ImageReader_unpack_124 (by decide) ?_
          obtain ⟨e0, e1, e2, e3, e4, e5⟩ := hd
          subst e0
          subst e1
          subst e2
          subst e3
          subst e4
          subst e5
          exact ct_zret (b := false) hx hb hr hlocks hK hP hD hS d_ImageReader_unpack_125
        · have hd := hd.2 h94
          refine lv_iload hx hb d_ImageReader_unpack_97 (lv_at hl 4 rfl) ?_
          refine lv_if_ne (tgt := 107) hx hb d_ImageReader_unpack_99 (by decide) (fun h99 => ?_) (fun h99 => ?_)
          · have hd := hd.2 h99
            exact ih.2.2.2.2.1 x1 x3 x4 b6 x7 x8 irP bkS bkBE bkBC bkBO _ _ _ (lv_sub hl [0, 1, 2, 3, 4, 5, 6] rfl) hP hD hS hd
          · have hd := hd.1 h99
            refine lv_iload hx hb d_ImageReader_unpack_102 (lv_at hl 6 rfl) ?_
            refine lv_if_eq (tgt := 124) hx hb d_ImageReader_unpack_104 (by decide) (fun h104 => ?_) (fun h104 => ?_)
            · have hd := hd.1 h104
              refine lv_iconst (v := 0) hx hb d_ImageReader_unpack_124 (by decide) ?_
              obtain ⟨e0, e1, e2, e3, e4, e5⟩ := hd
              subst e0
              subst e1
              subst e2
              subst e3
              subst e4
              subst e5
              exact ct_zret (b := false) hx hb hr hlocks hK hP hD hS d_ImageReader_unpack_125
            · have hd := hd.2 h104
              exact ih.2.2.2.2.1 x1 x3 x4 b6 x7 x8 irP bkS bkBE bkBC bkBO _ _ _ (lv_sub hl [0, 1, 2, 3, 4, 5, 6] rfl) hP hD hS hd
      · intro x1 x3 x4 b6 x7 x8 irP bkS bkBE bkBC bkBO ls H locs hl hP hD hS hd
        have hd : B_ImageReader_unpack_107 imn bkBn imE imC bkT res irP' bkS' bkBE' bkBC' bkBO' (T_ImageReader_unpack imn bkBn imE imC bkT res irP' bkS' bkBE' bkBC' bkBO' n) x1 x3 x4 b6 x7 x8 irP bkS bkBE bkBC bkBO := hd
        refine lv_iload hx hb d_ImageReader_unpack_107 (lv_at hl 5 rfl) ?_
        refine lv_aload_n hx hb d_ImageReader_unpack_109 rfl (lv_at hl 0 rfl) ?_
        refine va_get (D := (dC, dI)) (ci := 5) (v := .ref bk) (C := R_ImageReader) (T := F_ImageReader) (N := 3) hx hb hts in_ImageReader hown hK hP 0 rfl rfl 1 (by decide) (hts _ (List.mem_cons_of_mem _ k267_fieldLink)) (fun _ h9 => h9) rfl d_ImageReader_unpack_110 ?_
        refine lv_iload_n hx hb d_ImageReader_unpack_113 rfl (lv_at hl 1 rfl) ?_
        obtain ⟨r114, c114, hd⟩ := hd
        refine ct_VR (As := [.int x1]) (rest := [.int x7]) (C := R_Book) (ci := 3) (q := (R_Book, F_Book, 6)) ⟨hx, hb, hml, hown, hts⟩ fm_Book_bodyLength (c_Book_bodyLength l dC dI cI cL cZ bk bkNa bkN bkSa bkS bkB bkBEa bkBn bkBE bkBC bkBO bkK bkKWa bkKn bkKW bkKTa bkKT bkKC bkV bkVWa bkVn bkVW bkVTa bkVT bkVC bkT x1 r114 c114) k268_methodLink k89_instanceMethod k90_selects ⟨Nat.le_of_ble_eq_true rfl, Nat.le_of_ble_eq_true rfl⟩ rfl rfl hK hN hP hD [3, 4, 5, 6, 7, 8, 9, 10, 11, 12, 13] rfl rfl (by decide) 3 rfl rfl rfl rfl hl.1 rfl (Nat.le_of_ble_eq_true rfl) d_ImageReader_unpack_114 ?_
        refine lv_iadd hx hb d_ImageReader_unpack_117 ?_
        refine lv_sipush (v := 255) hx hb d_ImageReader_unpack_118 (by decide) ?_
        refine lv_icmp_le (tgt := 126) hx hb d_ImageReader_unpack_121 (by decide) (fun h121 => ?_) (fun h121 => ?_)
        · have hd := hd.1 h121
          refine lv_iconst (v := 0) hx hb d_ImageReader_unpack_126 (by decide) ?_
          refine lv_istore (lv' := [(9, .int 0), (0, .ref ir), (1, .int x1), (3, .int x3), (4, .int x4), (6, .int (bI b6)), (7, .int x7), (8, .int x8)]) hx hb d_ImageReader_unpack_127 hl (by decide) rfl (fun ls hl => ?_)
          exact ih.2.2.2.2.2.1 x1 x3 x4 b6 x7 x8 0 irP bkS bkBE bkBC bkBO _ _ _ (lv_sub hl [1, 2, 3, 4, 5, 6, 7, 0] rfl) hP hD hS hd
        · have hd := hd.2 h121
          refine lv_iconst (v := 0) hx hb d_ImageReader_unpack_124 (by decide) ?_
          obtain ⟨e0, e1, e2, e3, e4, e5⟩ := hd
          subst e0
          subst e1
          subst e2
          subst e3
          subst e4
          subst e5
          exact ct_zret (b := false) hx hb hr hlocks hK hP hD hS d_ImageReader_unpack_125
      · intro x1 x3 x4 b6 x7 x8 x9 irP bkS bkBE bkBC bkBO ls H locs hl hP hD hS hd
        have hd : B_ImageReader_unpack_129 imn bkBn imE imC bkT res irP' bkS' bkBE' bkBC' bkBO' (T_ImageReader_unpack imn bkBn imE imC bkT res irP' bkS' bkBE' bkBC' bkBO' n) x1 x3 x4 b6 x7 x8 x9 irP bkS bkBE bkBC bkBO := hd
        refine lv_iload hx hb d_ImageReader_unpack_129 (lv_at hl 7 rfl) ?_
        refine lv_iload hx hb d_ImageReader_unpack_131 (lv_at hl 5 rfl) ?_
        refine lv_icmp_ge (tgt := 186) hx hb d_ImageReader_unpack_133 (by decide) (fun h133 => ?_) (fun h133 => ?_)
        · have hd := hd.1 h133
          refine lv_iinc (k := 3) (v := x4 + 1) (lv' := [(4, .int (x4 + 1)), (0, .ref ir), (1, .int x1), (3, .int x3), (6, .int (bI b6)), (7, .int x7), (8, .int x8), (9, .int x9)]) hx hb d_ImageReader_unpack_186 hl rfl (congrArg (fun z => x4 + z) (by decide)) (by decide) rfl (fun ls hl => ?_)
          refine lv_goto (tgt := 10) hx hb d_ImageReader_unpack_189 (by decide) ?_
          exact ih.1 x1 x3 (x4 + 1) irP bkS bkBE bkBC bkBO _ _ _ (lv_sub hl [1, 2, 3, 0] rfl) hP hD hS hd
        · have hd := hd.2 h133
          refine lv_aload_n hx hb d_ImageReader_unpack_136 rfl (lv_at hl 0 rfl) ?_
          refine va_get (D := (dC, dI)) (ci := 5) (v := .ref bk) (C := R_ImageReader) (T := F_ImageReader) (N := 3) hx hb hts in_ImageReader hown hK hP 0 rfl rfl 1 (by decide) (hts _ (List.mem_cons_of_mem _ k267_fieldLink)) (fun _ h9 => h9) rfl d_ImageReader_unpack_137 ?_
          refine lv_iload_n hx hb d_ImageReader_unpack_140 rfl (lv_at hl 1 rfl) ?_
          obtain ⟨r141, c141, hd⟩ := hd
          refine ct_VR (As := [.int x1]) (rest := []) (C := R_Book) (ci := 3) (q := (R_Book, F_Book, 6)) ⟨hx, hb, hml, hown, hts⟩ fm_Book_bodyEnd (c_Book_bodyEnd l dC dI cI cL cZ bk bkNa bkN bkSa bkS bkB bkBEa bkBn bkBE bkBC bkBO bkK bkKWa bkKn bkKW bkKTa bkKT bkKC bkV bkVWa bkVn bkVW bkVTa bkVT bkVC bkT x1 r141 c141) k269_methodLink k77_instanceMethod k78_selects ⟨Nat.le_of_ble_eq_true rfl, Nat.le_of_ble_eq_true rfl⟩ rfl rfl hK hN hP hD [3, 4, 5, 6, 7, 8, 9, 10, 11, 12, 13] rfl rfl (by decide) 3 rfl rfl rfl rfl hl.1 rfl (Nat.le_of_ble_eq_true rfl) d_ImageReader_unpack_141 ?_
          refine lv_iload hx hb d_ImageReader_unpack_144 (lv_at hl 6 rfl) ?_
          refine lv_isub hx hb d_ImageReader_unpack_146 ?_
          refine lv_istore (lv' := [(10, .int (r141 - x8)), (0, .ref ir), (1, .int x1), (3, .int x3), (4, .int x4), (6, .int (bI b6)), (7, .int x7), (8, .int x8), (9, .int x9)]) hx hb d_ImageReader_unpack_147 hl (by decide) rfl (fun ls hl => ?_)
          refine lv_aload_n hx hb d_ImageReader_unpack_149 rfl (lv_at hl 1 rfl) ?_
          refine va_get (D := (dC, dI)) (ci := 5) (v := .ref bk) (C := R_ImageReader) (T := F_ImageReader) (N := 3) hx hb hts in_ImageReader hown hK hP 0 rfl rfl 1 (by decide) (hts _ (List.mem_cons_of_mem _ k267_fieldLink)) (fun _ h9 => h9) rfl d_ImageReader_unpack_150 ?_
          refine lv_iload hx hb d_ImageReader_unpack_153 (lv_at hl 5 rfl) ?_
          refine lv_if_eq (tgt := 165) hx hb d_ImageReader_unpack_155 (by decide) (fun h155 => ?_) (fun h155 => ?_)
          · have hd := hd.1 h155
            refine lv_aload_n hx hb d_ImageReader_unpack_165 rfl (lv_at hl 1 rfl) ?_
            refine va_get (D := (dC, dI)) (ci := 5) (v := .ref bk) (C := R_ImageReader) (T := F_ImageReader) (N := 3) hx hb hts in_ImageReader hown hK hP 0 rfl rfl 1 (by decide) (hts _ (List.mem_cons_of_mem _ k267_fieldLink)) (fun _ h9 => h9) rfl d_ImageReader_unpack_166 ?_
            refine ct_VR (As := []) (rest := [.ref bk]) (C := R_Book) (ci := 3) (q := (R_Book, F_Book, 6)) ⟨hx, hb, hml, hown, hts⟩ fm_Book_bodies (c_Book_bodies l dC dI cI cL cZ bk bkNa bkN bkSa bkS bkB bkBEa bkBn bkBE bkBC bkBO bkK bkKWa bkKn bkKW bkKTa bkKT bkKC bkV bkVWa bkVn bkVW bkVTa bkVT bkVC bkT trivial) k270_methodLink k148_instanceMethod k149_selects ⟨Nat.le_of_ble_eq_true rfl, Nat.le_of_ble_eq_true rfl⟩ rfl rfl hK hN hP hD [3, 4, 5, 6, 7, 8, 9, 10, 11, 12, 13] rfl rfl (by decide) 3 rfl rfl rfl rfl hl.1 rfl (Nat.le_of_ble_eq_true rfl) d_ImageReader_unpack_169 ?_
            refine lv_iload hx hb d_ImageReader_unpack_172 (lv_at hl 0 rfl) ?_
            obtain ⟨r174, c174, hd⟩ := hd
            refine ct_VR (As := [.int (r141 - x8)]) (rest := [.ref bk]) (C := R_Row) (ci := 1) (q := (R_Row, F_Row, 3)) ⟨hx, hb, hml, hown, hts⟩ fm_Row_element (c_Row_element l dC dI cI cL cZ bkB bkBEa bkBn bkBE bkBC bkBO (r141 - x8) r174 c174) k262_methodLink k4_instanceMethod k5_selects ⟨Nat.le_of_ble_eq_true rfl, Nat.le_of_ble_eq_true rfl⟩ rfl rfl hK hN hP hD [6, 7] rfl rfl (by decide) 6 rfl rfl rfl rfl hl.1 rfl (Nat.le_of_ble_eq_true rfl) d_ImageReader_unpack_174 ?_
            obtain ⟨bkS_177, bkBE_177, bkBC_177, bkBO_177, c177, hd⟩ := hd
            refine ct_V (As := [.int r174]) (rest := []) (C := R_Book) (ci := 3) (q := (R_Book, F_Book, 6)) ⟨hx, hb, hml, hown, hts⟩ fm_Book_append (c_Book_append l dC dI cI cL cZ bk bkNa bkN bkSa bkS bkB bkBEa bkBn bkBE bkBC bkBO bkK bkKWa bkKn bkKW bkKTa bkKT bkKC bkV bkVWa bkVn bkVW bkVTa bkVT bkVC bkT r174 bkS_177 bkBE_177 bkBC_177 bkBO_177 c177) k271_methodLink k141_instanceMethod k142_selects ⟨Nat.le_of_ble_eq_true rfl, Nat.le_of_ble_eq_true rfl⟩ rfl rfl hK hN hP hD hS hA [3, 4, 5, 6, 7, 8, 9, 10, 11, 12, 13] [0, 1, 2] rfl rfl rfl (by decide) (by decide) (by decide) 3 rfl rfl rfl rfl hl.1 rfl (Nat.le_of_ble_eq_true rfl) d_ImageReader_unpack_177 (fun H locs hP hD hS => ?_)
            have hP : va_P (dC, dI) classes ((sh_ImageReader cI cL cZ ir (.ref im) (.ref bk) irP) ++ ((sh_Row cI cL cZ im imEa imn imE imC imO) ++ ((sh_Book cI cL cZ bk bkNa bkN bkSa bkS_177 bkB bkBEa bkBn bkBE_177 bkBC_177 bkBO_177 bkK bkKWa bkKn bkKW bkKTa bkKT bkKC bkV bkVWa bkVn bkVW bkVTa bkVT bkVC bkT)))) H := hP.sub [0, 1, 2, 3, 4, 5, 6, 7, 8, 9, 10, 11, 12, 13] rfl
            have hD : va_D A ((sh_ImageReader cI cL cZ ir (.ref im) (.ref bk) irP) ++ ((sh_Row cI cL cZ im imEa imn imE imC imO) ++ ((sh_Book cI cL cZ bk bkNa bkN bkSa bkS_177 bkB bkBEa bkBn bkBE_177 bkBC_177 bkBO_177 bkK bkKWa bkKn bkKW bkKTa bkKT bkKC bkV bkVWa bkVn bkVW bkVTa bkVT bkVC bkT)))) := hD.sub [0, 1, 2, 3, 4, 5, 6, 7, 8, 9, 10, 11, 12, 13] (by decide) rfl
            refine lv_iinc (k := 8) (v := x9 + 1) (lv' := [(9, .int (x9 + 1)), (10, .int (r141 - x8)), (0, .ref ir), (1, .int x1), (3, .int x3), (4, .int x4), (6, .int (bI b6)), (7, .int x7), (8, .int x8)]) hx hb d_ImageReader_unpack_180 hl rfl (congrArg (fun z => x9 + z) (by decide)) (by decide) rfl (fun ls hl => ?_)
            refine lv_goto (tgt := 129) hx hb d_ImageReader_unpack_183 (by decide) ?_
            exact ih.2.2.2.2.2.1 x1 x3 x4 b6 x7 x8 (x9 + 1) irP bkS_177 bkBE_177 bkBC_177 bkBO_177 _ _ _ (lv_sub hl [2, 3, 4, 5, 6, 7, 8, 0] rfl) hP hD hS hd
          · have hd := hd.2 h155
            refine lv_aload_n hx hb d_ImageReader_unpack_158 rfl (lv_at hl 1 rfl) ?_
            obtain ⟨r159, irP_159, c159, hd⟩ := hd
            refine ct_V (As := []) (rest := [.ref bk]) (C := R_ImageReader) (ci := 5) (q := (R_ImageReader, F_ImageReader, 3)) ⟨hx, hb, hml, hown, hts⟩ fm_ImageReader_next (c_ImageReader_next l dC dI cI cL cZ ir (.ref bk) irP im imEa imn imE imC imO r159 irP_159 c159) k264_methodLink k265_instanceMethod k266_selects ⟨Nat.le_of_ble_eq_true rfl, Nat.le_of_ble_eq_true rfl⟩ rfl rfl hK hN hP hD hS hA [0, 1, 2] [3, 4, 5, 6, 7, 8, 9, 10, 11, 12, 13] rfl rfl rfl (by decide) (by decide) (by decide) 0 rfl rfl rfl rfl hl.1 rfl (Nat.le_of_ble_eq_true rfl) d_ImageReader_unpack_159 (fun H locs hP hD hS => ?_)
            have hP : va_P (dC, dI) classes ((sh_ImageReader cI cL cZ ir (.ref im) (.ref bk) irP_159) ++ ((sh_Row cI cL cZ im imEa imn imE imC imO) ++ ((sh_Book cI cL cZ bk bkNa bkN bkSa bkS bkB bkBEa bkBn bkBE bkBC bkBO bkK bkKWa bkKn bkKW bkKTa bkKT bkKC bkV bkVWa bkVn bkVW bkVTa bkVT bkVC bkT)))) H := hP.sub [11, 12, 13, 0, 1, 2, 3, 4, 5, 6, 7, 8, 9, 10] rfl
            have hD : va_D A ((sh_ImageReader cI cL cZ ir (.ref im) (.ref bk) irP_159) ++ ((sh_Row cI cL cZ im imEa imn imE imC imO) ++ ((sh_Book cI cL cZ bk bkNa bkN bkSa bkS bkB bkBEa bkBn bkBE bkBC bkBO bkK bkKWa bkKn bkKW bkKTa bkKT bkKC bkV bkVWa bkVn bkVW bkVTa bkVT bkVC bkT)))) := hD.sub [11, 12, 13, 0, 1, 2, 3, 4, 5, 6, 7, 8, 9, 10] (by decide) rfl
            refine lv_goto (tgt := 177) hx hb d_ImageReader_unpack_162 (by decide) ?_
            obtain ⟨bkS_177, bkBE_177, bkBC_177, bkBO_177, c177, hd⟩ := hd
            refine ct_V (As := [.int r159]) (rest := []) (C := R_Book) (ci := 3) (q := (R_Book, F_Book, 6)) ⟨hx, hb, hml, hown, hts⟩ fm_Book_append (c_Book_append l dC dI cI cL cZ bk bkNa bkN bkSa bkS bkB bkBEa bkBn bkBE bkBC bkBO bkK bkKWa bkKn bkKW bkKTa bkKT bkKC bkV bkVWa bkVn bkVW bkVTa bkVT bkVC bkT r159 bkS_177 bkBE_177 bkBC_177 bkBO_177 c177) k271_methodLink k141_instanceMethod k142_selects ⟨Nat.le_of_ble_eq_true rfl, Nat.le_of_ble_eq_true rfl⟩ rfl rfl hK hN hP hD hS hA [3, 4, 5, 6, 7, 8, 9, 10, 11, 12, 13] [0, 1, 2] rfl rfl rfl (by decide) (by decide) (by decide) 3 rfl rfl rfl rfl hl.1 rfl (Nat.le_of_ble_eq_true rfl) d_ImageReader_unpack_177 (fun H locs hP hD hS => ?_)
            have hP : va_P (dC, dI) classes ((sh_ImageReader cI cL cZ ir (.ref im) (.ref bk) irP_159) ++ ((sh_Row cI cL cZ im imEa imn imE imC imO) ++ ((sh_Book cI cL cZ bk bkNa bkN bkSa bkS_177 bkB bkBEa bkBn bkBE_177 bkBC_177 bkBO_177 bkK bkKWa bkKn bkKW bkKTa bkKT bkKC bkV bkVWa bkVn bkVW bkVTa bkVT bkVC bkT)))) H := hP.sub [0, 1, 2, 3, 4, 5, 6, 7, 8, 9, 10, 11, 12, 13] rfl
            have hD : va_D A ((sh_ImageReader cI cL cZ ir (.ref im) (.ref bk) irP_159) ++ ((sh_Row cI cL cZ im imEa imn imE imC imO) ++ ((sh_Book cI cL cZ bk bkNa bkN bkSa bkS_177 bkB bkBEa bkBn bkBE_177 bkBC_177 bkBO_177 bkK bkKWa bkKn bkKW bkKTa bkKT bkKC bkV bkVWa bkVn bkVW bkVTa bkVT bkVC bkT)))) := hD.sub [0, 1, 2, 3, 4, 5, 6, 7, 8, 9, 10, 11, 12, 13] (by decide) rfl
            refine lv_iinc (k := 8) (v := x9 + 1) (lv' := [(9, .int (x9 + 1)), (10, .int (r141 - x8)), (0, .ref ir), (1, .int x1), (3, .int x3), (4, .int x4), (6, .int (bI b6)), (7, .int x7), (8, .int x8)]) hx hb d_ImageReader_unpack_180 hl rfl (congrArg (fun z => x9 + z) (by decide)) (by decide) rfl (fun ls hl => ?_)
            refine lv_goto (tgt := 129) hx hb d_ImageReader_unpack_183 (by decide) ?_
            exact ih.2.2.2.2.2.1 x1 x3 x4 b6 x7 x8 (x9 + 1) irP_159 bkS_177 bkBE_177 bkBC_177 bkBO_177 _ _ _ (lv_sub hl [2, 3, 4, 5, 6, 7, 8, 0] rfl) hP hD hS hd
      · intro x3 irP bkS bkBE bkBC bkBO ls H locs hl hP hD hS hd
        have hd : B_ImageReader_unpack_192 imn bkBn imE imC bkT res irP' bkS' bkBE' bkBC' bkBO' (T_ImageReader_unpack imn bkBn imE imC bkT res irP' bkS' bkBE' bkBC' bkBO' n) x3 irP bkS bkBE bkBC bkBO := hd
        refine lv_aload_n hx hb d_ImageReader_unpack_192 rfl (lv_at hl 0 rfl) ?_
        refine va_get (D := (dC, dI)) (ci := 5) (v := .int irP) (C := R_ImageReader) (T := F_ImageReader) (N := 3) hx hb hts in_ImageReader hown hK hP 0 rfl rfl 2 (by decide) (hts _ (List.mem_cons_of_mem _ k261_fieldLink)) (fun _ h9 => h9) rfl d_ImageReader_unpack_193 ?_
        refine lv_iload_n hx hb d_ImageReader_unpack_196 rfl (lv_at hl 1 rfl) ?_
        refine lv_icmp_ne (tgt := 204) hx hb d_ImageReader_unpack_197 (by decide) (fun h197 => ?_) (fun h197 => ?_)
        · have hd := hd.2 h197
          refine lv_iconst (v := 0) hx hb d_ImageReader_unpack_204 (by decide) ?_
          obtain ⟨e0, e1, e2, e3, e4, e5⟩ := hd
          subst e0
          subst e1
          subst e2
          subst e3
          subst e4
          subst e5
          exact ct_zret (b := false) hx hb hr hlocks hK hP hD hS d_ImageReader_unpack_205
        · have hd := hd.1 h197
          refine lv_iconst (v := 1) hx hb d_ImageReader_unpack_200 (by decide) ?_
          refine lv_goto (tgt := 205) hx hb d_ImageReader_unpack_201 (by decide) ?_
          obtain ⟨e0, e1, e2, e3, e4, e5⟩ := hd
          subst e0
          subst e1
          subst e2
          subst e3
          subst e4
          subst e5
          exact ct_zret (b := true) hx hb hr hlocks hK hP hD hS d_ImageReader_unpack_205
  obtain ⟨n, hd⟩ := hd
  refine lv_aload_n hx hb d_ImageReader_unpack_0 rfl (lv_at hl 0 rfl) ?_
  refine va_get (D := (dC, dI)) (ci := 5) (v := .int irP) (C := R_ImageReader) (T := F_ImageReader) (N := 3) hx hb hts in_ImageReader hown hK hP 0 rfl rfl 2 (by decide) (hts _ (List.mem_cons_of_mem _ k261_fieldLink)) (fun _ h9 => h9) rfl d_ImageReader_unpack_1 ?_
  refine lv_iload_n hx hb d_ImageReader_unpack_4 rfl (lv_at hl 2 rfl) ?_
  refine lv_iadd hx hb d_ImageReader_unpack_5 ?_
  refine lv_istore_n (lv' := [(3, .int (irP + k1)), (0, .ref ir), (1, .int k0), (2, .int k1)]) hx hb d_ImageReader_unpack_6 rfl hl (by decide) rfl (fun ls hl => ?_)
  refine lv_iconst (v := 0) hx hb d_ImageReader_unpack_7 (by decide) ?_
  refine lv_istore (lv' := [(4, .int 0), (3, .int (irP + k1)), (0, .ref ir), (1, .int k0), (2, .int k1)]) hx hb d_ImageReader_unpack_8 hl (by decide) rfl (fun ls hl => ?_)
  exact (key n).1 k0 (irP + k1) 0 irP bkS bkBE bkBC bkBO _ _ _ (lv_sub hl [2, 3, 1, 0] rfl) hP hD hS hd
-- ImageReader.readTree
abbrev b_ImageReader_readTree : ByteArray := prog_4_method_5_code
def y_ImageReader_readTree : MethodName := ⟨"HelpFile$ImageReader", "readTree", "()Z"⟩
theorem k272_methodLink : Cond.methodLink "HelpFile$ImageReader" 73 ⟨"HelpFile$Tree", "leaves", "(I)I"⟩ ∈ ga := ga_t 597 (by decide +kernel) rfl
theorem k273_static : Cond.static ⟨"HelpFile$Tree", "leaves", "(I)I"⟩ ∈ ga := ga_t 598 (by decide +kernel) rfl
theorem k274_methodLink : Cond.methodLink "HelpFile$ImageReader" 34 ⟨"HelpFile$Letters", "word", "(LHelpFile$Row;II)J"⟩ ∈ ga := ga_t 574 (by decide +kernel) rfl
theorem k275_methodLink : Cond.methodLink "HelpFile$ImageReader" 78 ⟨"HelpFile$Book", "keywords", "()LHelpFile$WordList;"⟩ ∈ ga := ga_t 601 (by decide +kernel) rfl
theorem k276_methodLink : Cond.methodLink "HelpFile$ImageReader" 44 ⟨"HelpFile$Row", "pair", "(I)I"⟩ ∈ ga := ga_t 576 (by decide +kernel) rfl
theorem k277_instanceMethod : Cond.instanceMethod ⟨"HelpFile$Row", "pair", "(I)I"⟩ ∈ ga := ga_t 577 (by decide +kernel) rfl
theorem k278_selects : Cond.selects "HelpFile$Row" ⟨"HelpFile$Row", "pair", "(I)I"⟩ ⟨"HelpFile$Row", "pair", "(I)I"⟩ ∈ ga := ga_t 578 (by decide +kernel) rfl
theorem k279_methodLink : Cond.methodLink "HelpFile$ImageReader" 82 ⟨"HelpFile$WordList", "note", "(JI)V"⟩ ∈ ga := ga_t 602 (by decide +kernel) rfl
set_option maxRecDepth 100000 in
theorem fm_ImageReader_readTree : Fm y_ImageReader_readTree b_ImageReader_readTree 8 (some .boolean) 0 := ⟨ga_t 596 rfl rfl, k263_initialized, by decide, by decide, by decide +kernel⟩
def B_ImageReader_readTree_10 (imn : Nat) (bkKn : Nat) (imE : Nat → Int32) (imC : Int32) (res : Bool) (irP' : Int32) (bkKW' : Nat → Int64) (bkKT' : Nat → Int32) (bkKC' : Int32) (X : Nat → Int32 → Int32 → Int32 → Int32 → Int32 → (Nat → Int64) → (Nat → Int32) → Int32 → Prop) (x1 : Int32) (x2 : Int32) (irP : Int32) (bkKW : Nat → Int64) (bkKT : Nat → Int32) (bkKC : Int32) : Prop := ((x1 ≤ x2 → ((x1 = (-1) → (res = false ∧ irP' = irP ∧ bkKW' = bkKW ∧ bkKT' = bkKT ∧ bkKC' = bkKC)) ∧ (¬ (x1 = (-1)) → (res = true ∧ irP' = irP ∧ bkKW' = bkKW ∧ bkKT' = bkKT ∧ bkKC' = bkKC)))) ∧ (¬ (x1 ≤ x2) → (∃ r16 : Int32, ∃ irP_16 : Int32, D_ImageReader_next imn irP imE imC r16 irP_16 ∧ ((r16 ≤ 4 → X 1 x1 x2 r16 0 irP_16 bkKW bkKT bkKC) ∧ (¬ (r16 ≤ 4) → (res = false ∧ irP' = irP_16 ∧ bkKW' = bkKW ∧ bkKT' = bkKT ∧ bkKC' = bkKC))))))
def B_ImageReader_readTree_30 (imn : Nat) (bkKn : Nat) (imE : Nat → Int32) (imC : Int32) (res : Bool) (irP' : Int32) (bkKW' : Nat → Int64) (bkKT' : Nat → Int32) (bkKC' : Int32) (X : Nat → Int32 → Int32 → Int32 → Int32 → Int32 → (Nat → Int64) → (Nat → Int32) → Int32 → Prop) (x1 : Int32) (x2 : Int32) (x3 : Int32) (x4 : Int32) (irP : Int32) (bkKW : Nat → Int64) (bkKT : Nat → Int32) (bkKC : Int32) : Prop := ((x3 ≤ x4 → X 0 x1 (x2 + 1) 0 0 irP bkKW bkKT bkKC) ∧ (¬ (x3 ≤ x4) → (∃ r37 : Int32, ∃ irP_37 : Int32, D_ImageReader_next imn irP imE imC r37 irP_37 ∧ ((r37 ≤ 8 → (∃ r66 : Int64, D_Letters_word imn irP_37 (irP_37 + r37) imE imC r66 ∧ (∃ r99 : Int32, D_Row_pair imn (irP_37 + r37) imE imC r99 ∧ (∃ bkKW_102 : Nat → Int64, ∃ bkKT_102 : Nat → Int32, ∃ bkKC_102 : Int32, D_WordList_note bkKn r66 r99 bkKW bkKT bkKC bkKW_102 bkKT_102 bkKC_102 ∧ X 1 x1 x2 x3 (x4 + 1) ((irP_37 + r37) + 2) bkKW_102 bkKT_102 bkKC_102)))) ∧ (¬ (r37 ≤ 8) → (res = false ∧ irP' = irP_37 ∧ bkKW' = bkKW ∧ bkKT' = bkKT ∧ bkKC' = bkKC))))))
def S_ImageReader_readTree (imn : Nat) (bkKn : Nat) (imE : Nat → Int32) (imC : Int32) (res : Bool) (irP' : Int32) (bkKW' : Nat → Int64) (bkKT' : Nat → Int32) (bkKC' : Int32) (X : Nat → Int32 → Int32 → Int32 → Int32 → Int32 → (Nat → Int64) → (Nat → Int32) → Int32 → Prop) : Nat → Int32 → Int32 → Int32 → Int32 → Int32 → (Nat → Int64) → (Nat → Int32) → Int32 → Prop := fun q_lab x1 x2 x3 x4 irP bkKW bkKT bkKC => match q_lab with | 0 => B_ImageReader_readTree_10 imn bkKn imE imC res irP' bkKW' bkKT' bkKC' X x1 x2 irP bkKW bkKT bkKC | 1 => B_ImageReader_readTree_30 imn bkKn imE imC res irP' bkKW' bkKT' bkKC' X x1 x2 x3 x4 irP bkKW bkKT bkKC | _ => False
def T_ImageReader_readTree (imn : Nat) (bkKn : Nat) (imE : Nat → Int32) (imC : Int32) (res : Bool) (irP' : Int32) (bkKW' : Nat → Int64) (bkKT' : Nat → Int32) (bkKC' : Int32) : Nat → (Nat → Int32 → Int32 → Int32 → Int32 → Int32 → (Nat → Int64) → (Nat → Int32) → Int32 → Prop)
  | 0 => fun _ _ _ _ _ _ _ _ _ => False
  | n + 1 => S_ImageReader_readTree imn bkKn imE imC res irP' bkKW' bkKT' bkKC' (T_ImageReader_readTree imn bkKn imE imC res irP' bkKW' bkKT' bkKC' n)
def D_ImageReader_readTree (imn : Nat) (bkKn : Nat) (irP : Int32) (imE : Nat → Int32) (imC : Int32) (bkKW : Nat → Int64) (bkKT : Nat → Int32) (bkKC : Int32) (res : Bool) (irP' : Int32) (bkKW' : Nat → Int64) (bkKT' : Nat → Int32) (bkKC' : Int32) : Prop := ∃ n : Nat, (∃ r1 : Int32, ∃ irP_1 : Int32, D_ImageReader_next imn irP imE imC r1 irP_1 ∧ (∃ r4 : Int32, D_Tree_leaves r1 r4 ∧ T_ImageReader_readTree imn bkKn imE imC res irP' bkKW' bkKT' bkKC' n 0 r4 0 0 0 irP_1 bkKW bkKT bkKC))
theorem d_ImageReader_readTree_0 : decode b_ImageReader_readTree 0 = .ok (.aload_n 0, 1) := by decide +kernel
theorem d_ImageReader_readTree_1 : decode b_ImageReader_readTree 1 = .ok (.invokevirtual 55, 3) := by decide +kernel
theorem d_ImageReader_readTree_4 : decode b_ImageReader_readTree 4 = .ok (.invokestatic 73, 3) := by decide +kernel
theorem d_ImageReader_readTree_7 : decode b_ImageReader_readTree 7 = .ok (.istore_n 1, 1) := by decide +kernel
theorem d_ImageReader_readTree_8 : decode b_ImageReader_readTree 8 = .ok (.iconst 0, 1) := by decide +kernel
theorem d_ImageReader_readTree_9 : decode b_ImageReader_readTree 9 = .ok (.istore_n 2, 1) := by decide +kernel
theorem d_ImageReader_readTree_10 : decode b_ImageReader_readTree 10 = .ok (.iload_n 2, 1) := by decide +kernel
theorem d_ImageReader_readTree_11 : decode b_ImageReader_readTree 11 = .ok (.iload_n 1, 1) := by decide +kernel
theorem d_ImageReader_readTree_12 : decode b_ImageReader_readTree 12 = .ok (.if_icmp .ge 115, 3) := by decide +kernel
theorem d_ImageReader_readTree_15 : decode b_ImageReader_readTree 15 = .ok (.aload_n 0, 1) := by decide +kernel
theorem d_ImageReader_readTree_16 : decode b_ImageReader_readTree 16 = .ok (.invokevirtual 55, 3) := by decide +kernel
theorem d_ImageReader_readTree_19 : decode b_ImageReader_readTree 19 = .ok (.istore_n 3, 1) := by decide +kernel
theorem d_ImageReader_readTree_20 : decode b_ImageReader_readTree 20 = .ok (.iload_n 3, 1) := by decide +kernel
theorem d_ImageReader_readTree_21 : decode b_ImageReader_readTree 21 = .ok (.iconst 4, 1) := by decide +kernel
theorem d_ImageReader_readTree_22 : decode b_ImageReader_readTree 22 = .ok (.if_icmp .le 5, 3) := by decide +kernel
theorem d_ImageReader_readTree_25 : decode b_ImageReader_readTree 25 = .ok (.iconst 0, 1) := by decide +kernel
theorem d_ImageReader_readTree_26 : decode b_ImageReader_readTree 26 = .ok (.ireturn, 1) := by decide +kernel
theorem d_ImageReader_readTree_27 : decode b_ImageReader_readTree 27 = .ok (.iconst 0, 1) := by decide +kernel
theorem d_ImageReader_readTree_28 : decode b_ImageReader_readTree 28 = .ok (.istore 4, 2) := by decide +kernel
theorem d_ImageReader_readTree_30 : decode b_ImageReader_readTree 30 = .ok (.iload 4, 2) := by decide +kernel
theorem d_ImageReader_readTree_32 : decode b_ImageReader_readTree 32 = .ok (.iload_n 3, 1) := by decide +kernel
theorem d_ImageReader_readTree_33 : decode b_ImageReader_readTree 33 = .ok (.if_icmp .ge 88, 3) := by decide +kernel
theorem d_ImageReader_readTree_36 : decode b_ImageReader_readTree 36 = .ok (.aload_n 0, 1) := by decide +kernel
theorem d_ImageReader_readTree_37 : decode b_ImageReader_readTree 37 = .ok (.invokevirtual 55, 3) := by decide +kernel
theorem d_ImageReader_readTree_40 : decode b_ImageReader_readTree 40 = .ok (.istore 5, 2) := by decide +kernel
theorem d_ImageReader_readTree_42 : decode b_ImageReader_readTree 42 = .ok (.iload 5, 2) := by decide +kernel
theorem d_ImageReader_readTree_44 : decode b_ImageReader_readTree 44 = .ok (.bipush 8, 2) := by decide +kernel
theorem d_ImageReader_readTree_46 : decode b_ImageReader_readTree 46 = .ok (.if_icmp .le 5, 3) := by decide +kernel
theorem d_ImageReader_readTree_49 : decode b_ImageReader_readTree 49 = .ok (.iconst 0, 1) := by decide +kernel
theorem d_ImageReader_readTree_50 : decode b_ImageReader_readTree 50 = .ok (.ireturn, 1) := by decide +kernel
theorem d_ImageReader_readTree_51 : decode b_ImageReader_readTree 51 = .ok (.aload_n 0, 1) := by decide +kernel
theorem d_ImageReader_readTree_52 : decode b_ImageReader_readTree 52 = .ok (.getfield 9, 3) := by decide +kernel
theorem d_ImageReader_readTree_55 : decode b_ImageReader_readTree 55 = .ok (.aload_n 0, 1) := by decide +kernel
theorem d_ImageReader_readTree_56 : decode b_ImageReader_readTree 56 = .ok (.getfield 19, 3) := by decide +kernel
theorem d_ImageReader_readTree_59 : decode b_ImageReader_readTree 59 = .ok (.aload_n 0, 1) := by decide +kernel
theorem d_ImageReader_readTree_60 : decode b_ImageReader_readTree 60 = .ok (.getfield 19, 3) := by decide +kernel
theorem d_ImageReader_readTree_63 : decode b_ImageReader_readTree 63 = .ok (.iload 5, 2) := by decide +kernel
theorem d_ImageReader_readTree_65 : decode b_ImageReader_readTree 65 = .ok (.iadd, 1) := by decide +kernel
theorem d_ImageReader_readTree_66 : decode b_ImageReader_readTree 66 = .ok (.invokestatic 34, 3) := by decide +kernel
theorem d_ImageReader_readTree_69 : decode b_ImageReader_readTree 69 = .ok (.lstore 6, 2) := by decide +kernel
theorem d_ImageReader_readTree_71 : decode b_ImageReader_readTree 71 = .ok (.aload_n 0, 1) := by decide +kernel
theorem d_ImageReader_readTree_72 : decode b_ImageReader_readTree 72 = .ok (.dup, 1) := by decide +kernel
theorem d_ImageReader_readTree_73 : decode b_ImageReader_readTree 73 = .ok (.getfield 19, 3) := by decide +kernel
theorem d_ImageReader_readTree_76 : decode b_ImageReader_readTree 76 = .ok (.iload 5, 2) := by decide +kernel
theorem d_ImageReader_readTree_78 : decode b_ImageReader_readTree 78 = .ok (.iadd, 1) := by decide +kernel
theorem d_ImageReader_readTree_79 : decode b_ImageReader_readTree 79 = .ok (.putfield 19, 3) := by decide +kernel
theorem d_ImageReader_readTree_82 : decode b_ImageReader_readTree 82 = .ok (.aload_n 0, 1) := by decide +kernel
theorem d_ImageReader_readTree_83 : decode b_ImageReader_readTree 83 = .ok (.getfield 15, 3) := by decide +kernel
theorem d_ImageReader_readTree_86 : decode b_ImageReader_readTree 86 = .ok (.invokevirtual 78, 3) := by decide +kernel
theorem d_ImageReader_readTree_89 : decode b_ImageReader_readTree 89 = .ok (.lload 6, 2) := by decide +kernel
theorem d_ImageReader_readTree_91 : decode b_ImageReader_readTree 91 = .ok (.aload_n 0, 1) := by decide +kernel
theorem d_ImageReader_readTree_92 : decode b_ImageReader_readTree 92 = .ok (.getfield 9, 3) := by decide +kernel
theorem d_ImageReader_readTree_95 : decode b_ImageReader_readTree 95 = .ok (.aload_n 0, 1) := by decide +kernel
theorem d_ImageReader_readTree_96 : decode b_ImageReader_readTree 96 = .ok (.getfield 19, 3) := by decide +kernel
theorem d_ImageReader_readTree_99 : decode b_ImageReader_readTree 99 = .ok (.invokevirtual 44, 3) := by decide +kernel
theorem d_ImageReader_readTree_102 : decode b_ImageReader_readTree 102 = .ok (.invokevirtual 82, 3) := by decide +kernel
theorem d_ImageReader_readTree_105 : decode b_ImageReader_readTree 105 = .ok (.aload_n 0, 1) := by decide +kernel
theorem d_ImageReader_readTree_106 : decode b_ImageReader_readTree 106 = .ok (.dup, 1) := by decide +kernel
theorem d_ImageReader_readTree_107 : decode b_ImageReader_readTree 107 = .ok (.getfield 19, 3) := by decide +kernel
theorem d_ImageReader_readTree_110 : decode b_ImageReader_readTree 110 = .ok (.iconst 2, 1) := by decide +kernel
theorem d_ImageReader_readTree_111 : decode b_ImageReader_readTree 111 = .ok (.iadd, 1) := by decide +kernel
theorem d_ImageReader_readTree_112 : decode b_ImageReader_readTree 112 = .ok (.putfield 19, 3) := by decide +kernel
theorem d_ImageReader_readTree_115 : decode b_ImageReader_readTree 115 = .ok (.iinc 4 1, 3) := by decide +kernel
theorem d_ImageReader_readTree_118 : decode b_ImageReader_readTree 118 = .ok (.goto (-88), 3) := by decide +kernel
theorem d_ImageReader_readTree_121 : decode b_ImageReader_readTree 121 = .ok (.iinc 2 1, 3) := by decide +kernel
theorem d_ImageReader_readTree_124 : decode b_ImageReader_readTree 124 = .ok (.goto (-114), 3) := by decide +kernel
theorem d_ImageReader_readTree_127 : decode b_ImageReader_readTree 127 = .ok (.iload_n 1, 1) := by decide +kernel
theorem d_ImageReader_readTree_128 : decode b_ImageReader_readTree 128 = .ok (.iconst (-1), 1) := by decide +kernel
theorem d_ImageReader_readTree_129 : decode b_ImageReader_readTree 129 = .ok (.if_icmp .eq 7, 3) := by decide +kernel
theorem d_ImageReader_readTree_132 : decode b_ImageReader_readTree 132 = .ok (.iconst 1, 1) := by decide +kernel
theorem d_ImageReader_readTree_133 : decode b_ImageReader_readTree 133 = .ok (.goto 4, 3) := by decide +kernel
theorem d_ImageReader_readTree_136 : decode b_ImageReader_readTree 136 = .ok (.iconst 0, 1) := by decide +kernel
theorem d_ImageReader_readTree_137 : decode b_ImageReader_readTree 137 = .ok (.ireturn, 1) := by decide +kernel
set_option maxHeartbeats 4000000 in
set_option maxRecDepth 100000 in
theorem c_ImageReader_readTree (l : Launch) (dC : Nat → ClassId) (dI : Nat → Nat → Nat) (cI cL cZ : ClassId) (ir : Nat) (irP : Int32) (im : Nat) (imEa : Nat) (imn : Nat) (imE : Nat → Int32) (imC : Int32) (imO : Bool) (bk : Nat) (bkNa : Nat) (bkN : Nat → Int64) (bkSa : Nat) (bkS : Nat → Int32) (bkB : Nat) (bkBEa : Nat) (bkBn : Nat) (bkBE : Nat → Int32) (bkBC : Int32) (bkBO : Bool) (bkK : Nat) (bkKWa : Nat) (bkKn : Nat) (bkKW : Nat → Int64) (bkKTa : Nat) (bkKT : Nat → Int32) (bkKC : Int32) (bkV : Nat) (bkVWa : Nat) (bkVn : Nat) (bkVW : Nat → Int64) (bkVTa : Nat) (bkVT : Nat → Int32) (bkVC : Int32) (bkT : Int32) (res : Bool) (irP' : Int32) (bkKW' : Nat → Int64) (bkKT' : Nat → Int32) (bkKC' : Int32) (hd : D_ImageReader_readTree imn bkKn irP imE imC bkKW bkKT bkKC res irP' bkKW' bkKT' bkKC') : Ctr l y_ImageReader_readTree (Cond.code y_ImageReader_readTree b_ImageReader_readTree 8 (some .boolean) :: ga) { frames := 4, cells := 0, slots := 0, locals := 85 } (dC, dI) classes (Tys cI cL cZ) [.ref ir] ((sh_ImageReader cI cL cZ ir (.ref im) (.ref bk) irP) ++ ((sh_Row cI cL cZ im imEa imn imE imC imO) ++ ((sh_Book cI cL cZ bk bkNa bkN bkSa bkS bkB bkBEa bkBn bkBE bkBC bkBO bkK bkKWa bkKn bkKW bkKTa bkKT bkKC bkV bkVWa bkVn bkVW bkVTa bkVT bkVC bkT)))) (some (.int (bI res))) ((sh_ImageReader cI cL cZ ir (.ref im) (.ref bk) irP') ++ ((sh_Row cI cL cZ im imEa imn imE imC imO) ++ ((sh_Book cI cL cZ bk bkNa bkN bkSa bkS bkB bkBEa bkBn bkBE bkBC bkBO bkK bkKWa bkKn bkKW' bkKTa bkKT' bkKC' bkV bkVWa bkVn bkVW bkVTa bkVT bkVC bkT)))) := by
  refine Ctr.ofW (by decide) (Nat.le_of_ble_eq_true rfl) ?_
  intro p e s m below meth c A ls hx hb hr hml hown hlocks hts hK hN hA hP hD hS hl
  have hown : s.vm.findClass R_ImageReader = some m.cls := hown
  have hl : lv_has ls 8 [(0, .ref ir)] := hl
  have key : ∀ n : Nat, (∀ (x1 : Int32) (x2 : Int32) (irP : Int32) (bkKW : Nat → Int64) (bkKT : Nat → Int32) (bkKC : Int32) (ls : Array Slot) (H : Heap) (locs : List Loc), lv_has ls 8 [(0, .ref ir), (1, .int x1), (2, .int x2)] → va_P (dC, dI) classes ((sh_ImageReader cI cL cZ ir (.ref im) (.ref bk) irP) ++ ((sh_Row cI cL cZ im imEa imn imE imC imO) ++ ((sh_Book cI cL cZ bk bkNa bkN bkSa bkS bkB bkBEa bkBn bkBE bkBC bkBO bkK bkKWa bkKn bkKW bkKTa bkKT bkKC bkV bkVWa bkVn bkVW bkVTa bkVT bkVC bkT)))) H → va_D A ((sh_ImageReader cI cL cZ ir (.ref im) (.ref bk) irP) ++ ((sh_Row cI cL cZ im imEa imn imE imC imO) ++ ((sh_Book cI cL cZ bk bkNa bkN bkSa bkS bkB bkBEa bkBn bkBE bkBC bkBO bkK bkKWa bkKn bkKW bkKTa bkKT bkKC bkV bkVWa bkVn bkVW bkVTa bkVT bkVC bkT)))) → va_S A s.heap H locs → T_ImageReader_readTree imn bkKn imE imC res irP' bkKW' bkKT' bkKC' n 0 x1 x2 0 0 irP bkKW bkKT bkKC → W p l e ({ frames := 4, cells := 0, slots := 0, locals := 85 }) s m ([.ref ir] : List Value).toArray below meth c H locs 0 0 (MQ below (Qs (dC, dI) classes (Tys cI cL cZ) (some (.int (bI res))) ((sh_ImageReader cI cL cZ ir (.ref im) (.ref bk) irP') ++ ((sh_Row cI cL cZ im imEa imn imE imC imO) ++ ((sh_Book cI cL cZ bk bkNa bkN bkSa bkS bkB bkBEa bkBn bkBE bkBC bkBO bkK bkKWa bkKn bkKW' bkKTa bkKT' bkKC' bkV bkVWa bkVn bkVW bkVTa bkVT bkVC bkT)))) A) ([.ref ir] : List Value).toArray s 0 0 A) (F0 m 10 ls [])) ∧ (∀ (x1 : Int32) (x2 : Int32) (x3 : Int32) (x4 : Int32) (irP : Int32) (bkKW : Nat → Int64) (bkKT : Nat → Int32) (bkKC : Int32) (ls : Array Slot) (H : Heap) (locs : List Loc), lv_has ls 8 [(0, .ref ir), (1, .int x1), (2, .int x2), (3, .int x3), (4, .int x4)] → va_P (dC, dI) classes ((sh_ImageReader cI cL cZ ir (.ref im) (.ref bk) irP) ++ ((sh_Row cI cL cZ im imEa imn imE imC imO) ++ ((sh_Book cI cL cZ bk bkNa bkN bkSa bkS bkB bkBEa bkBn bkBE bkBC bkBO bkK bkKWa bkKn bkKW bkKTa bkKT bkKC bkV bkVWa bkVn bkVW bkVTa bkVT bkVC bkT)))) H → va_D A ((sh_ImageReader cI cL cZ ir (.ref im) (.ref bk) irP) ++ ((sh_Row cI cL cZ im imEa imn imE imC imO) ++ ((sh_Book cI cL cZ bk bkNa bkN bkSa bkS bkB bkBEa bkBn bkBE bkBC bkBO bkK bkKWa bkKn bkKW bkKTa bkKT bkKC bkV bkVWa bkVn bkVW bkVTa bkVT bkVC bkT)))) → va_S A s.heap H locs → T_ImageReader_readTree imn bkKn imE imC res irP' bkKW' bkKT' bkKC' n 1 x1 x2 x3 x4 irP bkKW bkKT bkKC → W p l e ({ frames := 4, cells := 0, slots := 0, locals := 85 }) s m ([.ref ir] : List Value).toArray below meth c H locs 0 0 (MQ below (Qs (dC, dI) classes (Tys cI cL cZ) (some (.int (bI res))) ((sh_ImageReader cI cL cZ ir (.ref im) (.ref bk) irP') ++ ((sh_Row cI cL cZ im imEa imn imE imC imO) ++ ((sh_Book cI cL cZ bk bkNa bkN bkSa bkS bkB bkBEa bkBn bkBE bkBC bkBO bkK bkKWa bkKn bkKW' bkKTa bkKT' bkKC' bkV bkVWa bkVn bkVW bkVTa bkVT bkVC bkT)))) A) ([.ref ir] : List Value).toArray s 0 0 A) (F0 m 30 ls [])) := by
    intro n
    induction n with
    | zero =>
      exact ⟨fun _ _ _ _ _ _ _ _ _ _ _ _ _ hd => False.elim hd, fun _ _ _ _ _ _ _ _ _ _ _ _ _ _ _ hd => False.elim hd⟩
    | succ n ih =>
      refine ⟨?_, ?_⟩
      · intro x1 x2 irP bkKW bkKT bkKC ls H locs hl hP hD hS hd
        have hd : B_ImageReader_readTree_10 imn bkKn imE imC res irP' bkKW' bkKT' bkKC' (T_ImageReader_readTree imn bkKn imE imC res irP' bkKW' bkKT' bkKC' n) x1 x2 irP bkKW bkKT bkKC := hd
        refine lv_iload_n hx hb d_ImageReader_readTree_10 rfl (lv_at hl 2 rfl) ?_
        refine lv_iload_n hx hb d_ImageReader_readTree_11 rfl (lv_at hl 1 rfl) ?_
        refine lv_icmp_ge (tgt := 127) hx hb d_ImageReader_readTree_12 (by decide) (fun h12 => ?_) (fun h12 => ?_)
        · have hd := hd.1 h12
          refine lv_iload_n hx hb d_ImageReader_readTree_127 rfl (lv_at hl 1 rfl) ?_
          refine lv_iconst (v := (-1)) hx hb d_ImageReader_readTree_128 (by decide) ?_
          refine lv_icmp_eq (tgt := 136) hx hb d_ImageReader_readTree_129 (by decide) (fun h129 => ?_) (fun h129 => ?_)
          · have hd := hd.1 h129
            refine lv_iconst (v := 0) hx hb d_ImageReader_readTree_136 (by decide) ?_
            obtain ⟨e0, e1, e2, e3, e4⟩ := hd
            subst e0
            subst e1
            subst e2
            subst e3
            subst e4
            exact ct_zret (b := false) hx hb hr hlocks hK hP hD hS d_ImageReader_readTree_137
          · have hd := hd.2 h129
            refine lv_iconst (v := 1) hx hb d_ImageReader_readTree_132 (by decide) ?_
            refine lv_goto (tgt := 137) hx hb d_ImageReader_readTree_133 (by decide) ?_
            obtain ⟨e0, e1, e2, e3, e4⟩ := hd
            subst e0
            subst e1
            subst e2
            subst e3
            subst e4
            exact ct_zret (b := true) hx hb hr hlocks hK hP hD hS d_ImageReader_readTree_137
        · have hd := hd.2 h12
          refine lv_aload_n hx hb d_ImageReader_readTree_15 rfl (lv_at hl 0 rfl) ?_
          obtain ⟨r16, irP_16, c16, hd⟩ := hd
          refine ct_V (As := []) (rest := []) (C := R_ImageReader) (ci := 5) (q := (R_ImageReader, F_ImageReader, 3)) ⟨hx, hb, hml, hown, hts⟩ fm_ImageReader_next (c_ImageReader_next l dC dI cI cL cZ ir (.ref bk) irP im imEa imn imE imC imO r16 irP_16 c16) k264_methodLink k265_instanceMethod k266_selects ⟨Nat.le_of_ble_eq_true rfl, Nat.le_of_ble_eq_true rfl⟩ rfl rfl hK hN hP hD hS hA [0, 1, 2] [3, 4, 5, 6, 7, 8, 9, 10, 11, 12, 13] rfl rfl rfl (by decide) (by decide) (by decide) 0 rfl rfl rfl rfl hl.1 rfl (Nat.le_of_ble_eq_true rfl) d_ImageReader_readTree_16 (fun H locs hP hD hS => ?_)
          have hP : va_P (dC, dI) classes ((sh_ImageReader cI cL cZ ir (.ref im) (.ref bk) irP_16) ++ ((sh_Row cI cL cZ im imEa imn imE imC imO) ++ ((sh_Book cI cL cZ bk bkNa bkN bkSa bkS bkB bkBEa bkBn bkBE bkBC bkBO bkK bkKWa bkKn bkKW bkKTa bkKT bkKC bkV bkVWa bkVn bkVW bkVTa bkVT bkVC bkT)))) H := hP.sub [11, 12, 13, 0, 1, 2, 3, 4, 5, 6, 7, 8, 9, 10] rfl
          have hD : va_D A ((sh_ImageReader cI cL cZ ir (.ref im) (.ref bk) irP_16) ++ ((sh_Row cI cL cZ im imEa imn imE imC imO) ++ ((sh_Book cI cL cZ bk bkNa bkN bkSa bkS bkB bkBEa bkBn bkBE bkBC bkBO bkK bkKWa bkKn bkKW bkKTa bkKT bkKC bkV bkVWa bkVn bkVW bkVTa bkVT bkVC bkT)))) := hD.sub [11, 12, 13, 0, 1, 2, 3, 4, 5, 6, 7, 8, 9, 10] (by decide) rfl
          refine lv_istore_n (lv' := [(3, .int r16), (0, .ref ir), (1, .int x1), (2, .int x2)]) hx hb d_ImageReader_readTree_19 rfl hl (by decide) rfl (fun ls hl => ?_)
          refine lv_iload_n hx hb d_ImageReader_readTree_20 rfl (lv_at hl 0 rfl) ?_
          refine lv_iconst (v := 4) hx hb d_ImageReader_readTree_21 (by decide) ?_
          refine lv_icmp_le (tgt := 27) hx hb d_ImageReader_readTree_22 (by decide) (fun h22 => ?_) (fun h22 => ?_)
          · have hd := hd.1 h22
            refine lv_iconst (v := 0) hx hb d_ImageReader_readTree_27 (by decide) ?_
            refine lv_istore (lv' := [(4, .int 0), (3, .int r16), (0, .ref ir), (1, .int x1), (2, .int x2)]) hx hb d_ImageReader_readTree_28 hl (by decide) rfl (fun ls hl => ?_)
            exact ih.2 x1 x2 r16 0 irP_16 bkKW bkKT bkKC _ _ _ (lv_sub hl [2, 3, 4, 1, 0] rfl) hP hD hS hd
          · have hd := hd.2 h22
            refine lv_iconst (v := 0) hx hb d_ImageReader_readTree_25 (by decide) ?_
            obtain ⟨e0, e1, e2, e3, e4⟩ := hd
            subst e0
            subst e1
            subst e2
            subst e3
            subst e4
            exact ct_zret (b := false) hx hb hr hlocks hK hP hD hS d_ImageReader_readTree_26
      · intro x1 x2 x3 x4 irP bkKW bkKT bkKC ls H locs hl hP hD hS hd
        have hd : B_ImageReader_readTree_30 imn bkKn imE imC res irP' bkKW' bkKT' bkKC' (T_ImageReader_readTree imn bkKn imE imC res irP' bkKW' bkKT' bkKC' n) x1 x2 x3 x4 irP bkKW bkKT bkKC := hd
        refine lv_iload hx hb d_ImageReader_readTree_30 (lv_at hl 4 rfl) ?_
        refine lv_iload_n hx hb d_ImageReader_readTree_32 rfl (lv_at hl 3 rfl) ?_
        refine lv_icmp_ge (tgt := 121) hx hb d_ImageReader_readTree_33 (by decide) (fun h33 => ?_) (fun h33 => ?_)
        · have hd := hd.1 h33
          refine lv_iinc (k := 2) (v := x2 + 1) (lv' := [(2, .int (x2 + 1)), (0, .ref ir), (1, .int x1), (3, .int x3), (4, .int x4)]) hx hb d_ImageReader_readTree_121 hl rfl (congrArg (fun z => x2 + z) (by decide)) (by decide) rfl (fun ls hl => ?_)
          refine lv_goto (tgt := 10) hx hb d_ImageReader_readTree_124 (by decide) ?_
          exact ih.1 x1 (x2 + 1) irP bkKW bkKT bkKC _ _ _ (lv_sub hl [1, 2, 0] rfl) hP hD hS hd
        · have hd := hd.2 h33
          refine lv_aload_n hx hb d_ImageReader_readTree_36 rfl (lv_at hl 0 rfl) ?_
          obtain ⟨r37, irP_37, c37, hd⟩ := hd
          refine ct_V (As := []) (rest := []) (C := R_ImageReader) (ci := 5) (q := (R_ImageReader, F_ImageReader, 3)) ⟨hx, hb, hml, hown, hts⟩ fm_ImageReader_next (c_ImageReader_next l dC dI cI cL cZ ir (.ref bk) irP im imEa imn imE imC imO r37 irP_37 c37) k264_methodLink k265_instanceMethod k266_selects ⟨Nat.le_of_ble_eq_true rfl, Nat.le_of_ble_eq_true rfl⟩ rfl rfl hK hN hP hD hS hA [0, 1, 2] [3, 4, 5, 6, 7, 8, 9, 10, 11, 12, 13] rfl rfl rfl (by decide) (by decide) (by decide) 0 rfl rfl rfl rfl hl.1 rfl (Nat.le_of_ble_eq_true rfl) d_ImageReader_readTree_37 (fun H locs hP hD hS => ?_)
          have hP : va_P (dC, dI) classes ((sh_ImageReader cI cL cZ ir (.ref im) (.ref bk) irP_37) ++ ((sh_Row cI cL cZ im imEa imn imE imC imO) ++ ((sh_Book cI cL cZ bk bkNa bkN bkSa bkS bkB bkBEa bkBn bkBE bkBC bkBO bkK bkKWa bkKn bkKW bkKTa bkKT bkKC bkV bkVWa bkVn bkVW bkVTa bkVT bkVC bkT)))) H := hP.sub [11, 12, 13, 0, 1, 2, 3, 4, 5, 6, 7, 8, 9, 10] rfl
          have hD : va_D A ((sh_ImageReader cI cL cZ ir (.ref im) (.ref bk) irP_37) ++ ((sh_Row cI cL cZ im imEa imn imE imC imO) ++ ((sh_Book cI cL cZ bk bkNa bkN bkSa bkS bkB bkBEa bkBn bkBE bkBC bkBO bkK bkKWa bkKn bkKW bkKTa bkKT bkKC bkV bkVWa bkVn bkVW bkVTa bkVT bkVC bkT)))) := hD.sub [11, 12, 13, 0, 1, 2, 3, 4, 5, 6, 7, 8, 9, 10] (by decide) rfl
          refine lv_istore (lv' := [(5, .int r37), (0, .ref ir), (1, .int x1), (2, .int x2), (3, .int x3), (4, .int x4)]) hx hb d_ImageReader_readTree_40 hl (by decide) rfl (fun ls hl => ?_)
          refine lv_iload hx hb d_ImageReader_readTree_42 (lv_at hl 0 rfl) ?_
          refine lv_bipush (v := 8) hx hb d_ImageReader_readTree_44 (by decide) ?_
          refine lv_icmp_le (tgt := 51) hx hb d_ImageReader_readTree_46 (by decide) (fun h46 => ?_) (fun h46 => ?_)
          · have hd := hd.1 h46
            refine lv_aload_n hx hb d_ImageReader_readTree_51 rfl (lv_at hl 1 rfl) ?_
            refine va_get (D := (dC, dI)) (ci := 5) (v := .ref im) (C := R_ImageReader) (T := F_ImageReader) (N := 3) hx hb hts in_ImageReader hown hK hP 0 rfl rfl 0 (by decide) (hts _ (List.mem_cons_of_mem _ k260_fieldLink)) (fun _ h9 => h9) rfl d_ImageReader_readTree_52 ?_
            refine lv_aload_n hx hb d_ImageReader_readTree_55 rfl (lv_at hl 1 rfl) ?_
            refine va_get (D := (dC, dI)) (ci := 5) (v := .int irP_37) (C := R_ImageReader) (T := F_ImageReader) (N := 3) hx hb hts in_ImageReader hown hK hP 0 rfl rfl 2 (by decide) (hts _ (List.mem_cons_of_mem _ k261_fieldLink)) (fun _ h9 => h9) rfl d_ImageReader_readTree_56 ?_
            refine lv_aload_n hx hb d_ImageReader_readTree_59 rfl (lv_at hl 1 rfl) ?_
            refine va_get (D := (dC, dI)) (ci := 5) (v := .int irP_37) (C := R_ImageReader) (T := F_ImageReader) (N := 3) hx hb hts in_ImageReader hown hK hP 0 rfl rfl 2 (by decide) (hts _ (List.mem_cons_of_mem _ k261_fieldLink)) (fun _ h9 => h9) rfl d_ImageReader_readTree_60 ?_
            refine lv_iload hx hb d_ImageReader_readTree_63 (lv_at hl 0 rfl) ?_
            refine lv_iadd hx hb d_ImageReader_readTree_65 ?_
            obtain ⟨r66, c66, hd⟩ := hd
            refine ct_SR (As := [.ref im, .int irP_37, .int (irP_37 + r37)]) (rest := []) ⟨hx, hb, hml, hown, hts⟩ fm_Letters_word (c_Letters_word l dC dI cI cL cZ im imEa imn imE imC imO irP_37 (irP_37 + r37) r66 c66) k274_methodLink k86_static ⟨Nat.le_of_ble_eq_true rfl, Nat.le_of_ble_eq_true rfl⟩ rfl rfl hK hN hP hD [1, 2] rfl rfl (by decide) rfl hl.1 rfl (Nat.le_of_ble_eq_true rfl) d_ImageReader_readTree_66 ?_
            refine lv_lstore (lv' := [(6, .long r66), (5, .int r37), (0, .ref ir), (1, .int x1), (2, .int x2), (3, .int x3), (4, .int x4)]) hx hb d_ImageReader_readTree_69 hl (by decide) rfl (fun ls hl => ?_)
            refine lv_aload_n hx hb d_ImageReader_readTree_71 rfl (lv_at hl 2 rfl) ?_
            refine lv_dup hx hb d_ImageReader_readTree_72 rfl ?_
            refine va_get (D := (dC, dI)) (ci := 5) (v := .int irP_37) (C := R_ImageReader) (T := F_ImageReader) (N := 3) hx hb hts in_ImageReader hown hK hP 0 rfl rfl 2 (by decide) (hts _ (List.mem_cons_of_mem _ k261_fieldLink)) (fun _ h9 => h9) rfl d_ImageReader_readTree_73 ?_
            refine lv_iload hx hb d_ImageReader_readTree_76 (lv_at hl 1 rfl) ?_
            refine lv_iadd hx hb d_ImageReader_readTree_78 ?_
            refine va_put (D := (dC, dI)) (ci := 5) (v := .int (irP_37 + r37)) (ty := t_ImageReader 2) (C := R_ImageReader) (T := F_ImageReader) (N := 3) hx hb hts in_ImageReader t_ImageReader t_ImageReader_ok n_ImageReader hown hK hP hD hS 0 rfl rfl 2 (by decide) (hts _ (List.mem_cons_of_mem _ k261_fieldLink)) (fun _ h9 => h9) rfl (t_ImageReader_ok 2 (by decide)) rfl rfl (Nat.le_of_ble_eq_true rfl) d_ImageReader_readTree_79 (fun H locs hP hD hS => ?_)
            have hP : va_P (dC, dI) classes ((sh_ImageReader cI cL cZ ir (.ref im) (.ref bk) (irP_37 + r37)) ++ ((sh_Row cI cL cZ im imEa imn imE imC imO) ++ ((sh_Book cI cL cZ bk bkNa bkN bkSa bkS bkB bkBEa bkBn bkBE bkBC bkBO bkK bkKWa bkKn bkKW bkKTa bkKT bkKC bkV bkVWa bkVn bkVW bkVTa bkVT bkVC bkT)))) H := hP
            have hD : va_D A ((sh_ImageReader cI cL cZ ir (.ref im) (.ref bk) (irP_37 + r37)) ++ ((sh_Row cI cL cZ im imEa imn imE imC imO) ++ ((sh_Book cI cL cZ bk bkNa bkN bkSa bkS bkB bkBEa bkBn bkBE bkBC bkBO bkK bkKWa bkKn bkKW bkKTa bkKT bkKC bkV bkVWa bkVn bkVW bkVTa bkVT bkVC bkT)))) := hD
            refine lv_aload_n hx hb d_ImageReader_readTree_82 rfl (lv_at hl 2 rfl) ?_
            refine va_get (D := (dC, dI)) (ci := 5) (v := .ref bk) (C := R_ImageReader) (T := F_ImageReader) (N := 3) hx hb hts in_ImageReader hown hK hP 0 rfl rfl 1 (by decide) (hts _ (List.mem_cons_of_mem _ k267_fieldLink)) (fun _ h9 => h9) rfl d_ImageReader_readTree_83 ?_
            refine ct_VR (As := []) (rest := []) (C := R_Book) (ci := 3) (q := (R_Book, F_Book, 6)) ⟨hx, hb, hml, hown, hts⟩ fm_Book_keywords (c_Book_keywords l dC dI cI cL cZ bk bkNa bkN bkSa bkS bkB bkBEa bkBn bkBE bkBC bkBO bkK bkKWa bkKn bkKW bkKTa bkKT bkKC bkV bkVWa bkVn bkVW bkVTa bkVT bkVC bkT trivial) k275_methodLink k243_instanceMethod k244_selects ⟨Nat.le_of_ble_eq_true rfl, Nat.le_of_ble_eq_true rfl⟩ rfl rfl hK hN hP hD [3, 4, 5, 6, 7, 8, 9, 10, 11, 12, 13] rfl rfl (by decide) 3 rfl rfl rfl rfl hl.1 rfl (Nat.le_of_ble_eq_true rfl) d_ImageReader_readTree_86 ?_
            refine lv_lload hx hb d_ImageReader_readTree_89 (lv_at hl 0 rfl) ?_
            refine lv_aload_n hx hb d_ImageReader_readTree_91 rfl (lv_at hl 2 rfl) ?_
            refine va_get (D := (dC, dI)) (ci := 5) (v := .ref im) (C := R_ImageReader) (T := F_ImageReader) (N := 3) hx hb hts in_ImageReader hown hK hP 0 rfl rfl 0 (by decide) (hts _ (List.mem_cons_of_mem _ k260_fieldLink)) (fun _ h9 => h9) rfl d_ImageReader_readTree_92 ?_
            refine lv_aload_n hx hb d_ImageReader_readTree_95 rfl (lv_at hl 2 rfl) ?_
            refine va_get (D := (dC, dI)) (ci := 5) (v := .int (irP_37 + r37)) (C := R_ImageReader) (T := F_ImageReader) (N := 3) hx hb hts in_ImageReader hown hK hP 0 rfl rfl 2 (by decide) (hts _ (List.mem_cons_of_mem _ k261_fieldLink)) (fun _ h9 => h9) rfl d_ImageReader_readTree_96 ?_
            obtain ⟨r99, c99, hd⟩ := hd
            refine ct_VR (As := [.int (irP_37 + r37)]) (rest := [.long r66, .ref bkK]) (C := R_Row) (ci := 1) (q := (R_Row, F_Row, 3)) ⟨hx, hb, hml, hown, hts⟩ fm_Row_pair (c_Row_pair l dC dI cI cL cZ im imEa imn imE imC imO (irP_37 + r37) r99 c99) k276_methodLink k277_instanceMethod k278_selects ⟨Nat.le_of_ble_eq_true rfl, Nat.le_of_ble_eq_true rfl⟩ rfl rfl hK hN hP hD [1, 2] rfl rfl (by decide) 1 rfl rfl rfl rfl hl.1 rfl (Nat.le_of_ble_eq_true rfl) d_ImageReader_readTree_99 ?_
            obtain ⟨bkKW_102, bkKT_102, bkKC_102, c102, hd⟩ := hd
            refine ct_V (As := [.long r66, .int r99]) (rest := []) (C := R_WordList) (ci := 2) (q := (R_WordList, F_WordList, 3)) ⟨hx, hb, hml, hown, hts⟩ fm_WordList_note (c_WordList_note l dC dI cI cL cZ bkK bkKWa bkKn bkKW bkKTa bkKT bkKC r66 r99 bkKW_102 bkKT_102 bkKC_102 c102) k279_methodLink k71_instanceMethod k72_selects ⟨Nat.le_of_ble_eq_true rfl, Nat.le_of_ble_eq_true rfl⟩ rfl rfl hK hN hP hD hS hA [8, 9, 10] [0, 1, 2, 3, 4, 5, 6, 7, 11, 12, 13] rfl rfl rfl (by decide) (by decide) (by decide) 8 rfl rfl rfl rfl hl.1 rfl (Nat.le_of_ble_eq_true rfl) d_ImageReader_readTree_102 (fun H locs hP hD hS => ?_)
            have hP : va_P (dC, dI) classes ((sh_ImageReader cI cL cZ ir (.ref im) (.ref bk) (irP_37 + r37)) ++ ((sh_Row cI cL cZ im imEa imn imE imC imO) ++ ((sh_Book cI cL cZ bk bkNa bkN bkSa bkS bkB bkBEa bkBn bkBE bkBC bkBO bkK bkKWa bkKn bkKW_102 bkKTa bkKT_102 bkKC_102 bkV bkVWa bkVn bkVW bkVTa bkVT bkVC bkT)))) H := hP.sub [0, 1, 2, 3, 4, 5, 6, 7, 11, 12, 13, 8, 9, 10] rfl
            have hD : va_D A ((sh_ImageReader cI cL cZ ir (.ref im) (.ref bk) (irP_37 + r37)) ++ ((sh_Row cI cL cZ im imEa imn imE imC imO) ++ ((sh_Book cI cL cZ bk bkNa bkN bkSa bkS bkB bkBEa bkBn bkBE bkBC bkBO bkK bkKWa bkKn bkKW_102 bkKTa bkKT_102 bkKC_102 bkV bkVWa bkVn bkVW bkVTa bkVT bkVC bkT)))) := hD.sub [0, 1, 2, 3, 4, 5, 6, 7, 11, 12, 13, 8, 9, 10] (by decide) rfl
            refine lv_aload_n hx hb d_ImageReader_readTree_105 rfl (lv_at hl 2 rfl) ?_
            refine lv_dup hx hb d_ImageReader_readTree_106 rfl ?_
            refine va_get (D := (dC, dI)) (ci := 5) (v := .int (irP_37 + r37)) (C := R_ImageReader) (T := F_ImageReader) (N := 3) hx hb hts in_ImageReader hown hK hP 0 rfl rfl 2 (by decide) (hts _ (List.mem_cons_of_mem _ k261_fieldLink)) (fun _ h9 => h9) rfl d_ImageReader_readTree_107 ?_
            refine lv_iconst (v := 2) hx hb d_ImageReader_readTree_110 (by decide) ?_
            refine lv_iadd hx hb d_ImageReader_readTree_111 ?_
            refine va_put (D := (dC, dI)) (ci := 5) (v := .int ((irP_37 + r37) + 2)) (ty := t_ImageReader 2) (C := R_ImageReader) (T := F_ImageReader) (N := 3) hx hb hts in_ImageReader t_ImageReader t_ImageReader_ok n_ImageReader hown hK hP hD hS 0 rfl rfl 2 (by decide) (hts _ (List.mem_cons_of_mem _ k261_fieldLink)) (fun _ h9 => h9) rfl (t_ImageReader_ok 2 (by decide)) rfl rfl (Nat.le_of_ble_eq_true rfl) d_ImageReader_readTree_112 (fun H locs hP hD hS => ?_)
            have hP : va_P (dC, dI) classes ((sh_ImageReader cI cL cZ ir (.ref im) (.ref bk) ((irP_37 + r37) + 2)) ++ ((sh_Row cI cL cZ im imEa imn imE imC imO) ++ ((sh_Book cI cL cZ bk bkNa bkN bkSa bkS bkB bkBEa bkBn bkBE bkBC bkBO bkK bkKWa bkKn bkKW_102 bkKTa bkKT_102 bkKC_102 bkV bkVWa bkVn bkVW bkVTa bkVT bkVC bkT)))) H := hP
            have hD : va_D A ((sh_ImageReader cI cL cZ ir (.ref im) (.ref bk) ((irP_37 + r37) + 2)) ++ ((sh_Row cI cL cZ im imEa imn imE imC imO) ++ ((sh_Book cI cL cZ bk bkNa bkN bkSa bkS bkB bkBEa bkBn bkBE bkBC bkBO bkK bkKWa bkKn bkKW_102 bkKTa bkKT_102 bkKC_102 bkV bkVWa bkVn bkVW bkVTa bkVT bkVC bkT)))) := hD
            refine lv_iinc (k := 6) (v := x4 + 1) (lv' := [(4, .int (x4 + 1)), (6, .long r66), (5, .int r37), (0, .ref ir), (1, .int x1), (2, .int x2), (3, .int x3)]) hx hb d_ImageReader_readTree_115 hl rfl (congrArg (fun z => x4 + z) (by decide)) (by decide) rfl (fun ls hl => ?_)
            refine lv_goto (tgt := 30) hx hb d_ImageReader_readTree_118 (by decide) ?_
            exact ih.2 x1 x2 x3 (x4 + 1) ((irP_37 + r37) + 2) bkKW_102 bkKT_102 bkKC_102 _ _ _ (lv_sub hl [3, 4, 5, 6, 0] rfl) hP hD hS hd
          · have hd := hd.2 h46
            refine lv_iconst (v := 0) hx hb d_ImageReader_readTree_49 (by decide) ?_
            obtain ⟨e0, e1, e2, e3, e4⟩ := hd
            subst e0
            subst e1
            subst e2
            subst e3
            subst e4
            exact ct_zret (b := false) hx hb hr hlocks hK hP hD hS d_ImageReader_readTree_50
  obtain ⟨n, hd⟩ := hd
  refine lv_aload_n hx hb d_ImageReader_readTree_0 rfl (lv_at hl 0 rfl) ?_
  obtain ⟨r1, irP_1, c1, hd⟩ := hd
  refine ct_V (As := []) (rest := []) (C := R_ImageReader) (ci := 5) (q := (R_ImageReader, F_ImageReader, 3)) ⟨hx, hb, hml, hown, hts⟩ fm_ImageReader_next (c_ImageReader_next l dC dI cI cL cZ ir (.ref bk) irP im imEa imn imE imC imO r1 irP_1 c1) k264_methodLink k265_instanceMethod k266_selects ⟨Nat.le_of_ble_eq_true rfl, Nat.le_of_ble_eq_true rfl⟩ rfl rfl hK hN hP hD hS hA [0, 1, 2] [3, 4, 5, 6, 7, 8, 9, 10, 11, 12, 13] rfl rfl rfl (by decide) (by decide) (by decide) 0 rfl rfl rfl rfl hl.1 rfl (Nat.le_of_ble_eq_true rfl) d_ImageReader_readTree_1 (fun H locs hP hD hS => ?_)
  have hP : va_P (dC, dI) classes ((sh_ImageReader cI cL cZ ir (.ref im) (.ref bk) irP_1) ++ ((sh_Row cI cL cZ im imEa imn imE imC imO) ++ ((sh_Book cI cL cZ bk bkNa bkN bkSa bkS bkB bkBEa bkBn bkBE bkBC bkBO bkK bkKWa bkKn bkKW bkKTa bkKT bkKC bkV bkVWa bkVn bkVW bkVTa bkVT bkVC bkT)))) H := hP.sub [11, 12, 13, 0, 1, 2, 3, 4, 5, 6, 7, 8, 9, 10] rfl
  have hD : va_D A ((sh_ImageReader cI cL cZ ir (.ref im) (.ref bk) irP_1) ++ ((sh_Row cI cL cZ im imEa imn imE imC imO) ++ ((sh_Book cI cL cZ bk bkNa bkN bkSa bkS bkB bkBEa bkBn bkBE bkBC bkBO bkK bkKWa bkKn bkKW bkKTa bkKT bkKC bkV bkVWa bkVn bkVW bkVTa bkVT bkVC bkT)))) := hD.sub [11, 12, 13, 0, 1, 2, 3, 4, 5, 6, 7, 8, 9, 10] (by decide) rfl
  obtain ⟨r4, c4, hd⟩ := hd
  refine ct_SR (As := [.int r1]) (rest := []) ⟨hx, hb, hml, hown, hts⟩ fm_Tree_leaves (c_Tree_leaves l dC dI cI cL cZ r1 r4 c4) k272_methodLink k273_static ⟨Nat.le_of_ble_eq_true rfl, Nat.le_of_ble_eq_true rfl⟩ rfl rfl hK hN hP hD [] rfl rfl (by decide) rfl hl.1 rfl (Nat.le_of_ble_eq_true rfl) d_ImageReader_readTree_4 ?_
  refine lv_istore_n (lv' := [(1, .int r4), (0, .ref ir)]) hx hb d_ImageReader_readTree_7 rfl hl (by decide) rfl (fun ls hl => ?_)
  refine lv_iconst (v := 0) hx hb d_ImageReader_readTree_8 (by decide) ?_
  refine lv_istore_n (lv' := [(2, .int 0), (1, .int r4), (0, .ref ir)]) hx hb d_ImageReader_readTree_9 rfl hl (by decide) rfl (fun ls hl => ?_)
  exact (key n).1 r4 0 irP_1 bkKW bkKT bkKC _ _ _ (lv_sub hl [2, 1, 0] rfl) hP hD hS hd
-- ImageReader.read
abbrev b_ImageReader_read : ByteArray := prog_4_method_2_code
def y_ImageReader_read : MethodName := ⟨"HelpFile$ImageReader", "read", "(LHelpFile$Row;LHelpFile$Book;)Z"⟩
theorem k280_methodLink : Cond.methodLink "HelpFile$ImageReader" 23 ⟨"HelpFile$Book", "clear", "()V"⟩ ∈ ga := ga_t 572 (by decide +kernel) rfl
theorem k281_methodLink : Cond.methodLink "HelpFile$ImageReader" 51 ⟨"HelpFile$ImageReader", "readTree", "()Z"⟩ ∈ ga := ga_t 593 (by decide +kernel) rfl
theorem k282_instanceMethod : Cond.instanceMethod ⟨"HelpFile$ImageReader", "readTree", "()Z"⟩ ∈ ga := ga_t 595 (by decide +kernel) rfl
theorem k283_selects : Cond.selects "HelpFile$ImageReader" ⟨"HelpFile$ImageReader", "readTree", "()Z"⟩ ⟨"HelpFile$ImageReader", "readTree", "()Z"⟩ ∈ ga := ga_s (q := (⟨"HelpFile$ImageReader", "readTree", "()Z"⟩, _)) 19 rfl
theorem k284_methodLink : Cond.methodLink "HelpFile$ImageReader" 40 ⟨"HelpFile$Book", "beginTopic", "(J)V"⟩ ∈ ga := ga_t 575 (by decide +kernel) rfl
theorem k285_methodLink : Cond.methodLink "HelpFile$ImageReader" 47 ⟨"HelpFile$ImageReader", "unpack", "(II)Z"⟩ ∈ ga := ga_t 581 (by decide +kernel) rfl
theorem k286_instanceMethod : Cond.instanceMethod ⟨"HelpFile$ImageReader", "unpack", "(II)Z"⟩ ∈ ga := ga_t 583 (by decide +kernel) rfl
theorem k287_selects : Cond.selects "HelpFile$ImageReader" ⟨"HelpFile$ImageReader", "unpack", "(II)Z"⟩ ⟨"HelpFile$ImageReader", "unpack", "(II)Z"⟩ ∈ ga := ga_s (q := (⟨"HelpFile$ImageReader", "unpack", "(II)Z"⟩, _)) 17 rfl
set_option maxRecDepth 100000 in
theorem fm_ImageReader_read : Fm y_ImageReader_read b_ImageReader_read 6 (some .boolean) 2 := ⟨ga_t 571 rfl rfl, k263_initialized, by decide, by decide, by decide +kernel⟩
def B_ImageReader_read_52 (imn : Nat) (bkBn : Nat) (bkKn : Nat) (imE : Nat → Int32) (imC : Int32) (res : Bool) (irP' : Int32) (bkN' : Nat → Int64) (bkS' : Nat → Int32) (bkBE' : Nat → Int32) (bkBC' : Int32) (bkBO' : Bool) (bkKW' : Nat → Int64) (bkKT' : Nat → Int32) (bkKC' : Int32) (bkT' : Int32) (X : Int32 → Int32 → Int32 → (Nat → Int64) → (Nat → Int32) → (Nat → Int32) → Int32 → Bool → (Nat → Int64) → (Nat → Int32) → Int32 → Int32 → Prop) (x3 : Int32) (x4 : Int32) (irP : Int32) (bkN : Nat → Int64) (bkS : Nat → Int32) (bkBE : Nat → Int32) (bkBC : Int32) (bkBO : Bool) (bkKW : Nat → Int64) (bkKT : Nat → Int32) (bkKC : Int32) (bkT : Int32) : Prop := ((x3 ≤ x4 → (∃ r118 : Bool, ∃ irP_118 : Int32, ∃ bkKW_118 : Nat → Int64, ∃ bkKT_118 : Nat → Int32, ∃ bkKC_118 : Int32, D_ImageReader_readTree imn bkKn irP imE imC bkKW bkKT bkKC r118 irP_118 bkKW_118 bkKT_118 bkKC_118 ∧ (res = r118 ∧ irP' = irP_118 ∧ bkN' = bkN ∧ bkS' = bkS ∧ bkBE' = bkBE ∧ bkBC' = bkBC ∧ bkBO' = bkBO ∧ bkKW' = bkKW_118 ∧ bkKT' = bkKT_118 ∧ bkKC' = bkKC_118 ∧ bkT' = bkT))) ∧ (¬ (x3 ≤ x4) → (∃ r82 : Int64, D_Letters_word imn (2 + (10 * x4)) ((2 + (10 * x4)) + 6) imE imC r82 ∧ (∃ bkN_85 : Nat → Int64, ∃ bkS_85 : Nat → Int32, ∃ bkT_85 : Int32, D_Book_beginTopic r82 bkN bkS bkBC bkT bkN_85 bkS_85 bkT_85 ∧ (∃ r100 : Int32, D_Row_pair imn ((2 + (10 * x4)) + 8) imE imC r100 ∧ (∃ r103 : Bool, ∃ irP_103 : Int32, ∃ bkS_103 : Nat → Int32, ∃ bkBE_103 : Nat → Int32, ∃ bkBC_103 : Int32, ∃ bkBO_103 : Bool, D_ImageReader_unpack imn bkBn x4 r100 irP imE imC bkS_85 bkBE bkBC bkBO bkT_85 r103 irP_103 bkS_103 bkBE_103 bkBC_103 bkBO_103 ∧ (((bI r103) = 0 → (res = false ∧ irP' = irP_103 ∧ bkN' = bkN_85 ∧ bkS' = bkS_103 ∧ bkBE' = bkBE_103 ∧ bkBC' = bkBC_103 ∧ bkBO' = bkBO_103 ∧ bkKW' = bkKW ∧ bkKT' = bkKT ∧ bkKC' = bkKC ∧ bkT' = bkT_85)) ∧ (¬ ((bI r103) = 0) → X x3 (x4 + 1) irP_103 bkN_85 bkS_103 bkBE_103 bkBC_103 bkBO_103 bkKW bkKT bkKC bkT_85))))))))
def S_ImageReader_read (imn : Nat) (bkBn : Nat) (bkKn : Nat) (imE : Nat → Int32) (imC : Int32) (res : Bool) (irP' : Int32) (bkN' : Nat → Int64) (bkS' : Nat → Int32) (bkBE' : Nat → Int32) (bkBC' : Int32) (bkBO' : Bool) (bkKW' : Nat → Int64) (bkKT' : Nat → Int32) (bkKC' : Int32) (bkT' : Int32) (X : Int32 → Int32 → Int32 → (Nat → Int64) → (Nat → Int32) → (Nat → Int32) → Int32 → Bool → (Nat → Int64) → (Nat → Int32) → Int32 → Int32 → Prop) : Int32 → Int32 → Int32 → (Nat → Int64) → (Nat → Int32) → (Nat → Int32) → Int32 → Bool → (Nat → Int64) → (Nat → Int32) → Int32 → Int32 → Prop := fun x3 x4 irP bkN bkS bkBE bkBC bkBO bkKW bkKT bkKC bkT => B_ImageReader_read_52 imn bkBn bkKn imE imC res irP' bkN' bkS' bkBE' bkBC' bkBO' bkKW' bkKT' bkKC' bkT' X x3 x4 irP bkN bkS bkBE bkBC bkBO bkKW bkKT bkKC bkT
def T_ImageReader_read (imn : Nat) (bkBn : Nat) (bkKn : Nat) (imE : Nat → Int32) (imC : Int32) (res : Bool) (irP' : Int32) (bkN' : Nat → Int64) (bkS' : Nat → Int32) (bkBE' : Nat → Int32) (bkBC' : Int32) (bkBO' : Bool) (bkKW' : Nat → Int64) (bkKT' : Nat → Int32) (bkKC' : Int32) (bkT' : Int32) : Nat → (Int32 → Int32 → Int32 → (Nat → Int64) → (Nat → Int32) → (Nat → Int32) → Int32 → Bool → (Nat → Int64) → (Nat → Int32) → Int32 → Int32 → Prop)
  | 0 => fun _ _ _ _ _ _ _ _ _ _ _ _ => False
  | n + 1 => S_ImageReader_read imn bkBn bkKn imE imC res irP' bkN' bkS' bkBE' bkBC' bkBO' bkKW' bkKT' bkKC' bkT' (T_ImageReader_read imn bkBn bkKn imE imC res irP' bkN' bkS' bkBE' bkBC' bkBO' bkKW' bkKT' bkKC' bkT' n)
def D_ImageReader_read (imn : Nat) (bkBn : Nat) (bkKn : Nat) (irP : Int32) (imE : Nat → Int32) (imC : Int32) (bkN : Nat → Int64) (bkS : Nat → Int32) (bkBE : Nat → Int32) (bkBC : Int32) (bkBO : Bool) (bkKW : Nat → Int64) (bkKT : Nat → Int32) (bkKC : Int32) (bkT : Int32) (res : Bool) (irP' : Int32) (bkN' : Nat → Int64) (bkS' : Nat → Int32) (bkBE' : Nat → Int32) (bkBC' : Int32) (bkBO' : Bool) (bkKW' : Nat → Int64) (bkKT' : Nat → Int32) (bkKC' : Int32) (bkT' : Int32) : Prop := ∃ n : Nat, (∃ bkBC_14 : Int32, ∃ bkBO_14 : Bool, ∃ bkKC_14 : Int32, ∃ bkT_14 : Int32, D_Book_clear bkBC bkBO bkKC bkT bkBC_14 bkBO_14 bkKC_14 bkT_14 ∧ (∃ r22 : Int32, D_Row_element imn 1 imE imC r22 ∧ ((r22 < 1 → (res = false ∧ irP' = irP ∧ bkN' = bkN ∧ bkS' = bkS ∧ bkBE' = bkBE ∧ bkBC' = bkBC_14 ∧ bkBO' = bkBO_14 ∧ bkKW' = bkKW ∧ bkKT' = bkKT ∧ bkKC' = bkKC_14 ∧ bkT' = bkT_14)) ∧ (¬ (r22 < 1) → ((r22 ≤ 10 → T_ImageReader_read imn bkBn bkKn imE imC res irP' bkN' bkS' bkBE' bkBC' bkBO' bkKW' bkKT' bkKC' bkT' n r22 0 (2 + (10 * r22)) bkN bkS bkBE bkBC_14 bkBO_14 bkKW bkKT bkKC_14 bkT_14) ∧ (¬ (r22 ≤ 10) → (res = false ∧ irP' = irP ∧ bkN' = bkN ∧ bkS' = bkS ∧ bkBE' = bkBE ∧ bkBC' = bkBC_14 ∧ bkBO' = bkBO_14 ∧ bkKW' = bkKW ∧ bkKT' = bkKT ∧ bkKC' = bkKC_14 ∧ bkT' = bkT_14)))))))
theorem d_ImageReader_read_0 : decode b_ImageReader_read 0 = .ok (.aload_n 0, 1) := by decide +kernel
theorem d_ImageReader_read_1 : decode b_ImageReader_read 1 = .ok (.aload_n 1, 1) := by decide +kernel
theorem d_ImageReader_read_2 : decode b_ImageReader_read 2 = .ok (.putfield 9, 3) := by decide +kernel
theorem d_ImageReader_read_5 : decode b_ImageReader_read 5 = .ok (.aload_n 0, 1) := by decide +kernel
theorem d_ImageReader_read_6 : decode b_ImageReader_read 6 = .ok (.aload_n 2, 1) := by decide +kernel
theorem d_ImageReader_read_7 : decode b_ImageReader_read 7 = .ok (.putfield 15, 3) := by decide +kernel
theorem d_ImageReader_read_10 : decode b_ImageReader_read 10 = .ok (.aload_n 0, 1) := by decide +kernel
theorem d_ImageReader_read_11 : decode b_ImageReader_read 11 = .ok (.getfield 15, 3) := by decide +kernel
theorem d_ImageReader_read_14 : decode b_ImageReader_read 14 = .ok (.invokevirtual 23, 3) := by decide +kernel
theorem d_ImageReader_read_17 : decode b_ImageReader_read 17 = .ok (.aload_n 0, 1) := by decide +kernel
theorem d_ImageReader_read_18 : decode b_ImageReader_read 18 = .ok (.getfield 9, 3) := by decide +kernel
theorem d_ImageReader_read_21 : decode b_ImageReader_read 21 = .ok (.iconst 1, 1) := by decide +kernel
theorem d_ImageReader_read_22 : decode b_ImageReader_read 22 = .ok (.invokevirtual 28, 3) := by decide +kernel
theorem d_ImageReader_read_25 : decode b_ImageReader_read 25 = .ok (.istore_n 3, 1) := by decide +kernel
theorem d_ImageReader_read_26 : decode b_ImageReader_read 26 = .ok (.iload_n 3, 1) := by decide +kernel
theorem d_ImageReader_read_27 : decode b_ImageReader_read 27 = .ok (.iconst 1, 1) := by decide +kernel
theorem d_ImageReader_read_28 : decode b_ImageReader_read 28 = .ok (.if_icmp .lt 9, 3) := by decide +kernel
theorem d_ImageReader_read_31 : decode b_ImageReader_read 31 = .ok (.iload_n 3, 1) := by decide +kernel
theorem d_ImageReader_read_32 : decode b_ImageReader_read 32 = .ok (.bipush 10, 2) := by decide +kernel
theorem d_ImageReader_read_34 : decode b_ImageReader_read 34 = .ok (.if_icmp .le 5, 3) := by decide +kernel
theorem d_ImageReader_read_37 : decode b_ImageReader_read 37 = .ok (.iconst 0, 1) := by decide +kernel
theorem d_ImageReader_read_38 : decode b_ImageReader_read 38 = .ok (.ireturn, 1) := by decide +kernel
theorem d_ImageReader_read_39 : decode b_ImageReader_read 39 = .ok (.aload_n 0, 1) := by decide +kernel
theorem d_ImageReader_read_40 : decode b_ImageReader_read 40 = .ok (.iconst 2, 1) := by decide +kernel
theorem d_ImageReader_read_41 : decode b_ImageReader_read 41 = .ok (.bipush 10, 2) := by decide +kernel
theorem d_ImageReader_read_43 : decode b_ImageReader_read 43 = .ok (.iload_n 3, 1) := by decide +kernel
theorem d_ImageReader_read_44 : decode b_ImageReader_read 44 = .ok (.imul, 1) := by decide +kernel
theorem d_ImageReader_read_45 : decode b_ImageReader_read 45 = .ok (.iadd, 1) := by decide +kernel
theorem d_ImageReader_read_46 : decode b_ImageReader_read 46 = .ok (.putfield 19, 3) := by decide +kernel
theorem d_ImageReader_read_49 : decode b_ImageReader_read 49 = .ok (.iconst 0, 1) := by decide +kernel
theorem d_ImageReader_read_50 : decode b_ImageReader_read 50 = .ok (.istore 4, 2) := by decide +kernel
theorem d_ImageReader_read_52 : decode b_ImageReader_read 52 = .ok (.iload 4, 2) := by decide +kernel
theorem d_ImageReader_read_54 : decode b_ImageReader_read 54 = .ok (.iload_n 3, 1) := by decide +kernel
theorem d_ImageReader_read_55 : decode b_ImageReader_read 55 = .ok (.if_icmp .ge 62, 3) := by decide +kernel
theorem d_ImageReader_read_58 : decode b_ImageReader_read 58 = .ok (.iconst 2, 1) := by decide +kernel
theorem d_ImageReader_read_59 : decode b_ImageReader_read 59 = .ok (.bipush 10, 2) := by decide +kernel
theorem d_ImageReader_read_61 : decode b_ImageReader_read 61 = .ok (.iload 4, 2) := by decide +kernel
theorem d_ImageReader_read_63 : decode b_ImageReader_read 63 = .ok (.imul, 1) := by decide +kernel
theorem d_ImageReader_read_64 : decode b_ImageReader_read 64 = .ok (.iadd, 1) := by decide +kernel
theorem d_ImageReader_read_65 : decode b_ImageReader_read 65 = .ok (.istore 5, 2) := by decide +kernel
theorem d_ImageReader_read_67 : decode b_ImageReader_read 67 = .ok (.aload_n 0, 1) := by decide +kernel
theorem d_ImageReader_read_68 : decode b_ImageReader_read 68 = .ok (.getfield 15, 3) := by decide +kernel
theorem d_ImageReader_read_71 : decode b_ImageReader_read 71 = .ok (.aload_n 0, 1) := by decide +kernel
theorem d_ImageReader_read_72 : decode b_ImageReader_read 72 = .ok (.getfield 9, 3) := by decide +kernel
theorem d_ImageReader_read_75 : decode b_ImageReader_read 75 = .ok (.iload 5, 2) := by decide +kernel
theorem d_ImageReader_read_77 : decode b_ImageReader_read 77 = .ok (.iload 5, 2) := by decide +kernel
theorem d_ImageReader_read_79 : decode b_ImageReader_read 79 = .ok (.bipush 6, 2) := by decide +kernel
theorem d_ImageReader_read_81 : decode b_ImageReader_read 81 = .ok (.iadd, 1) := by decide +kernel
theorem d_ImageReader_read_82 : decode b_ImageReader_read 82 = .ok (.invokestatic 34, 3) := by decide +kernel
theorem d_ImageReader_read_85 : decode b_ImageReader_read 85 = .ok (.invokevirtual 40, 3) := by decide +kernel
theorem d_ImageReader_read_88 : decode b_ImageReader_read 88 = .ok (.aload_n 0, 1) := by decide +kernel
theorem d_ImageReader_read_89 : decode b_ImageReader_read 89 = .ok (.iload 4, 2) := by decide +kernel
theorem d_ImageReader_read_91 : decode b_ImageReader_read 91 = .ok (.aload_n 0, 1) := by decide +kernel
theorem d_ImageReader_read_92 : decode b_ImageReader_read 92 = .ok (.getfield 9, 3) := by decide +kernel
theorem d_ImageReader_read_95 : decode b_ImageReader_read 95 = .ok (.iload 5, 2) := by decide +kernel
theorem d_ImageReader_read_97 : decode b_ImageReader_read 97 = .ok (.bipush 8, 2) := by decide +kernel
theorem d_ImageReader_read_99 : decode b_ImageReader_read 99 = .ok (.iadd, 1) := by decide +kernel
theorem d_ImageReader_read_100 : decode b_ImageReader_read 100 = .ok (.invokevirtual 44, 3) := by decide +kernel
theorem d_ImageReader_read_103 : decode b_ImageReader_read 103 = .ok (.invokevirtual 47, 3) := by decide +kernel
theorem d_ImageReader_read_106 : decode b_ImageReader_read 106 = .ok (.ifCond .ne 5, 3) := by decide +kernel
theorem d_ImageReader_read_109 : decode b_ImageReader_read 109 = .ok (.iconst 0, 1) := by decide +kernel
theorem d_ImageReader_read_110 : decode b_ImageReader_read 110 = .ok (.ireturn, 1) := by decide +kernel
theorem d_ImageReader_read_111 : decode b_ImageReader_read 111 = .ok (.iinc 4 1, 3) := by decide +kernel
theorem d_ImageReader_read_114 : decode b_ImageReader_read 114 = .ok (.goto (-62), 3) := by decide +kernel
theorem d_ImageReader_read_117 : decode b_ImageReader_read 117 = .ok (.aload_n 0, 1) := by decide +kernel
theorem d_ImageReader_read_118 : decode b_ImageReader_read 118 = .ok (.invokevirtual 51, 3) := by decide +kernel
theorem d_ImageReader_read_121 : decode b_ImageReader_read 121 = .ok (.ireturn, 1) := by decide +kernel
set_option maxHeartbeats 4000000 in
set_option maxRecDepth 100000 in
theorem c_ImageReader_read (l : Launch) (dC : Nat → ClassId) (dI : Nat → Nat → Nat) (cI cL cZ : ClassId) (ir : Nat) (irI : Value) (irB : Value) (irP : Int32) (im : Nat) (imEa : Nat) (imn : Nat) (imE : Nat → Int32) (imC : Int32) (imO : Bool) (bk : Nat) (bkNa : Nat) (bkN : Nat → Int64) (bkSa : Nat) (bkS : Nat → Int32) (bkB : Nat) (bkBEa : Nat) (bkBn : Nat) (bkBE : Nat → Int32) (bkBC : Int32) (bkBO : Bool) (bkK : Nat) (bkKWa : Nat) (bkKn : Nat) (bkKW : Nat → Int64) (bkKTa : Nat) (bkKT : Nat → Int32) (bkKC : Int32) (bkV : Nat) (bkVWa : Nat) (bkVn : Nat) (bkVW : Nat → Int64) (bkVTa : Nat) (bkVT : Nat → Int32) (bkVC : Int32) (bkT : Int32) (res : Bool) (irP' : Int32) (bkN' : Nat → Int64) (bkS' : Nat → Int32) (bkBE' : Nat → Int32) (bkBC' : Int32) (bkBO' : Bool) (bkKW' : Nat → Int64) (bkKT' : Nat → Int32) (bkKC' : Int32) (bkT' : Int32) (hd : D_ImageReader_read imn bkBn bkKn irP imE imC bkN bkS bkBE bkBC bkBO bkKW bkKT bkKC bkT res irP' bkN' bkS' bkBE' bkBC' bkBO' bkKW' bkKT' bkKC' bkT') : Ctr l y_ImageReader_read (Cond.code y_ImageReader_read b_ImageReader_read 6 (some .boolean) :: ga) { frames := 5, cells := 0, slots := 0, locals := 112 } (dC, dI) classes (Tys cI cL cZ) [.ref ir, .ref im, .ref bk] ((sh_ImageReader cI cL cZ ir irI irB irP) ++ ((sh_Row cI cL cZ im imEa imn imE imC imO) ++ ((sh_Book cI cL cZ bk bkNa bkN bkSa bkS bkB bkBEa bkBn bkBE bkBC bkBO bkK bkKWa bkKn bkKW bkKTa bkKT bkKC bkV bkVWa bkVn bkVW bkVTa bkVT bkVC bkT)))) (some (.int (bI res))) ((sh_ImageReader cI cL cZ ir (.ref im) (.ref bk) irP') ++ ((sh_Row cI cL cZ im imEa imn imE imC imO) ++ ((sh_Book cI cL cZ bk bkNa bkN' bkSa bkS' bkB bkBEa bkBn bkBE' bkBC' bkBO' bkK bkKWa bkKn bkKW' bkKTa bkKT' bkKC' bkV bkVWa bkVn bkVW bkVTa bkVT bkVC bkT')))) := by
  refine Ctr.ofW (by decide) (Nat.le_of_ble_eq_true rfl) ?_
  intro p e s m below meth c A ls hx hb hr hml hown hlocks hts hK hN hA hP hD hS hl
  have hown : s.vm.findClass R_ImageReader = some m.cls := hown
  have hl : lv_has ls 6 [(0, .ref ir), (1, .ref im), (2, .ref bk)] := hl
  have key : ∀ n : Nat, (∀ (x3 : Int32) (x4 : Int32) (irP : Int32) (bkN : Nat → Int64) (bkS : Nat → Int32) (bkBE : Nat → Int32) (bkBC : Int32) (bkBO : Bool) (bkKW : Nat → Int64) (bkKT : Nat → Int32) (bkKC : Int32) (bkT : Int32) (ls : Array Slot) (H : Heap) (locs : List Loc), lv_has ls 6 [(0, .ref ir), (3, .int x3), (4, .int x4)] → va_P (dC, dI) classes ((sh_ImageReader cI cL cZ ir (.ref im) (.ref bk) irP) ++ ((sh_Row cI cL cZ im imEa imn imE imC imO) ++ ((sh_Book cI cL cZ bk bkNa bkN bkSa bkS bkB bkBEa bkBn bkBE bkBC bkBO bkK bkKWa bkKn bkKW bkKTa bkKT bkKC bkV bkVWa bkVn bkVW bkVTa bkVT bkVC bkT)))) H → va_D A ((sh_ImageReader cI cL cZ ir (.ref im) (.ref bk) irP) ++ ((sh_Row cI cL cZ im imEa imn imE imC imO) ++ ((sh_Book cI cL cZ bk bkNa bkN bkSa bkS bkB bkBEa bkBn bkBE bkBC bkBO bkK bkKWa bkKn bkKW bkKTa bkKT bkKC bkV bkVWa bkVn bkVW bkVTa bkVT bkVC bkT)))) → va_S A s.heap H locs → T_ImageReader_read imn bkBn bkKn imE imC res irP' bkN' bkS' bkBE' bkBC' bkBO' bkKW' bkKT' bkKC' bkT' n x3 x4 irP bkN bkS bkBE bkBC bkBO bkKW bkKT bkKC bkT → W p l e ({ frames := 5, cells := 0, slots := 0, locals := 112 }) s m ([.ref ir, .ref im, .ref bk] : List Value).toArray below meth c H locs 0 0 (MQ below (Qs (dC, dI) classes (Tys cI cL cZ) (some (.int (bI res))) ((sh_ImageReader cI cL cZ ir (.ref im) (.ref bk) irP') ++ ((sh_Row cI cL cZ im imEa imn imE imC imO) ++ ((sh_Book cI cL cZ bk bkNa bkN' bkSa bkS' bkB bkBEa bkBn bkBE' bkBC' bkBO' bkK bkKWa bkKn bkKW' bkKTa bkKT' bkKC' bkV bkVWa bkVn bkVW bkVTa bkVT bkVC bkT')))) A) ([.ref ir, .ref im, .ref bk] : List Value).toArray s 0 0 A) (F0 m 52 ls [])) := by
    intro n
    induction n with
    | zero =>
      exact fun _ _ _ _ _ _ _ _ _ _ _ _ _ _ _ _ _ _ _ hd => False.elim hd
    | succ n ih =>
      · intro x3 x4 irP bkN bkS bkBE bkBC bkBO bkKW bkKT bkKC bkT ls H locs hl hP hD hS hd
        have hd : B_ImageReader_read_52 imn bkBn bkKn imE imC res irP' bkN' bkS' bkBE' bkBC' bkBO' bkKW' bkKT' bkKC' bkT' (T_ImageReader_read imn bkBn bkKn imE imC res irP' bkN' bkS' bkBE' bkBC' bkBO' bkKW' bkKT' bkKC' bkT' n) x3 x4 irP bkN bkS bkBE bkBC bkBO bkKW bkKT bkKC bkT := hd
        refine lv_iload hx hb d_ImageReader_read_52 (lv_at hl 2 rfl) ?_
        refine lv_iload_n hx hb d_ImageReader_read_54 rfl (lv_at hl 1 rfl) ?_
        refine lv_icmp_ge (tgt := 117) hx hb d_ImageReader_read_55 (by decide) (fun h55 => ?_) (fun h55 => ?_)
        · have hd := hd.1 h55
          refine lv_aload_n hx hb d_ImageReader_read_117 rfl (lv_at hl 0 rfl) ?_
          obtain ⟨r118, irP_118, bkKW_118, bkKT_118, bkKC_118, c118, hd⟩ := hd
          refine ct_V (As := []) (rest := []) (C := R_ImageReader) (ci := 5) (q := (R_ImageReader, F_ImageReader, 3)) ⟨hx, hb, hml, hown, hts⟩ fm_ImageReader_readTree (c_ImageReader_readTree l dC dI cI cL cZ ir irP im imEa imn imE imC imO bk bkNa bkN bkSa bkS bkB bkBEa bkBn bkBE bkBC bkBO bkK bkKWa bkKn bkKW bkKTa bkKT bkKC bkV bkVWa bkVn bkVW bkVTa bkVT bkVC bkT r118 irP_118 bkKW_118 bkKT_118 bkKC_118 c118) k281_methodLink k282_instanceMethod k283_selects ⟨Nat.le_of_ble_eq_true rfl, Nat.le_of_ble_eq_true rfl⟩ rfl rfl hK hN hP hD hS hA [0, 1, 2, 3, 4, 5, 6, 7, 8, 9, 10, 11, 12, 13] [] rfl rfl rfl (by decide) (by decide) (by decide) 0 rfl rfl rfl rfl hl.1 rfl (Nat.le_of_ble_eq_true rfl) d_ImageReader_read_118 (fun H locs hP hD hS => ?_)
          have hP : va_P (dC, dI) classes ((sh_ImageReader cI cL cZ ir (.ref im) (.ref bk) irP_118) ++ ((sh_Row cI cL cZ im imEa imn imE imC imO) ++ ((sh_Book cI cL cZ bk bkNa bkN bkSa bkS bkB bkBEa bkBn bkBE bkBC bkBO bkK bkKWa bkKn bkKW_118 bkKTa bkKT_118 bkKC_118 bkV bkVWa bkVn bkVW bkVTa bkVT bkVC bkT)))) H := hP.sub [0, 1, 2, 3, 4, 5, 6, 7, 8, 9, 10, 11, 12, 13] rfl
          have hD : va_D A ((sh_ImageReader cI cL cZ ir (.ref im) (.ref bk) irP_118) ++ ((sh_Row cI cL cZ im imEa imn imE imC imO) ++ ((sh_Book cI cL cZ bk bkNa bkN bkSa bkS bkB bkBEa bkBn bkBE bkBC bkBO bkK bkKWa bkKn bkKW_118 bkKTa bkKT_118 bkKC_118 bkV bkVWa bkVn bkVW bkVTa bkVT bkVC bkT)))) := hD.sub [0, 1, 2, 3, 4, 5, 6, 7, 8, 9, 10, 11, 12, 13] (by decide) rfl
          obtain ⟨e0, e1, e2, e3, e4, e5, e6, e7, e8, e9, e10⟩ := hd
          subst e0
          subst e1
          subst e2
          subst e3
          subst e4
          subst e5
          subst e6
          subst e7
          subst e8
          subst e9
          subst e10
          exact ct_zret hx hb hr hlocks hK hP hD hS d_ImageReader_read_121
        · have hd := hd.2 h55
          refine lv_iconst (v := 2) hx hb d_ImageReader_read_58 (by decide) ?_
          refine lv_bipush (v := 10) hx hb d_ImageReader_read_59 (by decide) ?_
          refine lv_iload hx hb d_ImageReader_read_61 (lv_at hl 2 rfl) ?_
          refine lv_imul hx hb d_ImageReader_read_63 ?_
          refine lv_iadd hx hb d_ImageReader_read_64 ?_
          refine lv_istore (lv' := [(5, .int (2 + (10 * x4))), (0, .ref ir), (3, .int x3), (4, .int x4)]) hx hb d_ImageReader_read_65 hl (by decide) rfl (fun ls hl => ?_)
          refine lv_aload_n hx hb d_ImageReader_read_67 rfl (lv_at hl 1 rfl) ?_
          refine va_get (D := (dC, dI)) (ci := 5) (v := .ref bk) (C := R_ImageReader) (T := F_ImageReader) (N := 3) hx hb hts in_ImageReader hown hK hP 0 rfl rfl 1 (by decide) (hts _ (List.mem_cons_of_mem _ k267_fieldLink)) (fun _ h9 => h9) rfl d_ImageReader_read_68 ?_
          refine lv_aload_n hx hb d_ImageReader_read_71 rfl (lv_at hl 1 rfl) ?_
          refine va_get (D := (dC, dI)) (ci := 5) (v := .ref im) (C := R_ImageReader) (T := F_ImageReader) (N := 3) hx hb hts in_ImageReader hown hK hP 0 rfl rfl 0 (by decide) (hts _ (List.mem_cons_of_mem _ k260_fieldLink)) (fun _ h9 => h9) rfl d_ImageReader_read_72 ?_
          refine lv_iload hx hb d_ImageReader_read_75 (lv_at hl 0 rfl) ?_
          refine lv_iload hx hb d_ImageReader_read_77 (lv_at hl 0 rfl) ?_
          refine lv_bipush (v := 6) hx hb d_ImageReader_read_79 (by decide) ?_
          refine lv_iadd hx hb d_ImageReader_read_81 ?_
          obtain ⟨r82, c82, hd⟩ := hd
          refine ct_SR (As := [.ref im, .int (2 + (10 * x4)), .int ((2 + (10 * x4)) + 6)]) (rest := [.ref bk]) ⟨hx, hb, hml, hown, hts⟩ fm_Letters_word (c_Letters_word l dC dI cI cL cZ im imEa imn imE imC imO (2 + (10 * x4)) ((2 + (10 * x4)) + 6) r82 c82) k274_methodLink k86_static ⟨Nat.le_of_ble_eq_true rfl, Nat.le_of_ble_eq_true rfl⟩ rfl rfl hK hN hP hD [1, 2] rfl rfl (by decide) rfl hl.1 rfl (Nat.le_of_ble_eq_true rfl) d_ImageReader_read_82 ?_
          obtain ⟨bkN_85, bkS_85, bkT_85, c85, hd⟩ := hd
          refine ct_V (As := [.long r82]) (rest := []) (C := R_Book) (ci := 3) (q := (R_Book, F_Book, 6)) ⟨hx, hb, hml, hown, hts⟩ fm_Book_beginTopic (c_Book_beginTopic l dC dI cI cL cZ bk bkNa bkN bkSa bkS bkB bkBEa bkBn bkBE bkBC bkBO bkK bkKWa bkKn bkKW bkKTa bkKT bkKC bkV bkVWa bkVn bkVW bkVTa bkVT bkVC bkT r82 bkN_85 bkS_85 bkT_85 c85) k284_methodLink k132_instanceMethod k133_selects ⟨Nat.le_of_ble_eq_true rfl, Nat.le_of_ble_eq_true rfl⟩ rfl rfl hK hN hP hD hS hA [3, 4, 5, 6, 7, 8, 9, 10, 11, 12, 13] [0, 1, 2] rfl rfl rfl (by decide) (by decide) (by decide) 3 rfl rfl rfl rfl hl.1 rfl (Nat.le_of_ble_eq_true rfl) d_ImageReader_read_85 (fun H locs hP hD hS => ?_)
          have hP : va_P (dC, dI) classes ((sh_ImageReader cI cL cZ ir (.ref im) (.ref bk) irP) ++ ((sh_Row cI cL cZ im imEa imn imE imC imO) ++ ((sh_Book cI cL cZ bk bkNa bkN_85 bkSa bkS_85 bkB bkBEa bkBn bkBE bkBC bkBO bkK bkKWa bkKn bkKW bkKTa bkKT bkKC bkV bkVWa bkVn bkVW bkVTa bkVT bkVC bkT_85)))) H := hP.sub [0, 1, 2, 3, 4, 5, 6, 7, 8, 9, 10, 11, 12, 13] rfl
          have hD : va_D A ((sh_ImageReader cI cL cZ ir (.ref im) (.ref bk) irP) ++ ((sh_Row cI cL cZ im imEa imn imE imC imO) ++ ((sh_Book cI cL cZ bk bkNa bkN_85 bkSa bkS_85 bkB bkBEa bkBn bkBE bkBC bkBO bkK bkKWa bkKn bkKW bkKTa bkKT bkKC bkV bkVWa bkVn bkVW bkVTa bkVT bkVC bkT_85)))) := hD.sub [0, 1, 2, 3, 4, 5, 6, 7, 8, 9, 10, 11, 12, 13] (by decide) rfl
          refine lv_aload_n hx hb d_ImageReader_read_88 rfl (lv_at hl 1 rfl) ?_
          refine lv_iload hx hb d_ImageReader_read_89 (lv_at hl 3 rfl) ?_
          refine lv_aload_n hx hb d_ImageReader_read_91 rfl (lv_at hl 1 rfl) ?_
          refine va_get (D := (dC, dI)) (ci := 5) (v := .ref im) (C := R_ImageReader) (T := F_ImageReader) (N := 3) hx hb hts in_ImageReader hown hK hP 0 rfl rfl 0 (by decide) (hts _ (List.mem_cons_of_mem _ k260_fieldLink)) (fun _ h9 => h9) rfl d_ImageReader_read_92 ?_
          refine lv_iload hx hb d_ImageReader_read_95 (lv_at hl 0 rfl) ?_
          refine lv_bipush (v := 8) hx hb d_ImageReader_read_97 (by decide) ?_
          refine lv_iadd hx hb d_ImageReader_read_99 ?_
          obtain ⟨r100, c100, hd⟩ := hd
          refine ct_VR (As := [.int ((2 + (10 * x4)) + 8)]) (rest := [.int x4, .ref ir]) (C := R_Row) (ci := 1) (q := (R_Row, F_Row, 3)) ⟨hx, hb, hml, hown, hts⟩ fm_Row_pair (c_Row_pair l dC dI cI cL cZ im imEa imn imE imC imO ((2 + (10 * x4)) + 8) r100 c100) k276_methodLink k277_instanceMethod k278_selects ⟨Nat.le_of_ble_eq_true rfl, Nat.le_of_ble_eq_true rfl⟩ rfl rfl hK hN hP hD [1, 2] rfl rfl (by decide) 1 rfl rfl rfl rfl hl.1 rfl (Nat.le_of_ble_eq_true rfl) d_ImageReader_read_100 ?_
          obtain ⟨r103, irP_103, bkS_103, bkBE_103, bkBC_103, bkBO_103, c103, hd⟩ := hd
          refine ct_V (As := [.int x4, .int r100]) (rest := []) (C := R_ImageReader) (ci := 5) (q := (R_ImageReader, F_ImageReader, 3)) ⟨hx, hb, hml, hown, hts⟩ fm_ImageReader_unpack (c_ImageReader_unpack l dC dI cI cL cZ ir irP im imEa imn imE imC imO bk bkNa bkN_85 bkSa bkS_85 bkB bkBEa bkBn bkBE bkBC bkBO bkK bkKWa bkKn bkKW bkKTa bkKT bkKC bkV bkVWa bkVn bkVW bkVTa bkVT bkVC bkT_85 x4 r100 r103 irP_103 bkS_103 bkBE_103 bkBC_103 bkBO_103 c103) k285_methodLink k286_instanceMethod k287_selects ⟨Nat.le_of_ble_eq_true rfl, Nat.le_of_ble_eq_true rfl⟩ rfl rfl hK hN hP hD hS hA [0, 1, 2, 3, 4, 5, 6, 7, 8, 9, 10, 11, 12, 13] [] rfl rfl rfl (by decide) (by decide) (by decide) 0 rfl rfl rfl rfl hl.1 rfl (Nat.le_of_ble_eq_true rfl) d_ImageReader_read_103 (fun H locs hP hD hS => ?_)
          have hP : va_P (dC, dI) classes ((sh_ImageReader cI cL cZ ir (.ref im) (.ref bk) irP_103) ++ ((sh_Row cI cL cZ im imEa imn imE imC imO) ++ ((sh_Book cI cL cZ bk bkNa bkN_85 bkSa bkS_103 bkB bkBEa bkBn bkBE_103 bkBC_103 bkBO_103 bkK bkKWa bkKn bkKW bkKTa bkKT bkKC bkV bkVWa bkVn bkVW bkVTa bkVT bkVC bkT_85)))) H := hP.sub [0, 1, 2, 3, 4, 5, 6, 7, 8, 9, 10, 11, 12, 13] rfl
          have hD : va_D A ((sh_ImageReader cI cL cZ ir (.ref im) (.ref bk) irP_103) ++ ((sh_Row cI cL cZ im imEa imn imE imC imO) ++ ((sh_Book cI cL cZ bk bkNa bkN_85 bkSa bkS_103 bkB bkBEa bkBn bkBE_103 bkBC_103 bkBO_103 bkK bkKWa bkKn bkKW bkKTa bkKT bkKC bkV bkVWa bkVn bkVW bkVTa bkVT bkVC bkT_85)))) := hD.sub [0, 1, 2, 3, 4, 5, 6, 7, 8, 9, 10, 11, 12, 13] (by decide) rfl
          refine lv_if_ne (tgt := 111) hx hb d_ImageReader_read_106 (by decide) (fun h106 => ?_) (fun h106 => ?_)
          · have hd := hd.2 h106
            refine lv_iinc (k := 3) (v := x4 + 1) (lv' := [(4, .int (x4 + 1)), (5, .int (2 + (10 * x4))), (0, .ref ir), (3, .int x3)]) hx hb d_ImageReader_read_111 hl rfl (congrArg (fun z => x4 + z) (by decide)) (by decide) rfl (fun ls hl => ?_)
            refine lv_goto (tgt := 52) hx hb d_ImageReader_read_114 (by decide) ?_
            exact ih x3 (x4 + 1) irP_103 bkN_85 bkS_103 bkBE_103 bkBC_103 bkBO_103 bkKW bkKT bkKC bkT_85 _ _ _ (lv_sub hl [2, 3, 0] rfl) hP hD hS hd
          · have hd := hd.1 h106
            refine lv_iconst (v := 0) hx hb d_ImageReader_read_109 (by decide) ?_
            obtain ⟨e0, e1, e2, e3, e4, e5, e6, e7, e8, e9, e10⟩ := hd
            subst e0
            subst e1
            subst e2
            subst e3
            subst e4
            subst e5
            subst e6
            subst e7
            subst e8
            subst e9
            subst e10
            exact ct_zret (b := false) hx hb hr hlocks hK hP hD hS d_ImageReader_read_110
  obtain ⟨n, hd⟩ := hd
  refine lv_aload_n hx hb d_ImageReader_read_0 rfl (lv_at hl 0 rfl) ?_
  refine lv_aload_n hx hb d_ImageReader_read_1 rfl (lv_at hl 1 rfl) ?_
  refine va_put (D := (dC, dI)) (ci := 5) (v := .ref im) (ty := t_ImageReader 0) (C := R_ImageReader) (T := F_ImageReader) (N := 3) hx hb hts in_ImageReader t_ImageReader t_ImageReader_ok n_ImageReader hown hK hP hD hS 0 rfl rfl 0 (by decide) (hts _ (List.mem_cons_of_mem _ k260_fieldLink)) (fun _ h9 => h9) rfl (t_ImageReader_ok 0 (by decide)) rfl rfl (Nat.le_of_ble_eq_true rfl) d_ImageReader_read_2 (fun H locs hP hD hS => ?_)
  have hP : va_P (dC, dI) classes ((sh_ImageReader cI cL cZ ir (.ref im) irB irP) ++ ((sh_Row cI cL cZ im imEa imn imE imC imO) ++ ((sh_Book cI cL cZ bk bkNa bkN bkSa bkS bkB bkBEa bkBn bkBE bkBC bkBO bkK bkKWa bkKn bkKW bkKTa bkKT bkKC bkV bkVWa bkVn bkVW bkVTa bkVT bkVC bkT)))) H := hP
  have hD : va_D A ((sh_ImageReader cI cL cZ ir (.ref im) irB irP) ++ ((sh_Row cI cL cZ im imEa imn imE imC imO) ++ ((sh_Book cI cL cZ bk bkNa bkN bkSa bkS bkB bkBEa bkBn bkBE bkBC bkBO bkK bkKWa bkKn bkKW bkKTa bkKT bkKC bkV bkVWa bkVn bkVW bkVTa bkVT bkVC bkT)))) := hD
  refine lv_aload_n hx hb d_ImageReader_read_5 rfl (lv_at hl 0 rfl) ?_
  refine lv_aload_n hx hb d_ImageReader_read_6 rfl (lv_at hl 2 rfl) ?_
  refine va_put (D := (dC, dI)) (ci := 5) (v := .ref bk) (ty := t_ImageReader 1) (C := R_ImageReader) (T := F_ImageReader) (N := 3) hx hb hts in_ImageReader t_ImageReader t_ImageReader_ok n_ImageReader hown hK hP hD hS 0 rfl rfl 1 (by decide) (hts _ (List.mem_cons_of_mem _ k267_fieldLink)) (fun _ h9 => h9) rfl (t_ImageReader_ok 1 (by decide)) rfl rfl (Nat.le_of_ble_eq_true rfl) d_ImageReader_read_7 (fun H locs hP hD hS => ?_)
  have hP : va_P (dC, dI) classes ((sh_ImageReader cI cL cZ ir (.ref im) (.ref bk) irP) ++ ((sh_Row cI cL cZ im imEa imn imE imC imO) ++ ((sh_Book cI cL cZ bk bkNa bkN bkSa bkS bkB bkBEa bkBn bkBE bkBC bkBO bkK bkKWa bkKn bkKW bkKTa bkKT bkKC bkV bkVWa bkVn bkVW bkVTa bkVT bkVC bkT)))) H := hP
  have hD : va_D A ((sh_ImageReader cI cL cZ ir (.ref im) (.ref bk) irP) ++ ((sh_Row cI cL cZ im imEa imn imE imC imO) ++ ((sh_Book cI cL cZ bk bkNa bkN bkSa bkS bkB bkBEa bkBn bkBE bkBC bkBO bkK bkKWa bkKn bkKW bkKTa bkKT bkKC bkV bkVWa bkVn bkVW bkVTa bkVT bkVC bkT)))) := hD
  refine lv_aload_n hx hb d_ImageReader_read_10 rfl (lv_at hl 0 rfl) ?_
  refine va_get (D := (dC, dI)) (ci := 5) (v := .ref bk) (C := R_ImageReader) (T := F_ImageReader) (N := 3) hx hb hts in_ImageReader hown hK hP 0 rfl rfl 1 (by decide) (hts _ (List.mem_cons_of_mem _ k267_fieldLink)) (fun _ h9 => h9) rfl d_ImageReader_read_11 ?_
  obtain ⟨bkBC_14, bkBO_14, bkKC_14, bkT_14, c14, hd⟩ := hd
  refine ct_V (As := []) (rest := []) (C := R_Book) (ci := 3) (q := (R_Book, F_Book, 6)) ⟨hx, hb, hml, hown, hts⟩ fm_Book_clear (c_Book_clear l dC dI cI cL cZ bk bkNa bkN bkSa bkS bkB bkBEa bkBn bkBE bkBC bkBO bkK bkKWa bkKn bkKW bkKTa bkKT bkKC bkV bkVWa bkVn bkVW bkVTa bkVT bkVC bkT bkBC_14 bkBO_14 bkKC_14 bkT_14 c14) k280_methodLink k112_instanceMethod k113_selects ⟨Nat.le_of_ble_eq_true rfl, Nat.le_of_ble_eq_true rfl⟩ rfl rfl hK hN hP hD hS hA [3, 4, 5, 6, 7, 8, 9, 10, 11, 12, 13] [0, 1, 2] rfl rfl rfl (by decide) (by decide) (by decide) 3 rfl rfl rfl rfl hl.1 rfl (Nat.le_of_ble_eq_true rfl) d_ImageReader_read_14 (fun H locs hP hD hS => ?_)
  have hP : va_P (dC, dI) classes ((sh_ImageReader cI cL cZ ir (.ref im) (.ref bk) irP) ++ ((sh_Row cI cL cZ im imEa imn imE imC imO) ++ ((sh_Book cI cL cZ bk bkNa bkN bkSa bkS bkB bkBEa bkBn bkBE bkBC_14 bkBO_14 bkK bkKWa bkKn bkKW bkKTa bkKT bkKC_14 bkV bkVWa bkVn bkVW bkVTa bkVT bkVC bkT_14)))) H := hP.sub [0, 1, 2, 3, 4, 5, 6, 7, 8, 9, 10, 11, 12, 13] rfl
  have hD : va_D A ((sh_ImageReader cI cL cZ ir (.ref im) (.ref bk) irP) ++ ((sh_Row cI cL cZ im imEa imn imE imC imO) ++ ((sh_Book cI cL cZ bk bkNa bkN bkSa bkS bkB bkBEa bkBn bkBE bkBC_14 bkBO_14 bkK bkKWa bkKn bkKW bkKTa bkKT bkKC_14 bkV bkVWa bkVn bkVW bkVTa bkVT bkVC bkT_14)))) := hD.sub [0, 1, 2, 3, 4, 5, 6, 7, 8, 9, 10, 11, 12, 13] (by decide) rfl
  refine lv_aload_n hx hb d_ImageReader_read_17 rfl (lv_at hl 0 rfl) ?_
  refine va_get (D := (dC, dI)) (ci := 5) (v := .ref im) (C := R_ImageReader) (T := F_ImageReader) (N := 3) hx hb hts in_ImageReader hown hK hP 0 rfl rfl 0 (by decide) (hts _ (List.mem_cons_of_mem _ k260_fieldLink)) (fun _ h9 => h9) rfl d_ImageReader_read_18 ?_
  refine lv_iconst (v := 1) hx hb d_ImageReader_read_21 (by decide) ?_
  obtain ⟨r22, c22, hd⟩ := hd
  refine ct_VR (As := [.int 1]) (rest := []) (C := R_Row) (ci := 1) (q := (R_Row, F_Row, 3)) ⟨hx, hb, hml, hown, hts⟩ fm_Row_element (c_Row_element l dC dI cI cL cZ im imEa imn imE imC imO 1 r22 c22) k262_methodLink k4_instanceMethod k5_selects ⟨Nat.le_of_ble_eq_true rfl, Nat.le_of_ble_eq_true rfl⟩ rfl rfl hK hN hP hD [1, 2] rfl rfl (by decide) 1 rfl rfl rfl rfl hl.1 rfl (Nat.le_of_ble_eq_true rfl) d_ImageReader_read_22 ?_
  refine lv_istore_n (lv' := [(3, .int r22), (0, .ref ir), (1, .ref im), (2, .ref bk)]) hx hb d_ImageReader_read_25 rfl hl (by decide) rfl (fun ls hl => ?_)
  refine lv_iload_n hx hb d_ImageReader_read_26 rfl (lv_at hl 0 rfl) ?_
  refine lv_iconst (v := 1) hx hb d_ImageReader_read_27 (by decide) ?_
  refine lv_icmp_lt (tgt := 37) hx hb d_ImageReader_read_28 (by decide) (fun h28 => ?_) (fun h28 => ?_)
  · have hd := hd.1 h28
    refine lv_iconst (v := 0) hx hb d_ImageReader_read_37 (by decide) ?_
    obtain ⟨e0, e1, e2, e3, e4, e5, e6, e7, e8, e9, e10⟩ := hd
    subst e0
    subst e1
    subst e2
    subst e3
    subst e4
    subst e5
    subst e6
    subst e7
    subst e8
    subst e9
    subst e10
    exact ct_zret (b := false) hx hb hr hlocks hK hP hD hS d_ImageReader_read_38
  · have hd := hd.2 h28
    refine lv_iload_n hx hb d_ImageReader_read_31 rfl (lv_at hl 0 rfl) ?_
    refine lv_bipush (v := 10) hx hb d_ImageReader_read_32 (by decide) ?_
    refine lv_icmp_le (tgt := 39) hx hb d_ImageReader_read_34 (by decide) (fun h34 => ?_) (fun h34 => ?_)
    · have hd := hd.1 h34
      refine lv_aload_n hx hb d_ImageReader_read_39 rfl (lv_at hl 1 rfl) ?_
      refine lv_iconst (v := 2) hx hb d_ImageReader_read_40 (by decide) ?_
      refine lv_bipush (v := 10) hx hb d_ImageReader_read_41 (by decide) ?_
      refine lv_iload_n hx hb d_ImageReader_read_43 rfl (lv_at hl 0 rfl) ?_
      refine lv_imul hx hb d_ImageReader_read_44 ?_
      refine lv_iadd hx hb d_ImageReader_read_45 ?_
      refine va_put (D := (dC, dI)) (ci := 5) (v := .int (2 + (10 * r22))) (ty := t_ImageReader 2) (C := R_ImageReader) (T := F_ImageReader) (N := 3) hx hb hts in_ImageReader t_ImageReader t_ImageReader_ok n_ImageReader hown hK hP hD hS 0 rfl rfl 2 (by decide) (hts _ (List.mem_cons_of_mem _ k261_fieldLink)) (fun _ h9 => h9) rfl (t_ImageReader_ok 2 (by decide)) rfl rfl (Nat.le_of_ble_eq_true rfl) d_ImageReader_read_46 (fun H locs hP hD hS => ?_)
      have hP : va_P (dC, dI) classes ((sh_ImageReader cI cL cZ ir (.ref im) (.ref bk) (2 + (10 * r22))) ++ ((sh_Row cI cL cZ im imEa imn imE imC imO) ++ ((sh_Book cI cL cZ bk bkNa bkN bkSa bkS bkB bkBEa bkBn bkBE bkBC_14 bkBO_14 bkK bkKWa bkKn bkKW bkKTa bkKT bkKC_14 bkV bkVWa bkVn bkVW bkVTa bkVT bkVC bkT_14)))) H := hP
      have hD : va_D A ((sh_ImageReader cI cL cZ ir (.ref im) (.ref bk) (2 + (10 * r22))) ++ ((sh_Row cI cL cZ im imEa imn imE imC imO) ++ ((sh_Book cI cL cZ bk bkNa bkN bkSa bkS bkB bkBEa bkBn bkBE bkBC_14 bkBO_14 bkK bkKWa bkKn bkKW bkKTa bkKT bkKC_14 bkV bkVWa bkVn bkVW bkVTa bkVT bkVC bkT_14)))) := hD
      refine lv_iconst (v := 0) hx hb d_ImageReader_read_49 (by decide) ?_
      refine lv_istore (lv' := [(4, .int 0), (3, .int r22), (0, .ref ir), (1, .ref im), (2, .ref bk)]) hx hb d_ImageReader_read_50 hl (by decide) rfl (fun ls hl => ?_)
      exact (key n) r22 0 (2 + (10 * r22)) bkN bkS bkBE bkBC_14 bkBO_14 bkKW bkKT bkKC_14 bkT_14 _ _ _ (lv_sub hl [2, 1, 0] rfl) hP hD hS hd
    · have hd := hd.2 h34
      refine lv_iconst (v := 0) hx hb d_ImageReader_read_37 (by decide) ?_
      obtain ⟨e0, e1, e2, e3, e4, e5, e6, e7, e8, e9, e10⟩ := hd
      subst e0
      subst e1
      subst e2
      subst e3
      subst e4
      subst e5
      subst e6
      subst e7
      subst e8
      subst e9
      subst e10
      exact ct_zret (b := false) hx hb hr hlocks hK hP hD hS d_ImageReader_read_38
