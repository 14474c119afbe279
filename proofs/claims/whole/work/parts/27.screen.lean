/-! 27.screen: what each method does, read off its bytecode (D_..), and its contract (c_..); written by a program of mine. -/
-- Screen.lines
abbrev b_Screen_lines : ByteArray := prog_9_method_2_code
def y_Screen_lines : MethodName := ⟨"HelpFile$Screen", "lines", "()I"⟩
theorem k334_fieldLink : Cond.fieldLink "HelpFile$Screen" 27 "HelpFile$Screen" "lines" "I" ∈ ga := ga_t 170 (by decide +kernel) rfl
theorem k335_initialized : Cond.initialized "HelpFile$Screen" ∈ ga := ga_t 7 (by decide +kernel) rfl
set_option maxRecDepth 100000 in
theorem fm_Screen_lines : Fm y_Screen_lines b_Screen_lines 1 (some .int) 0 := ⟨ga_t 1013 rfl rfl, k335_initialized, by decide, by decide, by decide +kernel⟩
def D_Screen_lines (scL : Int32) (res : Int32) : Prop := (res = scL)
theorem d_Screen_lines_0 : decode b_Screen_lines 0 = .ok (.aload_n 0, 1) := by decide +kernel
theorem d_Screen_lines_1 : decode b_Screen_lines 1 = .ok (.getfield 27, 3) := by decide +kernel
theorem d_Screen_lines_4 : decode b_Screen_lines 4 = .ok (.ireturn, 1) := by decide +kernel
set_option maxHeartbeats 4000000 in
set_option maxRecDepth 100000 in
theorem c_Screen_lines (l : Launch) (dC : Nat → ClassId) (dI : Nat → Nat → Nat) (cI cL cZ : ClassId) (sc : Nat) (scS : Nat) (scSEa : Nat) (scSn : Nat) (scSE : Nat → Int32) (scSC : Int32) (scSO : Bool) (scP : Nat) (scPEa : Nat) (scPn : Nat) (scPE : Nat → Int32) (scPC : Int32) (scPO : Bool) (scAa : Nat) (scA : Nat → Int32) (scL : Int32) (scW : Int32) (res : Int32) (hd : D_Screen_lines scL res) : CtrR l y_Screen_lines (Cond.code y_Screen_lines b_Screen_lines 1 (some .int) :: ga) { frames := 0, cells := 0, slots := 0, locals := 0 } (dC, dI) classes (Tys cI cL cZ) [.ref sc] ((sh_Screen cI cL cZ sc scS scSEa scSn scSE scSC scSO scP scPEa scPn scPE scPC scPO scAa scA scL scW)) (some (.int res)) := by
  refine CtrR.ofW (by decide) (Nat.le_of_ble_eq_true rfl) ?_
  intro p e s m below meth c ls hx hb hr hml hown hlocks hts hK hN hP hD hl
  have hown : s.vm.findClass R_Screen = some m.cls := hown
  have hl : lv_has ls 1 [(0, .ref sc)] := hl
  refine lv_aload_n hx hb d_Screen_lines_0 rfl (lv_at hl 0 rfl) ?_
  refine va_get (D := (dC, dI)) (ci := 8) (v := .int scL) (C := R_Screen) (T := F_Screen) (N := 5) hx hb hts in_Screen hown hK hP 0 rfl rfl 3 (by decide) (hts _ (List.mem_cons_of_mem _ k334_fieldLink)) (fun _ h9 => h9) rfl d_Screen_lines_1 ?_
  have e0 : res = scL := hd
  subst e0
  exact ct_iretR hx hb hr hlocks d_Screen_lines_4
-- Screen.width
abbrev b_Screen_width : ByteArray := prog_9_method_3_code
def y_Screen_width : MethodName := ⟨"HelpFile$Screen", "width", "()I"⟩
theorem k336_fieldLink : Cond.fieldLink "HelpFile$Screen" 31 "HelpFile$Screen" "width" "I" ∈ ga := ga_t 171 (by decide +kernel) rfl
set_option maxRecDepth 100000 in
theorem fm_Screen_width : Fm y_Screen_width b_Screen_width 1 (some .int) 0 := ⟨ga_t 1024 rfl rfl, k335_initialized, by decide, by decide, by decide +kernel⟩
def D_Screen_width (scW : Int32) (res : Int32) : Prop := (res = scW)
theorem d_Screen_width_0 : decode b_Screen_width 0 = .ok (.aload_n 0, 1) := by decide +kernel
theorem d_Screen_width_1 : decode b_Screen_width 1 = .ok (.getfield 31, 3) := by decide +kernel
theorem d_Screen_width_4 : decode b_Screen_width 4 = .ok (.ireturn, 1) := by decide +kernel
set_option maxHeartbeats 4000000 in
set_option maxRecDepth 100000 in
theorem c_Screen_width (l : Launch) (dC : Nat → ClassId) (dI : Nat → Nat → Nat) (cI cL cZ : ClassId) (sc : Nat) (scS : Nat) (scSEa : Nat) (scSn : Nat) (scSE : Nat → Int32) (scSC : Int32) (scSO : Bool) (scP : Nat) (scPEa : Nat) (scPn : Nat) (scPE : Nat → Int32) (scPC : Int32) (scPO : Bool) (scAa : Nat) (scA : Nat → Int32) (scL : Int32) (scW : Int32) (res : Int32) (hd : D_Screen_width scW res) : CtrR l y_Screen_width (Cond.code y_Screen_width b_Screen_width 1 (some .int) :: ga) { frames := 0, cells := 0, slots := 0, locals := 0 } (dC, dI) classes (Tys cI cL cZ) [.ref sc] ((sh_Screen cI cL cZ sc scS scSEa scSn scSE scSC scSO scP scPEa scPn scPE scPC scPO scAa scA scL scW)) (some (.int res)) := by
  refine CtrR.ofW (by decide) (Nat.le_of_ble_eq_true rfl) ?_
  intro p e s m below meth c ls hx hb hr hml hown hlocks hts hK hN hP hD hl
  have hown : s.vm.findClass R_Screen = some m.cls := hown
  have hl : lv_has ls 1 [(0, .ref sc)] := hl
  refine lv_aload_n hx hb d_Screen_width_0 rfl (lv_at hl 0 rfl) ?_
  refine va_get (D := (dC, dI)) (ci := 8) (v := .int scW) (C := R_Screen) (T := F_Screen) (N := 5) hx hb hts in_Screen hown hK hP 0 rfl rfl 4 (by decide) (hts _ (List.mem_cons_of_mem _ k336_fieldLink)) (fun _ h9 => h9) rfl d_Screen_width_1 ?_
  have e0 : res = scW := hd
  subst e0
  exact ct_iretR hx hb hr hlocks d_Screen_width_4
-- Screen.shown
abbrev b_Screen_shown : ByteArray := prog_9_method_4_code
def y_Screen_shown : MethodName := ⟨"HelpFile$Screen", "shown", "(II)I"⟩
theorem k337_fieldLink : Cond.fieldLink "HelpFile$Screen" 16 "HelpFile$Screen" "signs" "LHelpFile$Row;" ∈ ga := ga_t 167 (by decide +kernel) rfl
theorem k338_methodLink : Cond.methodLink "HelpFile$Screen" 34 ⟨"HelpFile$Row", "count", "()I"⟩ ∈ ga := ga_t 991 (by decide +kernel) rfl
theorem k339_fieldLink : Cond.fieldLink "HelpFile$Screen" 23 "HelpFile$Screen" "starts" "[I" ∈ ga := ga_t 169 (by decide +kernel) rfl
theorem k340_methodLink : Cond.methodLink "HelpFile$Screen" 38 ⟨"HelpFile$Row", "element", "(I)I"⟩ ∈ ga := ga_t 993 (by decide +kernel) rfl
set_option maxRecDepth 100000 in
theorem fm_Screen_shown : Fm y_Screen_shown b_Screen_shown 4 (some .int) 2 := ⟨ga_t 1029 rfl rfl, k335_initialized, by decide, by decide, by decide +kernel⟩
def B_Screen_shown_47 (scSn : Nat) (scSE : Nat → Int32) (scSC : Int32) (scA : Nat → Int32) (scL : Int32) (res : Int32) (X : Int32 → Int32 → Int32 → Prop) (x1 : Int32) (x2 : Int32) (x3 : Int32) : Prop := (vp_in x1 256 ∧ (((x3 - (scA (Int32.toNatClampNeg x1))) ≤ x2 → (res = 0)) ∧ (¬ ((x3 - (scA (Int32.toNatClampNeg x1))) ≤ x2) → (vp_in x1 256 ∧ (∃ r71 : Int32, D_Row_element scSn ((scA (Int32.toNatClampNeg x1)) + x2) scSE scSC r71 ∧ (res = r71))))))
def S_Screen_shown (scSn : Nat) (scSE : Nat → Int32) (scSC : Int32) (scA : Nat → Int32) (scL : Int32) (res : Int32) (X : Int32 → Int32 → Int32 → Prop) : Int32 → Int32 → Int32 → Prop := fun x1 x2 x3 => B_Screen_shown_47 scSn scSE scSC scA scL res X x1 x2 x3
def T_Screen_shown (scSn : Nat) (scSE : Nat → Int32) (scSC : Int32) (scA : Nat → Int32) (scL : Int32) (res : Int32) : Nat → (Int32 → Int32 → Int32 → Prop)
  | 0 => fun _ _ _ => False
  | n + 1 => S_Screen_shown scSn scSE scSC scA scL res (T_Screen_shown scSn scSE scSC scA scL res n)
def D_Screen_shown (scSn : Nat) (k0 : Int32) (k1 : Int32) (scSE : Nat → Int32) (scSC : Int32) (scA : Nat → Int32) (scL : Int32) (res : Int32) : Prop := ∃ n : Nat, ((k0 < 0 → (res = 0)) ∧ (¬ (k0 < 0) → ((scL ≤ k0 → (res = 0)) ∧ (¬ (scL ≤ k0) → ((0 ≤ k1 → ((scL ≤ (k0 + 1) → T_Screen_shown scSn scSE scSC scA scL res n k0 k1 scSC) ∧ (¬ (scL ≤ (k0 + 1)) → (vp_in (k0 + 1) 256 ∧ T_Screen_shown scSn scSE scSC scA scL res n k0 k1 (scA (Int32.toNatClampNeg (k0 + 1))))))) ∧ (¬ (0 ≤ k1) → (res = 0)))))))
theorem d_Screen_shown_0 : decode b_Screen_shown 0 = .ok (.iload_n 1, 1) := by decide +kernel
theorem d_Screen_shown_1 : decode b_Screen_shown 1 = .ok (.ifCond .lt 15, 3) := by decide +kernel
theorem d_Screen_shown_4 : decode b_Screen_shown 4 = .ok (.iload_n 1, 1) := by decide +kernel
theorem d_Screen_shown_5 : decode b_Screen_shown 5 = .ok (.aload_n 0, 1) := by decide +kernel
theorem d_Screen_shown_6 : decode b_Screen_shown 6 = .ok (.getfield 27, 3) := by decide +kernel
theorem d_Screen_shown_9 : decode b_Screen_shown 9 = .ok (.if_icmp .ge 7, 3) := by decide +kernel
theorem d_Screen_shown_12 : decode b_Screen_shown 12 = .ok (.iload_n 2, 1) := by decide +kernel
theorem d_Screen_shown_13 : decode b_Screen_shown 13 = .ok (.ifCond .ge 5, 3) := by decide +kernel
theorem d_Screen_shown_16 : decode b_Screen_shown 16 = .ok (.iconst 0, 1) := by decide +kernel
theorem d_Screen_shown_17 : decode b_Screen_shown 17 = .ok (.ireturn, 1) := by decide +kernel
theorem d_Screen_shown_18 : decode b_Screen_shown 18 = .ok (.iload_n 1, 1) := by decide +kernel
theorem d_Screen_shown_19 : decode b_Screen_shown 19 = .ok (.iconst 1, 1) := by decide +kernel
theorem d_Screen_shown_20 : decode b_Screen_shown 20 = .ok (.iadd, 1) := by decide +kernel
theorem d_Screen_shown_21 : decode b_Screen_shown 21 = .ok (.aload_n 0, 1) := by decide +kernel
theorem d_Screen_shown_22 : decode b_Screen_shown 22 = .ok (.getfield 27, 3) := by decide +kernel
theorem d_Screen_shown_25 : decode b_Screen_shown 25 = .ok (.if_icmp .ge 14, 3) := by decide +kernel
theorem d_Screen_shown_28 : decode b_Screen_shown 28 = .ok (.aload_n 0, 1) := by decide +kernel
theorem d_Screen_shown_29 : decode b_Screen_shown 29 = .ok (.getfield 23, 3) := by decide +kernel
theorem d_Screen_shown_32 : decode b_Screen_shown 32 = .ok (.iload_n 1, 1) := by decide +kernel
theorem d_Screen_shown_33 : decode b_Screen_shown 33 = .ok (.iconst 1, 1) := by decide +kernel
theorem d_Screen_shown_34 : decode b_Screen_shown 34 = .ok (.iadd, 1) := by decide +kernel
theorem d_Screen_shown_35 : decode b_Screen_shown 35 = .ok (.iaload, 1) := by decide +kernel
theorem d_Screen_shown_36 : decode b_Screen_shown 36 = .ok (.goto 10, 3) := by decide +kernel
theorem d_Screen_shown_39 : decode b_Screen_shown 39 = .ok (.aload_n 0, 1) := by decide +kernel
theorem d_Screen_shown_40 : decode b_Screen_shown 40 = .ok (.getfield 16, 3) := by decide +kernel
theorem d_Screen_shown_43 : decode b_Screen_shown 43 = .ok (.invokevirtual 34, 3) := by decide +kernel
theorem d_Screen_shown_46 : decode b_Screen_shown 46 = .ok (.istore_n 3, 1) := by decide +kernel
theorem d_Screen_shown_47 : decode b_Screen_shown 47 = .ok (.iload_n 2, 1) := by decide +kernel
theorem d_Screen_shown_48 : decode b_Screen_shown 48 = .ok (.iload_n 3, 1) := by decide +kernel
theorem d_Screen_shown_49 : decode b_Screen_shown 49 = .ok (.aload_n 0, 1) := by decide +kernel
theorem d_Screen_shown_50 : decode b_Screen_shown 50 = .ok (.getfield 23, 3) := by decide +kernel
theorem d_Screen_shown_53 : decode b_Screen_shown 53 = .ok (.iload_n 1, 1) := by decide +kernel
theorem d_Screen_shown_54 : decode b_Screen_shown 54 = .ok (.iaload, 1) := by decide +kernel
theorem d_Screen_shown_55 : decode b_Screen_shown 55 = .ok (.isub, 1) := by decide +kernel
theorem d_Screen_shown_56 : decode b_Screen_shown 56 = .ok (.if_icmp .ge 21, 3) := by decide +kernel
theorem d_Screen_shown_59 : decode b_Screen_shown 59 = .ok (.aload_n 0, 1) := by decide +kernel
theorem d_Screen_shown_60 : decode b_Screen_shown 60 = .ok (.getfield 16, 3) := by decide +kernel
theorem d_Screen_shown_63 : decode b_Screen_shown 63 = .ok (.aload_n 0, 1) := by decide +kernel
theorem d_Screen_shown_64 : decode b_Screen_shown 64 = .ok (.getfield 23, 3) := by decide +kernel
theorem d_Screen_shown_67 : decode b_Screen_shown 67 = .ok (.iload_n 1, 1) := by decide +kernel
theorem d_Screen_shown_68 : decode b_Screen_shown 68 = .ok (.iaload, 1) := by decide +kernel
theorem d_Screen_shown_69 : decode b_Screen_shown 69 = .ok (.iload_n 2, 1) := by decide +kernel
theorem d_Screen_shown_70 : decode b_Screen_shown 70 = .ok (.iadd, 1) := by decide +kernel
theorem d_Screen_shown_71 : decode b_Screen_shown 71 = .ok (.invokevirtual 38, 3) := by decide +kernel
theorem d_Screen_shown_74 : decode b_Screen_shown 74 = .ok (.goto 4, 3) := by decide +kernel
theorem d_Screen_shown_77 : decode b_Screen_shown 77 = .ok (.iconst 0, 1) := by decide +kernel
theorem d_Screen_shown_78 : decode b_Screen_shown 78 = .ok (.ireturn, 1) := by decide +kernel
set_option maxHeartbeats 4000000 in
set_option maxRecDepth 100000 in
theorem c_Screen_shown (l : Launch) (dC : Nat → ClassId) (dI : Nat → Nat → Nat) (cI cL cZ : ClassId) (sc : Nat) (scS : Nat) (scSEa : Nat) (scSn : Nat) (scSE : Nat → Int32) (scSC : Int32) (scSO : Bool) (scP : Nat) (scPEa : Nat) (scPn : Nat) (scPE : Nat → Int32) (scPC : Int32) (scPO : Bool) (scAa : Nat) (scA : Nat → Int32) (scL : Int32) (scW : Int32) (k0 : Int32) (k1 : Int32) (res : Int32) (hd : D_Screen_shown scSn k0 k1 scSE scSC scA scL res) : CtrR l y_Screen_shown (Cond.code y_Screen_shown b_Screen_shown 4 (some .int) :: ga) { frames := 1, cells := 0, slots := 0, locals := 21 } (dC, dI) classes (Tys cI cL cZ) [.ref sc, .int k0, .int k1] ((sh_Screen cI cL cZ sc scS scSEa scSn scSE scSC scSO scP scPEa scPn scPE scPC scPO scAa scA scL scW)) (some (.int res)) := by
  refine CtrR.ofW (by decide) (Nat.le_of_ble_eq_true rfl) ?_
  intro p e s m below meth c ls hx hb hr hml hown hlocks hts hK hN hP hD hl
  have hown : s.vm.findClass R_Screen = some m.cls := hown
  have hl : lv_has ls 4 [(0, .ref sc), (1, .int k0), (2, .int k1)] := hl
  have key : ∀ n : Nat, (∀ (x1 : Int32) (x2 : Int32) (x3 : Int32) (ls : Array Slot), lv_has ls 4 [(0, .ref sc), (1, .int x1), (2, .int x2), (3, .int x3)] → T_Screen_shown scSn scSE scSC scA scL res n x1 x2 x3 → W p l e ({ frames := 1, cells := 0, slots := 0, locals := 21 }) s m ([.ref sc, .int k0, .int k1] : List Value).toArray below meth c s.heap [] 0 0 (MQ below (Qr (some (.int res))) ([.ref sc, .int k0, .int k1] : List Value).toArray s 0 0 (fun _ => False)) (F0 m 47 ls [])) := by
    intro n
    induction n with
    | zero =>
      exact fun _ _ _ _ _ hd => False.elim hd
    | succ n ih =>
      · intro x1 x2 x3 ls hl hd
        have hd : B_Screen_shown_47 scSn scSE scSC scA scL res (T_Screen_shown scSn scSE scSC scA scL res n) x1 x2 x3 := hd
        refine lv_iload_n hx hb d_Screen_shown_47 rfl (lv_at hl 2 rfl) ?_
        refine lv_iload_n hx hb d_Screen_shown_48 rfl (lv_at hl 3 rfl) ?_
        refine lv_aload_n hx hb d_Screen_shown_49 rfl (lv_at hl 0 rfl) ?_
        refine va_get (D := (dC, dI)) (ci := 8) (v := .ref scAa) (C := R_Screen) (T := F_Screen) (N := 5) hx hb hts in_Screen hown hK hP 0 rfl rfl 2 (by decide) (hts _ (List.mem_cons_of_mem _ k339_fieldLink)) (fun _ h9 => h9) rfl d_Screen_shown_50 ?_
        refine lv_iload_n hx hb d_Screen_shown_53 rfl (lv_at hl 1 rfl) ?_
        obtain ⟨h54, hd⟩ := hd
        refine va_iald hx hb hK hP 5 0 rfl rfl h54 d_Screen_shown_54 ?_
        refine lv_isub hx hb d_Screen_shown_55 ?_
        refine lv_icmp_ge (tgt := 77) hx hb d_Screen_shown_56 (by decide) (fun h56 => ?_) (fun h56 => ?_)
        · have hd := hd.1 h56
          refine lv_iconst (v := 0) hx hb d_Screen_shown_77 (by decide) ?_
          have e0 : res = 0 := hd
          subst e0
          exact ct_iretR hx hb hr hlocks d_Screen_shown_78
        · have hd := hd.2 h56
          refine lv_aload_n hx hb d_Screen_shown_59 rfl (lv_at hl 0 rfl) ?_
          refine va_get (D := (dC, dI)) (ci := 8) (v := .ref scS) (C := R_Screen) (T := F_Screen) (N := 5) hx hb hts in_Screen hown hK hP 0 rfl rfl 0 (by decide) (hts _ (List.mem_cons_of_mem _ k337_fieldLink)) (fun _ h9 => h9) rfl d_Screen_shown_60 ?_
          refine lv_aload_n hx hb d_Screen_shown_63 rfl (lv_at hl 0 rfl) ?_
          refine va_get (D := (dC, dI)) (ci := 8) (v := .ref scAa) (C := R_Screen) (T := F_Screen) (N := 5) hx hb hts in_Screen hown hK hP 0 rfl rfl 2 (by decide) (hts _ (List.mem_cons_of_mem _ k339_fieldLink)) (fun _ h9 => h9) rfl d_Screen_shown_64 ?_
          refine lv_iload_n hx hb d_Screen_shown_67 rfl (lv_at hl 1 rfl) ?_
          obtain ⟨h68, hd⟩ := hd
          refine va_iald hx hb hK hP 5 0 rfl rfl h68 d_Screen_shown_68 ?_
          refine lv_iload_n hx hb d_Screen_shown_69 rfl (lv_at hl 2 rfl) ?_
          refine lv_iadd hx hb d_Screen_shown_70 ?_
          obtain ⟨r71, c71, hd⟩ := hd
          refine ct_VR (As := [.int ((scA (Int32.toNatClampNeg x1)) + x2)]) (rest := []) (C := R_Row) (ci := 1) (q := (R_Row, F_Row, 3)) ⟨hx, hb, hml, hown, hts⟩ fm_Row_element (c_Row_element l dC dI cI cL cZ scS scSEa scSn scSE scSC scSO ((scA (Int32.toNatClampNeg x1)) + x2) r71 c71) k340_methodLink k4_instanceMethod k5_selects ⟨Nat.le_of_ble_eq_true rfl, Nat.le_of_ble_eq_true rfl⟩ rfl rfl hK hN hP hD [1, 2] rfl rfl (by decide) 1 rfl rfl rfl rfl hl.1 rfl (Nat.le_of_ble_eq_true rfl) d_Screen_shown_71 ?_
          refine lv_goto (tgt := 78) hx hb d_Screen_shown_74 (by decide) ?_
          have e0 : res = r71 := hd
          subst e0
          exact ct_iretR hx hb hr hlocks d_Screen_shown_78
  obtain ⟨n, hd⟩ := hd
  refine lv_iload_n hx hb d_Screen_shown_0 rfl (lv_at hl 1 rfl) ?_
  refine lv_if_lt (tgt := 16) hx hb d_Screen_shown_1 (by decide) (fun h1 => ?_) (fun h1 => ?_)
  · have hd := hd.1 h1
    refine lv_iconst (v := 0) hx hb d_Screen_shown_16 (by decide) ?_
    have e0 : res = 0 := hd
    subst e0
    exact ct_iretR hx hb hr hlocks d_Screen_shown_17
  · have hd := hd.2 h1
    refine lv_iload_n hx hb d_Screen_shown_4 rfl (lv_at hl 1 rfl) ?_
    refine lv_aload_n hx hb d_Screen_shown_5 rfl (lv_at hl 0 rfl) ?_
    refine va_get (D := (dC, dI)) (ci := 8) (v := .int scL) (C := R_Screen) (T := F_Screen) (N := 5) hx hb hts in_Screen hown hK hP 0 rfl rfl 3 (by decide) (hts _ (List.mem_cons_of_mem _ k334_fieldLink)) (fun _ h9 => h9) rfl d_Screen_shown_6 ?_
    refine lv_icmp_ge (tgt := 16) hx hb d_Screen_shown_9 (by decide) (fun h9 => ?_) (fun h9 => ?_)
    · have hd := hd.1 h9
      refine lv_iconst (v := 0) hx hb d_Screen_shown_16 (by decide) ?_
      have e0 : res = 0 := hd
      subst e0
      exact ct_iretR hx hb hr hlocks d_Screen_shown_17
    · have hd := hd.2 h9
      refine lv_iload_n hx hb d_Screen_shown_12 rfl (lv_at hl 2 rfl) ?_
      refine lv_if_ge (tgt := 18) hx hb d_Screen_shown_13 (by decide) (fun h13 => ?_) (fun h13 => ?_)
      · have hd := hd.1 h13
        refine lv_iload_n hx hb d_Screen_shown_18 rfl (lv_at hl 1 rfl) ?_
        refine lv_iconst (v := 1) hx hb d_Screen_shown_19 (by decide) ?_
        refine lv_iadd hx hb d_Screen_shown_20 ?_
        refine lv_aload_n hx hb d_Screen_shown_21 rfl (lv_at hl 0 rfl) ?_
        refine va_get (D := (dC, dI)) (ci := 8) (v := .int scL) (C := R_Screen) (T := F_Screen) (N := 5) hx hb hts in_Screen hown hK hP 0 rfl rfl 3 (by decide) (hts _ (List.mem_cons_of_mem _ k334_fieldLink)) (fun _ h9 => h9) rfl d_Screen_shown_22 ?_
        refine lv_icmp_ge (tgt := 39) hx hb d_Screen_shown_25 (by decide) (fun h25 => ?_) (fun h25 => ?_)
        · have hd := hd.1 h25
          refine lv_aload_n hx hb d_Screen_shown_39 rfl (lv_at hl 0 rfl) ?_
          refine va_get (D := (dC, dI)) (ci := 8) (v := .ref scS) (C := R_Screen) (T := F_Screen) (N := 5) hx hb hts in_Screen hown hK hP 0 rfl rfl 0 (by decide) (hts _ (List.mem_cons_of_mem _ k337_fieldLink)) (fun _ h9 => h9) rfl d_Screen_shown_40 ?_
          refine ct_VR (As := []) (rest := []) (C := R_Row) (ci := 1) (q := (R_Row, F_Row, 3)) ⟨hx, hb, hml, hown, hts⟩ fm_Row_count (c_Row_count l dC dI cI cL cZ scS scSEa scSn scSE scSC scSO scSC rfl) k338_methodLink k67_instanceMethod k68_selects ⟨Nat.le_of_ble_eq_true rfl, Nat.le_of_ble_eq_true rfl⟩ rfl rfl hK hN hP hD [1, 2] rfl rfl (by decide) 1 rfl rfl rfl rfl hl.1 rfl (Nat.le_of_ble_eq_true rfl) d_Screen_shown_43 ?_
          refine lv_istore_n (lv' := [(3, .int scSC), (0, .ref sc), (1, .int k0), (2, .int k1)]) hx hb d_Screen_shown_46 rfl hl (by decide) rfl (fun ls hl => ?_)
          exact (key n) k0 k1 scSC _ (lv_sub hl [1, 2, 3, 0] rfl) hd
        · have hd := hd.2 h25
          refine lv_aload_n hx hb d_Screen_shown_28 rfl (lv_at hl 0 rfl) ?_
          refine va_get (D := (dC, dI)) (ci := 8) (v := .ref scAa) (C := R_Screen) (T := F_Screen) (N := 5) hx hb hts in_Screen hown hK hP 0 rfl rfl 2 (by decide) (hts _ (List.mem_cons_of_mem _ k339_fieldLink)) (fun _ h9 => h9) rfl d_Screen_shown_29 ?_
          refine lv_iload_n hx hb d_Screen_shown_32 rfl (lv_at hl 1 rfl) ?_
          refine lv_iconst (v := 1) hx hb d_Screen_shown_33 (by decide) ?_
          refine lv_iadd hx hb d_Screen_shown_34 ?_
          obtain ⟨h35, hd⟩ := hd
          refine va_iald hx hb hK hP 5 0 rfl rfl h35 d_Screen_shown_35 ?_
          refine lv_goto (tgt := 46) hx hb d_Screen_shown_36 (by decide) ?_
          refine lv_istore_n (lv' := [(3, .int (scA (Int32.toNatClampNeg (k0 + 1)))), (0, .ref sc), (1, .int k0), (2, .int k1)]) hx hb d_Screen_shown_46 rfl hl (by decide) rfl (fun ls hl => ?_)
          exact (key n) k0 k1 (scA (Int32.toNatClampNeg (k0 + 1))) _ (lv_sub hl [1, 2, 3, 0] rfl) hd
      · have hd := hd.2 h13
        refine lv_iconst (v := 0) hx hb d_Screen_shown_16 (by decide) ?_
        have e0 : res = 0 := hd
        subst e0
        exact ct_iretR hx hb hr hlocks d_Screen_shown_17
-- Screen.beginLine
abbrev b_Screen_beginLine : ByteArray := prog_9_method_7_code
def y_Screen_beginLine : MethodName := ⟨"HelpFile$Screen", "beginLine", "()V"⟩
set_option maxRecDepth 100000 in
theorem fm_Screen_beginLine : Fm y_Screen_beginLine b_Screen_beginLine 1 none 0 := ⟨ga_t 990 rfl rfl, k335_initialized, by decide, by decide, by decide +kernel⟩
def D_Screen_beginLine (scSC : Int32) (scA : Nat → Int32) (scL : Int32) (scA' : Nat → Int32) (scL' : Int32) : Prop := ((256 ≤ scL → (scA' = scA ∧ scL' = scL)) ∧ (¬ (256 ≤ scL) → (vp_in scL 256 ∧ (scA' = upd scA (Int32.toNatClampNeg scL) scSC ∧ scL' = scL + 1))))
theorem d_Screen_beginLine_0 : decode b_Screen_beginLine 0 = .ok (.aload_n 0, 1) := by decide +kernel
theorem d_Screen_beginLine_1 : decode b_Screen_beginLine 1 = .ok (.getfield 27, 3) := by decide +kernel
theorem d_Screen_beginLine_4 : decode b_Screen_beginLine 4 = .ok (.sipush 256, 3) := by decide +kernel
theorem d_Screen_beginLine_7 : decode b_Screen_beginLine 7 = .ok (.if_icmp .ge 29, 3) := by decide +kernel
theorem d_Screen_beginLine_10 : decode b_Screen_beginLine 10 = .ok (.aload_n 0, 1) := by decide +kernel
theorem d_Screen_beginLine_11 : decode b_Screen_beginLine 11 = .ok (.getfield 23, 3) := by decide +kernel
theorem d_Screen_beginLine_14 : decode b_Screen_beginLine 14 = .ok (.aload_n 0, 1) := by decide +kernel
theorem d_Screen_beginLine_15 : decode b_Screen_beginLine 15 = .ok (.getfield 27, 3) := by decide +kernel
theorem d_Screen_beginLine_18 : decode b_Screen_beginLine 18 = .ok (.aload_n 0, 1) := by decide +kernel
theorem d_Screen_beginLine_19 : decode b_Screen_beginLine 19 = .ok (.getfield 16, 3) := by decide +kernel
theorem d_Screen_beginLine_22 : decode b_Screen_beginLine 22 = .ok (.invokevirtual 34, 3) := by decide +kernel
theorem d_Screen_beginLine_25 : decode b_Screen_beginLine 25 = .ok (.iastore, 1) := by decide +kernel
theorem d_Screen_beginLine_26 : decode b_Screen_beginLine 26 = .ok (.aload_n 0, 1) := by decide +kernel
theorem d_Screen_beginLine_27 : decode b_Screen_beginLine 27 = .ok (.dup, 1) := by decide +kernel
theorem d_Screen_beginLine_28 : decode b_Screen_beginLine 28 = .ok (.getfield 27, 3) := by decide +kernel
theorem d_Screen_beginLine_31 : decode b_Screen_beginLine 31 = .ok (.iconst 1, 1) := by decide +kernel
theorem d_Screen_beginLine_32 : decode b_Screen_beginLine 32 = .ok (.iadd, 1) := by decide +kernel
theorem d_Screen_beginLine_33 : decode b_Screen_beginLine 33 = .ok (.putfield 27, 3) := by decide +kernel
theorem d_Screen_beginLine_36 : decode b_Screen_beginLine 36 = .ok (.return_, 1) := by decide +kernel
set_option maxHeartbeats 4000000 in
set_option maxRecDepth 100000 in
theorem c_Screen_beginLine (l : Launch) (dC : Nat → ClassId) (dI : Nat → Nat → Nat) (cI cL cZ : ClassId) (sc : Nat) (scS : Nat) (scSEa : Nat) (scSn : Nat) (scSE : Nat → Int32) (scSC : Int32) (scSO : Bool) (scP : Nat) (scPEa : Nat) (scPn : Nat) (scPE : Nat → Int32) (scPC : Int32) (scPO : Bool) (scAa : Nat) (scA : Nat → Int32) (scL : Int32) (scW : Int32) (scA' : Nat → Int32) (scL' : Int32) (hd : D_Screen_beginLine scSC scA scL scA' scL') : Ctr l y_Screen_beginLine (Cond.code y_Screen_beginLine b_Screen_beginLine 1 none :: ga) { frames := 1, cells := 0, slots := 0, locals := 20 } (dC, dI) classes (Tys cI cL cZ) [.ref sc] ((sh_Screen cI cL cZ sc scS scSEa scSn scSE scSC scSO scP scPEa scPn scPE scPC scPO scAa scA scL scW)) none ((sh_Screen cI cL cZ sc scS scSEa scSn scSE scSC scSO scP scPEa scPn scPE scPC scPO scAa scA' scL' scW)) := by
  refine Ctr.ofW (by decide) (Nat.le_of_ble_eq_true rfl) ?_
  intro p e s m below meth c A ls hx hb hr hml hown hlocks hts hK hN hA hP hD hS hl
  have hown : s.vm.findClass R_Screen = some m.cls := hown
  have hl : lv_has ls 1 [(0, .ref sc)] := hl
  refine lv_aload_n hx hb d_Screen_beginLine_0 rfl (lv_at hl 0 rfl) ?_
  refine va_get (D := (dC, dI)) (ci := 8) (v := .int scL) (C := R_Screen) (T := F_Screen) (N := 5) hx hb hts in_Screen hown hK hP 0 rfl rfl 3 (by decide) (hts _ (List.mem_cons_of_mem _ k334_fieldLink)) (fun _ h9 => h9) rfl d_Screen_beginLine_1 ?_
  refine lv_sipush (v := 256) hx hb d_Screen_beginLine_4 (by decide) ?_
  refine lv_icmp_ge (tgt := 36) hx hb d_Screen_beginLine_7 (by decide) (fun h7 => ?_) (fun h7 => ?_)
  · have hd := hd.1 h7
    obtain ⟨e0, e1⟩ := hd
    subst e0
    subst e1
    exact ct_vret hx hb hr hlocks hK hP hD hS d_Screen_beginLine_36
  · have hd := hd.2 h7
    refine lv_aload_n hx hb d_Screen_beginLine_10 rfl (lv_at hl 0 rfl) ?_
    refine va_get (D := (dC, dI)) (ci := 8) (v := .ref scAa) (C := R_Screen) (T := F_Screen) (N := 5) hx hb hts in_Screen hown hK hP 0 rfl rfl 2 (by decide) (hts _ (List.mem_cons_of_mem _ k339_fieldLink)) (fun _ h9 => h9) rfl d_Screen_beginLine_11 ?_
    refine lv_aload_n hx hb d_Screen_beginLine_14 rfl (lv_at hl 0 rfl) ?_
    refine va_get (D := (dC, dI)) (ci := 8) (v := .int scL) (C := R_Screen) (T := F_Screen) (N := 5) hx hb hts in_Screen hown hK hP 0 rfl rfl 3 (by decide) (hts _ (List.mem_cons_of_mem _ k334_fieldLink)) (fun _ h9 => h9) rfl d_Screen_beginLine_15 ?_
    refine lv_aload_n hx hb d_Screen_beginLine_18 rfl (lv_at hl 0 rfl) ?_
    refine va_get (D := (dC, dI)) (ci := 8) (v := .ref scS) (C := R_Screen) (T := F_Screen) (N := 5) hx hb hts in_Screen hown hK hP 0 rfl rfl 0 (by decide) (hts _ (List.mem_cons_of_mem _ k337_fieldLink)) (fun _ h9 => h9) rfl d_Screen_beginLine_19 ?_
    refine ct_VR (As := []) (rest := [.int scL, .ref scAa]) (C := R_Row) (ci := 1) (q := (R_Row, F_Row, 3)) ⟨hx, hb, hml, hown, hts⟩ fm_Row_count (c_Row_count l dC dI cI cL cZ scS scSEa scSn scSE scSC scSO scSC rfl) k338_methodLink k67_instanceMethod k68_selects ⟨Nat.le_of_ble_eq_true rfl, Nat.le_of_ble_eq_true rfl⟩ rfl rfl hK hN hP hD [1, 2] rfl rfl (by decide) 1 rfl rfl rfl rfl hl.1 rfl (Nat.le_of_ble_eq_true rfl) d_Screen_beginLine_22 ?_
    obtain ⟨h25, hd⟩ := hd
    refine va_iast hx hb hK hP hD hS 5 0 rfl rfl h25 d_Screen_beginLine_25 (fun H locs hP hD hS => ?_)
    have hP : va_P (dC, dI) classes ((sh_Screen cI cL cZ sc scS scSEa scSn scSE scSC scSO scP scPEa scPn scPE scPC scPO scAa (upd scA (Int32.toNatClampNeg scL) scSC) scL scW)) H := hP
    have hD : va_D A ((sh_Screen cI cL cZ sc scS scSEa scSn scSE scSC scSO scP scPEa scPn scPE scPC scPO scAa (upd scA (Int32.toNatClampNeg scL) scSC) scL scW)) := hD
    refine lv_aload_n hx hb d_Screen_beginLine_26 rfl (lv_at hl 0 rfl) ?_
    refine lv_dup hx hb d_Screen_beginLine_27 rfl ?_
    refine va_get (D := (dC, dI)) (ci := 8) (v := .int scL) (C := R_Screen) (T := F_Screen) (N := 5) hx hb hts in_Screen hown hK hP 0 rfl rfl 3 (by decide) (hts _ (List.mem_cons_of_mem _ k334_fieldLink)) (fun _ h9 => h9) rfl d_Screen_beginLine_28 ?_
    refine lv_iconst (v := 1) hx hb d_Screen_beginLine_31 (by decide) ?_
    refine lv_iadd hx hb d_Screen_beginLine_32 ?_
    refine va_put (D := (dC, dI)) (ci := 8) (v := .int (scL + 1)) (ty := t_Screen 3) (C := R_Screen) (T := F_Screen) (N := 5) hx hb hts in_Screen t_Screen t_Screen_ok n_Screen hown hK hP hD hS 0 rfl rfl 3 (by decide) (hts _ (List.mem_cons_of_mem _ k334_fieldLink)) (fun _ h9 => h9) rfl (t_Screen_ok 3 (by decide)) rfl rfl (Nat.le_of_ble_eq_true rfl) d_Screen_beginLine_33 (fun H locs hP hD hS => ?_)
    have hP : va_P (dC, dI) classes ((sh_Screen cI cL cZ sc scS scSEa scSn scSE scSC scSO scP scPEa scPn scPE scPC scPO scAa (upd scA (Int32.toNatClampNeg scL) scSC) (scL + 1) scW)) H := hP
    have hD : va_D A ((sh_Screen cI cL cZ sc scS scSEa scSn scSE scSC scSO scP scPEa scPn scPE scPC scPO scAa (upd scA (Int32.toNatClampNeg scL) scSC) (scL + 1) scW)) := hD
    obtain ⟨e0, e1⟩ := hd
    subst e0
    subst e1
    exact ct_vret hx hb hr hlocks hK hP hD hS d_Screen_beginLine_36
-- Screen.beginParagraph
abbrev b_Screen_beginParagraph : ByteArray := prog_9_method_6_code
def y_Screen_beginParagraph : MethodName := ⟨"HelpFile$Screen", "beginParagraph", "()V"⟩
theorem k341_methodLink : Cond.methodLink "HelpFile$Screen" 74 ⟨"HelpFile$Screen", "beginLine", "()V"⟩ ∈ ga := ga_t 987 (by decide +kernel) rfl
theorem k342_instanceMethod : Cond.instanceMethod ⟨"HelpFile$Screen", "beginLine", "()V"⟩ ∈ ga := ga_t 989 (by decide +kernel) rfl
theorem k343_selects : Cond.selects "HelpFile$Screen" ⟨"HelpFile$Screen", "beginLine", "()V"⟩ ⟨"HelpFile$Screen", "beginLine", "()V"⟩ ∈ ga := ga_s (q := (⟨"HelpFile$Screen", "beginLine", "()V"⟩, _)) 29 rfl
set_option maxRecDepth 100000 in
theorem fm_Screen_beginParagraph : Fm y_Screen_beginParagraph b_Screen_beginParagraph 1 none 0 := ⟨ga_t 986 rfl rfl, k335_initialized, by decide, by decide, by decide +kernel⟩
def B_Screen_beginParagraph_11 (scSC : Int32) (scA' : Nat → Int32) (scL' : Int32) (X : (Nat → Int32) → Int32 → Prop) (scA : Nat → Int32) (scL : Int32) : Prop := (∃ scA_12 : Nat → Int32, ∃ scL_12 : Int32, D_Screen_beginLine scSC scA scL scA_12 scL_12 ∧ (scA' = scA_12 ∧ scL' = scL_12))
def S_Screen_beginParagraph (scSC : Int32) (scA' : Nat → Int32) (scL' : Int32) (X : (Nat → Int32) → Int32 → Prop) : (Nat → Int32) → Int32 → Prop := fun scA scL => B_Screen_beginParagraph_11 scSC scA' scL' X scA scL
def T_Screen_beginParagraph (scSC : Int32) (scA' : Nat → Int32) (scL' : Int32) : Nat → ((Nat → Int32) → Int32 → Prop)
  | 0 => fun _ _ => False
  | n + 1 => S_Screen_beginParagraph scSC scA' scL' (T_Screen_beginParagraph scSC scA' scL' n)
def D_Screen_beginParagraph (scSC : Int32) (scA : Nat → Int32) (scL : Int32) (scA' : Nat → Int32) (scL' : Int32) : Prop := ∃ n : Nat, ((scL ≤ 0 → T_Screen_beginParagraph scSC scA' scL' n scA scL) ∧ (¬ (scL ≤ 0) → (∃ scA_8 : Nat → Int32, ∃ scL_8 : Int32, D_Screen_beginLine scSC scA scL scA_8 scL_8 ∧ T_Screen_beginParagraph scSC scA' scL' n scA_8 scL_8)))
theorem d_Screen_beginParagraph_0 : decode b_Screen_beginParagraph 0 = .ok (.aload_n 0, 1) := by decide +kernel
theorem d_Screen_beginParagraph_1 : decode b_Screen_beginParagraph 1 = .ok (.getfield 27, 3) := by decide +kernel
theorem d_Screen_beginParagraph_4 : decode b_Screen_beginParagraph 4 = .ok (.ifCond .le 7, 3) := by decide +kernel
theorem d_Screen_beginParagraph_7 : decode b_Screen_beginParagraph 7 = .ok (.aload_n 0, 1) := by decide +kernel
theorem d_Screen_beginParagraph_8 : decode b_Screen_beginParagraph 8 = .ok (.invokevirtual 74, 3) := by decide +kernel
theorem d_Screen_beginParagraph_11 : decode b_Screen_beginParagraph 11 = .ok (.aload_n 0, 1) := by decide +kernel
theorem d_Screen_beginParagraph_12 : decode b_Screen_beginParagraph 12 = .ok (.invokevirtual 74, 3) := by decide +kernel
theorem d_Screen_beginParagraph_15 : decode b_Screen_beginParagraph 15 = .ok (.return_, 1) := by decide +kernel
set_option maxHeartbeats 4000000 in
set_option maxRecDepth 100000 in
theorem c_Screen_beginParagraph (l : Launch) (dC : Nat → ClassId) (dI : Nat → Nat → Nat) (cI cL cZ : ClassId) (sc : Nat) (scS : Nat) (scSEa : Nat) (scSn : Nat) (scSE : Nat → Int32) (scSC : Int32) (scSO : Bool) (scP : Nat) (scPEa : Nat) (scPn : Nat) (scPE : Nat → Int32) (scPC : Int32) (scPO : Bool) (scAa : Nat) (scA : Nat → Int32) (scL : Int32) (scW : Int32) (scA' : Nat → Int32) (scL' : Int32) (hd : D_Screen_beginParagraph scSC scA scL scA' scL') : Ctr l y_Screen_beginParagraph (Cond.code y_Screen_beginParagraph b_Screen_beginParagraph 1 none :: ga) { frames := 2, cells := 0, slots := 0, locals := 40 } (dC, dI) classes (Tys cI cL cZ) [.ref sc] ((sh_Screen cI cL cZ sc scS scSEa scSn scSE scSC scSO scP scPEa scPn scPE scPC scPO scAa scA scL scW)) none ((sh_Screen cI cL cZ sc scS scSEa scSn scSE scSC scSO scP scPEa scPn scPE scPC scPO scAa scA' scL' scW)) := by
  refine Ctr.ofW (by decide) (Nat.le_of_ble_eq_true rfl) ?_
  intro p e s m below meth c A ls hx hb hr hml hown hlocks hts hK hN hA hP hD hS hl
  have hown : s.vm.findClass R_Screen = some m.cls := hown
  have hl : lv_has ls 1 [(0, .ref sc)] := hl
  have key : ∀ n : Nat, (∀ (scA : Nat → Int32) (scL : Int32) (ls : Array Slot) (H : Heap) (locs : List Loc), lv_has ls 1 [(0, .ref sc)] → va_P (dC, dI) classes ((sh_Screen cI cL cZ sc scS scSEa scSn scSE scSC scSO scP scPEa scPn scPE scPC scPO scAa scA scL scW)) H → va_D A ((sh_Screen cI cL cZ sc scS scSEa scSn scSE scSC scSO scP scPEa scPn scPE scPC scPO scAa scA scL scW)) → va_S A s.heap H locs → T_Screen_beginParagraph scSC scA' scL' n scA scL → W p l e ({ frames := 2, cells := 0, slots := 0, locals := 40 }) s m ([.ref sc] : List Value).toArray below meth c H locs 0 0 (MQ below (Qs (dC, dI) classes (Tys cI cL cZ) none ((sh_Screen cI cL cZ sc scS scSEa scSn scSE scSC scSO scP scPEa scPn scPE scPC scPO scAa scA' scL' scW)) A) ([.ref sc] : List Value).toArray s 0 0 A) (F0 m 11 ls [])) := by
    intro n
    induction n with
    | zero =>
      exact fun _ _ _ _ _ _ _ _ _ hd => False.elim hd
    | succ n ih =>
      · intro scA scL ls H locs hl hP hD hS hd
        have hd : B_Screen_beginParagraph_11 scSC scA' scL' (T_Screen_beginParagraph scSC scA' scL' n) scA scL := hd
        refine lv_aload_n hx hb d_Screen_beginParagraph_11 rfl (lv_at hl 0 rfl) ?_
        obtain ⟨scA_12, scL_12, c12, hd⟩ := hd
        refine ct_V (As := []) (rest := []) (C := R_Screen) (ci := 8) (q := (R_Screen, F_Screen, 5)) ⟨hx, hb, hml, hown, hts⟩ fm_Screen_beginLine (c_Screen_beginLine l dC dI cI cL cZ sc scS scSEa scSn scSE scSC scSO scP scPEa scPn scPE scPC scPO scAa scA scL scW scA_12 scL_12 c12) k341_methodLink k342_instanceMethod k343_selects ⟨Nat.le_of_ble_eq_true rfl, Nat.le_of_ble_eq_true rfl⟩ rfl rfl hK hN hP hD hS hA [0, 1, 2, 3, 4, 5] [] rfl rfl rfl (by decide) (by decide) (by decide) 0 rfl rfl rfl rfl hl.1 rfl (Nat.le_of_ble_eq_true rfl) d_Screen_beginParagraph_12 (fun H locs hP hD hS => ?_)
        have hP : va_P (dC, dI) classes ((sh_Screen cI cL cZ sc scS scSEa scSn scSE scSC scSO scP scPEa scPn scPE scPC scPO scAa scA_12 scL_12 scW)) H := hP.sub [0, 1, 2, 3, 4, 5] rfl
        have hD : va_D A ((sh_Screen cI cL cZ sc scS scSEa scSn scSE scSC scSO scP scPEa scPn scPE scPC scPO scAa scA_12 scL_12 scW)) := hD.sub [0, 1, 2, 3, 4, 5] (by decide) rfl
        obtain ⟨e0, e1⟩ := hd
        subst e0
        subst e1
        exact ct_vret hx hb hr hlocks hK hP hD hS d_Screen_beginParagraph_15
  obtain ⟨n, hd⟩ := hd
  refine lv_aload_n hx hb d_Screen_beginParagraph_0 rfl (lv_at hl 0 rfl) ?_
  refine va_get (D := (dC, dI)) (ci := 8) (v := .int scL) (C := R_Screen) (T := F_Screen) (N := 5) hx hb hts in_Screen hown hK hP 0 rfl rfl 3 (by decide) (hts _ (List.mem_cons_of_mem _ k334_fieldLink)) (fun _ h9 => h9) rfl d_Screen_beginParagraph_1 ?_
  refine lv_if_le (tgt := 11) hx hb d_Screen_beginParagraph_4 (by decide) (fun h4 => ?_) (fun h4 => ?_)
  · have hd := hd.1 h4
    exact (key n) scA scL _ _ _ (lv_sub hl [0] rfl) hP hD hS hd
  · have hd := hd.2 h4
    refine lv_aload_n hx hb d_Screen_beginParagraph_7 rfl (lv_at hl 0 rfl) ?_
    obtain ⟨scA_8, scL_8, c8, hd⟩ := hd
    refine ct_V (As := []) (rest := []) (C := R_Screen) (ci := 8) (q := (R_Screen, F_Screen, 5)) ⟨hx, hb, hml, hown, hts⟩ fm_Screen_beginLine (c_Screen_beginLine l dC dI cI cL cZ sc scS scSEa scSn scSE scSC scSO scP scPEa scPn scPE scPC scPO scAa scA scL scW scA_8 scL_8 c8) k341_methodLink k342_instanceMethod k343_selects ⟨Nat.le_of_ble_eq_true rfl, Nat.le_of_ble_eq_true rfl⟩ rfl rfl hK hN hP hD hS hA [0, 1, 2, 3, 4, 5] [] rfl rfl rfl (by decide) (by decide) (by decide) 0 rfl rfl rfl rfl hl.1 rfl (Nat.le_of_ble_eq_true rfl) d_Screen_beginParagraph_8 (fun H locs hP hD hS => ?_)
    have hP : va_P (dC, dI) classes ((sh_Screen cI cL cZ sc scS scSEa scSn scSE scSC scSO scP scPEa scPn scPE scPC scPO scAa scA_8 scL_8 scW)) H := hP.sub [0, 1, 2, 3, 4, 5] rfl
    have hD : va_D A ((sh_Screen cI cL cZ sc scS scSEa scSn scSE scSC scSO scP scPEa scPn scPE scPC scPO scAa scA_8 scL_8 scW)) := hD.sub [0, 1, 2, 3, 4, 5] (by decide) rfl
    exact (key n) scA_8 scL_8 _ _ _ (lv_sub hl [0] rfl) hP hD hS hd
-- Screen.lineLength
abbrev b_Screen_lineLength : ByteArray := prog_9_method_8_code
def y_Screen_lineLength : MethodName := ⟨"HelpFile$Screen", "lineLength", "()I"⟩
set_option maxRecDepth 100000 in
theorem fm_Screen_lineLength : Fm y_Screen_lineLength b_Screen_lineLength 1 (some .int) 0 := ⟨ga_t 1009 rfl rfl, k335_initialized, by decide, by decide, by decide +kernel⟩
def D_Screen_lineLength (scSC : Int32) (scA : Nat → Int32) (scL : Int32) (res : Int32) : Prop := ((scL = 0 → (res = 0)) ∧ (¬ (scL = 0) → (vp_in (scL - 1) 256 ∧ (res = scSC - (scA (Int32.toNatClampNeg (scL - 1)))))))
theorem d_Screen_lineLength_0 : decode b_Screen_lineLength 0 = .ok (.aload_n 0, 1) := by decide +kernel
theorem d_Screen_lineLength_1 : decode b_Screen_lineLength 1 = .ok (.getfield 27, 3) := by decide +kernel
theorem d_Screen_lineLength_4 : decode b_Screen_lineLength 4 = .ok (.ifCond .ne 7, 3) := by decide +kernel
theorem d_Screen_lineLength_7 : decode b_Screen_lineLength 7 = .ok (.iconst 0, 1) := by decide +kernel
theorem d_Screen_lineLength_8 : decode b_Screen_lineLength 8 = .ok (.goto 22, 3) := by decide +kernel
theorem d_Screen_lineLength_11 : decode b_Screen_lineLength 11 = .ok (.aload_n 0, 1) := by decide +kernel
theorem d_Screen_lineLength_12 : decode b_Screen_lineLength 12 = .ok (.getfield 16, 3) := by decide +kernel
theorem d_Screen_lineLength_15 : decode b_Screen_lineLength 15 = .ok (.invokevirtual 34, 3) := by decide +kernel
theorem d_Screen_lineLength_18 : decode b_Screen_lineLength 18 = .ok (.aload_n 0, 1) := by decide +kernel
theorem d_Screen_lineLength_19 : decode b_Screen_lineLength 19 = .ok (.getfield 23, 3) := by decide +kernel
theorem d_Screen_lineLength_22 : decode b_Screen_lineLength 22 = .ok (.aload_n 0, 1) := by decide +kernel
theorem d_Screen_lineLength_23 : decode b_Screen_lineLength 23 = .ok (.getfield 27, 3) := by decide +kernel
theorem d_Screen_lineLength_26 : decode b_Screen_lineLength 26 = .ok (.iconst 1, 1) := by decide +kernel
theorem d_Screen_lineLength_27 : decode b_Screen_lineLength 27 = .ok (.isub, 1) := by decide +kernel
theorem d_Screen_lineLength_28 : decode b_Screen_lineLength 28 = .ok (.iaload, 1) := by decide +kernel
theorem d_Screen_lineLength_29 : decode b_Screen_lineLength 29 = .ok (.isub, 1) := by decide +kernel
theorem d_Screen_lineLength_30 : decode b_Screen_lineLength 30 = .ok (.ireturn, 1) := by decide +kernel
set_option maxHeartbeats 4000000 in
set_option maxRecDepth 100000 in
theorem c_Screen_lineLength (l : Launch) (dC : Nat → ClassId) (dI : Nat → Nat → Nat) (cI cL cZ : ClassId) (sc : Nat) (scS : Nat) (scSEa : Nat) (scSn : Nat) (scSE : Nat → Int32) (scSC : Int32) (scSO : Bool) (scP : Nat) (scPEa : Nat) (scPn : Nat) (scPE : Nat → Int32) (scPC : Int32) (scPO : Bool) (scAa : Nat) (scA : Nat → Int32) (scL : Int32) (scW : Int32) (res : Int32) (hd : D_Screen_lineLength scSC scA scL res) : CtrR l y_Screen_lineLength (Cond.code y_Screen_lineLength b_Screen_lineLength 1 (some .int) :: ga) { frames := 1, cells := 0, slots := 0, locals := 20 } (dC, dI) classes (Tys cI cL cZ) [.ref sc] ((sh_Screen cI cL cZ sc scS scSEa scSn scSE scSC scSO scP scPEa scPn scPE scPC scPO scAa scA scL scW)) (some (.int res)) := by
  refine CtrR.ofW (by decide) (Nat.le_of_ble_eq_true rfl) ?_
  intro p e s m below meth c ls hx hb hr hml hown hlocks hts hK hN hP hD hl
  have hown : s.vm.findClass R_Screen = some m.cls := hown
  have hl : lv_has ls 1 [(0, .ref sc)] := hl
  refine lv_aload_n hx hb d_Screen_lineLength_0 rfl (lv_at hl 0 rfl) ?_
  refine va_get (D := (dC, dI)) (ci := 8) (v := .int scL) (C := R_Screen) (T := F_Screen) (N := 5) hx hb hts in_Screen hown hK hP 0 rfl rfl 3 (by decide) (hts _ (List.mem_cons_of_mem _ k334_fieldLink)) (fun _ h9 => h9) rfl d_Screen_lineLength_1 ?_
  refine lv_if_ne (tgt := 11) hx hb d_Screen_lineLength_4 (by decide) (fun h4 => ?_) (fun h4 => ?_)
  · have hd := hd.2 h4
    refine lv_aload_n hx hb d_Screen_lineLength_11 rfl (lv_at hl 0 rfl) ?_
    refine va_get (D := (dC, dI)) (ci := 8) (v := .ref scS) (C := R_Screen) (T := F_Screen) (N := 5) hx hb hts in_Screen hown hK hP 0 rfl rfl 0 (by decide) (hts _ (List.mem_cons_of_mem _ k337_fieldLink)) (fun _ h9 => h9) rfl d_Screen_lineLength_12 ?_
    refine ct_VR (As := []) (rest := []) (C := R_Row) (ci := 1) (q := (R_Row, F_Row, 3)) ⟨hx, hb, hml, hown, hts⟩ fm_Row_count (c_Row_count l dC dI cI cL cZ scS scSEa scSn scSE scSC scSO scSC rfl) k338_methodLink k67_instanceMethod k68_selects ⟨Nat.le_of_ble_eq_true rfl, Nat.le_of_ble_eq_true rfl⟩ rfl rfl hK hN hP hD [1, 2] rfl rfl (by decide) 1 rfl rfl rfl rfl hl.1 rfl (Nat.le_of_ble_eq_true rfl) d_Screen_lineLength_15 ?_
    refine lv_aload_n hx hb d_Screen_lineLength_18 rfl (lv_at hl 0 rfl) ?_
    refine va_get (D := (dC, dI)) (ci := 8) (v := .ref scAa) (C := R_Screen) (T := F_Screen) (N := 5) hx hb hts in_Screen hown hK hP 0 rfl rfl 2 (by decide) (hts _ (List.mem_cons_of_mem _ k339_fieldLink)) (fun _ h9 => h9) rfl d_Screen_lineLength_19 ?_
    refine lv_aload_n hx hb d_Screen_lineLength_22 rfl (lv_at hl 0 rfl) ?_
    refine va_get (D := (dC, dI)) (ci := 8) (v := .int scL) (C := R_Screen) (T := F_Screen) (N := 5) hx hb hts in_Screen hown hK hP 0 rfl rfl 3 (by decide) (hts _ (List.mem_cons_of_mem _ k334_fieldLink)) (fun _ h9 => h9) rfl d_Screen_lineLength_23 ?_
    refine lv_iconst (v := 1) hx hb d_Screen_lineLength_26 (by decide) ?_
    refine lv_isub hx hb d_Screen_lineLength_27 ?_
    obtain ⟨h28, hd⟩ := hd
    refine va_iald hx hb hK hP 5 0 rfl rfl h28 d_Screen_lineLength_28 ?_
    refine lv_isub hx hb d_Screen_lineLength_29 ?_
    have e0 : res = scSC - (scA (Int32.toNatClampNeg (scL - 1))) := hd
    subst e0
    exact ct_iretR hx hb hr hlocks d_Screen_lineLength_30
  · have hd := hd.1 h4
    refine lv_iconst (v := 0) hx hb d_Screen_lineLength_7 (by decide) ?_
    refine lv_goto (tgt := 30) hx hb d_Screen_lineLength_8 (by decide) ?_
    have e0 : res = 0 := hd
    subst e0
    exact ct_iretR hx hb hr hlocks d_Screen_lineLength_30
-- Screen.appendLink
abbrev b_Screen_appendLink : ByteArray := prog_9_method_9_code
def y_Screen_appendLink : MethodName := ⟨"HelpFile$Screen", "appendLink", "(J)V"⟩
theorem k344_fieldLink : Cond.fieldLink "HelpFile$Screen" 20 "HelpFile$Screen" "part" "LHelpFile$Row;" ∈ ga := ga_t 168 (by decide +kernel) rfl
theorem k345_methodLink : Cond.methodLink "HelpFile$Screen" 71 ⟨"HelpFile$Row", "append", "(I)V"⟩ ∈ ga := ga_t 999 (by decide +kernel) rfl
theorem k346_methodLink : Cond.methodLink "HelpFile$Screen" 77 ⟨"HelpFile$Letters", "length", "(J)I"⟩ ∈ ga := ga_t 1000 (by decide +kernel) rfl
theorem k347_methodLink : Cond.methodLink "HelpFile$Screen" 83 ⟨"HelpFile$Letters", "letter", "(JI)I"⟩ ∈ ga := ga_t 1001 (by decide +kernel) rfl
set_option maxRecDepth 100000 in
theorem fm_Screen_appendLink : Fm y_Screen_appendLink b_Screen_appendLink 5 none 1 := ⟨ga_t 998 rfl rfl, k335_initialized, by decide, by decide, by decide +kernel⟩
def B_Screen_appendLink_17 (scPn : Nat) (scPE' : Nat → Int32) (scPC' : Int32) (scPO' : Bool) (X : Int64 → Int32 → Int32 → (Nat → Int32) → Int32 → Bool → Prop) (y1 : Int64) (x3 : Int32) (x4 : Int32) (scPE : Nat → Int32) (scPC : Int32) (scPO : Bool) : Prop := ((x3 ≤ x4 → (∃ scPE_48 : Nat → Int32, ∃ scPC_48 : Int32, ∃ scPO_48 : Bool, D_Row_append scPn 93 scPE scPC scPO scPE_48 scPC_48 scPO_48 ∧ (scPE' = scPE_48 ∧ scPC' = scPC_48 ∧ scPO' = scPO_48))) ∧ (¬ (x3 ≤ x4) → (∃ r30 : Int32, D_Letters_letter y1 x4 r30 ∧ (∃ scPE_33 : Nat → Int32, ∃ scPC_33 : Int32, ∃ scPO_33 : Bool, D_Row_append scPn r30 scPE scPC scPO scPE_33 scPC_33 scPO_33 ∧ X y1 x3 (x4 + 1) scPE_33 scPC_33 scPO_33))))
def S_Screen_appendLink (scPn : Nat) (scPE' : Nat → Int32) (scPC' : Int32) (scPO' : Bool) (X : Int64 → Int32 → Int32 → (Nat → Int32) → Int32 → Bool → Prop) : Int64 → Int32 → Int32 → (Nat → Int32) → Int32 → Bool → Prop := fun y1 x3 x4 scPE scPC scPO => B_Screen_appendLink_17 scPn scPE' scPC' scPO' X y1 x3 x4 scPE scPC scPO
def T_Screen_appendLink (scPn : Nat) (scPE' : Nat → Int32) (scPC' : Int32) (scPO' : Bool) : Nat → (Int64 → Int32 → Int32 → (Nat → Int32) → Int32 → Bool → Prop)
  | 0 => fun _ _ _ _ _ _ => False
  | n + 1 => S_Screen_appendLink scPn scPE' scPC' scPO' (T_Screen_appendLink scPn scPE' scPC' scPO' n)
def D_Screen_appendLink (scPn : Nat) (w0 : Int64) (scPE : Nat → Int32) (scPC : Int32) (scPO : Bool) (scPE' : Nat → Int32) (scPC' : Int32) (scPO' : Bool) : Prop := ∃ n : Nat, (∃ scPE_6 : Nat → Int32, ∃ scPC_6 : Int32, ∃ scPO_6 : Bool, D_Row_append scPn 91 scPE scPC scPO scPE_6 scPC_6 scPO_6 ∧ (∃ r10 : Int32, D_Letters_length w0 r10 ∧ T_Screen_appendLink scPn scPE' scPC' scPO' n w0 r10 0 scPE_6 scPC_6 scPO_6))
theorem d_Screen_appendLink_0 : decode b_Screen_appendLink 0 = .ok (.aload_n 0, 1) := by decide +kernel
theorem d_Screen_appendLink_1 : decode b_Screen_appendLink 1 = .ok (.getfield 20, 3) := by decide +kernel
theorem d_Screen_appendLink_4 : decode b_Screen_appendLink 4 = .ok (.bipush 91, 2) := by decide +kernel
theorem d_Screen_appendLink_6 : decode b_Screen_appendLink 6 = .ok (.invokevirtual 71, 3) := by decide +kernel
theorem d_Screen_appendLink_9 : decode b_Screen_appendLink 9 = .ok (.lload_n 1, 1) := by decide +kernel
theorem d_Screen_appendLink_10 : decode b_Screen_appendLink 10 = .ok (.invokestatic 77, 3) := by decide +kernel
theorem d_Screen_appendLink_13 : decode b_Screen_appendLink 13 = .ok (.istore_n 3, 1) := by decide +kernel
theorem d_Screen_appendLink_14 : decode b_Screen_appendLink 14 = .ok (.iconst 0, 1) := by decide +kernel
theorem d_Screen_appendLink_15 : decode b_Screen_appendLink 15 = .ok (.istore 4, 2) := by decide +kernel
theorem d_Screen_appendLink_17 : decode b_Screen_appendLink 17 = .ok (.iload 4, 2) := by decide +kernel
theorem d_Screen_appendLink_19 : decode b_Screen_appendLink 19 = .ok (.iload_n 3, 1) := by decide +kernel
theorem d_Screen_appendLink_20 : decode b_Screen_appendLink 20 = .ok (.if_icmp .ge 22, 3) := by decide +kernel
theorem d_Screen_appendLink_23 : decode b_Screen_appendLink 23 = .ok (.aload_n 0, 1) := by decide +kernel
theorem d_Screen_appendLink_24 : decode b_Screen_appendLink 24 = .ok (.getfield 20, 3) := by decide +kernel
theorem d_Screen_appendLink_27 : decode b_Screen_appendLink 27 = .ok (.lload_n 1, 1) := by decide +kernel
theorem d_Screen_appendLink_28 : decode b_Screen_appendLink 28 = .ok (.iload 4, 2) := by decide +kernel
theorem d_Screen_appendLink_30 : decode b_Screen_appendLink 30 = .ok (.invokestatic 83, 3) := by decide +kernel
theorem d_Screen_appendLink_33 : decode b_Screen_appendLink 33 = .ok (.invokevirtual 71, 3) := by decide +kernel
theorem d_Screen_appendLink_36 : decode b_Screen_appendLink 36 = .ok (.iinc 4 1, 3) := by decide +kernel
theorem d_Screen_appendLink_39 : decode b_Screen_appendLink 39 = .ok (.goto (-22), 3) := by decide +kernel
theorem d_Screen_appendLink_42 : decode b_Screen_appendLink 42 = .ok (.aload_n 0, 1) := by decide +kernel
theorem d_Screen_appendLink_43 : decode b_Screen_appendLink 43 = .ok (.getfield 20, 3) := by decide +kernel
theorem d_Screen_appendLink_46 : decode b_Screen_appendLink 46 = .ok (.bipush 93, 2) := by decide +kernel
theorem d_Screen_appendLink_48 : decode b_Screen_appendLink 48 = .ok (.invokevirtual 71, 3) := by decide +kernel
theorem d_Screen_appendLink_51 : decode b_Screen_appendLink 51 = .ok (.return_, 1) := by decide +kernel
set_option maxHeartbeats 4000000 in
set_option maxRecDepth 100000 in
theorem c_Screen_appendLink (l : Launch) (dC : Nat → ClassId) (dI : Nat → Nat → Nat) (cI cL cZ : ClassId) (sc : Nat) (scS : Nat) (scSEa : Nat) (scSn : Nat) (scSE : Nat → Int32) (scSC : Int32) (scSO : Bool) (scP : Nat) (scPEa : Nat) (scPn : Nat) (scPE : Nat → Int32) (scPC : Int32) (scPO : Bool) (scAa : Nat) (scA : Nat → Int32) (scL : Int32) (scW : Int32) (w0 : Int64) (scPE' : Nat → Int32) (scPC' : Int32) (scPO' : Bool) (hd : D_Screen_appendLink scPn w0 scPE scPC scPO scPE' scPC' scPO') : Ctr l y_Screen_appendLink (Cond.code y_Screen_appendLink b_Screen_appendLink 5 none :: ga) { frames := 1, cells := 0, slots := 0, locals := 23 } (dC, dI) classes (Tys cI cL cZ) [.ref sc, .long w0] ((sh_Screen cI cL cZ sc scS scSEa scSn scSE scSC scSO scP scPEa scPn scPE scPC scPO scAa scA scL scW)) none ((sh_Screen cI cL cZ sc scS scSEa scSn scSE scSC scSO scP scPEa scPn scPE' scPC' scPO' scAa scA scL scW)) := by
  refine Ctr.ofW (by decide) (Nat.le_of_ble_eq_true rfl) ?_
  intro p e s m below meth c A ls hx hb hr hml hown hlocks hts hK hN hA hP hD hS hl
  have hown : s.vm.findClass R_Screen = some m.cls := hown
  have hl : lv_has ls 5 [(0, .ref sc), (1, .long w0)] := hl
  have key : ∀ n : Nat, (∀ (y1 : Int64) (x3 : Int32) (x4 : Int32) (scPE : Nat → Int32) (scPC : Int32) (scPO : Bool) (ls : Array Slot) (H : Heap) (locs : List Loc), lv_has ls 5 [(0, .ref sc), (1, .long y1), (3, .int x3), (4, .int x4)] → va_P (dC, dI) classes ((sh_Screen cI cL cZ sc scS scSEa scSn scSE scSC scSO scP scPEa scPn scPE scPC scPO scAa scA scL scW)) H → va_D A ((sh_Screen cI cL cZ sc scS scSEa scSn scSE scSC scSO scP scPEa scPn scPE scPC scPO scAa scA scL scW)) → va_S A s.heap H locs → T_Screen_appendLink scPn scPE' scPC' scPO' n y1 x3 x4 scPE scPC scPO → W p l e ({ frames := 1, cells := 0, slots := 0, locals := 23 }) s m ([.ref sc, .long w0] : List Value).toArray below meth c H locs 0 0 (MQ below (Qs (dC, dI) classes (Tys cI cL cZ) none ((sh_Screen cI cL cZ sc scS scSEa scSn scSE scSC scSO scP scPEa scPn scPE' scPC' scPO' scAa scA scL scW)) A) ([.ref sc, .long w0] : List Value).toArray s 0 0 A) (F0 m 17 ls [])) := by
    intro n
    induction n with
    | zero =>
      exact fun _ _ _ _ _ _ _ _ _ _ _ _ _ hd => False.elim hd
    | succ n ih =>
      · intro y1 x3 x4 scPE scPC scPO ls H locs hl hP hD hS hd
        have hd : B_Screen_appendLink_17 scPn scPE' scPC' scPO' (T_Screen_appendLink scPn scPE' scPC' scPO' n) y1 x3 x4 scPE scPC scPO := hd
        refine lv_iload hx hb d_Screen_appendLink_17 (lv_at hl 3 rfl) ?_
        refine lv_iload_n hx hb d_Screen_appendLink_19 rfl (lv_at hl 2 rfl) ?_
        refine lv_icmp_ge (tgt := 42) hx hb d_Screen_appendLink_20 (by decide) (fun h20 => ?_) (fun h20 => ?_)
        · have hd := hd.1 h20
          refine lv_aload_n hx hb d_Screen_appendLink_42 rfl (lv_at hl 0 rfl) ?_
          refine va_get (D := (dC, dI)) (ci := 8) (v := .ref scP) (C := R_Screen) (T := F_Screen) (N := 5) hx hb hts in_Screen hown hK hP 0 rfl rfl 1 (by decide) (hts _ (List.mem_cons_of_mem _ k344_fieldLink)) (fun _ h9 => h9) rfl d_Screen_appendLink_43 ?_
          refine lv_bipush (v := 93) hx hb d_Screen_appendLink_46 (by decide) ?_
          obtain ⟨scPE_48, scPC_48, scPO_48, c48, hd⟩ := hd
          refine ct_V (As := [.int 93]) (rest := []) (C := R_Row) (ci := 1) (q := (R_Row, F_Row, 3)) ⟨hx, hb, hml, hown, hts⟩ fm_Row_append (c_Row_append l dC dI cI cL cZ scP scPEa scPn scPE scPC scPO 93 scPE_48 scPC_48 scPO_48 c48) k345_methodLink k8_instanceMethod k9_selects ⟨Nat.le_of_ble_eq_true rfl, Nat.le_of_ble_eq_true rfl⟩ rfl rfl hK hN hP hD hS hA [3, 4] [0, 1, 2, 5] rfl rfl rfl (by decide) (by decide) (by decide) 3 rfl rfl rfl rfl hl.1 rfl (Nat.le_of_ble_eq_true rfl) d_Screen_appendLink_48 (fun H locs hP hD hS => ?_)
          have hP : va_P (dC, dI) classes ((sh_Screen cI cL cZ sc scS scSEa scSn scSE scSC scSO scP scPEa scPn scPE_48 scPC_48 scPO_48 scAa scA scL scW)) H := hP.sub [0, 1, 2, 4, 5, 3] rfl
          have hD : va_D A ((sh_Screen cI cL cZ sc scS scSEa scSn scSE scSC scSO scP scPEa scPn scPE_48 scPC_48 scPO_48 scAa scA scL scW)) := hD.sub [0, 1, 2, 4, 5, 3] (by decide) rfl
          obtain ⟨e0, e1, e2⟩ := hd
          subst e0
          subst e1
          subst e2
          exact ct_vret hx hb hr hlocks hK hP hD hS d_Screen_appendLink_51
        · have hd := hd.2 h20
          refine lv_aload_n hx hb d_Screen_appendLink_23 rfl (lv_at hl 0 rfl) ?_
          refine va_get (D := (dC, dI)) (ci := 8) (v := .ref scP) (C := R_Screen) (T := F_Screen) (N := 5) hx hb hts in_Screen hown hK hP 0 rfl rfl 1 (by decide) (hts _ (List.mem_cons_of_mem _ k344_fieldLink)) (fun _ h9 => h9) rfl d_Screen_appendLink_24 ?_
          refine lv_lload_n hx hb d_Screen_appendLink_27 rfl (lv_at hl 1 rfl) ?_
          refine lv_iload hx hb d_Screen_appendLink_28 (lv_at hl 3 rfl) ?_
          obtain ⟨r30, c30, hd⟩ := hd
          refine ct_SR (As := [.long y1, .int x4]) (rest := [.ref scP]) ⟨hx, hb, hml, hown, hts⟩ fm_Letters_letter (c_Letters_letter l dC dI cI cL cZ y1 x4 r30 c30) k347_methodLink k196_static ⟨Nat.le_of_ble_eq_true rfl, Nat.le_of_ble_eq_true rfl⟩ rfl rfl hK hN hP hD [] rfl rfl (by decide) rfl hl.1 rfl (Nat.le_of_ble_eq_true rfl) d_Screen_appendLink_30 ?_
          obtain ⟨scPE_33, scPC_33, scPO_33, c33, hd⟩ := hd
          refine ct_V (As := [.int r30]) (rest := []) (C := R_Row) (ci := 1) (q := (R_Row, F_Row, 3)) ⟨hx, hb, hml, hown, hts⟩ fm_Row_append (c_Row_append l dC dI cI cL cZ scP scPEa scPn scPE scPC scPO r30 scPE_33 scPC_33 scPO_33 c33) k345_methodLink k8_instanceMethod k9_selects ⟨Nat.le_of_ble_eq_true rfl, Nat.le_of_ble_eq_true rfl⟩ rfl rfl hK hN hP hD hS hA [3, 4] [0, 1, 2, 5] rfl rfl rfl (by decide) (by decide) (by decide) 3 rfl rfl rfl rfl hl.1 rfl (Nat.le_of_ble_eq_true rfl) d_Screen_appendLink_33 (fun H locs hP hD hS => ?_)
          have hP : va_P (dC, dI) classes ((sh_Screen cI cL cZ sc scS scSEa scSn scSE scSC scSO scP scPEa scPn scPE_33 scPC_33 scPO_33 scAa scA scL scW)) H := hP.sub [0, 1, 2, 4, 5, 3] rfl
          have hD : va_D A ((sh_Screen cI cL cZ sc scS scSEa scSn scSE scSC scSO scP scPEa scPn scPE_33 scPC_33 scPO_33 scAa scA scL scW)) := hD.sub [0, 1, 2, 4, 5, 3] (by decide) rfl
          refine lv_iinc (k := 3) (v := x4 + 1) (lv' := [(4, .int (x4 + 1)), (0, .ref sc), (1, .long y1), (3, .int x3)]) hx hb d_Screen_appendLink_36 hl rfl (congrArg (fun z => x4 + z) (by decide)) (by decide) rfl (fun ls hl => ?_)
          refine lv_goto (tgt := 17) hx hb d_Screen_appendLink_39 (by decide) ?_
          exact ih y1 x3 (x4 + 1) scPE_33 scPC_33 scPO_33 _ _ _ (lv_sub hl [1, 2, 3, 0] rfl) hP hD hS hd
  obtain ⟨n, hd⟩ := hd
  refine lv_aload_n hx hb d_Screen_appendLink_0 rfl (lv_at hl 0 rfl) ?_
  refine va_get (D := (dC, dI)) (ci := 8) (v := .ref scP) (C := R_Screen) (T := F_Screen) (N := 5) hx hb hts in_Screen hown hK hP 0 rfl rfl 1 (by decide) (hts _ (List.mem_cons_of_mem _ k344_fieldLink)) (fun _ h9 => h9) rfl d_Screen_appendLink_1 ?_
  refine lv_bipush (v := 91) hx hb d_Screen_appendLink_4 (by decide) ?_
  obtain ⟨scPE_6, scPC_6, scPO_6, c6, hd⟩ := hd
  refine ct_V (As := [.int 91]) (rest := []) (C := R_Row) (ci := 1) (q := (R_Row, F_Row, 3)) ⟨hx, hb, hml, hown, hts⟩ fm_Row_append (c_Row_append l dC dI cI cL cZ scP scPEa scPn scPE scPC scPO 91 scPE_6 scPC_6 scPO_6 c6) k345_methodLink k8_instanceMethod k9_selects ⟨Nat.le_of_ble_eq_true rfl, Nat.le_of_ble_eq_true rfl⟩ rfl rfl hK hN hP hD hS hA [3, 4] [0, 1, 2, 5] rfl rfl rfl (by decide) (by decide) (by decide) 3 rfl rfl rfl rfl hl.1 rfl (Nat.le_of_ble_eq_true rfl) d_Screen_appendLink_6 (fun H locs hP hD hS => ?_)
  have hP : va_P (dC, dI) classes ((sh_Screen cI cL cZ sc scS scSEa scSn scSE scSC scSO scP scPEa scPn scPE_6 scPC_6 scPO_6 scAa scA scL scW)) H := hP.sub [0, 1, 2, 4, 5, 3] rfl
  have hD : va_D A ((sh_Screen cI cL cZ sc scS scSEa scSn scSE scSC scSO scP scPEa scPn scPE_6 scPC_6 scPO_6 scAa scA scL scW)) := hD.sub [0, 1, 2, 4, 5, 3] (by decide) rfl
  refine lv_lload_n hx hb d_Screen_appendLink_9 rfl (lv_at hl 1 rfl) ?_
  obtain ⟨r10, c10, hd⟩ := hd
  refine ct_SR (As := [.long w0]) (rest := []) ⟨hx, hb, hml, hown, hts⟩ fm_Letters_length (c_Letters_length l dC dI cI cL cZ w0 r10 c10) k346_methodLink k200_static ⟨Nat.le_of_ble_eq_true rfl, Nat.le_of_ble_eq_true rfl⟩ rfl rfl hK hN hP hD [] rfl rfl (by decide) rfl hl.1 rfl (Nat.le_of_ble_eq_true rfl) d_Screen_appendLink_10 ?_
  refine lv_istore_n (lv' := [(3, .int r10), (0, .ref sc), (1, .long w0)]) hx hb d_Screen_appendLink_13 rfl hl (by decide) rfl (fun ls hl => ?_)
  refine lv_iconst (v := 0) hx hb d_Screen_appendLink_14 (by decide) ?_
  refine lv_istore (lv' := [(4, .int 0), (3, .int r10), (0, .ref sc), (1, .long w0)]) hx hb d_Screen_appendLink_15 hl (by decide) rfl (fun ls hl => ?_)
  exact (key n) w0 r10 0 scPE_6 scPC_6 scPO_6 _ _ _ (lv_sub hl [2, 3, 1, 0] rfl) hP hD hS hd
-- Screen.layPart
abbrev b_Screen_layPart : ByteArray := prog_9_method_10_code
def y_Screen_layPart : MethodName := ⟨"HelpFile$Screen", "layPart", "()V"⟩
theorem k348_methodLink : Cond.methodLink "HelpFile$Screen" 87 ⟨"HelpFile$Screen", "lineLength", "()I"⟩ ∈ ga := ga_t 1006 (by decide +kernel) rfl
theorem k349_instanceMethod : Cond.instanceMethod ⟨"HelpFile$Screen", "lineLength", "()I"⟩ ∈ ga := ga_t 1008 (by decide +kernel) rfl
theorem k350_selects : Cond.selects "HelpFile$Screen" ⟨"HelpFile$Screen", "lineLength", "()I"⟩ ⟨"HelpFile$Screen", "lineLength", "()I"⟩ ∈ ga := ga_s (q := (⟨"HelpFile$Screen", "lineLength", "()I"⟩, _)) 32 rfl
theorem k351_methodLink : Cond.methodLink "HelpFile$Screen" 42 ⟨"HelpFile$Row", "shorten", "(I)V"⟩ ∈ ga := ga_t 980 (by decide +kernel) rfl
set_option maxRecDepth 100000 in
theorem fm_Screen_layPart : Fm y_Screen_layPart b_Screen_layPart 2 none 0 := ⟨ga_t 1005 rfl rfl, k335_initialized, by decide, by decide, by decide +kernel⟩
def B_Screen_layPart_46 (scSn : Nat) (scPn : Nat) (scPE : Nat → Int32) (scW : Int32) (scSE' : Nat → Int32) (scSC' : Int32) (scSO' : Bool) (scPC' : Int32) (scPO' : Bool) (scA' : Nat → Int32) (scL' : Int32) (X : Nat → Int32 → (Nat → Int32) → Int32 → Bool → Int32 → Bool → (Nat → Int32) → Int32 → Prop) (scSE : Nat → Int32) (scSC : Int32) (scSO : Bool) (scPC : Int32) (scPO : Bool) (scA : Nat → Int32) (scL : Int32) : Prop := (∃ r47 : Int32, D_Screen_lineLength scSC scA scL r47 ∧ ((r47 ≤ 0 → X 1 0 scSE scSC scSO scPC scPO scA scL) ∧ (¬ (r47 ≤ 0) → (∃ scSE_59 : Nat → Int32, ∃ scSC_59 : Int32, ∃ scSO_59 : Bool, D_Row_append scSn 32 scSE scSC scSO scSE_59 scSC_59 scSO_59 ∧ X 1 0 scSE_59 scSC_59 scSO_59 scPC scPO scA scL))))
def B_Screen_layPart_62 (scSn : Nat) (scPn : Nat) (scPE : Nat → Int32) (scW : Int32) (scSE' : Nat → Int32) (scSC' : Int32) (scSO' : Bool) (scPC' : Int32) (scPO' : Bool) (scA' : Nat → Int32) (scL' : Int32) (X : Nat → Int32 → (Nat → Int32) → Int32 → Bool → Int32 → Bool → (Nat → Int32) → Int32 → Prop) (scSE : Nat → Int32) (scSC : Int32) (scSO : Bool) (scPC : Int32) (scPO : Bool) (scA : Nat → Int32) (scL : Int32) : Prop := X 2 0 scSE scSC scSO scPC scPO scA scL
def B_Screen_layPart_64 (scSn : Nat) (scPn : Nat) (scPE : Nat → Int32) (scW : Int32) (scSE' : Nat → Int32) (scSC' : Int32) (scSO' : Bool) (scPC' : Int32) (scPO' : Bool) (scA' : Nat → Int32) (scL' : Int32) (X : Nat → Int32 → (Nat → Int32) → Int32 → Bool → Int32 → Bool → (Nat → Int32) → Int32 → Prop) (x1 : Int32) (scSE : Nat → Int32) (scSC : Int32) (scSO : Bool) (scPC : Int32) (scPO : Bool) (scA : Nat → Int32) (scL : Int32) : Prop := ((scPC ≤ x1 → (∃ scPC_116 : Int32, ∃ scPO_116 : Bool, D_Row_shorten 0 scPC scPO scPC_116 scPO_116 ∧ (scSE' = scSE ∧ scSC' = scSC ∧ scSO' = scSO ∧ scPC' = scPC_116 ∧ scPO' = scPO_116 ∧ scA' = scA ∧ scL' = scL))) ∧ (¬ (scPC ≤ x1) → (∃ r76 : Int32, D_Screen_lineLength scSC scA scL r76 ∧ ((r76 < scW → X 3 x1 scSE scSC scSO scPC scPO scA scL) ∧ (¬ (r76 < scW) → (∃ scA_87 : Nat → Int32, ∃ scL_87 : Int32, D_Screen_beginLine scSC scA scL scA_87 scL_87 ∧ X 3 x1 scSE scSC scSO scPC scPO scA_87 scL_87))))))
def B_Screen_layPart_90 (scSn : Nat) (scPn : Nat) (scPE : Nat → Int32) (scW : Int32) (scSE' : Nat → Int32) (scSC' : Int32) (scSO' : Bool) (scPC' : Int32) (scPO' : Bool) (scA' : Nat → Int32) (scL' : Int32) (X : Nat → Int32 → (Nat → Int32) → Int32 → Bool → Int32 → Bool → (Nat → Int32) → Int32 → Prop) (x1 : Int32) (scSE : Nat → Int32) (scSC : Int32) (scSO : Bool) (scPC : Int32) (scPO : Bool) (scA : Nat → Int32) (scL : Int32) : Prop := (∃ r99 : Int32, D_Row_element scPn x1 scPE scPC r99 ∧ (∃ scSE_102 : Nat → Int32, ∃ scSC_102 : Int32, ∃ scSO_102 : Bool, D_Row_append scSn r99 scSE scSC scSO scSE_102 scSC_102 scSO_102 ∧ X 2 (x1 + 1) scSE_102 scSC_102 scSO_102 scPC scPO scA scL))
def S_Screen_layPart (scSn : Nat) (scPn : Nat) (scPE : Nat → Int32) (scW : Int32) (scSE' : Nat → Int32) (scSC' : Int32) (scSO' : Bool) (scPC' : Int32) (scPO' : Bool) (scA' : Nat → Int32) (scL' : Int32) (X : Nat → Int32 → (Nat → Int32) → Int32 → Bool → Int32 → Bool → (Nat → Int32) → Int32 → Prop) : Nat → Int32 → (Nat → Int32) → Int32 → Bool → Int32 → Bool → (Nat → Int32) → Int32 → Prop := fun q_lab x1 scSE scSC scSO scPC scPO scA scL => match q_lab with | 0 => B_Screen_layPart_46 scSn scPn scPE scW scSE' scSC' scSO' scPC' scPO' scA' scL' X scSE scSC scSO scPC scPO scA scL | 1 => B_Screen_layPart_62 scSn scPn scPE scW scSE' scSC' scSO' scPC' scPO' scA' scL' X scSE scSC scSO scPC scPO scA scL | 2 => B_Screen_layPart_64 scSn scPn scPE scW scSE' scSC' scSO' scPC' scPO' scA' scL' X x1 scSE scSC scSO scPC scPO scA scL | 3 => B_Screen_layPart_90 scSn scPn scPE scW scSE' scSC' scSO' scPC' scPO' scA' scL' X x1 scSE scSC scSO scPC scPO scA scL | _ => False
def T_Screen_layPart (scSn : Nat) (scPn : Nat) (scPE : Nat → Int32) (scW : Int32) (scSE' : Nat → Int32) (scSC' : Int32) (scSO' : Bool) (scPC' : Int32) (scPO' : Bool) (scA' : Nat → Int32) (scL' : Int32) : Nat → (Nat → Int32 → (Nat → Int32) → Int32 → Bool → Int32 → Bool → (Nat → Int32) → Int32 → Prop)
  | 0 => fun _ _ _ _ _ _ _ _ _ => False
  | n + 1 => S_Screen_layPart scSn scPn scPE scW scSE' scSC' scSO' scPC' scPO' scA' scL' (T_Screen_layPart scSn scPn scPE scW scSE' scSC' scSO' scPC' scPO' scA' scL' n)
def D_Screen_layPart (scSn : Nat) (scPn : Nat) (scSE : Nat → Int32) (scSC : Int32) (scSO : Bool) (scPE : Nat → Int32) (scPC : Int32) (scPO : Bool) (scA : Nat → Int32) (scL : Int32) (scW : Int32) (scSE' : Nat → Int32) (scSC' : Int32) (scSO' : Bool) (scPC' : Int32) (scPO' : Bool) (scA' : Nat → Int32) (scL' : Int32) : Prop := ∃ n : Nat, ((scPC = 0 → (scSE' = scSE ∧ scSC' = scSC ∧ scSO' = scSO ∧ scPC' = scPC ∧ scPO' = scPO ∧ scA' = scA ∧ scL' = scL)) ∧ (¬ (scPC = 0) → (∃ r12 : Int32, D_Screen_lineLength scSC scA scL r12 ∧ ((r12 ≤ 0 → T_Screen_layPart scSn scPn scPE scW scSE' scSC' scSO' scPC' scPO' scA' scL' n 0 0 scSE scSC scSO scPC scPO scA scL) ∧ (¬ (r12 ≤ 0) → (∃ r19 : Int32, D_Screen_lineLength scSC scA scL r19 ∧ ((((r19 + 1) + scPC) ≤ scW → T_Screen_layPart scSn scPn scPE scW scSE' scSC' scSO' scPC' scPO' scA' scL' n 0 0 scSE scSC scSO scPC scPO scA scL) ∧ (¬ (((r19 + 1) + scPC) ≤ scW) → (∃ scA_40 : Nat → Int32, ∃ scL_40 : Int32, D_Screen_beginLine scSC scA scL scA_40 scL_40 ∧ T_Screen_layPart scSn scPn scPE scW scSE' scSC' scSO' scPC' scPO' scA' scL' n 1 0 scSE scSC scSO scPC scPO scA_40 scL_40)))))))))
theorem d_Screen_layPart_0 : decode b_Screen_layPart 0 = .ok (.aload_n 0, 1) := by decide +kernel
theorem d_Screen_layPart_1 : decode b_Screen_layPart 1 = .ok (.getfield 20, 3) := by decide +kernel
theorem d_Screen_layPart_4 : decode b_Screen_layPart 4 = .ok (.invokevirtual 34, 3) := by decide +kernel
theorem d_Screen_layPart_7 : decode b_Screen_layPart 7 = .ok (.ifCond .ne 4, 3) := by decide +kernel
theorem d_Screen_layPart_10 : decode b_Screen_layPart 10 = .ok (.return_, 1) := by decide +kernel
theorem d_Screen_layPart_11 : decode b_Screen_layPart 11 = .ok (.aload_n 0, 1) := by decide +kernel
theorem d_Screen_layPart_12 : decode b_Screen_layPart 12 = .ok (.invokevirtual 87, 3) := by decide +kernel
theorem d_Screen_layPart_15 : decode b_Screen_layPart 15 = .ok (.ifCond .le 31, 3) := by decide +kernel
theorem d_Screen_layPart_18 : decode b_Screen_layPart 18 = .ok (.aload_n 0, 1) := by decide +kernel
theorem d_Screen_layPart_19 : decode b_Screen_layPart 19 = .ok (.invokevirtual 87, 3) := by decide +kernel
theorem d_Screen_layPart_22 : decode b_Screen_layPart 22 = .ok (.iconst 1, 1) := by decide +kernel
theorem d_Screen_layPart_23 : decode b_Screen_layPart 23 = .ok (.iadd, 1) := by decide +kernel
theorem d_Screen_layPart_24 : decode b_Screen_layPart 24 = .ok (.aload_n 0, 1) := by decide +kernel
theorem d_Screen_layPart_25 : decode b_Screen_layPart 25 = .ok (.getfield 20, 3) := by decide +kernel
theorem d_Screen_layPart_28 : decode b_Screen_layPart 28 = .ok (.invokevirtual 34, 3) := by decide +kernel
theorem d_Screen_layPart_31 : decode b_Screen_layPart 31 = .ok (.iadd, 1) := by decide +kernel
theorem d_Screen_layPart_32 : decode b_Screen_layPart 32 = .ok (.aload_n 0, 1) := by decide +kernel
theorem d_Screen_layPart_33 : decode b_Screen_layPart 33 = .ok (.getfield 31, 3) := by decide +kernel
theorem d_Screen_layPart_36 : decode b_Screen_layPart 36 = .ok (.if_icmp .le 10, 3) := by decide +kernel
theorem d_Screen_layPart_39 : decode b_Screen_layPart 39 = .ok (.aload_n 0, 1) := by decide +kernel
theorem d_Screen_layPart_40 : decode b_Screen_layPart 40 = .ok (.invokevirtual 74, 3) := by decide +kernel
theorem d_Screen_layPart_43 : decode b_Screen_layPart 43 = .ok (.goto 19, 3) := by decide +kernel
theorem d_Screen_layPart_46 : decode b_Screen_layPart 46 = .ok (.aload_n 0, 1) := by decide +kernel
theorem d_Screen_layPart_47 : decode b_Screen_layPart 47 = .ok (.invokevirtual 87, 3) := by decide +kernel
theorem d_Screen_layPart_50 : decode b_Screen_layPart 50 = .ok (.ifCond .le 12, 3) := by decide +kernel
theorem d_Screen_layPart_53 : decode b_Screen_layPart 53 = .ok (.aload_n 0, 1) := by decide +kernel
theorem d_Screen_layPart_54 : decode b_Screen_layPart 54 = .ok (.getfield 16, 3) := by decide +kernel
theorem d_Screen_layPart_57 : decode b_Screen_layPart 57 = .ok (.bipush 32, 2) := by decide +kernel
theorem d_Screen_layPart_59 : decode b_Screen_layPart 59 = .ok (.invokevirtual 71, 3) := by decide +kernel
theorem d_Screen_layPart_62 : decode b_Screen_layPart 62 = .ok (.iconst 0, 1) := by decide +kernel
theorem d_Screen_layPart_63 : decode b_Screen_layPart 63 = .ok (.istore_n 1, 1) := by decide +kernel
theorem d_Screen_layPart_64 : decode b_Screen_layPart 64 = .ok (.iload_n 1, 1) := by decide +kernel
theorem d_Screen_layPart_65 : decode b_Screen_layPart 65 = .ok (.aload_n 0, 1) := by decide +kernel
theorem d_Screen_layPart_66 : decode b_Screen_layPart 66 = .ok (.getfield 20, 3) := by decide +kernel
theorem d_Screen_layPart_69 : decode b_Screen_layPart 69 = .ok (.invokevirtual 34, 3) := by decide +kernel
theorem d_Screen_layPart_72 : decode b_Screen_layPart 72 = .ok (.if_icmp .ge 39, 3) := by decide +kernel
theorem d_Screen_layPart_75 : decode b_Screen_layPart 75 = .ok (.aload_n 0, 1) := by decide +kernel
theorem d_Screen_layPart_76 : decode b_Screen_layPart 76 = .ok (.invokevirtual 87, 3) := by decide +kernel
theorem d_Screen_layPart_79 : decode b_Screen_layPart 79 = .ok (.aload_n 0, 1) := by decide +kernel
theorem d_Screen_layPart_80 : decode b_Screen_layPart 80 = .ok (.getfield 31, 3) := by decide +kernel
theorem d_Screen_layPart_83 : decode b_Screen_layPart 83 = .ok (.if_icmp .lt 7, 3) := by decide +kernel
theorem d_Screen_layPart_86 : decode b_Screen_layPart 86 = .ok (.aload_n 0, 1) := by decide +kernel
theorem d_Screen_layPart_87 : decode b_Screen_layPart 87 = .ok (.invokevirtual 74, 3) := by decide +kernel
theorem d_Screen_layPart_90 : decode b_Screen_layPart 90 = .ok (.aload_n 0, 1) := by decide +kernel
theorem d_Screen_layPart_91 : decode b_Screen_layPart 91 = .ok (.getfield 16, 3) := by decide +kernel
theorem d_Screen_layPart_94 : decode b_Screen_layPart 94 = .ok (.aload_n 0, 1) := by decide +kernel
theorem d_Screen_layPart_95 : decode b_Screen_layPart 95 = .ok (.getfield 20, 3) := by decide +kernel
theorem d_Screen_layPart_98 : decode b_Screen_layPart 98 = .ok (.iload_n 1, 1) := by decide +kernel
theorem d_Screen_layPart_99 : decode b_Screen_layPart 99 = .ok (.invokevirtual 38, 3) := by decide +kernel
theorem d_Screen_layPart_102 : decode b_Screen_layPart 102 = .ok (.invokevirtual 71, 3) := by decide +kernel
theorem d_Screen_layPart_105 : decode b_Screen_layPart 105 = .ok (.iinc 1 1, 3) := by decide +kernel
theorem d_Screen_layPart_108 : decode b_Screen_layPart 108 = .ok (.goto (-44), 3) := by decide +kernel
theorem d_Screen_layPart_111 : decode b_Screen_layPart 111 = .ok (.aload_n 0, 1) := by decide +kernel
theorem d_Screen_layPart_112 : decode b_Screen_layPart 112 = .ok (.getfield 20, 3) := by decide +kernel
theorem d_Screen_layPart_115 : decode b_Screen_layPart 115 = .ok (.iconst 0, 1) := by decide +kernel
theorem d_Screen_layPart_116 : decode b_Screen_layPart 116 = .ok (.invokevirtual 42, 3) := by decide +kernel
theorem d_Screen_layPart_119 : decode b_Screen_layPart 119 = .ok (.return_, 1) := by decide +kernel
set_option maxHeartbeats 4000000 in
set_option maxRecDepth 100000 in
theorem c_Screen_layPart (l : Launch) (dC : Nat → ClassId) (dI : Nat → Nat → Nat) (cI cL cZ : ClassId) (sc : Nat) (scS : Nat) (scSEa : Nat) (scSn : Nat) (scSE : Nat → Int32) (scSC : Int32) (scSO : Bool) (scP : Nat) (scPEa : Nat) (scPn : Nat) (scPE : Nat → Int32) (scPC : Int32) (scPO : Bool) (scAa : Nat) (scA : Nat → Int32) (scL : Int32) (scW : Int32) (scSE' : Nat → Int32) (scSC' : Int32) (scSO' : Bool) (scPC' : Int32) (scPO' : Bool) (scA' : Nat → Int32) (scL' : Int32) (hd : D_Screen_layPart scSn scPn scSE scSC scSO scPE scPC scPO scA scL scW scSE' scSC' scSO' scPC' scPO' scA' scL') : Ctr l y_Screen_layPart (Cond.code y_Screen_layPart b_Screen_layPart 2 none :: ga) { frames := 2, cells := 0, slots := 0, locals := 40 } (dC, dI) classes (Tys cI cL cZ) [.ref sc] ((sh_Screen cI cL cZ sc scS scSEa scSn scSE scSC scSO scP scPEa scPn scPE scPC scPO scAa scA scL scW)) none ((sh_Screen cI cL cZ sc scS scSEa scSn scSE' scSC' scSO' scP scPEa scPn scPE scPC' scPO' scAa scA' scL' scW)) := by
  refine Ctr.ofW (by decide) (Nat.le_of_ble_eq_true rfl) ?_
  intro p e s m below meth c A ls hx hb hr hml hown hlocks hts hK hN hA hP hD hS hl
  have hown : s.vm.findClass R_Screen = some m.cls := hown
  have hl : lv_has ls 2 [(0, .ref sc)] := hl
  have key : ∀ n : Nat, (∀ (scSE : Nat → Int32) (scSC : Int32) (scSO : Bool) (scPC : Int32) (scPO : Bool) (scA : Nat → Int32) (scL : Int32) (ls : Array Slot) (H : Heap) (locs : List Loc), lv_has ls 2 [(0, .ref sc)] → va_P (dC, dI) classes ((sh_Screen cI cL cZ sc scS scSEa scSn scSE scSC scSO scP scPEa scPn scPE scPC scPO scAa scA scL scW)) H → va_D A ((sh_Screen cI cL cZ sc scS scSEa scSn scSE scSC scSO scP scPEa scPn scPE scPC scPO scAa scA scL scW)) → va_S A s.heap H locs → T_Screen_layPart scSn scPn scPE scW scSE' scSC' scSO' scPC' scPO' scA' scL' n 0 0 scSE scSC scSO scPC scPO scA scL → W p l e ({ frames := 2, cells := 0, slots := 0, locals := 40 }) s m ([.ref sc] : List Value).toArray below meth c H locs 0 0 (MQ below (Qs (dC, dI) classes (Tys cI cL cZ) none ((sh_Screen cI cL cZ sc scS scSEa scSn scSE' scSC' scSO' scP scPEa scPn scPE scPC' scPO' scAa scA' scL' scW)) A) ([.ref sc] : List Value).toArray s 0 0 A) (F0 m 46 ls [])) ∧ (∀ (scSE : Nat → Int32) (scSC : Int32) (scSO : Bool) (scPC : Int32) (scPO : Bool) (scA : Nat → Int32) (scL : Int32) (ls : Array Slot) (H : Heap) (locs : List Loc), lv_has ls 2 [(0, .ref sc)] → va_P (dC, dI) classes ((sh_Screen cI cL cZ sc scS scSEa scSn scSE scSC scSO scP scPEa scPn scPE scPC scPO scAa scA scL scW)) H → va_D A ((sh_Screen cI cL cZ sc scS scSEa scSn scSE scSC scSO scP scPEa scPn scPE scPC scPO scAa scA scL scW)) → va_S A s.heap H locs → T_Screen_layPart scSn scPn scPE scW scSE' scSC' scSO' scPC' scPO' scA' scL' n 1 0 scSE scSC scSO scPC scPO scA scL → W p l e ({ frames := 2, cells := 0, slots := 0, locals := 40 }) s m ([.ref sc] : List Value).toArray below meth c H locs 0 0 (MQ below (Qs (dC, dI) classes (Tys cI cL cZ) none ((sh_Screen cI cL cZ sc scS scSEa scSn scSE' scSC' scSO' scP scPEa scPn scPE scPC' scPO' scAa scA' scL' scW)) A) ([.ref sc] : List Value).toArray s 0 0 A) (F0 m 62 ls [])) ∧ (∀ (x1 : Int32) (scSE : Nat → Int32) (scSC : Int32) (scSO : Bool) (scPC : Int32) (scPO : Bool) (scA : Nat → Int32) (scL : Int32) (ls : Array Slot) (H : Heap) (locs : List Loc), lv_has ls 2 [(0, .ref sc), (1, .int x1)] → va_P (dC, dI) classes ((sh_Screen cI cL cZ sc scS scSEa scSn scSE scSC scSO scP scPEa scPn scPE scPC scPO scAa scA scL scW)) H → va_D A ((sh_Screen cI cL cZ sc scS scSEa scSn scSE scSC scSO scP scPEa scPn scPE scPC scPO scAa scA scL scW)) → va_S A s.heap H locs → T_Screen_layPart scSn scPn scPE scW scSE' scSC' scSO' scPC' scPO' scA' scL' n 2 x1 scSE scSC scSO scPC scPO scA scL → W p l e ({ frames := 2, cells := 0, slots := 0, locals := 40 }) s m ([.ref sc] : List Value).toArray below meth c H locs 0 0 (MQ below (Qs (dC, dI) classes (Tys cI cL cZ) none ((sh_Screen cI cL cZ sc scS scSEa scSn scSE' scSC' scSO' scP scPEa scPn scPE scPC' scPO' scAa scA' scL' scW)) A) ([.ref sc] : List Value).toArray s 0 0 A) (F0 m 64 ls [])) ∧ (∀ (x1 : Int32) (scSE : Nat → Int32) (scSC : Int32) (scSO : Bool) (scPC : Int32) (scPO : Bool) (scA : Nat → Int32) (scL : Int32) (ls : Array Slot) (H : Heap) (locs : List Loc), lv_has ls 2 [(0, .ref sc), (1, .int x1)] → va_P (dC, dI) classes ((sh_Screen cI cL cZ sc scS scSEa scSn scSE scSC scSO scP scPEa scPn scPE scPC scPO scAa scA scL scW)) H → va_D A ((sh_Screen cI cL cZ sc scS scSEa scSn scSE scSC scSO scP scPEa scPn scPE scPC scPO scAa scA scL scW)) → va_S A s.heap H locs → T_Screen_layPart scSn scPn scPE scW scSE' scSC' scSO' scPC' scPO' scA' scL' n 3 x1 scSE scSC scSO scPC scPO scA scL → W p l e ({ frames := 2, cells := 0, slots := 0, locals := 40 }) s m ([.ref sc] : List Value).toArray below meth c H locs 0 0 (MQ below (Qs (dC, dI) classes (Tys cI cL cZ) none ((sh_Screen cI cL cZ sc scS scSEa scSn scSE' scSC' scSO' scP scPEa scPn scPE scPC' scPO' scAa scA' scL' scW)) A) ([.ref sc] : List Value).toArray s 0 0 A) (F0 m 90 ls [])) := by
    intro n
    induction n with
    | zero =>
      exact ⟨fun _ _ _ _ _ _ _ _ _ _ _ _ _ _ hd => False.elim hd, fun _ _ _ _ _ _ _ _ _ _ _ _ _ _ hd => False.elim hd, fun _ _ _ _ _ _ _ _ _ _ _ _ _ _ _ hd => False.elim hd, fun _ _ _ _ _ _ _ _ _ _ _ _ _ _ _ hd => False.elim hd⟩
    | succ n ih =>
      refine ⟨?_, ?_, ?_, ?_⟩
      · intro scSE scSC scSO scPC scPO scA scL ls H locs hl hP hD hS hd
        have hd : B_Screen_layPart_46 scSn scPn scPE scW scSE' scSC' scSO' scPC' scPO' scA' scL' (T_Screen_layPart scSn scPn scPE scW scSE' scSC' scSO' scPC' scPO' scA' scL' n) scSE scSC scSO scPC scPO scA scL := hd
        refine lv_aload_n hx hb d_Screen_layPart_46 rfl (lv_at hl 0 rfl) ?_
        obtain ⟨r47, c47, hd⟩ := hd
        refine ct_VR (As := []) (rest := []) (C := R_Screen) (ci := 8) (q := (R_Screen, F_Screen, 5)) ⟨hx, hb, hml, hown, hts⟩ fm_Screen_lineLength (c_Screen_lineLength l dC dI cI cL cZ sc scS scSEa scSn scSE scSC scSO scP scPEa scPn scPE scPC scPO scAa scA scL scW r47 c47) k348_methodLink k349_instanceMethod k350_selects ⟨Nat.le_of_ble_eq_true rfl, Nat.le_of_ble_eq_true rfl⟩ rfl rfl hK hN hP hD [0, 1, 2, 3, 4, 5] rfl rfl (by decide) 0 rfl rfl rfl rfl hl.1 rfl (Nat.le_of_ble_eq_true rfl) d_Screen_layPart_47 ?_
        refine lv_if_le (tgt := 62) hx hb d_Screen_layPart_50 (by decide) (fun h50 => ?_) (fun h50 => ?_)
        · have hd := hd.1 h50
          exact ih.2.1 scSE scSC scSO scPC scPO scA scL _ _ _ (lv_sub hl [0] rfl) hP hD hS hd
        · have hd := hd.2 h50
          refine lv_aload_n hx hb d_Screen_layPart_53 rfl (lv_at hl 0 rfl) ?_
          refine va_get (D := (dC, dI)) (ci := 8) (v := .ref scS) (C := R_Screen) (T := F_Screen) (N := 5) hx hb hts in_Screen hown hK hP 0 rfl rfl 0 (by decide) (hts _ (List.mem_cons_of_mem _ k337_fieldLink)) (fun _ h9 => h9) rfl d_Screen_layPart_54 ?_
          refine lv_bipush (v := 32) hx hb d_Screen_layPart_57 (by decide) ?_
          obtain ⟨scSE_59, scSC_59, scSO_59, c59, hd⟩ := hd
          refine ct_V (As := [.int 32]) (rest := []) (C := R_Row) (ci := 1) (q := (R_Row, F_Row, 3)) ⟨hx, hb, hml, hown, hts⟩ fm_Row_append (c_Row_append l dC dI cI cL cZ scS scSEa scSn scSE scSC scSO 32 scSE_59 scSC_59 scSO_59 c59) k345_methodLink k8_instanceMethod k9_selects ⟨Nat.le_of_ble_eq_true rfl, Nat.le_of_ble_eq_true rfl⟩ rfl rfl hK hN hP hD hS hA [1, 2] [0, 3, 4, 5] rfl rfl rfl (by decide) (by decide) (by decide) 1 rfl rfl rfl rfl hl.1 rfl (Nat.le_of_ble_eq_true rfl) d_Screen_layPart_59 (fun H locs hP hD hS => ?_)
          have hP : va_P (dC, dI) classes ((sh_Screen cI cL cZ sc scS scSEa scSn scSE_59 scSC_59 scSO_59 scP scPEa scPn scPE scPC scPO scAa scA scL scW)) H := hP.sub [0, 4, 5, 1, 2, 3] rfl
          have hD : va_D A ((sh_Screen cI cL cZ sc scS scSEa scSn scSE_59 scSC_59 scSO_59 scP scPEa scPn scPE scPC scPO scAa scA scL scW)) := hD.sub [0, 4, 5, 1, 2, 3] (by decide) rfl
          exact ih.2.1 scSE_59 scSC_59 scSO_59 scPC scPO scA scL _ _ _ (lv_sub hl [0] rfl) hP hD hS hd
      · intro scSE scSC scSO scPC scPO scA scL ls H locs hl hP hD hS hd
        have hd : B_Screen_layPart_62 scSn scPn scPE scW scSE' scSC' scSO' scPC' scPO' scA' scL' (T_Screen_layPart scSn scPn scPE scW scSE' scSC' scSO' scPC' scPO' scA' scL' n) scSE scSC scSO scPC scPO scA scL := hd
        refine lv_iconst (v := 0) hx hb d_Screen_layPart_62 (by decide) ?_
        refine lv_istore_n (lv' := [(1, .int 0), (0, .ref sc)]) hx hb d_Screen_layPart_63 rfl hl (by decide) rfl (fun ls hl => ?_)
        exact ih.2.2.1 0 scSE scSC scSO scPC scPO scA scL _ _ _ (lv_sub hl [1, 0] rfl) hP hD hS hd
      · intro x1 scSE scSC scSO scPC scPO scA scL ls H locs hl hP hD hS hd
        have hd : B_Screen_layPart_64 scSn scPn scPE scW scSE' scSC' scSO' scPC' scPO' scA' scL' (T_Screen_layPart scSn scPn scPE scW scSE' scSC' scSO' scPC' scPO' scA' scL' n) x1 scSE scSC scSO scPC scPO scA scL := hd
        refine lv_iload_n hx hb d_Screen_layPart_64 rfl (lv_at hl 1 rfl) ?_
        refine lv_aload_n hx hb d_Screen_layPart_65 rfl (lv_at hl 0 rfl) ?_
        refine va_get (D := (dC, dI)) (ci := 8) (v := .ref scP) (C := R_Screen) (T := F_Screen) (N := 5) hx hb hts in_Screen hown hK hP 0 rfl rfl 1 (by decide) (hts _ (List.mem_cons_of_mem _ k344_fieldLink)) (fun _ h9 => h9) rfl d_Screen_layPart_66 ?_
        refine ct_VR (As := []) (rest := [.int x1]) (C := R_Row) (ci := 1) (q := (R_Row, F_Row, 3)) ⟨hx, hb, hml, hown, hts⟩ fm_Row_count (c_Row_count l dC dI cI cL cZ scP scPEa scPn scPE scPC scPO scPC rfl) k338_methodLink k67_instanceMethod k68_selects ⟨Nat.le_of_ble_eq_true rfl, Nat.le_of_ble_eq_true rfl⟩ rfl rfl hK hN hP hD [3, 4] rfl rfl (by decide) 3 rfl rfl rfl rfl hl.1 rfl (Nat.le_of_ble_eq_true rfl) d_Screen_layPart_69 ?_
        refine lv_icmp_ge (tgt := 111) hx hb d_Screen_layPart_72 (by decide) (fun h72 => ?_) (fun h72 => ?_)
        · have hd := hd.1 h72
          refine lv_aload_n hx hb d_Screen_layPart_111 rfl (lv_at hl 0 rfl) ?_
          refine va_get (D := (dC, dI)) (ci := 8) (v := .ref scP) (C := R_Screen) (T := F_Screen) (N := 5) hx hb hts in_Screen hown hK hP 0 rfl rfl 1 (by decide) (hts _ (List.mem_cons_of_mem _ k344_fieldLink)) (fun _ h9 => h9) rfl d_Screen_layPart_112 ?_
          refine lv_iconst (v := 0) hx hb d_Screen_layPart_115 (by decide) ?_
          obtain ⟨scPC_116, scPO_116, c116, hd⟩ := hd
          refine ct_V (As := [.int 0]) (rest := []) (C := R_Row) (ci := 1) (q := (R_Row, F_Row, 3)) ⟨hx, hb, hml, hown, hts⟩ fm_Row_shorten (c_Row_shorten l dC dI cI cL cZ scP scPEa scPn scPE scPC scPO 0 scPC_116 scPO_116 c116) k351_methodLink k17_instanceMethod k18_selects ⟨Nat.le_of_ble_eq_true rfl, Nat.le_of_ble_eq_true rfl⟩ rfl rfl hK hN hP hD hS hA [3, 4] [0, 1, 2, 5] rfl rfl rfl (by decide) (by decide) (by decide) 3 rfl rfl rfl rfl hl.1 rfl (Nat.le_of_ble_eq_true rfl) d_Screen_layPart_116 (fun H locs hP hD hS => ?_)
          have hP : va_P (dC, dI) classes ((sh_Screen cI cL cZ sc scS scSEa scSn scSE scSC scSO scP scPEa scPn scPE scPC_116 scPO_116 scAa scA scL scW)) H := hP.sub [0, 1, 2, 4, 5, 3] rfl
          have hD : va_D A ((sh_Screen cI cL cZ sc scS scSEa scSn scSE scSC scSO scP scPEa scPn scPE scPC_116 scPO_116 scAa scA scL scW)) := hD.sub [0, 1, 2, 4, 5, 3] (by decide) rfl
          obtain ⟨e0, e1, e2, e3, e4, e5, e6⟩ := hd
          subst e0
          subst e1
          subst e2
          subst e3
          subst e4
          subst e5
          subst e6
          exact ct_vret hx hb hr hlocks hK hP hD hS d_Screen_layPart_119
        · have hd := hd.2 h72
          refine lv_aload_n hx hb d_Screen_layPart_75 rfl (lv_at hl 0 rfl) ?_
          obtain ⟨r76, c76, hd⟩ := hd
          refine ct_VR (As := []) (rest := []) (C := R_Screen) (ci := 8) (q := (R_Screen, F_Screen, 5)) ⟨hx, hb, hml, hown, hts⟩ fm_Screen_lineLength (c_Screen_lineLength l dC dI cI cL cZ sc scS scSEa scSn scSE scSC scSO scP scPEa scPn scPE scPC scPO scAa scA scL scW r76 c76) k348_methodLink k349_instanceMethod k350_selects ⟨Nat.le_of_ble_eq_true rfl, Nat.le_of_ble_eq_true rfl⟩ rfl rfl hK hN hP hD [0, 1, 2, 3, 4, 5] rfl rfl (by decide) 0 rfl rfl rfl rfl hl.1 rfl (Nat.le_of_ble_eq_true rfl) d_Screen_layPart_76 ?_
          refine lv_aload_n hx hb d_Screen_layPart_79 rfl (lv_at hl 0 rfl) ?_
          refine va_get (D := (dC, dI)) (ci := 8) (v := .int scW) (C := R_Screen) (T := F_Screen) (N := 5) hx hb hts in_Screen hown hK hP 0 rfl rfl 4 (by decide) (hts _ (List.mem_cons_of_mem _ k336_fieldLink)) (fun _ h9 => h9) rfl d_Screen_layPart_80 ?_
          refine lv_icmp_lt (tgt := 90) hx hb d_Screen_layPart_83 (by decide) (fun h83 => ?_) (fun h83 => ?_)
          · have hd := hd.1 h83
            exact ih.2.2.2 x1 scSE scSC scSO scPC scPO scA scL _ _ _ (lv_sub hl [0, 1] rfl) hP hD hS hd
          · have hd := hd.2 h83
            refine lv_aload_n hx hb d_Screen_layPart_86 rfl (lv_at hl 0 rfl) ?_
            obtain ⟨scA_87, scL_87, c87, hd⟩ := hd
            refine ct_V (As := []) (rest := []) (C := R_Screen) (ci := 8) (q := (R_Screen, F_Screen, 5)) ⟨hx, hb, hml, hown, hts⟩ fm_Screen_beginLine (c_Screen_beginLine l dC dI cI cL cZ sc scS scSEa scSn scSE scSC scSO scP scPEa scPn scPE scPC scPO scAa scA scL scW scA_87 scL_87 c87) k341_methodLink k342_instanceMethod k343_selects ⟨Nat.le_of_ble_eq_true rfl, Nat.le_of_ble_eq_true rfl⟩ rfl rfl hK hN hP hD hS hA [0, 1, 2, 3, 4, 5] [] rfl rfl rfl (by decide) (by decide) (by decide) 0 rfl rfl rfl rfl hl.1 rfl (Nat.le_of_ble_eq_true rfl) d_Screen_layPart_87 (fun H locs hP hD hS => ?_)
            have hP : va_P (dC, dI) classes ((sh_Screen cI cL cZ sc scS scSEa scSn scSE scSC scSO scP scPEa scPn scPE scPC scPO scAa scA_87 scL_87 scW)) H := hP.sub [0, 1, 2, 3, 4, 5] rfl
            have hD : va_D A ((sh_Screen cI cL cZ sc scS scSEa scSn scSE scSC scSO scP scPEa scPn scPE scPC scPO scAa scA_87 scL_87 scW)) := hD.sub [0, 1, 2, 3, 4, 5] (by decide) rfl
            exact ih.2.2.2 x1 scSE scSC scSO scPC scPO scA_87 scL_87 _ _ _ (lv_sub hl [0, 1] rfl) hP hD hS hd
      · intro x1 scSE scSC scSO scPC scPO scA scL ls H locs hl hP hD hS hd
        have hd : B_Screen_layPart_90 scSn scPn scPE scW scSE' scSC' scSO' scPC' scPO' scA' scL' (T_Screen_layPart scSn scPn scPE scW scSE' scSC' scSO' scPC' scPO' scA' scL' n) x1 scSE scSC scSO scPC scPO scA scL := hd
        refine lv_aload_n hx hb d_Screen_layPart_90 rfl (lv_at hl 0 rfl) ?_
        refine va_get (D := (dC, dI)) (ci := 8) (v := .ref scS) (C := R_Screen) (T := F_Screen) (N := 5) hx hb hts in_Screen hown hK hP 0 rfl rfl 0 (by decide) (hts _ (List.mem_cons_of_mem _ k337_fieldLink)) (fun _ h9 => h9) rfl d_Screen_layPart_91 ?_
        refine lv_aload_n hx hb d_Screen_layPart_94 rfl (lv_at hl 0 rfl) ?_
        refine va_get (D := (dC, dI)) (ci := 8) (v := .ref scP) (C := R_Screen) (T := F_Screen) (N := 5) hx hb hts in_Screen hown hK hP 0 rfl rfl 1 (by decide) (hts _ (List.mem_cons_of_mem _ k344_fieldLink)) (fun _ h9 => h9) rfl d_Screen_layPart_95 ?_
        refine lv_iload_n hx hb d_Screen_layPart_98 rfl (lv_at hl 1 rfl) ?_
        obtain ⟨r99, c99, hd⟩ := hd
        refine ct_VR (As := [.int x1]) (rest := [.ref scS]) (C := R_Row) (ci := 1) (q := (R_Row, F_Row, 3)) ⟨hx, hb, hml, hown, hts⟩ fm_Row_element (c_Row_element l dC dI cI cL cZ scP scPEa scPn scPE scPC scPO x1 r99 c99) k340_methodLink k4_instanceMethod k5_selects ⟨Nat.le_of_ble_eq_true rfl, Nat.le_of_ble_eq_true rfl⟩ rfl rfl hK hN hP hD [3, 4] rfl rfl (by decide) 3 rfl rfl rfl rfl hl.1 rfl (Nat.le_of_ble_eq_true rfl) d_Screen_layPart_99 ?_
        obtain ⟨scSE_102, scSC_102, scSO_102, c102, hd⟩ := hd
        refine ct_V (As := [.int r99]) (rest := []) (C := R_Row) (ci := 1) (q := (R_Row, F_Row, 3)) ⟨hx, hb, hml, hown, hts⟩ fm_Row_append (c_Row_append l dC dI cI cL cZ scS scSEa scSn scSE scSC scSO r99 scSE_102 scSC_102 scSO_102 c102) k345_methodLink k8_instanceMethod k9_selects ⟨Nat.le_of_ble_eq_true rfl, Nat.le_of_ble_eq_true rfl⟩ rfl rfl hK hN hP hD hS hA [1, 2] [0, 3, 4, 5] rfl rfl rfl (by decide) (by decide) (by decide) 1 rfl rfl rfl rfl hl.1 rfl (Nat.le_of_ble_eq_true rfl) d_Screen_layPart_102 (fun H locs hP hD hS => ?_)
        have hP : va_P (dC, dI) classes ((sh_Screen cI cL cZ sc scS scSEa scSn scSE_102 scSC_102 scSO_102 scP scPEa scPn scPE scPC scPO scAa scA scL scW)) H := hP.sub [0, 4, 5, 1, 2, 3] rfl
        have hD : va_D A ((sh_Screen cI cL cZ sc scS scSEa scSn scSE_102 scSC_102 scSO_102 scP scPEa scPn scPE scPC scPO scAa scA scL scW)) := hD.sub [0, 4, 5, 1, 2, 3] (by decide) rfl
        refine lv_iinc (k := 1) (v := x1 + 1) (lv' := [(1, .int (x1 + 1)), (0, .ref sc)]) hx hb d_Screen_layPart_105 hl rfl (congrArg (fun z => x1 + z) (by decide)) (by decide) rfl (fun ls hl => ?_)
        refine lv_goto (tgt := 64) hx hb d_Screen_layPart_108 (by decide) ?_
        exact ih.2.2.1 (x1 + 1) scSE_102 scSC_102 scSO_102 scPC scPO scA scL _ _ _ (lv_sub hl [1, 0] rfl) hP hD hS hd
  obtain ⟨n, hd⟩ := hd
  refine lv_aload_n hx hb d_Screen_layPart_0 rfl (lv_at hl 0 rfl) ?_
  refine va_get (D := (dC, dI)) (ci := 8) (v := .ref scP) (C := R_Screen) (T := F_Screen) (N := 5) hx hb hts in_Screen hown hK hP 0 rfl rfl 1 (by decide) (hts _ (List.mem_cons_of_mem _ k344_fieldLink)) (fun _ h9 => h9) rfl d_Screen_layPart_1 ?_
  refine ct_VR (As := []) (rest := []) (C := R_Row) (ci := 1) (q := (R_Row, F_Row, 3)) ⟨hx, hb, hml, hown, hts⟩ fm_Row_count (c_Row_count l dC dI cI cL cZ scP scPEa scPn scPE scPC scPO scPC rfl) k338_methodLink k67_instanceMethod k68_selects ⟨Nat.le_of_ble_eq_true rfl, Nat.le_of_ble_eq_true rfl⟩ rfl rfl hK hN hP hD [3, 4] rfl rfl (by decide) 3 rfl rfl rfl rfl hl.1 rfl (Nat.le_of_ble_eq_true rfl) d_Screen_layPart_4 ?_
  refine lv_if_ne (tgt := 11) hx hb d_Screen_layPart_7 (by decide) (fun h7 => ?_) (fun h7 => ?_)
  · have hd := hd.2 h7
    refine lv_aload_n hx hb d_Screen_layPart_11 rfl (lv_at hl 0 rfl) ?_
    obtain ⟨r12, c12, hd⟩ := hd
    refine ct_VR (As := []) (rest := []) (C := R_Screen) (ci := 8) (q := (R_Screen, F_Screen, 5)) ⟨hx, hb, hml, hown, hts⟩ fm_Screen_lineLength (c_Screen_lineLength l dC dI cI cL cZ sc scS scSEa scSn scSE scSC scSO scP scPEa scPn scPE scPC scPO scAa scA scL scW r12 c12) k348_methodLink k349_instanceMethod k350_selects ⟨Nat.le_of_ble_eq_true rfl, Nat.le_of_ble_eq_true rfl⟩ rfl rfl hK hN hP hD [0, 1, 2, 3, 4, 5] rfl rfl (by decide) 0 rfl rfl rfl rfl hl.1 rfl (Nat.le_of_ble_eq_true rfl) d_Screen_layPart_12 ?_
    refine lv_if_le (tgt := 46) hx hb d_Screen_layPart_15 (by decide) (fun h15 => ?_) (fun h15 => ?_)
    · have hd := hd.1 h15
      exact (key n).1 scSE scSC scSO scPC scPO scA scL _ _ _ (lv_sub hl [0] rfl) hP hD hS hd
    · have hd := hd.2 h15
      refine lv_aload_n hx hb d_Screen_layPart_18 rfl (lv_at hl 0 rfl) ?_
      obtain ⟨r19, c19, hd⟩ := hd
      refine ct_VR (As := []) (rest := []) (C := R_Screen) (ci := 8) (q := (R_Screen, F_Screen, 5)) ⟨hx, hb, hml, hown, hts⟩ fm_Screen_lineLength (c_Screen_lineLength l dC dI cI cL cZ sc scS scSEa scSn scSE scSC scSO scP scPEa scPn scPE scPC scPO scAa scA scL scW r19 c19) k348_methodLink k349_instanceMethod k350_selects ⟨Nat.le_of_ble_eq_true rfl, Nat.le_of_ble_eq_true rfl⟩ rfl rfl hK hN hP hD [0, 1, 2, 3, 4, 5] rfl rfl (by decide) 0 rfl rfl rfl rfl hl.1 rfl (Nat.le_of_ble_eq_true rfl) d_Screen_layPart_19 ?_
      refine lv_iconst (v := 1) hx hb d_Screen_layPart_22 (by decide) ?_
      refine lv_iadd hx hb d_Screen_layPart_23 ?_
      refine lv_aload_n hx hb d_Screen_layPart_24 rfl (lv_at hl 0 rfl) ?_
      refine va_get (D := (dC, dI)) (ci := 8) (v := .ref scP) (C := R_Screen) (T := F_Screen) (N := 5) hx hb hts in_Screen hown hK hP 0 rfl rfl 1 (by decide) (hts _ (List.mem_cons_of_mem _ k344_fieldLink)) (fun _ h9 => h9) rfl d_Screen_layPart_25 ?_
      refine ct_VR (As := []) (rest := [.int (r19 + 1)]) (C := R_Row) (ci := 1) (q := (R_Row, F_Row, 3)) ⟨hx, hb, hml, hown, hts⟩ fm_Row_count (c_Row_count l dC dI cI cL cZ scP scPEa scPn scPE scPC scPO scPC rfl) k338_methodLink k67_instanceMethod k68_selects ⟨Nat.le_of_ble_eq_true rfl, Nat.le_of_ble_eq_true rfl⟩ rfl rfl hK hN hP hD [3, 4] rfl rfl (by decide) 3 rfl rfl rfl rfl hl.1 rfl (Nat.le_of_ble_eq_true rfl) d_Screen_layPart_28 ?_
      refine lv_iadd hx hb d_Screen_layPart_31 ?_
      refine lv_aload_n hx hb d_Screen_layPart_32 rfl (lv_at hl 0 rfl) ?_
      refine va_get (D := (dC, dI)) (ci := 8) (v := .int scW) (C := R_Screen) (T := F_Screen) (N := 5) hx hb hts in_Screen hown hK hP 0 rfl rfl 4 (by decide) (hts _ (List.mem_cons_of_mem _ k336_fieldLink)) (fun _ h9 => h9) rfl d_Screen_layPart_33 ?_
      refine lv_icmp_le (tgt := 46) hx hb d_Screen_layPart_36 (by decide) (fun h36 => ?_) (fun h36 => ?_)
      · have hd := hd.1 h36
        exact (key n).1 scSE scSC scSO scPC scPO scA scL _ _ _ (lv_sub hl [0] rfl) hP hD hS hd
      · have hd := hd.2 h36
        refine lv_aload_n hx hb d_Screen_layPart_39 rfl (lv_at hl 0 rfl) ?_
        obtain ⟨scA_40, scL_40, c40, hd⟩ := hd
        refine ct_V (As := []) (rest := []) (C := R_Screen) (ci := 8) (q := (R_Screen, F_Screen, 5)) ⟨hx, hb, hml, hown, hts⟩ fm_Screen_beginLine (c_Screen_beginLine l dC dI cI cL cZ sc scS scSEa scSn scSE scSC scSO scP scPEa scPn scPE scPC scPO scAa scA scL scW scA_40 scL_40 c40) k341_methodLink k342_instanceMethod k343_selects ⟨Nat.le_of_ble_eq_true rfl, Nat.le_of_ble_eq_true rfl⟩ rfl rfl hK hN hP hD hS hA [0, 1, 2, 3, 4, 5] [] rfl rfl rfl (by decide) (by decide) (by decide) 0 rfl rfl rfl rfl hl.1 rfl (Nat.le_of_ble_eq_true rfl) d_Screen_layPart_40 (fun H locs hP hD hS => ?_)
        have hP : va_P (dC, dI) classes ((sh_Screen cI cL cZ sc scS scSEa scSn scSE scSC scSO scP scPEa scPn scPE scPC scPO scAa scA_40 scL_40 scW)) H := hP.sub [0, 1, 2, 3, 4, 5] rfl
        have hD : va_D A ((sh_Screen cI cL cZ sc scS scSEa scSn scSE scSC scSO scP scPEa scPn scPE scPC scPO scAa scA_40 scL_40 scW)) := hD.sub [0, 1, 2, 3, 4, 5] (by decide) rfl
        refine lv_goto (tgt := 62) hx hb d_Screen_layPart_43 (by decide) ?_
        exact (key n).2.1 scSE scSC scSO scPC scPO scA_40 scL_40 _ _ _ (lv_sub hl [0] rfl) hP hD hS hd
  · have hd := hd.1 h7
    obtain ⟨e0, e1, e2, e3, e4, e5, e6⟩ := hd
    subst e0
    subst e1
    subst e2
    subst e3
    subst e4
    subst e5
    subst e6
    exact ct_vret hx hb hr hlocks hK hP hD hS d_Screen_layPart_10
-- Screen.lay
abbrev b_Screen_lay : ByteArray := prog_9_method_5_code
def y_Screen_lay : MethodName := ⟨"HelpFile$Screen", "lay", "(LHelpFile$Book;II)V"⟩
theorem k352_methodLink : Cond.methodLink "HelpFile$Screen" 45 ⟨"HelpFile$Book", "bodyStart", "(I)I"⟩ ∈ ga := ga_t 981 (by decide +kernel) rfl
theorem k353_methodLink : Cond.methodLink "HelpFile$Screen" 50 ⟨"HelpFile$Book", "bodyEnd", "(I)I"⟩ ∈ ga := ga_t 982 (by decide +kernel) rfl
theorem k354_methodLink : Cond.methodLink "HelpFile$Screen" 53 ⟨"HelpFile$Screen", "beginParagraph", "()V"⟩ ∈ ga := ga_t 983 (by decide +kernel) rfl
theorem k355_instanceMethod : Cond.instanceMethod ⟨"HelpFile$Screen", "beginParagraph", "()V"⟩ ∈ ga := ga_t 985 (by decide +kernel) rfl
theorem k356_selects : Cond.selects "HelpFile$Screen" ⟨"HelpFile$Screen", "beginParagraph", "()V"⟩ ⟨"HelpFile$Screen", "beginParagraph", "()V"⟩ ∈ ga := ga_s (q := (⟨"HelpFile$Screen", "beginParagraph", "()V"⟩, _)) 28 rfl
theorem k357_methodLink : Cond.methodLink "HelpFile$Screen" 56 ⟨"HelpFile$Book", "bodies", "()LHelpFile$Row;"⟩ ∈ ga := ga_t 992 (by decide +kernel) rfl
theorem k358_methodLink : Cond.methodLink "HelpFile$Screen" 60 ⟨"HelpFile$Book", "name", "(I)J"⟩ ∈ ga := ga_t 994 (by decide +kernel) rfl
theorem k359_methodLink : Cond.methodLink "HelpFile$Screen" 64 ⟨"HelpFile$Screen", "appendLink", "(J)V"⟩ ∈ ga := ga_t 995 (by decide +kernel) rfl
theorem k360_instanceMethod : Cond.instanceMethod ⟨"HelpFile$Screen", "appendLink", "(J)V"⟩ ∈ ga := ga_t 997 (by decide +kernel) rfl
theorem k361_selects : Cond.selects "HelpFile$Screen" ⟨"HelpFile$Screen", "appendLink", "(J)V"⟩ ⟨"HelpFile$Screen", "appendLink", "(J)V"⟩ ∈ ga := ga_s (q := (⟨"HelpFile$Screen", "appendLink", "(J)V"⟩, _)) 30 rfl
theorem k362_methodLink : Cond.methodLink "HelpFile$Screen" 68 ⟨"HelpFile$Screen", "layPart", "()V"⟩ ∈ ga := ga_t 1002 (by decide +kernel) rfl
theorem k363_instanceMethod : Cond.instanceMethod ⟨"HelpFile$Screen", "layPart", "()V"⟩ ∈ ga := ga_t 1004 (by decide +kernel) rfl
theorem k364_selects : Cond.selects "HelpFile$Screen" ⟨"HelpFile$Screen", "layPart", "()V"⟩ ⟨"HelpFile$Screen", "layPart", "()V"⟩ ∈ ga := ga_s (q := (⟨"HelpFile$Screen", "layPart", "()V"⟩, _)) 31 rfl
set_option maxRecDepth 100000 in
theorem fm_Screen_lay : Fm y_Screen_lay b_Screen_lay 7 none 3 := ⟨ga_t 979 rfl rfl, k335_initialized, by decide, by decide, by decide +kernel⟩
def B_Screen_lay_36 (scSn : Nat) (scPn : Nat) (bkBn : Nat) (bkN : Nat → Int64) (bkS : Nat → Int32) (bkBE : Nat → Int32) (bkBC : Int32) (bkT : Int32) (scSE' : Nat → Int32) (scSC' : Int32) (scSO' : Bool) (scPE' : Nat → Int32) (scPC' : Int32) (scPO' : Bool) (scA' : Nat → Int32) (scL' : Int32) (scW' : Int32) (X : Nat → Int32 → Bool → Int32 → Int32 → (Nat → Int32) → Int32 → Bool → (Nat → Int32) → Int32 → Bool → (Nat → Int32) → Int32 → Int32 → Prop) (x2 : Int32) (b4 : Bool) (x5 : Int32) (scSE : Nat → Int32) (scSC : Int32) (scSO : Bool) (scPE : Nat → Int32) (scPC : Int32) (scPO : Bool) (scA : Nat → Int32) (scL : Int32) (scW : Int32) : Prop := (∃ r40 : Int32, D_Book_bodyEnd x2 bkS bkT r40 ∧ ((r40 ≤ x5 → (scSE' = scSE ∧ scSC' = scSC ∧ scSO' = scSO ∧ scPE' = scPE ∧ scPC' = scPC ∧ scPO' = scPO ∧ scA' = scA ∧ scL' = scL ∧ scW' = scW)) ∧ (¬ (r40 ≤ x5) → (((bI b4) = 0 → X 1 x2 false x5 0 scSE scSC scSO scPE scPC scPO scA scL scW) ∧ (¬ ((bI b4) = 0) → (∃ scA_52 : Nat → Int32, ∃ scL_52 : Int32, D_Screen_beginParagraph scSC scA scL scA_52 scL_52 ∧ X 1 x2 false x5 0 scSE scSC scSO scPE scPC scPO scA_52 scL_52 scW))))))
def B_Screen_lay_55 (scSn : Nat) (scPn : Nat) (bkBn : Nat) (bkN : Nat → Int64) (bkS : Nat → Int32) (bkBE : Nat → Int32) (bkBC : Int32) (bkT : Int32) (scSE' : Nat → Int32) (scSC' : Int32) (scSO' : Bool) (scPE' : Nat → Int32) (scPC' : Int32) (scPO' : Bool) (scA' : Nat → Int32) (scL' : Int32) (scW' : Int32) (X : Nat → Int32 → Bool → Int32 → Int32 → (Nat → Int32) → Int32 → Bool → (Nat → Int32) → Int32 → Bool → (Nat → Int32) → Int32 → Int32 → Prop) (x2 : Int32) (x5 : Int32) (scSE : Nat → Int32) (scSC : Int32) (scSO : Bool) (scPE : Nat → Int32) (scPC : Int32) (scPO : Bool) (scA : Nat → Int32) (scL : Int32) (scW : Int32) : Prop := (∃ r61 : Int32, D_Row_element bkBn x5 bkBE bkBC r61 ∧ ((r61 = 10 → X 2 x2 true x5 r61 scSE scSC scSO scPE scPC scPO scA scL scW) ∧ (¬ (r61 = 10) → X 2 x2 false x5 r61 scSE scSC scSO scPE scPC scPO scA scL scW)))
def B_Screen_lay_80 (scSn : Nat) (scPn : Nat) (bkBn : Nat) (bkN : Nat → Int64) (bkS : Nat → Int32) (bkBE : Nat → Int32) (bkBC : Int32) (bkT : Int32) (scSE' : Nat → Int32) (scSC' : Int32) (scSO' : Bool) (scPE' : Nat → Int32) (scPC' : Int32) (scPO' : Bool) (scA' : Nat → Int32) (scL' : Int32) (scW' : Int32) (X : Nat → Int32 → Bool → Int32 → Int32 → (Nat → Int32) → Int32 → Bool → (Nat → Int32) → Int32 → Bool → (Nat → Int32) → Int32 → Int32 → Prop) (x2 : Int32) (b4 : Bool) (x5 : Int32) (x6 : Int32) (scSE : Nat → Int32) (scSC : Int32) (scSO : Bool) (scPE : Nat → Int32) (scPC : Int32) (scPO : Bool) (scA : Nat → Int32) (scL : Int32) (scW : Int32) : Prop := ((x6 = 2 → (∃ r97 : Int32, D_Row_element bkBn (x5 + 1) bkBE bkBC r97 ∧ (∃ r100 : Int64, D_Book_name r97 bkN bkT r100 ∧ (∃ scPE_103 : Nat → Int32, ∃ scPC_103 : Int32, ∃ scPO_103 : Bool, D_Screen_appendLink scPn r100 scPE scPC scPO scPE_103 scPC_103 scPO_103 ∧ X 0 x2 b4 ((x5 + 1) + 1) 0 scSE scSC scSO scPE_103 scPC_103 scPO_103 scA scL scW)))) ∧ (¬ (x6 = 2) → ((x6 = 32 → X 3 x2 b4 x5 0 scSE scSC scSO scPE scPC scPO scA scL scW) ∧ (¬ (x6 = 32) → ((x6 = 10 → X 3 x2 b4 x5 0 scSE scSC scSO scPE scPC scPO scA scL scW) ∧ (¬ (x6 = 10) → ((x6 = 1 → X 0 x2 b4 (x5 + 1) 0 scSE scSC scSO scPE scPC scPO scA scL scW) ∧ (¬ (x6 = 1) → (∃ scPE_142 : Nat → Int32, ∃ scPC_142 : Int32, ∃ scPO_142 : Bool, D_Row_append scPn x6 scPE scPC scPO scPE_142 scPC_142 scPO_142 ∧ X 0 x2 b4 (x5 + 1) 0 scSE scSC scSO scPE_142 scPC_142 scPO_142 scA scL scW)))))))))
def B_Screen_lay_123 (scSn : Nat) (scPn : Nat) (bkBn : Nat) (bkN : Nat → Int64) (bkS : Nat → Int32) (bkBE : Nat → Int32) (bkBC : Int32) (bkT : Int32) (scSE' : Nat → Int32) (scSC' : Int32) (scSO' : Bool) (scPE' : Nat → Int32) (scPC' : Int32) (scPO' : Bool) (scA' : Nat → Int32) (scL' : Int32) (scW' : Int32) (X : Nat → Int32 → Bool → Int32 → Int32 → (Nat → Int32) → Int32 → Bool → (Nat → Int32) → Int32 → Bool → (Nat → Int32) → Int32 → Int32 → Prop) (x2 : Int32) (b4 : Bool) (x5 : Int32) (scSE : Nat → Int32) (scSC : Int32) (scSO : Bool) (scPE : Nat → Int32) (scPC : Int32) (scPO : Bool) (scA : Nat → Int32) (scL : Int32) (scW : Int32) : Prop := (∃ scSE_124 : Nat → Int32, ∃ scSC_124 : Int32, ∃ scSO_124 : Bool, ∃ scPC_124 : Int32, ∃ scPO_124 : Bool, ∃ scA_124 : Nat → Int32, ∃ scL_124 : Int32, D_Screen_layPart scSn scPn scSE scSC scSO scPE scPC scPO scA scL scW scSE_124 scSC_124 scSO_124 scPC_124 scPO_124 scA_124 scL_124 ∧ X 0 x2 b4 (x5 + 1) 0 scSE_124 scSC_124 scSO_124 scPE scPC_124 scPO_124 scA_124 scL_124 scW)
def S_Screen_lay (scSn : Nat) (scPn : Nat) (bkBn : Nat) (bkN : Nat → Int64) (bkS : Nat → Int32) (bkBE : Nat → Int32) (bkBC : Int32) (bkT : Int32) (scSE' : Nat → Int32) (scSC' : Int32) (scSO' : Bool) (scPE' : Nat → Int32) (scPC' : Int32) (scPO' : Bool) (scA' : Nat → Int32) (scL' : Int32) (scW' : Int32) (X : Nat → Int32 → Bool → Int32 → Int32 → (Nat → Int32) → Int32 → Bool → (Nat → Int32) → Int32 → Bool → (Nat → Int32) → Int32 → Int32 → Prop) : Nat → Int32 → Bool → Int32 → Int32 → (Nat → Int32) → Int32 → Bool → (Nat → Int32) → Int32 → Bool → (Nat → Int32) → Int32 → Int32 → Prop := fun q_lab x2 b4 x5 x6 scSE scSC scSO scPE scPC scPO scA scL scW => match q_lab with | 0 => B_Screen_lay_36 scSn scPn bkBn bkN bkS bkBE bkBC bkT scSE' scSC' scSO' scPE' scPC' scPO' scA' scL' scW' X x2 b4 x5 scSE scSC scSO scPE scPC scPO scA scL scW | 1 => B_Screen_lay_55 scSn scPn bkBn bkN bkS bkBE bkBC bkT scSE' scSC' scSO' scPE' scPC' scPO' scA' scL' scW' X x2 x5 scSE scSC scSO scPE scPC scPO scA scL scW | 2 => B_Screen_lay_80 scSn scPn bkBn bkN bkS bkBE bkBC bkT scSE' scSC' scSO' scPE' scPC' scPO' scA' scL' scW' X x2 b4 x5 x6 scSE scSC scSO scPE scPC scPO scA scL scW | 3 => B_Screen_lay_123 scSn scPn bkBn bkN bkS bkBE bkBC bkT scSE' scSC' scSO' scPE' scPC' scPO' scA' scL' scW' X x2 b4 x5 scSE scSC scSO scPE scPC scPO scA scL scW | _ => False
def T_Screen_lay (scSn : Nat) (scPn : Nat) (bkBn : Nat) (bkN : Nat → Int64) (bkS : Nat → Int32) (bkBE : Nat → Int32) (bkBC : Int32) (bkT : Int32) (scSE' : Nat → Int32) (scSC' : Int32) (scSO' : Bool) (scPE' : Nat → Int32) (scPC' : Int32) (scPO' : Bool) (scA' : Nat → Int32) (scL' : Int32) (scW' : Int32) : Nat → (Nat → Int32 → Bool → Int32 → Int32 → (Nat → Int32) → Int32 → Bool → (Nat → Int32) → Int32 → Bool → (Nat → Int32) → Int32 → Int32 → Prop)
  | 0 => fun _ _ _ _ _ _ _ _ _ _ _ _ _ _ => False
  | n + 1 => S_Screen_lay scSn scPn bkBn bkN bkS bkBE bkBC bkT scSE' scSC' scSO' scPE' scPC' scPO' scA' scL' scW' (T_Screen_lay scSn scPn bkBn bkN bkS bkBE bkBC bkT scSE' scSC' scSO' scPE' scPC' scPO' scA' scL' scW' n)
def D_Screen_lay (scSn : Nat) (scPn : Nat) (bkBn : Nat) (k0 : Int32) (k1 : Int32) (scSE : Nat → Int32) (scSC : Int32) (scSO : Bool) (scPE : Nat → Int32) (scPC : Int32) (scPO : Bool) (scA : Nat → Int32) (scL : Int32) (scW : Int32) (bkN : Nat → Int64) (bkS : Nat → Int32) (bkBE : Nat → Int32) (bkBC : Int32) (bkT : Int32) (scSE' : Nat → Int32) (scSC' : Int32) (scSO' : Bool) (scPE' : Nat → Int32) (scPC' : Int32) (scPO' : Bool) (scA' : Nat → Int32) (scL' : Int32) (scW' : Int32) : Prop := ∃ n : Nat, (∃ scSC_15 : Int32, ∃ scSO_15 : Bool, D_Row_shorten 0 scSC scSO scSC_15 scSO_15 ∧ (∃ scPC_23 : Int32, ∃ scPO_23 : Bool, D_Row_shorten 0 scPC scPO scPC_23 scPO_23 ∧ (∃ r31 : Int32, D_Book_bodyStart k0 bkS bkT r31 ∧ T_Screen_lay scSn scPn bkBn bkN bkS bkBE bkBC bkT scSE' scSC' scSO' scPE' scPC' scPO' scA' scL' scW' n 0 k0 true r31 0 scSE scSC_15 scSO_15 scPE scPC_23 scPO_23 scA 0 k1)))
theorem d_Screen_lay_0 : decode b_Screen_lay 0 = .ok (.aload_n 0, 1) := by decide +kernel
theorem d_Screen_lay_1 : decode b_Screen_lay 1 = .ok (.iload_n 3, 1) := by decide +kernel
theorem d_Screen_lay_2 : decode b_Screen_lay 2 = .ok (.putfield 31, 3) := by decide +kernel
theorem d_Screen_lay_5 : decode b_Screen_lay 5 = .ok (.aload_n 0, 1) := by decide +kernel
theorem d_Screen_lay_6 : decode b_Screen_lay 6 = .ok (.iconst 0, 1) := by decide +kernel
theorem d_Screen_lay_7 : decode b_Screen_lay 7 = .ok (.putfield 27, 3) := by decide +kernel
theorem d_Screen_lay_10 : decode b_Screen_lay 10 = .ok (.aload_n 0, 1) := by decide +kernel
theorem d_Screen_lay_11 : decode b_Screen_lay 11 = .ok (.getfield 16, 3) := by decide +kernel
theorem d_Screen_lay_14 : decode b_Screen_lay 14 = .ok (.iconst 0, 1) := by decide +kernel
theorem d_Screen_lay_15 : decode b_Screen_lay 15 = .ok (.invokevirtual 42, 3) := by decide +kernel
theorem d_Screen_lay_18 : decode b_Screen_lay 18 = .ok (.aload_n 0, 1) := by decide +kernel
theorem d_Screen_lay_19 : decode b_Screen_lay 19 = .ok (.getfield 20, 3) := by decide +kernel
theorem d_Screen_lay_22 : decode b_Screen_lay 22 = .ok (.iconst 0, 1) := by decide +kernel
theorem d_Screen_lay_23 : decode b_Screen_lay 23 = .ok (.invokevirtual 42, 3) := by decide +kernel
theorem d_Screen_lay_26 : decode b_Screen_lay 26 = .ok (.iconst 1, 1) := by decide +kernel
theorem d_Screen_lay_27 : decode b_Screen_lay 27 = .ok (.istore 4, 2) := by decide +kernel
theorem d_Screen_lay_29 : decode b_Screen_lay 29 = .ok (.aload_n 1, 1) := by decide +kernel
theorem d_Screen_lay_30 : decode b_Screen_lay 30 = .ok (.iload_n 2, 1) := by decide +kernel
theorem d_Screen_lay_31 : decode b_Screen_lay 31 = .ok (.invokevirtual 45, 3) := by decide +kernel
theorem d_Screen_lay_34 : decode b_Screen_lay 34 = .ok (.istore 5, 2) := by decide +kernel
theorem d_Screen_lay_36 : decode b_Screen_lay 36 = .ok (.iload 5, 2) := by decide +kernel
theorem d_Screen_lay_38 : decode b_Screen_lay 38 = .ok (.aload_n 1, 1) := by decide +kernel
theorem d_Screen_lay_39 : decode b_Screen_lay 39 = .ok (.iload_n 2, 1) := by decide +kernel
theorem d_Screen_lay_40 : decode b_Screen_lay 40 = .ok (.invokevirtual 50, 3) := by decide +kernel
theorem d_Screen_lay_43 : decode b_Screen_lay 43 = .ok (.if_icmp .ge 108, 3) := by decide +kernel
theorem d_Screen_lay_46 : decode b_Screen_lay 46 = .ok (.iload 4, 2) := by decide +kernel
theorem d_Screen_lay_48 : decode b_Screen_lay 48 = .ok (.ifCond .eq 7, 3) := by decide +kernel
theorem d_Screen_lay_51 : decode b_Screen_lay 51 = .ok (.aload_n 0, 1) := by decide +kernel
theorem d_Screen_lay_52 : decode b_Screen_lay 52 = .ok (.invokevirtual 53, 3) := by decide +kernel
theorem d_Screen_lay_55 : decode b_Screen_lay 55 = .ok (.aload_n 1, 1) := by decide +kernel
theorem d_Screen_lay_56 : decode b_Screen_lay 56 = .ok (.invokevirtual 56, 3) := by decide +kernel
theorem d_Screen_lay_59 : decode b_Screen_lay 59 = .ok (.iload 5, 2) := by decide +kernel
theorem d_Screen_lay_61 : decode b_Screen_lay 61 = .ok (.invokevirtual 38, 3) := by decide +kernel
theorem d_Screen_lay_64 : decode b_Screen_lay 64 = .ok (.istore 6, 2) := by decide +kernel
theorem d_Screen_lay_66 : decode b_Screen_lay 66 = .ok (.iload 6, 2) := by decide +kernel
theorem d_Screen_lay_68 : decode b_Screen_lay 68 = .ok (.bipush 10, 2) := by decide +kernel
theorem d_Screen_lay_70 : decode b_Screen_lay 70 = .ok (.if_icmp .ne 7, 3) := by decide +kernel
theorem d_Screen_lay_73 : decode b_Screen_lay 73 = .ok (.iconst 1, 1) := by decide +kernel
theorem d_Screen_lay_74 : decode b_Screen_lay 74 = .ok (.goto 4, 3) := by decide +kernel
theorem d_Screen_lay_77 : decode b_Screen_lay 77 = .ok (.iconst 0, 1) := by decide +kernel
theorem d_Screen_lay_78 : decode b_Screen_lay 78 = .ok (.istore 4, 2) := by decide +kernel
theorem d_Screen_lay_80 : decode b_Screen_lay 80 = .ok (.iload 6, 2) := by decide +kernel
theorem d_Screen_lay_82 : decode b_Screen_lay 82 = .ok (.iconst 2, 1) := by decide +kernel
theorem d_Screen_lay_83 : decode b_Screen_lay 83 = .ok (.if_icmp .ne 26, 3) := by decide +kernel
theorem d_Screen_lay_86 : decode b_Screen_lay 86 = .ok (.iinc 5 1, 3) := by decide +kernel
theorem d_Screen_lay_89 : decode b_Screen_lay 89 = .ok (.aload_n 0, 1) := by decide +kernel
theorem d_Screen_lay_90 : decode b_Screen_lay 90 = .ok (.aload_n 1, 1) := by decide +kernel
theorem d_Screen_lay_91 : decode b_Screen_lay 91 = .ok (.aload_n 1, 1) := by decide +kernel
theorem d_Screen_lay_92 : decode b_Screen_lay 92 = .ok (.invokevirtual 56, 3) := by decide +kernel
theorem d_Screen_lay_95 : decode b_Screen_lay 95 = .ok (.iload 5, 2) := by decide +kernel
theorem d_Screen_lay_97 : decode b_Screen_lay 97 = .ok (.invokevirtual 38, 3) := by decide +kernel
theorem d_Screen_lay_100 : decode b_Screen_lay 100 = .ok (.invokevirtual 60, 3) := by decide +kernel
theorem d_Screen_lay_103 : decode b_Screen_lay 103 = .ok (.invokevirtual 64, 3) := by decide +kernel
theorem d_Screen_lay_106 : decode b_Screen_lay 106 = .ok (.goto 39, 3) := by decide +kernel
theorem d_Screen_lay_109 : decode b_Screen_lay 109 = .ok (.iload 6, 2) := by decide +kernel
theorem d_Screen_lay_111 : decode b_Screen_lay 111 = .ok (.bipush 32, 2) := by decide +kernel
theorem d_Screen_lay_113 : decode b_Screen_lay 113 = .ok (.if_icmp .eq 10, 3) := by decide +kernel
theorem d_Screen_lay_116 : decode b_Screen_lay 116 = .ok (.iload 6, 2) := by decide +kernel
theorem d_Screen_lay_118 : decode b_Screen_lay 118 = .ok (.bipush 10, 2) := by decide +kernel
theorem d_Screen_lay_120 : decode b_Screen_lay 120 = .ok (.if_icmp .ne 10, 3) := by decide +kernel
theorem d_Screen_lay_123 : decode b_Screen_lay 123 = .ok (.aload_n 0, 1) := by decide +kernel
theorem d_Screen_lay_124 : decode b_Screen_lay 124 = .ok (.invokevirtual 68, 3) := by decide +kernel
theorem d_Screen_lay_127 : decode b_Screen_lay 127 = .ok (.goto 18, 3) := by decide +kernel
theorem d_Screen_lay_130 : decode b_Screen_lay 130 = .ok (.iload 6, 2) := by decide +kernel
theorem d_Screen_lay_132 : decode b_Screen_lay 132 = .ok (.iconst 1, 1) := by decide +kernel
theorem d_Screen_lay_133 : decode b_Screen_lay 133 = .ok (.if_icmp .eq 12, 3) := by decide +kernel
theorem d_Screen_lay_136 : decode b_Screen_lay 136 = .ok (.aload_n 0, 1) := by decide +kernel
theorem d_Screen_lay_137 : decode b_Screen_lay 137 = .ok (.getfield 20, 3) := by decide +kernel
theorem d_Screen_lay_140 : decode b_Screen_lay 140 = .ok (.iload 6, 2) := by decide +kernel
theorem d_Screen_lay_142 : decode b_Screen_lay 142 = .ok (.invokevirtual 71, 3) := by decide +kernel
theorem d_Screen_lay_145 : decode b_Screen_lay 145 = .ok (.iinc 5 1, 3) := by decide +kernel
theorem d_Screen_lay_148 : decode b_Screen_lay 148 = .ok (.goto (-112), 3) := by decide +kernel
theorem d_Screen_lay_151 : decode b_Screen_lay 151 = .ok (.return_, 1) := by decide +kernel
set_option maxHeartbeats 4000000 in
set_option maxRecDepth 100000 in
theorem c_Screen_lay (l : Launch) (dC : Nat → ClassId) (dI : Nat → Nat → Nat) (cI cL cZ : ClassId) (sc : Nat) (scS : Nat) (scSEa : Nat) (scSn : Nat) (scSE : Nat → Int32) (scSC : Int32) (scSO : Bool) (scP : Nat) (scPEa : Nat) (scPn : Nat) (scPE : Nat → Int32) (scPC : Int32) (scPO : Bool) (scAa : Nat) (scA : Nat → Int32) (scL : Int32) (scW : Int32) (bk : Nat) (bkNa : Nat) (bkN : Nat → Int64) (bkSa : Nat) (bkS : Nat → Int32) (bkB : Nat) (bkBEa : Nat) (bkBn : Nat) (bkBE : Nat → Int32) (bkBC : Int32) (bkBO : Bool) (bkK : Nat) (bkKWa : Nat) (bkKn : Nat) (bkKW : Nat → Int64) (bkKTa : Nat) (bkKT : Nat → Int32) (bkKC : Int32) (bkV : Nat) (bkVWa : Nat) (bkVn : Nat) (bkVW : Nat → Int64) (bkVTa : Nat) (bkVT : Nat → Int32) (bkVC : Int32) (bkT : Int32) (k0 : Int32) (k1 : Int32) (scSE' : Nat → Int32) (scSC' : Int32) (scSO' : Bool) (scPE' : Nat → Int32) (scPC' : Int32) (scPO' : Bool) (scA' : Nat → Int32) (scL' : Int32) (scW' : Int32) (hd : D_Screen_lay scSn scPn bkBn k0 k1 scSE scSC scSO scPE scPC scPO scA scL scW bkN bkS bkBE bkBC bkT scSE' scSC' scSO' scPE' scPC' scPO' scA' scL' scW') : Ctr l y_Screen_lay (Cond.code y_Screen_lay b_Screen_lay 7 none :: ga) { frames := 3, cells := 0, slots := 0, locals := 61 } (dC, dI) classes (Tys cI cL cZ) [.ref sc, .ref bk, .int k0, .int k1] ((sh_Screen cI cL cZ sc scS scSEa scSn scSE scSC scSO scP scPEa scPn scPE scPC scPO scAa scA scL scW) ++ ((sh_Book cI cL cZ bk bkNa bkN bkSa bkS bkB bkBEa bkBn bkBE bkBC bkBO bkK bkKWa bkKn bkKW bkKTa bkKT bkKC bkV bkVWa bkVn bkVW bkVTa bkVT bkVC bkT))) none ((sh_Screen cI cL cZ sc scS scSEa scSn scSE' scSC' scSO' scP scPEa scPn scPE' scPC' scPO' scAa scA' scL' scW') ++ ((sh_Book cI cL cZ bk bkNa bkN bkSa bkS bkB bkBEa bkBn bkBE bkBC bkBO bkK bkKWa bkKn bkKW bkKTa bkKT bkKC bkV bkVWa bkVn bkVW bkVTa bkVT bkVC bkT))) := by
  refine Ctr.ofW (by decide) (Nat.le_of_ble_eq_true rfl) ?_
  intro p e s m below meth c A ls hx hb hr hml hown hlocks hts hK hN hA hP hD hS hl
  have hown : s.vm.findClass R_Screen = some m.cls := hown
  have hl : lv_has ls 7 [(0, .ref sc), (1, .ref bk), (2, .int k0), (3, .int k1)] := hl
  have key : ∀ n : Nat, (∀ (x2 : Int32) (b4 : Bool) (x5 : Int32) (scSE : Nat → Int32) (scSC : Int32) (scSO : Bool) (scPE : Nat → Int32) (scPC : Int32) (scPO : Bool) (scA : Nat → Int32) (scL : Int32) (scW : Int32) (ls : Array Slot) (H : Heap) (locs : List Loc), lv_has ls 7 [(0, .ref sc), (1, .ref bk), (2, .int x2), (4, .int (bI b4)), (5, .int x5)] → va_P (dC, dI) classes ((sh_Screen cI cL cZ sc scS scSEa scSn scSE scSC scSO scP scPEa scPn scPE scPC scPO scAa scA scL scW) ++ ((sh_Book cI cL cZ bk bkNa bkN bkSa bkS bkB bkBEa bkBn bkBE bkBC bkBO bkK bkKWa bkKn bkKW bkKTa bkKT bkKC bkV bkVWa bkVn bkVW bkVTa bkVT bkVC bkT))) H → va_D A ((sh_Screen cI cL cZ sc scS scSEa scSn scSE scSC scSO scP scPEa scPn scPE scPC scPO scAa scA scL scW) ++ ((sh_Book cI cL cZ bk bkNa bkN bkSa bkS bkB bkBEa bkBn bkBE bkBC bkBO bkK bkKWa bkKn bkKW bkKTa bkKT bkKC bkV bkVWa bkVn bkVW bkVTa bkVT bkVC bkT))) → va_S A s.heap H locs → T_Screen_lay scSn scPn bkBn bkN bkS bkBE bkBC bkT scSE' scSC' scSO' scPE' scPC' scPO' scA' scL' scW' n 0 x2 b4 x5 0 scSE scSC scSO scPE scPC scPO scA scL scW → W p l e ({ frames := 3, cells := 0, slots := 0, locals := 61 }) s m ([.ref sc, .ref bk, .int k0, .int k1] : List Value).toArray below meth c H locs 0 0 (MQ below (Qs (dC, dI) classes (Tys cI cL cZ) none ((sh_Screen cI cL cZ sc scS scSEa scSn scSE' scSC' scSO' scP scPEa scPn scPE' scPC' scPO' scAa scA' scL' scW') ++ ((sh_Book cI cL cZ bk bkNa bkN bkSa bkS bkB bkBEa bkBn bkBE bkBC bkBO bkK bkKWa bkKn bkKW bkKTa bkKT bkKC bkV bkVWa bkVn bkVW bkVTa bkVT bkVC bkT))) A) ([.ref sc, .ref bk, .int k0, .int k1] : List Value).toArray s 0 0 A) (F0 m 36 ls [])) ∧ (∀ (x2 : Int32) (x5 : Int32) (scSE : Nat → Int32) (scSC : Int32) (scSO : Bool) (scPE : Nat → Int32) (scPC : Int32) (scPO : Bool) (scA : Nat → Int32) (scL : Int32) (scW : Int32) (ls : Array Slot) (H : Heap) (locs : List Loc), lv_has ls 7 [(0, .ref sc), (1, .ref bk), (2, .int x2), (5, .int x5)] → va_P (dC, dI) classes ((sh_Screen cI cL cZ sc scS scSEa scSn scSE scSC scSO scP scPEa scPn scPE scPC scPO scAa scA scL scW) ++ ((sh_Book cI cL cZ bk bkNa bkN bkSa bkS bkB bkBEa bkBn bkBE bkBC bkBO bkK bkKWa bkKn bkKW bkKTa bkKT bkKC bkV bkVWa bkVn bkVW bkVTa bkVT bkVC bkT))) H → va_D A ((sh_Screen cI cL cZ sc scS scSEa scSn scSE scSC scSO scP scPEa scPn scPE scPC scPO scAa scA scL scW) ++ ((sh_Book cI cL cZ bk bkNa bkN bkSa bkS bkB bkBEa bkBn bkBE bkBC bkBO bkK bkKWa bkKn bkKW bkKTa bkKT bkKC bkV bkVWa bkVn bkVW bkVTa bkVT bkVC bkT))) → va_S A s.heap H locs → T_Screen_lay scSn scPn bkBn bkN bkS bkBE bkBC bkT scSE' scSC' scSO' scPE' scPC' scPO' scA' scL' scW' n 1 x2 false x5 0 scSE scSC scSO scPE scPC scPO scA scL scW → W p l e ({ frames := 3, cells := 0, slots := 0, locals := 61 }) s m ([.ref sc, .ref bk, .int k0, .int k1] : List Value).toArray below meth c H locs 0 0 (MQ below (Qs (dC, dI) classes (Tys cI cL cZ) none ((sh_Screen cI cL cZ sc scS scSEa scSn scSE' scSC' scSO' scP scPEa scPn scPE' scPC' scPO' scAa scA' scL' scW') ++ ((sh_Book cI cL cZ bk bkNa bkN bkSa bkS bkB bkBEa bkBn bkBE bkBC bkBO bkK bkKWa bkKn bkKW bkKTa bkKT bkKC bkV bkVWa bkVn bkVW bkVTa bkVT bkVC bkT))) A) ([.ref sc, .ref bk, .int k0, .int k1] : List Value).toArray s 0 0 A) (F0 m 55 ls [])) ∧ (∀ (x2 : Int32) (b4 : Bool) (x5 : Int32) (x6 : Int32) (scSE : Nat → Int32) (scSC : Int32) (scSO : Bool) (scPE : Nat → Int32) (scPC : Int32) (scPO : Bool) (scA : Nat → Int32) (scL : Int32) (scW : Int32) (ls : Array Slot) (H : Heap) (locs : List Loc), lv_has ls 7 [(0, .ref sc), (1, .ref bk), (2, .int x2), (4, .int (bI b4)), (5, .int x5), (6, .int x6)] → va_P (dC, dI) classes ((sh_Screen cI cL cZ sc scS scSEa scSn scSE scSC scSO scP scPEa scPn scPE scPC scPO scAa scA scL scW) ++ ((sh_Book cI cL cZ bk bkNa bkN bkSa bkS bkB bkBEa bkBn bkBE bkBC bkBO bkK bkKWa bkKn bkKW bkKTa bkKT bkKC bkV bkVWa bkVn bkVW bkVTa bkVT bkVC bkT))) H → va_D A ((sh_Screen cI cL cZ sc scS scSEa scSn scSE scSC scSO scP scPEa scPn scPE scPC scPO scAa scA scL scW) ++ ((sh_Book cI cL cZ bk bkNa bkN bkSa bkS bkB bkBEa bkBn bkBE bkBC bkBO bkK bkKWa bkKn bkKW bkKTa bkKT bkKC bkV bkVWa bkVn bkVW bkVTa bkVT bkVC bkT))) → va_S A s.heap H locs → T_Screen_lay scSn scPn bkBn bkN bkS bkBE bkBC bkT scSE' scSC' scSO' scPE' scPC' scPO' scA' scL' scW' n 2 x2 b4 x5 x6 scSE scSC scSO scPE scPC scPO scA scL scW → W p l e ({ frames := 3, cells := 0, slots := 0, locals := 61 }) s m ([.ref sc, .ref bk, .int k0, .int k1] : List Value).toArray below meth c H locs 0 0 (MQ below (Qs (dC, dI) classes (Tys cI cL cZ) none ((sh_Screen cI cL cZ sc scS scSEa scSn scSE' scSC' scSO' scP scPEa scPn scPE' scPC' scPO' scAa scA' scL' scW') ++ ((sh_Book cI cL cZ bk bkNa bkN bkSa bkS bkB bkBEa bkBn bkBE bkBC bkBO bkK bkKWa bkKn bkKW bkKTa bkKT bkKC bkV bkVWa bkVn bkVW bkVTa bkVT bkVC bkT))) A) ([.ref sc, .ref bk, .int k0, .int k1] : List Value).toArray s 0 0 A) (F0 m 80 ls [])) ∧ (∀ (x2 : Int32) (b4 : Bool) (x5 : Int32) (scSE : Nat → Int32) (scSC : Int32) (scSO : Bool) (scPE : Nat → Int32) (scPC : Int32) (scPO : Bool) (scA : Nat → Int32) (scL : Int32) (scW : Int32) (ls : Array Slot) (H : Heap) (locs : List Loc), lv_has ls 7 [(0, .ref sc), (1, .ref bk), (2, .int x2), (4, .int (bI b4)), (5, .int x5)] → va_P (dC, dI) classes ((sh_Screen cI cL cZ sc scS scSEa scSn scSE scSC scSO scP scPEa scPn scPE scPC scPO scAa scA scL scW) ++ ((sh_Book cI cL cZ bk bkNa bkN bkSa bkS bkB bkBEa bkBn bkBE bkBC bkBO bkK bkKWa bkKn bkKW bkKTa bkKT bkKC bkV bkVWa bkVn bkVW bkVTa bkVT bkVC bkT))) H → va_D A ((sh_Screen cI cL cZ sc scS scSEa scSn scSE scSC scSO scP scPEa scPn scPE scPC scPO scAa scA scL scW) ++ ((sh_Book cI cL cZ bk bkNa bkN bkSa bkS bkB bkBEa bkBn bkBE bkBC bkBO bkK bkKWa bkKn bkKW bkKTa bkKT bkKC bkV bkVWa bkVn bkVW bkVTa bkVT bkVC bkT))) → va_S A s.heap H locs → T_Screen_lay scSn scPn bkBn bkN bkS bkBE bkBC bkT scSE' scSC' scSO' scPE' scPC' scPO' scA' scL' scW' n 3 x2 b4 x5 0 scSE scSC scSO scPE scPC scPO scA scL scW → W p l e ({ frames := 3, cells := 0, slots := 0, locals := 61 }) s m ([.ref sc, .ref bk, .int k0, .int k1] : List Value).toArray below meth c H locs 0 0 (MQ below (Qs (dC, dI) classes (Tys cI cL cZ) none ((sh_Screen cI cL cZ sc scS scSEa scSn scSE' scSC' scSO' scP scPEa scPn scPE' scPC' scPO' scAa scA' scL' scW') ++ ((sh_Book cI cL cZ bk bkNa bkN bkSa bkS bkB bkBEa bkBn bkBE bkBC bkBO bkK bkKWa bkKn bkKW bkKTa bkKT bkKC bkV bkVWa bkVn bkVW bkVTa bkVT bkVC bkT))) A) ([.ref sc, .ref bk, .int k0, .int k1] : List Value).toArray s 0 0 A) (F0 m 123 ls [])) := by
    intro n
    induction n with
    | zero =>
      exact ⟨fun _ _ _ _ _ _ _ _ _ _ _ _ _ _ _ _ _ _ _ hd => False.elim hd, fun _ _ _ _ _ _ _ _ _ _ _ _ _ _ _ _ _ _ hd => False.elim hd, fun _ _ _ _ _ _ _ _ _ _ _ _ _ _ _ _ _ _ _ _ hd => False.elim hd, fun _ _ _ _ _ _ _ _ _ _ _ _ _ _ _ _ _ _ _ hd => False.elim hd⟩
    | succ n ih =>
      refine ⟨?_, ?_, ?_, ?_⟩
      · intro x2 b4 x5 scSE scSC scSO scPE scPC scPO scA scL scW ls H locs hl hP hD hS hd
        have hd : B_Screen_lay_36 scSn scPn bkBn bkN bkS bkBE bkBC bkT scSE' scSC' scSO' scPE' scPC' scPO' scA' scL' scW' (T_Screen_lay scSn scPn bkBn bkN bkS bkBE bkBC bkT scSE' scSC' scSO' scPE' scPC' scPO' scA' scL' scW' n) x2 b4 x5 scSE scSC scSO scPE scPC scPO scA scL scW := hd
        refine lv_iload hx hb d_Screen_lay_36 (lv_at hl 4 rfl) ?_
        refine lv_aload_n hx hb d_Screen_lay_38 rfl (lv_at hl 1 rfl) ?_
        refine lv_iload_n hx hb d_Screen_lay_39 rfl (lv_at hl 2 rfl) ?_
        obtain ⟨r40, c40, hd⟩ := hd
        refine ct_VR (As := [.int x2]) (rest := [.int x5]) (C := R_Book) (ci := 3) (q := (R_Book, F_Book, 6)) ⟨hx, hb, hml, hown, hts⟩ fm_Book_bodyEnd (c_Book_bodyEnd l dC dI cI cL cZ bk bkNa bkN bkSa bkS bkB bkBEa bkBn bkBE bkBC bkBO bkK bkKWa bkKn bkKW bkKTa bkKT bkKC bkV bkVWa bkVn bkVW bkVTa bkVT bkVC bkT x2 r40 c40) k353_methodLink k77_instanceMethod k78_selects ⟨Nat.le_of_ble_eq_true rfl, Nat.le_of_ble_eq_true rfl⟩ rfl rfl hK hN hP hD [6, 7, 8, 9, 10, 11, 12, 13, 14, 15, 16] rfl rfl (by decide) 6 rfl rfl rfl rfl hl.1 rfl (Nat.le_of_ble_eq_true rfl) d_Screen_lay_40 ?_
        refine lv_icmp_ge (tgt := 151) hx hb d_Screen_lay_43 (by decide) (fun h43 => ?_) (fun h43 => ?_)
        · have hd := hd.1 h43
          obtain ⟨e0, e1, e2, e3, e4, e5, e6, e7, e8⟩ := hd
          subst e0
          subst e1
          subst e2
          subst e3
          subst e4
          subst e5
          subst e6
          subst e7
          subst e8
          exact ct_vret hx hb hr hlocks hK hP hD hS d_Screen_lay_151
        · have hd := hd.2 h43
          refine lv_iload hx hb d_Screen_lay_46 (lv_at hl 3 rfl) ?_
          refine lv_if_eq (tgt := 55) hx hb d_Screen_lay_48 (by decide) (fun h48 => ?_) (fun h48 => ?_)
          · have hd := hd.1 h48
            exact ih.2.1 x2 x5 scSE scSC scSO scPE scPC scPO scA scL scW _ _ _ (lv_sub hl [0, 1, 2, 4] rfl) hP hD hS hd
          · have hd := hd.2 h48
            refine lv_aload_n hx hb d_Screen_lay_51 rfl (lv_at hl 0 rfl) ?_
            obtain ⟨scA_52, scL_52, c52, hd⟩ := hd
            refine ct_V (As := []) (rest := []) (C := R_Screen) (ci := 8) (q := (R_Screen, F_Screen, 5)) ⟨hx, hb, hml, hown, hts⟩ fm_Screen_beginParagraph (c_Screen_beginParagraph l dC dI cI cL cZ sc scS scSEa scSn scSE scSC scSO scP scPEa scPn scPE scPC scPO scAa scA scL scW scA_52 scL_52 c52) k354_methodLink k355_instanceMethod k356_selects ⟨Nat.le_of_ble_eq_true rfl, Nat.le_of_ble_eq_true rfl⟩ rfl rfl hK hN hP hD hS hA [0, 1, 2, 3, 4, 5] [6, 7, 8, 9, 10, 11, 12, 13, 14, 15, 16] rfl rfl rfl (by decide) (by decide) (by decide) 0 rfl rfl rfl rfl hl.1 rfl (Nat.le_of_ble_eq_true rfl) d_Screen_lay_52 (fun H locs hP hD hS => ?_)
            have hP : va_P (dC, dI) classes ((sh_Screen cI cL cZ sc scS scSEa scSn scSE scSC scSO scP scPEa scPn scPE scPC scPO scAa scA_52 scL_52 scW) ++ ((sh_Book cI cL cZ bk bkNa bkN bkSa bkS bkB bkBEa bkBn bkBE bkBC bkBO bkK bkKWa bkKn bkKW bkKTa bkKT bkKC bkV bkVWa bkVn bkVW bkVTa bkVT bkVC bkT))) H := hP.sub [11, 12, 13, 14, 15, 16, 0, 1, 2, 3, 4, 5, 6, 7, 8, 9, 10] rfl
            have hD : va_D A ((sh_Screen cI cL cZ sc scS scSEa scSn scSE scSC scSO scP scPEa scPn scPE scPC scPO scAa scA_52 scL_52 scW) ++ ((sh_Book cI cL cZ bk bkNa bkN bkSa bkS bkB bkBEa bkBn bkBE bkBC bkBO bkK bkKWa bkKn bkKW bkKTa bkKT bkKC bkV bkVWa bkVn bkVW bkVTa bkVT bkVC bkT))) := hD.sub [11, 12, 13, 14, 15, 16, 0, 1, 2, 3, 4, 5, 6, 7, 8, 9, 10] (by decide) rfl
            exact ih.2.1 x2 x5 scSE scSC scSO scPE scPC scPO scA_52 scL_52 scW _ _ _ (lv_sub hl [0, 1, 2, 4] rfl) hP hD hS hd
      · intro x2 x5 scSE scSC scSO scPE scPC scPO scA scL scW ls H locs hl hP hD hS hd
        have hd : B_Screen_lay_55 scSn scPn bkBn bkN bkS bkBE bkBC bkT scSE' scSC' scSO' scPE' scPC' scPO' scA' scL' scW' (T_Screen_lay scSn scPn bkBn bkN bkS bkBE bkBC bkT scSE' scSC' scSO' scPE' scPC' scPO' scA' scL' scW' n) x2 x5 scSE scSC scSO scPE scPC scPO scA scL scW := hd
        refine lv_aload_n hx hb d_Screen_lay_55 rfl (lv_at hl 1 rfl) ?_
        refine ct_VR (As := []) (rest := []) (C := R_Book) (ci := 3) (q := (R_Book, F_Book, 6)) ⟨hx, hb, hml, hown, hts⟩ fm_Book_bodies (c_Book_bodies l dC dI cI cL cZ bk bkNa bkN bkSa bkS bkB bkBEa bkBn bkBE bkBC bkBO bkK bkKWa bkKn bkKW bkKTa bkKT bkKC bkV bkVWa bkVn bkVW bkVTa bkVT bkVC bkT trivial) k357_methodLink k148_instanceMethod k149_selects ⟨Nat.le_of_ble_eq_true rfl, Nat.le_of_ble_eq_true rfl⟩ rfl rfl hK hN hP hD [6, 7, 8, 9, 10, 11, 12, 13, 14, 15, 16] rfl rfl (by decide) 6 rfl rfl rfl rfl hl.1 rfl (Nat.le_of_ble_eq_true rfl) d_Screen_lay_56 ?_
        refine lv_iload hx hb d_Screen_lay_59 (lv_at hl 3 rfl) ?_
        obtain ⟨r61, c61, hd⟩ := hd
        refine ct_VR (As := [.int x5]) (rest := []) (C := R_Row) (ci := 1) (q := (R_Row, F_Row, 3)) ⟨hx, hb, hml, hown, hts⟩ fm_Row_element (c_Row_element l dC dI cI cL cZ bkB bkBEa bkBn bkBE bkBC bkBO x5 r61 c61) k340_methodLink k4_instanceMethod k5_selects ⟨Nat.le_of_ble_eq_true rfl, Nat.le_of_ble_eq_true rfl⟩ rfl rfl hK hN hP hD [9, 10] rfl rfl (by decide) 9 rfl rfl rfl rfl hl.1 rfl (Nat.le_of_ble_eq_true rfl) d_Screen_lay_61 ?_
        refine lv_istore (lv' := [(6, .int r61), (0, .ref sc), (1, .ref bk), (2, .int x2), (5, .int x5)]) hx hb d_Screen_lay_64 hl (by decide) rfl (fun ls hl => ?_)
        refine lv_iload hx hb d_Screen_lay_66 (lv_at hl 0 rfl) ?_
        refine lv_bipush (v := 10) hx hb d_Screen_lay_68 (by decide) ?_
        refine lv_icmp_ne (tgt := 77) hx hb d_Screen_lay_70 (by decide) (fun h70 => ?_) (fun h70 => ?_)
        · have hd := hd.2 h70
          refine lv_iconst (v := 0) hx hb d_Screen_lay_77 (by decide) ?_
          refine lv_istore (lv' := [(4, .int 0), (6, .int r61), (0, .ref sc), (1, .ref bk), (2, .int x2), (5, .int x5)]) hx hb d_Screen_lay_78 hl (by decide) rfl (fun ls hl => ?_)
          exact ih.2.2.1 x2 false x5 r61 scSE scSC scSO scPE scPC scPO scA scL scW _ _ _ (lv_sub hl [2, 3, 4, 0, 5, 1] rfl) hP hD hS hd
        · have hd := hd.1 h70
          refine lv_iconst (v := 1) hx hb d_Screen_lay_73 (by decide) ?_
          refine lv_goto (tgt := 78) hx hb d_Screen_lay_74 (by decide) ?_
          refine lv_istore (lv' := [(4, .int 1), (6, .int r61), (0, .ref sc), (1, .ref bk), (2, .int x2), (5, .int x5)]) hx hb d_Screen_lay_78 hl (by decide) rfl (fun ls hl => ?_)
          exact ih.2.2.1 x2 true x5 r61 scSE scSC scSO scPE scPC scPO scA scL scW _ _ _ (lv_sub hl [2, 3, 4, 0, 5, 1] rfl) hP hD hS hd
      · intro x2 b4 x5 x6 scSE scSC scSO scPE scPC scPO scA scL scW ls H locs hl hP hD hS hd
        have hd : B_Screen_lay_80 scSn scPn bkBn bkN bkS bkBE bkBC bkT scSE' scSC' scSO' scPE' scPC' scPO' scA' scL' scW' (T_Screen_lay scSn scPn bkBn bkN bkS bkBE bkBC bkT scSE' scSC' scSO' scPE' scPC' scPO' scA' scL' scW' n) x2 b4 x5 x6 scSE scSC scSO scPE scPC scPO scA scL scW := hd
        refine lv_iload hx hb d_Screen_lay_80 (lv_at hl 5 rfl) ?_
        refine lv_iconst (v := 2) hx hb d_Screen_lay_82 (by decide) ?_
        refine lv_icmp_ne (tgt := 109) hx hb d_Screen_lay_83 (by decide) (fun h83 => ?_) (fun h83 => ?_)
        · have hd := hd.2 h83
          refine lv_iload hx hb d_Screen_lay_109 (lv_at hl 5 rfl) ?_
          refine lv_bipush (v := 32) hx hb d_Screen_lay_111 (by decide) ?_
          refine lv_icmp_eq (tgt := 123) hx hb d_Screen_lay_113 (by decide) (fun h113 => ?_) (fun h113 => ?_)
          · have hd := hd.1 h113
            exact ih.2.2.2 x2 b4 x5 scSE scSC scSO scPE scPC scPO scA scL scW _ _ _ (lv_sub hl [0, 1, 2, 3, 4] rfl) hP hD hS hd
          · have hd := hd.2 h113
            refine lv_iload hx hb d_Screen_lay_116 (lv_at hl 5 rfl) ?_
            refine lv_bipush (v := 10) hx hb d_Screen_lay_118 (by decide) ?_
            refine lv_icmp_ne (tgt := 130) hx hb d_Screen_lay_120 (by decide) (fun h120 => ?_) (fun h120 => ?_)
            · have hd := hd.2 h120
              refine lv_iload hx hb d_Screen_lay_130 (lv_at hl 5 rfl) ?_
              refine lv_iconst (v := 1) hx hb d_Screen_lay_132 (by decide) ?_
              refine lv_icmp_eq (tgt := 145) hx hb d_Screen_lay_133 (by decide) (fun h133 => ?_) (fun h133 => ?_)
              · have hd := hd.1 h133
                refine lv_iinc (k := 4) (v := x5 + 1) (lv' := [(5, .int (x5 + 1)), (0, .ref sc), (1, .ref bk), (2, .int x2), (4, .int (bI b4)), (6, .int x6)]) hx hb d_Screen_lay_145 hl rfl (congrArg (fun z => x5 + z) (by decide)) (by decide) rfl (fun ls hl => ?_)
                refine lv_goto (tgt := 36) hx hb d_Screen_lay_148 (by decide) ?_
                exact ih.1 x2 b4 (x5 + 1) scSE scSC scSO scPE scPC scPO scA scL scW _ _ _ (lv_sub hl [1, 2, 3, 4, 0] rfl) hP hD hS hd
              · have hd := hd.2 h133
                refine lv_aload_n hx hb d_Screen_lay_136 rfl (lv_at hl 0 rfl) ?_
                refine va_get (D := (dC, dI)) (ci := 8) (v := .ref scP) (C := R_Screen) (T := F_Screen) (N := 5) hx hb hts in_Screen hown hK hP 0 rfl rfl 1 (by decide) (hts _ (List.mem_cons_of_mem _ k344_fieldLink)) (fun _ h9 => h9) rfl d_Screen_lay_137 ?_
                refine lv_iload hx hb d_Screen_lay_140 (lv_at hl 5 rfl) ?_
                obtain ⟨scPE_142, scPC_142, scPO_142, c142, hd⟩ := hd
                refine ct_V (As := [.int x6]) (rest := []) (C := R_Row) (ci := 1) (q := (R_Row, F_Row, 3)) ⟨hx, hb, hml, hown, hts⟩ fm_Row_append (c_Row_append l dC dI cI cL cZ scP scPEa scPn scPE scPC scPO x6 scPE_142 scPC_142 scPO_142 c142) k345_methodLink k8_instanceMethod k9_selects ⟨Nat.le_of_ble_eq_true rfl, Nat.le_of_ble_eq_true rfl⟩ rfl rfl hK hN hP hD hS hA [3, 4] [0, 1, 2, 5, 6, 7, 8, 9, 10, 11, 12, 13, 14, 15, 16] rfl rfl rfl (by decide) (by decide) (by decide) 3 rfl rfl rfl rfl hl.1 rfl (Nat.le_of_ble_eq_true rfl) d_Screen_lay_142 (fun H locs hP hD hS => ?_)
                have hP : va_P (dC, dI) classes ((sh_Screen cI cL cZ sc scS scSEa scSn scSE scSC scSO scP scPEa scPn scPE_142 scPC_142 scPO_142 scAa scA scL scW) ++ ((sh_Book cI cL cZ bk bkNa bkN bkSa bkS bkB bkBEa bkBn bkBE bkBC bkBO bkK bkKWa bkKn bkKW bkKTa bkKT bkKC bkV bkVWa bkVn bkVW bkVTa bkVT bkVC bkT))) H := hP.sub [0, 1, 2, 15, 16, 3, 4, 5, 6, 7, 8, 9, 10, 11, 12, 13, 14] rfl
                have hD : va_D A ((sh_Screen cI cL cZ sc scS scSEa scSn scSE scSC scSO scP scPEa scPn scPE_142 scPC_142 scPO_142 scAa scA scL scW) ++ ((sh_Book cI cL cZ bk bkNa bkN bkSa bkS bkB bkBEa bkBn bkBE bkBC bkBO bkK bkKWa bkKn bkKW bkKTa bkKT bkKC bkV bkVWa bkVn bkVW bkVTa bkVT bkVC bkT))) := hD.sub [0, 1, 2, 15, 16, 3, 4, 5, 6, 7, 8, 9, 10, 11, 12, 13, 14] (by decide) rfl
                refine lv_iinc (k := 4) (v := x5 + 1) (lv' := [(5, .int (x5 + 1)), (0, .ref sc), (1, .ref bk), (2, .int x2), (4, .int (bI b4)), (6, .int x6)]) hx hb d_Screen_lay_145 hl rfl (congrArg (fun z => x5 + z) (by decide)) (by decide) rfl (fun ls hl => ?_)
                refine lv_goto (tgt := 36) hx hb d_Screen_lay_148 (by decide) ?_
                exact ih.1 x2 b4 (x5 + 1) scSE scSC scSO scPE_142 scPC_142 scPO_142 scA scL scW _ _ _ (lv_sub hl [1, 2, 3, 4, 0] rfl) hP hD hS hd
            · have hd := hd.1 h120
              exact ih.2.2.2 x2 b4 x5 scSE scSC scSO scPE scPC scPO scA scL scW _ _ _ (lv_sub hl [0, 1, 2, 3, 4] rfl) hP hD hS hd
        · have hd := hd.1 h83
          refine lv_iinc (k := 4) (v := x5 + 1) (lv' := [(5, .int (x5 + 1)), (0, .ref sc), (1, .ref bk), (2, .int x2), (4, .int (bI b4)), (6, .int x6)]) hx hb d_Screen_lay_86 hl rfl (congrArg (fun z => x5 + z) (by decide)) (by decide) rfl (fun ls hl => ?_)
          refine lv_aload_n hx hb d_Screen_lay_89 rfl (lv_at hl 1 rfl) ?_
          refine lv_aload_n hx hb d_Screen_lay_90 rfl (lv_at hl 2 rfl) ?_
          refine lv_aload_n hx hb d_Screen_lay_91 rfl (lv_at hl 2 rfl) ?_
          refine ct_VR (As := []) (rest := [.ref bk, .ref sc]) (C := R_Book) (ci := 3) (q := (R_Book, F_Book, 6)) ⟨hx, hb, hml, hown, hts⟩ fm_Book_bodies (c_Book_bodies l dC dI cI cL cZ bk bkNa bkN bkSa bkS bkB bkBEa bkBn bkBE bkBC bkBO bkK bkKWa bkKn bkKW bkKTa bkKT bkKC bkV bkVWa bkVn bkVW bkVTa bkVT bkVC bkT trivial) k357_methodLink k148_instanceMethod k149_selects ⟨Nat.le_of_ble_eq_true rfl, Nat.le_of_ble_eq_true rfl⟩ rfl rfl hK hN hP hD [6, 7, 8, 9, 10, 11, 12, 13, 14, 15, 16] rfl rfl (by decide) 6 rfl rfl rfl rfl hl.1 rfl (Nat.le_of_ble_eq_true rfl) d_Screen_lay_92 ?_
          refine lv_iload hx hb d_Screen_lay_95 (lv_at hl 0 rfl) ?_
          obtain ⟨r97, c97, hd⟩ := hd
          refine ct_VR (As := [.int (x5 + 1)]) (rest := [.ref bk, .ref sc]) (C := R_Row) (ci := 1) (q := (R_Row, F_Row, 3)) ⟨hx, hb, hml, hown, hts⟩ fm_Row_element (c_Row_element l dC dI cI cL cZ bkB bkBEa bkBn bkBE bkBC bkBO (x5 + 1) r97 c97) k340_methodLink k4_instanceMethod k5_selects ⟨Nat.le_of_ble_eq_true rfl, Nat.le_of_ble_eq_true rfl⟩ rfl rfl hK hN hP hD [9, 10] rfl rfl (by decide) 9 rfl rfl rfl rfl hl.1 rfl (Nat.le_of_ble_eq_true rfl) d_Screen_lay_97 ?_
          obtain ⟨r100, c100, hd⟩ := hd
          refine ct_VR (As := [.int r97]) (rest := [.ref sc]) (C := R_Book) (ci := 3) (q := (R_Book, F_Book, 6)) ⟨hx, hb, hml, hown, hts⟩ fm_Book_name (c_Book_name l dC dI cI cL cZ bk bkNa bkN bkSa bkS bkB bkBEa bkBn bkBE bkBC bkBO bkK bkKWa bkKn bkKW bkKTa bkKT bkKC bkV bkVWa bkVn bkVW bkVTa bkVT bkVC bkT r97 r100 c100) k358_methodLink k237_instanceMethod k238_selects ⟨Nat.le_of_ble_eq_true rfl, Nat.le_of_ble_eq_true rfl⟩ rfl rfl hK hN hP hD [6, 7, 8, 9, 10, 11, 12, 13, 14, 15, 16] rfl rfl (by decide) 6 rfl rfl rfl rfl hl.1 rfl (Nat.le_of_ble_eq_true rfl) d_Screen_lay_100 ?_
          obtain ⟨scPE_103, scPC_103, scPO_103, c103, hd⟩ := hd
          refine ct_V (As := [.long r100]) (rest := []) (C := R_Screen) (ci := 8) (q := (R_Screen, F_Screen, 5)) ⟨hx, hb, hml, hown, hts⟩ fm_Screen_appendLink (c_Screen_appendLink l dC dI cI cL cZ sc scS scSEa scSn scSE scSC scSO scP scPEa scPn scPE scPC scPO scAa scA scL scW r100 scPE_103 scPC_103 scPO_103 c103) k359_methodLink k360_instanceMethod k361_selects ⟨Nat.le_of_ble_eq_true rfl, Nat.le_of_ble_eq_true rfl⟩ rfl rfl hK hN hP hD hS hA [0, 1, 2, 3, 4, 5] [6, 7, 8, 9, 10, 11, 12, 13, 14, 15, 16] rfl rfl rfl (by decide) (by decide) (by decide) 0 rfl rfl rfl rfl hl.1 rfl (Nat.le_of_ble_eq_true rfl) d_Screen_lay_103 (fun H locs hP hD hS => ?_)
          have hP : va_P (dC, dI) classes ((sh_Screen cI cL cZ sc scS scSEa scSn scSE scSC scSO scP scPEa scPn scPE_103 scPC_103 scPO_103 scAa scA scL scW) ++ ((sh_Book cI cL cZ bk bkNa bkN bkSa bkS bkB bkBEa bkBn bkBE bkBC bkBO bkK bkKWa bkKn bkKW bkKTa bkKT bkKC bkV bkVWa bkVn bkVW bkVTa bkVT bkVC bkT))) H := hP.sub [11, 12, 13, 14, 15, 16, 0, 1, 2, 3, 4, 5, 6, 7, 8, 9, 10] rfl
          have hD : va_D A ((sh_Screen cI cL cZ sc scS scSEa scSn scSE scSC scSO scP scPEa scPn scPE_103 scPC_103 scPO_103 scAa scA scL scW) ++ ((sh_Book cI cL cZ bk bkNa bkN bkSa bkS bkB bkBEa bkBn bkBE bkBC bkBO bkK bkKWa bkKn bkKW bkKTa bkKT bkKC bkV bkVWa bkVn bkVW bkVTa bkVT bkVC bkT))) := hD.sub [11, 12, 13, 14, 15, 16, 0, 1, 2, 3, 4, 5, 6, 7, 8, 9, 10] (by decide) rfl
          refine lv_goto (tgt := 145) hx hb d_Screen_lay_106 (by decide) ?_
          refine lv_iinc (k := 0) (v := (x5 + 1) + 1) (lv' := [(5, .int ((x5 + 1) + 1)), (0, .ref sc), (1, .ref bk), (2, .int x2), (4, .int (bI b4)), (6, .int x6)]) hx hb d_Screen_lay_145 hl rfl (congrArg (fun z => (x5 + 1) + z) (by decide)) (by decide) rfl (fun ls hl => ?_)
          refine lv_goto (tgt := 36) hx hb d_Screen_lay_148 (by decide) ?_
          exact ih.1 x2 b4 ((x5 + 1) + 1) scSE scSC scSO scPE_103 scPC_103 scPO_103 scA scL scW _ _ _ (lv_sub hl [1, 2, 3, 4, 0] rfl) hP hD hS hd
      · intro x2 b4 x5 scSE scSC scSO scPE scPC scPO scA scL scW ls H locs hl hP hD hS hd
        have hd : B_Screen_lay_123 scSn scPn bkBn bkN bkS bkBE bkBC bkT scSE' scSC' scSO' scPE' scPC' scPO' scA' scL' scW' (T_Screen_lay scSn scPn bkBn bkN bkS bkBE bkBC bkT scSE' scSC' scSO' scPE' scPC' scPO' scA' scL' scW' n) x2 b4 x5 scSE scSC scSO scPE scPC scPO scA scL scW := hd
        refine lv_aload_n hx hb d_Screen_lay_123 rfl (lv_at hl 0 rfl) ?_
        obtain ⟨scSE_124, scSC_124, scSO_124, scPC_124, scPO_124, scA_124, scL_124, c124, hd⟩ := hd
        refine ct_V (As := []) (rest := []) (C := R_Screen) (ci := 8) (q := (R_Screen, F_Screen, 5)) ⟨hx, hb, hml, hown, hts⟩ fm_Screen_layPart (c_Screen_layPart l dC dI cI cL cZ sc scS scSEa scSn scSE scSC scSO scP scPEa scPn scPE scPC scPO scAa scA scL scW scSE_124 scSC_124 scSO_124 scPC_124 scPO_124 scA_124 scL_124 c124) k362_methodLink k363_instanceMethod k364_selects ⟨Nat.le_of_ble_eq_true rfl, Nat.le_of_ble_eq_true rfl⟩ rfl rfl hK hN hP hD hS hA [0, 1, 2, 3, 4, 5] [6, 7, 8, 9, 10, 11, 12, 13, 14, 15, 16] rfl rfl rfl (by decide) (by decide) (by decide) 0 rfl rfl rfl rfl hl.1 rfl (Nat.le_of_ble_eq_true rfl) d_Screen_lay_124 (fun H locs hP hD hS => ?_)
        have hP : va_P (dC, dI) classes ((sh_Screen cI cL cZ sc scS scSEa scSn scSE_124 scSC_124 scSO_124 scP scPEa scPn scPE scPC_124 scPO_124 scAa scA_124 scL_124 scW) ++ ((sh_Book cI cL cZ bk bkNa bkN bkSa bkS bkB bkBEa bkBn bkBE bkBC bkBO bkK bkKWa bkKn bkKW bkKTa bkKT bkKC bkV bkVWa bkVn bkVW bkVTa bkVT bkVC bkT))) H := hP.sub [11, 12, 13, 14, 15, 16, 0, 1, 2, 3, 4, 5, 6, 7, 8, 9, 10] rfl
        have hD : va_D A ((sh_Screen cI cL cZ sc scS scSEa scSn scSE_124 scSC_124 scSO_124 scP scPEa scPn scPE scPC_124 scPO_124 scAa scA_124 scL_124 scW) ++ ((sh_Book cI cL cZ bk bkNa bkN bkSa bkS bkB bkBEa bkBn bkBE bkBC bkBO bkK bkKWa bkKn bkKW bkKTa bkKT bkKC bkV bkVWa bkVn bkVW bkVTa bkVT bkVC bkT))) := hD.sub [11, 12, 13, 14, 15, 16, 0, 1, 2, 3, 4, 5, 6, 7, 8, 9, 10] (by decide) rfl
        refine lv_goto (tgt := 145) hx hb d_Screen_lay_127 (by decide) ?_
        refine lv_iinc (k := 4) (v := x5 + 1) (lv' := [(5, .int (x5 + 1)), (0, .ref sc), (1, .ref bk), (2, .int x2), (4, .int (bI b4))]) hx hb d_Screen_lay_145 hl rfl (congrArg (fun z => x5 + z) (by decide)) (by decide) rfl (fun ls hl => ?_)
        refine lv_goto (tgt := 36) hx hb d_Screen_lay_148 (by decide) ?_
        exact ih.1 x2 b4 (x5 + 1) scSE_124 scSC_124 scSO_124 scPE scPC_124 scPO_124 scA_124 scL_124 scW _ _ _ (lv_sub hl [1, 2, 3, 4, 0] rfl) hP hD hS hd
  obtain ⟨n, hd⟩ := hd
  refine lv_aload_n hx hb d_Screen_lay_0 rfl (lv_at hl 0 rfl) ?_
  refine lv_iload_n hx hb d_Screen_lay_1 rfl (lv_at hl 3 rfl) ?_
  refine va_put (D := (dC, dI)) (ci := 8) (v := .int k1) (ty := t_Screen 4) (C := R_Screen) (T := F_Screen) (N := 5) hx hb hts in_Screen t_Screen t_Screen_ok n_Screen hown hK hP hD hS 0 rfl rfl 4 (by decide) (hts _ (List.mem_cons_of_mem _ k336_fieldLink)) (fun _ h9 => h9) rfl (t_Screen_ok 4 (by decide)) rfl rfl (Nat.le_of_ble_eq_true rfl) d_Screen_lay_2 (fun H locs hP hD hS => ?_)
  have hP : va_P (dC, dI) classes ((sh_Screen cI cL cZ sc scS scSEa scSn scSE scSC scSO scP scPEa scPn scPE scPC scPO scAa scA scL k1) ++ ((sh_Book cI cL cZ bk bkNa bkN bkSa bkS bkB bkBEa bkBn bkBE bkBC bkBO bkK bkKWa bkKn bkKW bkKTa bkKT bkKC bkV bkVWa bkVn bkVW bkVTa bkVT bkVC bkT))) H := hP
  have hD : va_D A ((sh_Screen cI cL cZ sc scS scSEa scSn scSE scSC scSO scP scPEa scPn scPE scPC scPO scAa scA scL k1) ++ ((sh_Book cI cL cZ bk bkNa bkN bkSa bkS bkB bkBEa bkBn bkBE bkBC bkBO bkK bkKWa bkKn bkKW bkKTa bkKT bkKC bkV bkVWa bkVn bkVW bkVTa bkVT bkVC bkT))) := hD
  refine lv_aload_n hx hb d_Screen_lay_5 rfl (lv_at hl 0 rfl) ?_
  refine lv_iconst (v := 0) hx hb d_Screen_lay_6 (by decide) ?_
  refine va_put (D := (dC, dI)) (ci := 8) (v := .int 0) (ty := t_Screen 3) (C := R_Screen) (T := F_Screen) (N := 5) hx hb hts in_Screen t_Screen t_Screen_ok n_Screen hown hK hP hD hS 0 rfl rfl 3 (by decide) (hts _ (List.mem_cons_of_mem _ k334_fieldLink)) (fun _ h9 => h9) rfl (t_Screen_ok 3 (by decide)) rfl rfl (Nat.le_of_ble_eq_true rfl) d_Screen_lay_7 (fun H locs hP hD hS => ?_)
  have hP : va_P (dC, dI) classes ((sh_Screen cI cL cZ sc scS scSEa scSn scSE scSC scSO scP scPEa scPn scPE scPC scPO scAa scA 0 k1) ++ ((sh_Book cI cL cZ bk bkNa bkN bkSa bkS bkB bkBEa bkBn bkBE bkBC bkBO bkK bkKWa bkKn bkKW bkKTa bkKT bkKC bkV bkVWa bkVn bkVW bkVTa bkVT bkVC bkT))) H := hP
  have hD : va_D A ((sh_Screen cI cL cZ sc scS scSEa scSn scSE scSC scSO scP scPEa scPn scPE scPC scPO scAa scA 0 k1) ++ ((sh_Book cI cL cZ bk bkNa bkN bkSa bkS bkB bkBEa bkBn bkBE bkBC bkBO bkK bkKWa bkKn bkKW bkKTa bkKT bkKC bkV bkVWa bkVn bkVW bkVTa bkVT bkVC bkT))) := hD
  refine lv_aload_n hx hb d_Screen_lay_10 rfl (lv_at hl 0 rfl) ?_
  refine va_get (D := (dC, dI)) (ci := 8) (v := .ref scS) (C := R_Screen) (T := F_Screen) (N := 5) hx hb hts in_Screen hown hK hP 0 rfl rfl 0 (by decide) (hts _ (List.mem_cons_of_mem _ k337_fieldLink)) (fun _ h9 => h9) rfl d_Screen_lay_11 ?_
  refine lv_iconst (v := 0) hx hb d_Screen_lay_14 (by decide) ?_
  obtain ⟨scSC_15, scSO_15, c15, hd⟩ := hd
  refine ct_V (As := [.int 0]) (rest := []) (C := R_Row) (ci := 1) (q := (R_Row, F_Row, 3)) ⟨hx, hb, hml, hown, hts⟩ fm_Row_shorten (c_Row_shorten l dC dI cI cL cZ scS scSEa scSn scSE scSC scSO 0 scSC_15 scSO_15 c15) k351_methodLink k17_instanceMethod k18_selects ⟨Nat.le_of_ble_eq_true rfl, Nat.le_of_ble_eq_true rfl⟩ rfl rfl hK hN hP hD hS hA [1, 2] [0, 3, 4, 5, 6, 7, 8, 9, 10, 11, 12, 13, 14, 15, 16] rfl rfl rfl (by decide) (by decide) (by decide) 1 rfl rfl rfl rfl hl.1 rfl (Nat.le_of_ble_eq_true rfl) d_Screen_lay_15 (fun H locs hP hD hS => ?_)
  have hP : va_P (dC, dI) classes ((sh_Screen cI cL cZ sc scS scSEa scSn scSE scSC_15 scSO_15 scP scPEa scPn scPE scPC scPO scAa scA 0 k1) ++ ((sh_Book cI cL cZ bk bkNa bkN bkSa bkS bkB bkBEa bkBn bkBE bkBC bkBO bkK bkKWa bkKn bkKW bkKTa bkKT bkKC bkV bkVWa bkVn bkVW bkVTa bkVT bkVC bkT))) H := hP.sub [0, 15, 16, 1, 2, 3, 4, 5, 6, 7, 8, 9, 10, 11, 12, 13, 14] rfl
  have hD : va_D A ((sh_Screen cI cL cZ sc scS scSEa scSn scSE scSC_15 scSO_15 scP scPEa scPn scPE scPC scPO scAa scA 0 k1) ++ ((sh_Book cI cL cZ bk bkNa bkN bkSa bkS bkB bkBEa bkBn bkBE bkBC bkBO bkK bkKWa bkKn bkKW bkKTa bkKT bkKC bkV bkVWa bkVn bkVW bkVTa bkVT bkVC bkT))) := hD.sub [0, 15, 16, 1, 2, 3, 4, 5, 6, 7, 8, 9, 10, 11, 12, 13, 14] (by decide) rfl
  refine lv_aload_n hx hb d_Screen_lay_18 rfl (lv_at hl 0 rfl) ?_
  refine va_get (D := (dC, dI)) (ci := 8) (v := .ref scP) (C := R_Screen) (T := F_Screen) (N := 5) hx hb hts in_Screen hown hK hP 0 rfl rfl 1 (by decide) (hts _ (List.mem_cons_of_mem _ k344_fieldLink)) (fun _ h9 => h9) rfl d_Screen_lay_19 ?_
  refine lv_iconst (v := 0) hx hb d_Screen_lay_22 (by decide) ?_
  obtain ⟨scPC_23, scPO_23, c23, hd⟩ := hd
  refine ct_V (As := [.int 0]) (rest := []) (C := R_Row) (ci := 1) (q := (R_Row, F_Row, 3)) ⟨hx, hb, hml, hown, hts⟩ fm_Row_shorten (c_Row_shorten l dC dI cI cL cZ scP scPEa scPn scPE scPC scPO 0 scPC_23 scPO_23 c23) k351_methodLink k17_instanceMethod k18_selects ⟨Nat.le_of_ble_eq_true rfl, Nat.le_of_ble_eq_true rfl⟩ rfl rfl hK hN hP hD hS hA [3, 4] [0, 1, 2, 5, 6, 7, 8, 9, 10, 11, 12, 13, 14, 15, 16] rfl rfl rfl (by decide) (by decide) (by decide) 3 rfl rfl rfl rfl hl.1 rfl (Nat.le_of_ble_eq_true rfl) d_Screen_lay_23 (fun H locs hP hD hS => ?_)
  have hP : va_P (dC, dI) classes ((sh_Screen cI cL cZ sc scS scSEa scSn scSE scSC_15 scSO_15 scP scPEa scPn scPE scPC_23 scPO_23 scAa scA 0 k1) ++ ((sh_Book cI cL cZ bk bkNa bkN bkSa bkS bkB bkBEa bkBn bkBE bkBC bkBO bkK bkKWa bkKn bkKW bkKTa bkKT bkKC bkV bkVWa bkVn bkVW bkVTa bkVT bkVC bkT))) H := hP.sub [0, 1, 2, 15, 16, 3, 4, 5, 6, 7, 8, 9, 10, 11, 12, 13, 14] rfl
  have hD : va_D A ((sh_Screen cI cL cZ sc scS scSEa scSn scSE scSC_15 scSO_15 scP scPEa scPn scPE scPC_23 scPO_23 scAa scA 0 k1) ++ ((sh_Book cI cL cZ bk bkNa bkN bkSa bkS bkB bkBEa bkBn bkBE bkBC bkBO bkK bkKWa bkKn bkKW bkKTa bkKT bkKC bkV bkVWa bkVn bkVW bkVTa bkVT bkVC bkT))) := hD.sub [0, 1, 2, 15, 16, 3, 4, 5, 6, 7, 8, 9, 10, 11, 12, 13, 14] (by decide) rfl
  refine lv_iconst (v := 1) hx hb d_Screen_lay_26 (by decide) ?_
  refine lv_istore (lv' := [(4, .int 1), (0, .ref sc), (1, .ref bk), (2, .int k0), (3, .int k1)]) hx hb d_Screen_lay_27 hl (by decide) rfl (fun ls hl => ?_)
  refine lv_aload_n hx hb d_Screen_lay_29 rfl (lv_at hl 2 rfl) ?_
  refine lv_iload_n hx hb d_Screen_lay_30 rfl (lv_at hl 3 rfl) ?_
  obtain ⟨r31, c31, hd⟩ := hd
  refine ct_VR (As := [.int k0]) (rest := []) (C := R_Book) (ci := 3) (q := (R_Book, F_Book, 6)) ⟨hx, hb, hml, hown, hts⟩ fm_Book_bodyStart (c_Book_bodyStart l dC dI cI cL cZ bk bkNa bkN bkSa bkS bkB bkBEa bkBn bkBE bkBC bkBO bkK bkKWa bkKn bkKW bkKTa bkKT bkKC bkV bkVWa bkVn bkVW bkVTa bkVT bkVC bkT k0 r31 c31) k352_methodLink k80_instanceMethod k81_selects ⟨Nat.le_of_ble_eq_true rfl, Nat.le_of_ble_eq_true rfl⟩ rfl rfl hK hN hP hD [6, 7, 8, 9, 10, 11, 12, 13, 14, 15, 16] rfl rfl (by decide) 6 rfl rfl rfl rfl hl.1 rfl (Nat.le_of_ble_eq_true rfl) d_Screen_lay_31 ?_
  refine lv_istore (lv' := [(5, .int r31), (4, .int 1), (0, .ref sc), (1, .ref bk), (2, .int k0), (3, .int k1)]) hx hb d_Screen_lay_34 hl (by decide) rfl (fun ls hl => ?_)
  exact (key n).1 k0 true r31 scSE scSC_15 scSO_15 scPE scPC_23 scPO_23 scA 0 k1 _ _ _ (lv_sub hl [2, 3, 4, 1, 0] rfl) hP hD hS hd
