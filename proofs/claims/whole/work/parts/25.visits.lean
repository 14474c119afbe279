/-! 25.visits: what each method does, read off its bytecode (D_..), and its contract (c_..); written by a program of mine. -/
-- Visits.restart
abbrev b_Visits_restart : ByteArray := prog_11_method_2_code
def y_Visits_restart : MethodName := ⟨"HelpFile$Visits", "restart", "()V"⟩
theorem k288_fieldLink : Cond.fieldLink "HelpFile$Visits" 14 "HelpFile$Visits" "back" "LHelpFile$Row;" ∈ ga := ga_t 123 (by decide +kernel) rfl
theorem k289_methodLink : Cond.methodLink "HelpFile$Visits" 27 ⟨"HelpFile$Row", "shorten", "(I)V"⟩ ∈ ga := ga_t 635 (by decide +kernel) rfl
theorem k290_fieldLink : Cond.fieldLink "HelpFile$Visits" 20 "HelpFile$Visits" "forward" "LHelpFile$Row;" ∈ ga := ga_t 124 (by decide +kernel) rfl
theorem k291_fieldLink : Cond.fieldLink "HelpFile$Visits" 23 "HelpFile$Visits" "topic" "I" ∈ ga := ga_t 125 (by decide +kernel) rfl
theorem k292_initialized : Cond.initialized "HelpFile$Visits" ∈ ga := ga_t 5 (by decide +kernel) rfl
set_option maxRecDepth 100000 in
theorem fm_Visits_restart : Fm y_Visits_restart b_Visits_restart 1 none 0 := ⟨ga_t 634 rfl rfl, k292_initialized, by decide, by decide, by decide +kernel⟩
def D_Visits_restart (viBC : Int32) (viBO : Bool) (viFC : Int32) (viFO : Bool) (viT : Int32) (viBC' : Int32) (viBO' : Bool) (viFC' : Int32) (viFO' : Bool) (viT' : Int32) : Prop := (∃ viBC_5 : Int32, ∃ viBO_5 : Bool, D_Row_shorten 0 viBC viBO viBC_5 viBO_5 ∧ (∃ viFC_13 : Int32, ∃ viFO_13 : Bool, D_Row_shorten 0 viFC viFO viFC_13 viFO_13 ∧ (viBC' = viBC_5 ∧ viBO' = viBO_5 ∧ viFC' = viFC_13 ∧ viFO' = viFO_13 ∧ viT' = 0)))
theorem d_Visits_restart_0 : decode b_Visits_restart 0 = .ok (.aload_n 0, 1) := by decide +kernel
theorem d_Visits_restart_1 : decode b_Visits_restart 1 = .ok (.getfield 14, 3) := by decide +kernel
theorem d_Visits_restart_4 : decode b_Visits_restart 4 = .ok (.iconst 0, 1) := by decide +kernel
theorem d_Visits_restart_5 : decode b_Visits_restart 5 = .ok (.invokevirtual 27, 3) := by decide +kernel
theorem d_Visits_restart_8 : decode b_Visits_restart 8 = .ok (.aload_n 0, 1) := by decide +kernel
theorem d_Visits_restart_9 : decode b_Visits_restart 9 = .ok (.getfield 20, 3) := by decide +kernel
theorem d_Visits_restart_12 : decode b_Visits_restart 12 = .ok (.iconst 0, 1) := by decide +kernel
theorem d_Visits_restart_13 : decode b_Visits_restart 13 = .ok (.invokevirtual 27, 3) := by decide +kernel
theorem d_Visits_restart_16 : decode b_Visits_restart 16 = .ok (.aload_n 0, 1) := by decide +kernel
theorem d_Visits_restart_17 : decode b_Visits_restart 17 = .ok (.iconst 0, 1) := by decide +kernel
theorem d_Visits_restart_18 : decode b_Visits_restart 18 = .ok (.putfield 23, 3) := by decide +kernel
theorem d_Visits_restart_21 : decode b_Visits_restart 21 = .ok (.return_, 1) := by decide +kernel
set_option maxHeartbeats 4000000 in
set_option maxRecDepth 100000 in
theorem c_Visits_restart (l : Launch) (dC : Nat → ClassId) (dI : Nat → Nat → Nat) (cI cL cZ : ClassId) (vi : Nat) (viB : Nat) (viBEa : Nat) (viBn : Nat) (viBE : Nat → Int32) (viBC : Int32) (viBO : Bool) (viF : Nat) (viFEa : Nat) (viFn : Nat) (viFE : Nat → Int32) (viFC : Int32) (viFO : Bool) (viT : Int32) (viBC' : Int32) (viBO' : Bool) (viFC' : Int32) (viFO' : Bool) (viT' : Int32) (hd : D_Visits_restart viBC viBO viFC viFO viT viBC' viBO' viFC' viFO' viT') : Ctr l y_Visits_restart (Cond.code y_Visits_restart b_Visits_restart 1 none :: ga) { frames := 1, cells := 0, slots := 0, locals := 21 } (dC, dI) classes (Tys cI cL cZ) [.ref vi] ((sh_Visits cI cL cZ vi viB viBEa viBn viBE viBC viBO viF viFEa viFn viFE viFC viFO viT)) none ((sh_Visits cI cL cZ vi viB viBEa viBn viBE viBC' viBO' viF viFEa viFn viFE viFC' viFO' viT')) := by
  refine Ctr.ofW (by decide) (Nat.le_of_ble_eq_true rfl) ?_
  intro p e s m below meth c A ls hx hb hr hml hown hlocks hts hK hN hA hP hD hS hl
  have hown : s.vm.findClass R_Visits = some m.cls := hown
  have hl : lv_has ls 1 [(0, .ref vi)] := hl
  refine lv_aload_n hx hb d_Visits_restart_0 rfl (lv_at hl 0 rfl) ?_
  refine va_get (D := (dC, dI)) (ci := 6) (v := .ref viB) (C := R_Visits) (T := F_Visits) (N := 3) hx hb hts in_Visits hown hK hP 0 rfl rfl 0 (by decide) (hts _ (List.mem_cons_of_mem _ k288_fieldLink)) (fun _ h9 => h9) rfl d_Visits_restart_1 ?_
  refine lv_iconst (v := 0) hx hb d_Visits_restart_4 (by decide) ?_
  obtain ⟨viBC_5, viBO_5, c5, hd⟩ := hd
  refine ct_V (As := [.int 0]) (rest := []) (C := R_Row) (ci := 1) (q := (R_Row, F_Row, 3)) ⟨hx, hb, hml, hown, hts⟩ fm_Row_shorten (c_Row_shorten l dC dI cI cL cZ viB viBEa viBn viBE viBC viBO 0 viBC_5 viBO_5 c5) k289_methodLink k17_instanceMethod k18_selects ⟨Nat.le_of_ble_eq_true rfl, Nat.le_of_ble_eq_true rfl⟩ rfl rfl hK hN hP hD hS hA [1, 2] [0, 3, 4] rfl rfl rfl (by decide) (by decide) (by decide) 1 rfl rfl rfl rfl hl.1 rfl (Nat.le_of_ble_eq_true rfl) d_Visits_restart_5 (fun H locs hP hD hS => ?_)
  have hP : va_P (dC, dI) classes ((sh_Visits cI cL cZ vi viB viBEa viBn viBE viBC_5 viBO_5 viF viFEa viFn viFE viFC viFO viT)) H := hP.sub [0, 3, 4, 1, 2] rfl
  have hD : va_D A ((sh_Visits cI cL cZ vi viB viBEa viBn viBE viBC_5 viBO_5 viF viFEa viFn viFE viFC viFO viT)) := hD.sub [0, 3, 4, 1, 2] (by decide) rfl
  refine lv_aload_n hx hb d_Visits_restart_8 rfl (lv_at hl 0 rfl) ?_
  refine va_get (D := (dC, dI)) (ci := 6) (v := .ref viF) (C := R_Visits) (T := F_Visits) (N := 3) hx hb hts in_Visits hown hK hP 0 rfl rfl 1 (by decide) (hts _ (List.mem_cons_of_mem _ k290_fieldLink)) (fun _ h9 => h9) rfl d_Visits_restart_9 ?_
  refine lv_iconst (v := 0) hx hb d_Visits_restart_12 (by decide) ?_
  obtain ⟨viFC_13, viFO_13, c13, hd⟩ := hd
  refine ct_V (As := [.int 0]) (rest := []) (C := R_Row) (ci := 1) (q := (R_Row, F_Row, 3)) ⟨hx, hb, hml, hown, hts⟩ fm_Row_shorten (c_Row_shorten l dC dI cI cL cZ viF viFEa viFn viFE viFC viFO 0 viFC_13 viFO_13 c13) k289_methodLink k17_instanceMethod k18_selects ⟨Nat.le_of_ble_eq_true rfl, Nat.le_of_ble_eq_true rfl⟩ rfl rfl hK hN hP hD hS hA [3, 4] [0, 1, 2] rfl rfl rfl (by decide) (by decide) (by decide) 3 rfl rfl rfl rfl hl.1 rfl (Nat.le_of_ble_eq_true rfl) d_Visits_restart_13 (fun H locs hP hD hS => ?_)
  have hP : va_P (dC, dI) classes ((sh_Visits cI cL cZ vi viB viBEa viBn viBE viBC_5 viBO_5 viF viFEa viFn viFE viFC_13 viFO_13 viT)) H := hP.sub [0, 1, 2, 3, 4] rfl
  have hD : va_D A ((sh_Visits cI cL cZ vi viB viBEa viBn viBE viBC_5 viBO_5 viF viFEa viFn viFE viFC_13 viFO_13 viT)) := hD.sub [0, 1, 2, 3, 4] (by decide) rfl
  refine lv_aload_n hx hb d_Visits_restart_16 rfl (lv_at hl 0 rfl) ?_
  refine lv_iconst (v := 0) hx hb d_Visits_restart_17 (by decide) ?_
  refine va_put (D := (dC, dI)) (ci := 6) (v := .int 0) (ty := t_Visits 2) (C := R_Visits) (T := F_Visits) (N := 3) hx hb hts in_Visits t_Visits t_Visits_ok n_Visits hown hK hP hD hS 0 rfl rfl 2 (by decide) (hts _ (List.mem_cons_of_mem _ k291_fieldLink)) (fun _ h9 => h9) rfl (t_Visits_ok 2 (by decide)) rfl rfl (Nat.le_of_ble_eq_true rfl) d_Visits_restart_18 (fun H locs hP hD hS => ?_)
  have hP : va_P (dC, dI) classes ((sh_Visits cI cL cZ vi viB viBEa viBn viBE viBC_5 viBO_5 viF viFEa viFn viFE viFC_13 viFO_13 0)) H := hP
  have hD : va_D A ((sh_Visits cI cL cZ vi viB viBEa viBn viBE viBC_5 viBO_5 viF viFEa viFn viFE viFC_13 viFO_13 0)) := hD
  obtain ⟨e0, e1, e2, e3, e4⟩ := hd
  subst e0
  subst e1
  subst e2
  subst e3
  subst e4
  exact ct_vret hx hb hr hlocks hK hP hD hS d_Visits_restart_21
-- Visits.topic
abbrev b_Visits_topic : ByteArray := prog_11_method_3_code
def y_Visits_topic : MethodName := ⟨"HelpFile$Visits", "topic", "()I"⟩
set_option maxRecDepth 100000 in
theorem fm_Visits_topic : Fm y_Visits_topic b_Visits_topic 1 (some .int) 0 := ⟨ga_t 852 rfl rfl, k292_initialized, by decide, by decide, by decide +kernel⟩
def D_Visits_topic (viT : Int32) (res : Int32) : Prop := (res = viT)
theorem d_Visits_topic_0 : decode b_Visits_topic 0 = .ok (.aload_n 0, 1) := by decide +kernel
theorem d_Visits_topic_1 : decode b_Visits_topic 1 = .ok (.getfield 23, 3) := by decide +kernel
theorem d_Visits_topic_4 : decode b_Visits_topic 4 = .ok (.ireturn, 1) := by decide +kernel
set_option maxHeartbeats 4000000 in
set_option maxRecDepth 100000 in
theorem c_Visits_topic (l : Launch) (dC : Nat → ClassId) (dI : Nat → Nat → Nat) (cI cL cZ : ClassId) (vi : Nat) (viB : Nat) (viBEa : Nat) (viBn : Nat) (viBE : Nat → Int32) (viBC : Int32) (viBO : Bool) (viF : Nat) (viFEa : Nat) (viFn : Nat) (viFE : Nat → Int32) (viFC : Int32) (viFO : Bool) (viT : Int32) (res : Int32) (hd : D_Visits_topic viT res) : CtrR l y_Visits_topic (Cond.code y_Visits_topic b_Visits_topic 1 (some .int) :: ga) { frames := 0, cells := 0, slots := 0, locals := 0 } (dC, dI) classes (Tys cI cL cZ) [.ref vi] ((sh_Visits cI cL cZ vi viB viBEa viBn viBE viBC viBO viF viFEa viFn viFE viFC viFO viT)) (some (.int res)) := by
  refine CtrR.ofW (by decide) (Nat.le_of_ble_eq_true rfl) ?_
  intro p e s m below meth c ls hx hb hr hml hown hlocks hts hK hN hP hD hl
  have hown : s.vm.findClass R_Visits = some m.cls := hown
  have hl : lv_has ls 1 [(0, .ref vi)] := hl
  refine lv_aload_n hx hb d_Visits_topic_0 rfl (lv_at hl 0 rfl) ?_
  refine va_get (D := (dC, dI)) (ci := 6) (v := .int viT) (C := R_Visits) (T := F_Visits) (N := 3) hx hb hts in_Visits hown hK hP 0 rfl rfl 2 (by decide) (hts _ (List.mem_cons_of_mem _ k291_fieldLink)) (fun _ h9 => h9) rfl d_Visits_topic_1 ?_
  have e0 : res = viT := hd
  subst e0
  exact ct_iretR hx hb hr hlocks d_Visits_topic_4
-- Visits.backCount
abbrev b_Visits_backCount : ByteArray := prog_11_method_4_code
def y_Visits_backCount : MethodName := ⟨"HelpFile$Visits", "backCount", "()I"⟩
theorem k293_methodLink : Cond.methodLink "HelpFile$Visits" 30 ⟨"HelpFile$Row", "count", "()I"⟩ ∈ ga := ga_t 835 (by decide +kernel) rfl
set_option maxRecDepth 100000 in
theorem fm_Visits_backCount : Fm y_Visits_backCount b_Visits_backCount 1 (some .int) 0 := ⟨ga_t 872 rfl rfl, k292_initialized, by decide, by decide, by decide +kernel⟩
def D_Visits_backCount (viBC : Int32) (res : Int32) : Prop := (res = viBC)
theorem d_Visits_backCount_0 : decode b_Visits_backCount 0 = .ok (.aload_n 0, 1) := by decide +kernel
theorem d_Visits_backCount_1 : decode b_Visits_backCount 1 = .ok (.getfield 14, 3) := by decide +kernel
theorem d_Visits_backCount_4 : decode b_Visits_backCount 4 = .ok (.invokevirtual 30, 3) := by decide +kernel
theorem d_Visits_backCount_7 : decode b_Visits_backCount 7 = .ok (.ireturn, 1) := by decide +kernel
set_option maxHeartbeats 4000000 in
set_option maxRecDepth 100000 in
theorem c_Visits_backCount (l : Launch) (dC : Nat → ClassId) (dI : Nat → Nat → Nat) (cI cL cZ : ClassId) (vi : Nat) (viB : Nat) (viBEa : Nat) (viBn : Nat) (viBE : Nat → Int32) (viBC : Int32) (viBO : Bool) (viF : Nat) (viFEa : Nat) (viFn : Nat) (viFE : Nat → Int32) (viFC : Int32) (viFO : Bool) (viT : Int32) (res : Int32) (hd : D_Visits_backCount viBC res) : CtrR l y_Visits_backCount (Cond.code y_Visits_backCount b_Visits_backCount 1 (some .int) :: ga) { frames := 1, cells := 0, slots := 0, locals := 20 } (dC, dI) classes (Tys cI cL cZ) [.ref vi] ((sh_Visits cI cL cZ vi viB viBEa viBn viBE viBC viBO viF viFEa viFn viFE viFC viFO viT)) (some (.int res)) := by
  refine CtrR.ofW (by decide) (Nat.le_of_ble_eq_true rfl) ?_
  intro p e s m below meth c ls hx hb hr hml hown hlocks hts hK hN hP hD hl
  have hown : s.vm.findClass R_Visits = some m.cls := hown
  have hl : lv_has ls 1 [(0, .ref vi)] := hl
  refine lv_aload_n hx hb d_Visits_backCount_0 rfl (lv_at hl 0 rfl) ?_
  refine va_get (D := (dC, dI)) (ci := 6) (v := .ref viB) (C := R_Visits) (T := F_Visits) (N := 3) hx hb hts in_Visits hown hK hP 0 rfl rfl 0 (by decide) (hts _ (List.mem_cons_of_mem _ k288_fieldLink)) (fun _ h9 => h9) rfl d_Visits_backCount_1 ?_
  refine ct_VR (As := []) (rest := []) (C := R_Row) (ci := 1) (q := (R_Row, F_Row, 3)) ⟨hx, hb, hml, hown, hts⟩ fm_Row_count (c_Row_count l dC dI cI cL cZ viB viBEa viBn viBE viBC viBO viBC rfl) k293_methodLink k67_instanceMethod k68_selects ⟨Nat.le_of_ble_eq_true rfl, Nat.le_of_ble_eq_true rfl⟩ rfl rfl hK hN hP hD [1, 2] rfl rfl (by decide) 1 rfl rfl rfl rfl hl.1 rfl (Nat.le_of_ble_eq_true rfl) d_Visits_backCount_4 ?_
  have e0 : res = viBC := hd
  subst e0
  exact ct_iretR hx hb hr hlocks d_Visits_backCount_7
-- Visits.forwardCount
abbrev b_Visits_forwardCount : ByteArray := prog_11_method_5_code
def y_Visits_forwardCount : MethodName := ⟨"HelpFile$Visits", "forwardCount", "()I"⟩
set_option maxRecDepth 100000 in
theorem fm_Visits_forwardCount : Fm y_Visits_forwardCount b_Visits_forwardCount 1 (some .int) 0 := ⟨ga_t 868 rfl rfl, k292_initialized, by decide, by decide, by decide +kernel⟩
def D_Visits_forwardCount (viFC : Int32) (res : Int32) : Prop := (res = viFC)
theorem d_Visits_forwardCount_0 : decode b_Visits_forwardCount 0 = .ok (.aload_n 0, 1) := by decide +kernel
theorem d_Visits_forwardCount_1 : decode b_Visits_forwardCount 1 = .ok (.getfield 20, 3) := by decide +kernel
theorem d_Visits_forwardCount_4 : decode b_Visits_forwardCount 4 = .ok (.invokevirtual 30, 3) := by decide +kernel
theorem d_Visits_forwardCount_7 : decode b_Visits_forwardCount 7 = .ok (.ireturn, 1) := by decide +kernel
set_option maxHeartbeats 4000000 in
set_option maxRecDepth 100000 in
theorem c_Visits_forwardCount (l : Launch) (dC : Nat → ClassId) (dI : Nat → Nat → Nat) (cI cL cZ : ClassId) (vi : Nat) (viB : Nat) (viBEa : Nat) (viBn : Nat) (viBE : Nat → Int32) (viBC : Int32) (viBO : Bool) (viF : Nat) (viFEa : Nat) (viFn : Nat) (viFE : Nat → Int32) (viFC : Int32) (viFO : Bool) (viT : Int32) (res : Int32) (hd : D_Visits_forwardCount viFC res) : CtrR l y_Visits_forwardCount (Cond.code y_Visits_forwardCount b_Visits_forwardCount 1 (some .int) :: ga) { frames := 1, cells := 0, slots := 0, locals := 20 } (dC, dI) classes (Tys cI cL cZ) [.ref vi] ((sh_Visits cI cL cZ vi viB viBEa viBn viBE viBC viBO viF viFEa viFn viFE viFC viFO viT)) (some (.int res)) := by
  refine CtrR.ofW (by decide) (Nat.le_of_ble_eq_true rfl) ?_
  intro p e s m below meth c ls hx hb hr hml hown hlocks hts hK hN hP hD hl
  have hown : s.vm.findClass R_Visits = some m.cls := hown
  have hl : lv_has ls 1 [(0, .ref vi)] := hl
  refine lv_aload_n hx hb d_Visits_forwardCount_0 rfl (lv_at hl 0 rfl) ?_
  refine va_get (D := (dC, dI)) (ci := 6) (v := .ref viF) (C := R_Visits) (T := F_Visits) (N := 3) hx hb hts in_Visits hown hK hP 0 rfl rfl 1 (by decide) (hts _ (List.mem_cons_of_mem _ k290_fieldLink)) (fun _ h9 => h9) rfl d_Visits_forwardCount_1 ?_
  refine ct_VR (As := []) (rest := []) (C := R_Row) (ci := 1) (q := (R_Row, F_Row, 3)) ⟨hx, hb, hml, hown, hts⟩ fm_Row_count (c_Row_count l dC dI cI cL cZ viF viFEa viFn viFE viFC viFO viFC rfl) k293_methodLink k67_instanceMethod k68_selects ⟨Nat.le_of_ble_eq_true rfl, Nat.le_of_ble_eq_true rfl⟩ rfl rfl hK hN hP hD [3, 4] rfl rfl (by decide) 3 rfl rfl rfl rfl hl.1 rfl (Nat.le_of_ble_eq_true rfl) d_Visits_forwardCount_4 ?_
  have e0 : res = viFC := hd
  subst e0
  exact ct_iretR hx hb hr hlocks d_Visits_forwardCount_7
-- Visits.pop
abbrev b_Visits_pop : ByteArray := prog_11_method_10_code
def y_Visits_pop : MethodName := ⟨"HelpFile$Visits", "pop", "(LHelpFile$Row;)I"⟩
theorem k294_methodLink : Cond.methodLink "HelpFile$Visits" 48 ⟨"HelpFile$Row", "element", "(I)I"⟩ ∈ ga := ga_t 881 (by decide +kernel) rfl
set_option maxRecDepth 100000 in
theorem fm_Visits_pop : Fm y_Visits_pop b_Visits_pop 2 (some .int) 1 := ⟨ga_t 880 rfl rfl, k292_initialized, by decide, by decide, by decide +kernel⟩
def D_Visits_pop (ron : Nat) (roE : Nat → Int32) (roC : Int32) (roO : Bool) (res : Int32) (roC' : Int32) (roO' : Bool) : Prop := (∃ r7 : Int32, D_Row_element ron (roC - 1) roE roC r7 ∧ (∃ roC_18 : Int32, ∃ roO_18 : Bool, D_Row_shorten (roC - 1) roC roO roC_18 roO_18 ∧ (res = r7 ∧ roC' = roC_18 ∧ roO' = roO_18)))
theorem d_Visits_pop_0 : decode b_Visits_pop 0 = .ok (.aload_n 0, 1) := by decide +kernel
theorem d_Visits_pop_1 : decode b_Visits_pop 1 = .ok (.aload_n 0, 1) := by decide +kernel
theorem d_Visits_pop_2 : decode b_Visits_pop 2 = .ok (.invokevirtual 30, 3) := by decide +kernel
theorem d_Visits_pop_5 : decode b_Visits_pop 5 = .ok (.iconst 1, 1) := by decide +kernel
theorem d_Visits_pop_6 : decode b_Visits_pop 6 = .ok (.isub, 1) := by decide +kernel
theorem d_Visits_pop_7 : decode b_Visits_pop 7 = .ok (.invokevirtual 48, 3) := by decide +kernel
theorem d_Visits_pop_10 : decode b_Visits_pop 10 = .ok (.istore_n 1, 1) := by decide +kernel
theorem d_Visits_pop_11 : decode b_Visits_pop 11 = .ok (.aload_n 0, 1) := by decide +kernel
theorem d_Visits_pop_12 : decode b_Visits_pop 12 = .ok (.aload_n 0, 1) := by decide +kernel
theorem d_Visits_pop_13 : decode b_Visits_pop 13 = .ok (.invokevirtual 30, 3) := by decide +kernel
theorem d_Visits_pop_16 : decode b_Visits_pop 16 = .ok (.iconst 1, 1) := by decide +kernel
theorem d_Visits_pop_17 : decode b_Visits_pop 17 = .ok (.isub, 1) := by decide +kernel
theorem d_Visits_pop_18 : decode b_Visits_pop 18 = .ok (.invokevirtual 27, 3) := by decide +kernel
theorem d_Visits_pop_21 : decode b_Visits_pop 21 = .ok (.iload_n 1, 1) := by decide +kernel
theorem d_Visits_pop_22 : decode b_Visits_pop 22 = .ok (.ireturn, 1) := by decide +kernel
set_option maxHeartbeats 4000000 in
set_option maxRecDepth 100000 in
theorem c_Visits_pop (l : Launch) (dC : Nat → ClassId) (dI : Nat → Nat → Nat) (cI cL cZ : ClassId) (ro : Nat) (roEa : Nat) (ron : Nat) (roE : Nat → Int32) (roC : Int32) (roO : Bool) (res : Int32) (roC' : Int32) (roO' : Bool) (hd : D_Visits_pop ron roE roC roO res roC' roO') : Ctr l y_Visits_pop (Cond.code y_Visits_pop b_Visits_pop 2 (some .int) :: ga) { frames := 1, cells := 0, slots := 0, locals := 21 } (dC, dI) classes (Tys cI cL cZ) [.ref ro] ((sh_Row cI cL cZ ro roEa ron roE roC roO)) (some (.int res)) ((sh_Row cI cL cZ ro roEa ron roE roC' roO')) := by
  refine Ctr.ofW (by decide) (Nat.le_of_ble_eq_true rfl) ?_
  intro p e s m below meth c A ls hx hb hr hml hown hlocks hts hK hN hA hP hD hS hl
  have hown : s.vm.findClass R_Visits = some m.cls := hown
  have hl : lv_has ls 2 [(0, .ref ro)] := hl
  refine lv_aload_n hx hb d_Visits_pop_0 rfl (lv_at hl 0 rfl) ?_
  refine lv_aload_n hx hb d_Visits_pop_1 rfl (lv_at hl 0 rfl) ?_
  refine ct_VR (As := []) (rest := [.ref ro]) (C := R_Row) (ci := 1) (q := (R_Row, F_Row, 3)) ⟨hx, hb, hml, hown, hts⟩ fm_Row_count (c_Row_count l dC dI cI cL cZ ro roEa ron roE roC roO roC rfl) k293_methodLink k67_instanceMethod k68_selects ⟨Nat.le_of_ble_eq_true rfl, Nat.le_of_ble_eq_true rfl⟩ rfl rfl hK hN hP hD [0, 1] rfl rfl (by decide) 0 rfl rfl rfl rfl hl.1 rfl (Nat.le_of_ble_eq_true rfl) d_Visits_pop_2 ?_
  refine lv_iconst (v := 1) hx hb d_Visits_pop_5 (by decide) ?_
  refine lv_isub hx hb d_Visits_pop_6 ?_
  obtain ⟨r7, c7, hd⟩ := hd
  refine ct_VR (As := [.int (roC - 1)]) (rest := []) (C := R_Row) (ci := 1) (q := (R_Row, F_Row, 3)) ⟨hx, hb, hml, hown, hts⟩ fm_Row_element (c_Row_element l dC dI cI cL cZ ro roEa ron roE roC roO (roC - 1) r7 c7) k294_methodLink k4_instanceMethod k5_selects ⟨Nat.le_of_ble_eq_true rfl, Nat.le_of_ble_eq_true rfl⟩ rfl rfl hK hN hP hD [0, 1] rfl rfl (by decide) 0 rfl rfl rfl rfl hl.1 rfl (Nat.le_of_ble_eq_true rfl) d_Visits_pop_7 ?_
  refine lv_istore_n (lv' := [(1, .int r7), (0, .ref ro)]) hx hb d_Visits_pop_10 rfl hl (by decide) rfl (fun ls hl => ?_)
  refine lv_aload_n hx hb d_Visits_pop_11 rfl (lv_at hl 1 rfl) ?_
  refine lv_aload_n hx hb d_Visits_pop_12 rfl (lv_at hl 1 rfl) ?_
  refine ct_VR (As := []) (rest := [.ref ro]) (C := R_Row) (ci := 1) (q := (R_Row, F_Row, 3)) ⟨hx, hb, hml, hown, hts⟩ fm_Row_count (c_Row_count l dC dI cI cL cZ ro roEa ron roE roC roO roC rfl) k293_methodLink k67_instanceMethod k68_selects ⟨Nat.le_of_ble_eq_true rfl, Nat.le_of_ble_eq_true rfl⟩ rfl rfl hK hN hP hD [0, 1] rfl rfl (by decide) 0 rfl rfl rfl rfl hl.1 rfl (Nat.le_of_ble_eq_true rfl) d_Visits_pop_13 ?_
  refine lv_iconst (v := 1) hx hb d_Visits_pop_16 (by decide) ?_
  refine lv_isub hx hb d_Visits_pop_17 ?_
  obtain ⟨roC_18, roO_18, c18, hd⟩ := hd
  refine ct_V (As := [.int (roC - 1)]) (rest := []) (C := R_Row) (ci := 1) (q := (R_Row, F_Row, 3)) ⟨hx, hb, hml, hown, hts⟩ fm_Row_shorten (c_Row_shorten l dC dI cI cL cZ ro roEa ron roE roC roO (roC - 1) roC_18 roO_18 c18) k289_methodLink k17_instanceMethod k18_selects ⟨Nat.le_of_ble_eq_true rfl, Nat.le_of_ble_eq_true rfl⟩ rfl rfl hK hN hP hD hS hA [0, 1] [] rfl rfl rfl (by decide) (by decide) (by decide) 0 rfl rfl rfl rfl hl.1 rfl (Nat.le_of_ble_eq_true rfl) d_Visits_pop_18 (fun H locs hP hD hS => ?_)
  have hP : va_P (dC, dI) classes ((sh_Row cI cL cZ ro roEa ron roE roC_18 roO_18)) H := hP.sub [0, 1] rfl
  have hD : va_D A ((sh_Row cI cL cZ ro roEa ron roE roC_18 roO_18)) := hD.sub [0, 1] (by decide) rfl
  refine lv_iload_n hx hb d_Visits_pop_21 rfl (lv_at hl 0 rfl) ?_
  obtain ⟨e0, e1, e2⟩ := hd
  subst e0
  subst e1
  subst e2
  exact ct_iret hx hb hr hlocks hK hP hD hS d_Visits_pop_22
-- Visits.push
abbrev b_Visits_pushB : ByteArray := prog_11_method_9_code
def y_Visits_pushB : MethodName := ⟨"HelpFile$Visits", "push", "(LHelpFile$Row;)V"⟩
theorem k295_methodLink : Cond.methodLink "HelpFile$Visits" 42 ⟨"HelpFile$Row", "dropFirst", "()V"⟩ ∈ ga := ga_t 836 (by decide +kernel) rfl
theorem k296_instanceMethod : Cond.instanceMethod ⟨"HelpFile$Row", "dropFirst", "()V"⟩ ∈ ga := ga_t 837 (by decide +kernel) rfl
theorem k297_selects : Cond.selects "HelpFile$Row" ⟨"HelpFile$Row", "dropFirst", "()V"⟩ ⟨"HelpFile$Row", "dropFirst", "()V"⟩ ∈ ga := ga_t 838 (by decide +kernel) rfl
theorem k298_methodLink : Cond.methodLink "HelpFile$Visits" 45 ⟨"HelpFile$Row", "append", "(I)V"⟩ ∈ ga := ga_t 841 (by decide +kernel) rfl
set_option maxRecDepth 100000 in
theorem fm_Visits_pushB : Fm y_Visits_pushB b_Visits_pushB 2 none 1 := ⟨ga_t 834 rfl rfl, k292_initialized, by decide, by decide, by decide +kernel⟩
def B_Visits_pushB_13 (viBn : Nat) (viT : Int32) (viBE' : Nat → Int32) (viBC' : Int32) (viBO' : Bool) (X : (Nat → Int32) → Int32 → Bool → Prop) (viBE : Nat → Int32) (viBC : Int32) (viBO : Bool) : Prop := (∃ viBE_18 : Nat → Int32, ∃ viBC_18 : Int32, ∃ viBO_18 : Bool, D_Row_append viBn viT viBE viBC viBO viBE_18 viBC_18 viBO_18 ∧ (viBE' = viBE_18 ∧ viBC' = viBC_18 ∧ viBO' = viBO_18))
def S_Visits_pushB (viBn : Nat) (viT : Int32) (viBE' : Nat → Int32) (viBC' : Int32) (viBO' : Bool) (X : (Nat → Int32) → Int32 → Bool → Prop) : (Nat → Int32) → Int32 → Bool → Prop := fun viBE viBC viBO => B_Visits_pushB_13 viBn viT viBE' viBC' viBO' X viBE viBC viBO
def T_Visits_pushB (viBn : Nat) (viT : Int32) (viBE' : Nat → Int32) (viBC' : Int32) (viBO' : Bool) : Nat → ((Nat → Int32) → Int32 → Bool → Prop)
  | 0 => fun _ _ _ => False
  | n + 1 => S_Visits_pushB viBn viT viBE' viBC' viBO' (T_Visits_pushB viBn viT viBE' viBC' viBO' n)
def D_Visits_pushB (viBn : Nat) (viBE : Nat → Int32) (viBC : Int32) (viBO : Bool) (viT : Int32) (viBE' : Nat → Int32) (viBC' : Int32) (viBO' : Bool) : Prop := ∃ n : Nat, ((viBC < 16 → T_Visits_pushB viBn viT viBE' viBC' viBO' n viBE viBC viBO) ∧ (¬ (viBC < 16) → (∃ viBE_10 : Nat → Int32, ∃ viBC_10 : Int32, ∃ viBO_10 : Bool, D_Row_dropFirst viBn viBE viBC viBO viBE_10 viBC_10 viBO_10 ∧ T_Visits_pushB viBn viT viBE' viBC' viBO' n viBE_10 viBC_10 viBO_10)))
theorem d_Visits_pushB_0 : decode b_Visits_pushB 0 = .ok (.aload_n 1, 1) := by decide +kernel
theorem d_Visits_pushB_1 : decode b_Visits_pushB 1 = .ok (.invokevirtual 30, 3) := by decide +kernel
theorem d_Visits_pushB_4 : decode b_Visits_pushB 4 = .ok (.bipush 16, 2) := by decide +kernel
theorem d_Visits_pushB_6 : decode b_Visits_pushB 6 = .ok (.if_icmp .lt 7, 3) := by decide +kernel
theorem d_Visits_pushB_9 : decode b_Visits_pushB 9 = .ok (.aload_n 1, 1) := by decide +kernel
theorem d_Visits_pushB_10 : decode b_Visits_pushB 10 = .ok (.invokevirtual 42, 3) := by decide +kernel
theorem d_Visits_pushB_13 : decode b_Visits_pushB 13 = .ok (.aload_n 1, 1) := by decide +kernel
theorem d_Visits_pushB_14 : decode b_Visits_pushB 14 = .ok (.aload_n 0, 1) := by decide +kernel
theorem d_Visits_pushB_15 : decode b_Visits_pushB 15 = .ok (.getfield 23, 3) := by decide +kernel
theorem d_Visits_pushB_18 : decode b_Visits_pushB 18 = .ok (.invokevirtual 45, 3) := by decide +kernel
theorem d_Visits_pushB_21 : decode b_Visits_pushB 21 = .ok (.return_, 1) := by decide +kernel
set_option maxHeartbeats 4000000 in
set_option maxRecDepth 100000 in
theorem c_Visits_pushB (l : Launch) (dC : Nat → ClassId) (dI : Nat → Nat → Nat) (cI cL cZ : ClassId) (vi : Nat) (viB : Nat) (viBEa : Nat) (viBn : Nat) (viBE : Nat → Int32) (viBC : Int32) (viBO : Bool) (viF : Nat) (viFEa : Nat) (viFn : Nat) (viFE : Nat → Int32) (viFC : Int32) (viFO : Bool) (viT : Int32) (viBE' : Nat → Int32) (viBC' : Int32) (viBO' : Bool) (hd : D_Visits_pushB viBn viBE viBC viBO viT viBE' viBC' viBO') : Ctr l y_Visits_pushB (Cond.code y_Visits_pushB b_Visits_pushB 2 none :: ga) { frames := 2, cells := 0, slots := 0, locals := 42 } (dC, dI) classes (Tys cI cL cZ) [.ref vi, .ref viB] ((sh_Visits cI cL cZ vi viB viBEa viBn viBE viBC viBO viF viFEa viFn viFE viFC viFO viT)) none ((sh_Visits cI cL cZ vi viB viBEa viBn viBE' viBC' viBO' viF viFEa viFn viFE viFC viFO viT)) := by
  refine Ctr.ofW (by decide) (Nat.le_of_ble_eq_true rfl) ?_
  intro p e s m below meth c A ls hx hb hr hml hown hlocks hts hK hN hA hP hD hS hl
  have hown : s.vm.findClass R_Visits = some m.cls := hown
  have hl : lv_has ls 2 [(0, .ref vi), (1, .ref viB)] := hl
  have key : ∀ n : Nat, (∀ (viBE : Nat → Int32) (viBC : Int32) (viBO : Bool) (ls : Array Slot) (H : Heap) (locs : List Loc), lv_has ls 2 [(0, .ref vi), (1, .ref viB)] → va_P (dC, dI) classes ((sh_Visits cI cL cZ vi viB viBEa viBn viBE viBC viBO viF viFEa viFn viFE viFC viFO viT)) H → va_D A ((sh_Visits cI cL cZ vi viB viBEa viBn viBE viBC viBO viF viFEa viFn viFE viFC viFO viT)) → va_S A s.heap H locs → T_Visits_pushB viBn viT viBE' viBC' viBO' n viBE viBC viBO → W p l e ({ frames := 2, cells := 0, slots := 0, locals := 42 }) s m ([.ref vi, .ref viB] : List Value).toArray below meth c H locs 0 0 (MQ below (Qs (dC, dI) classes (Tys cI cL cZ) none ((sh_Visits cI cL cZ vi viB viBEa viBn viBE' viBC' viBO' viF viFEa viFn viFE viFC viFO viT)) A) ([.ref vi, .ref viB] : List Value).toArray s 0 0 A) (F0 m 13 ls [])) := by
    intro n
    induction n with
    | zero =>
      exact fun _ _ _ _ _ _ _ _ _ _ hd => False.elim hd
    | succ n ih =>
      · intro viBE viBC viBO ls H locs hl hP hD hS hd
        have hd : B_Visits_pushB_13 viBn viT viBE' viBC' viBO' (T_Visits_pushB viBn viT viBE' viBC' viBO' n) viBE viBC viBO := hd
        refine lv_aload_n hx hb d_Visits_pushB_13 rfl (lv_at hl 1 rfl) ?_
        refine lv_aload_n hx hb d_Visits_pushB_14 rfl (lv_at hl 0 rfl) ?_
        refine va_get (D := (dC, dI)) (ci := 6) (v := .int viT) (C := R_Visits) (T := F_Visits) (N := 3) hx hb hts in_Visits hown hK hP 0 rfl rfl 2 (by decide) (hts _ (List.mem_cons_of_mem _ k291_fieldLink)) (fun _ h9 => h9) rfl d_Visits_pushB_15 ?_
        obtain ⟨viBE_18, viBC_18, viBO_18, c18, hd⟩ := hd
        refine ct_V (As := [.int viT]) (rest := []) (C := R_Row) (ci := 1) (q := (R_Row, F_Row, 3)) ⟨hx, hb, hml, hown, hts⟩ fm_Row_append (c_Row_append l dC dI cI cL cZ viB viBEa viBn viBE viBC viBO viT viBE_18 viBC_18 viBO_18 c18) k298_methodLink k8_instanceMethod k9_selects ⟨Nat.le_of_ble_eq_true rfl, Nat.le_of_ble_eq_true rfl⟩ rfl rfl hK hN hP hD hS hA [1, 2] [0, 3, 4] rfl rfl rfl (by decide) (by decide) (by decide) 1 rfl rfl rfl rfl hl.1 rfl (Nat.le_of_ble_eq_true rfl) d_Visits_pushB_18 (fun H locs hP hD hS => ?_)
        have hP : va_P (dC, dI) classes ((sh_Visits cI cL cZ vi viB viBEa viBn viBE_18 viBC_18 viBO_18 viF viFEa viFn viFE viFC viFO viT)) H := hP.sub [0, 3, 4, 1, 2] rfl
        have hD : va_D A ((sh_Visits cI cL cZ vi viB viBEa viBn viBE_18 viBC_18 viBO_18 viF viFEa viFn viFE viFC viFO viT)) := hD.sub [0, 3, 4, 1, 2] (by decide) rfl
        obtain ⟨e0, e1, e2⟩ := hd
        subst e0
        subst e1
        subst e2
        exact ct_vret hx hb hr hlocks hK hP hD hS d_Visits_pushB_21
  obtain ⟨n, hd⟩ := hd
  refine lv_aload_n hx hb d_Visits_pushB_0 rfl (lv_at hl 1 rfl) ?_
  refine ct_VR (As := []) (rest := []) (C := R_Row) (ci := 1) (q := (R_Row, F_Row, 3)) ⟨hx, hb, hml, hown, hts⟩ fm_Row_count (c_Row_count l dC dI cI cL cZ viB viBEa viBn viBE viBC viBO viBC rfl) k293_methodLink k67_instanceMethod k68_selects ⟨Nat.le_of_ble_eq_true rfl, Nat.le_of_ble_eq_true rfl⟩ rfl rfl hK hN hP hD [1, 2] rfl rfl (by decide) 1 rfl rfl rfl rfl hl.1 rfl (Nat.le_of_ble_eq_true rfl) d_Visits_pushB_1 ?_
  refine lv_bipush (v := 16) hx hb d_Visits_pushB_4 (by decide) ?_
  refine lv_icmp_lt (tgt := 13) hx hb d_Visits_pushB_6 (by decide) (fun h6 => ?_) (fun h6 => ?_)
  · have hd := hd.1 h6
    exact (key n) viBE viBC viBO _ _ _ (lv_sub hl [0, 1] rfl) hP hD hS hd
  · have hd := hd.2 h6
    refine lv_aload_n hx hb d_Visits_pushB_9 rfl (lv_at hl 1 rfl) ?_
    obtain ⟨viBE_10, viBC_10, viBO_10, c10, hd⟩ := hd
    refine ct_V (As := []) (rest := []) (C := R_Row) (ci := 1) (q := (R_Row, F_Row, 3)) ⟨hx, hb, hml, hown, hts⟩ fm_Row_dropFirst (c_Row_dropFirst l dC dI cI cL cZ viB viBEa viBn viBE viBC viBO viBE_10 viBC_10 viBO_10 c10) k295_methodLink k296_instanceMethod k297_selects ⟨Nat.le_of_ble_eq_true rfl, Nat.le_of_ble_eq_true rfl⟩ rfl rfl hK hN hP hD hS hA [1, 2] [0, 3, 4] rfl rfl rfl (by decide) (by decide) (by decide) 1 rfl rfl rfl rfl hl.1 rfl (Nat.le_of_ble_eq_true rfl) d_Visits_pushB_10 (fun H locs hP hD hS => ?_)
    have hP : va_P (dC, dI) classes ((sh_Visits cI cL cZ vi viB viBEa viBn viBE_10 viBC_10 viBO_10 viF viFEa viFn viFE viFC viFO viT)) H := hP.sub [0, 3, 4, 1, 2] rfl
    have hD : va_D A ((sh_Visits cI cL cZ vi viB viBEa viBn viBE_10 viBC_10 viBO_10 viF viFEa viFn viFE viFC viFO viT)) := hD.sub [0, 3, 4, 1, 2] (by decide) rfl
    exact (key n) viBE_10 viBC_10 viBO_10 _ _ _ (lv_sub hl [0, 1] rfl) hP hD hS hd
-- Visits.push
abbrev b_Visits_pushF : ByteArray := prog_11_method_9_code
def y_Visits_pushF : MethodName := ⟨"HelpFile$Visits", "push", "(LHelpFile$Row;)V"⟩
set_option maxRecDepth 100000 in
theorem fm_Visits_pushF : Fm y_Visits_pushF b_Visits_pushF 2 none 1 := ⟨ga_t 834 rfl rfl, k292_initialized, by decide, by decide, by decide +kernel⟩
def B_Visits_pushF_13 (viFn : Nat) (viT : Int32) (viFE' : Nat → Int32) (viFC' : Int32) (viFO' : Bool) (X : (Nat → Int32) → Int32 → Bool → Prop) (viFE : Nat → Int32) (viFC : Int32) (viFO : Bool) : Prop := (∃ viFE_18 : Nat → Int32, ∃ viFC_18 : Int32, ∃ viFO_18 : Bool, D_Row_append viFn viT viFE viFC viFO viFE_18 viFC_18 viFO_18 ∧ (viFE' = viFE_18 ∧ viFC' = viFC_18 ∧ viFO' = viFO_18))
def S_Visits_pushF (viFn : Nat) (viT : Int32) (viFE' : Nat → Int32) (viFC' : Int32) (viFO' : Bool) (X : (Nat → Int32) → Int32 → Bool → Prop) : (Nat → Int32) → Int32 → Bool → Prop := fun viFE viFC viFO => B_Visits_pushF_13 viFn viT viFE' viFC' viFO' X viFE viFC viFO
def T_Visits_pushF (viFn : Nat) (viT : Int32) (viFE' : Nat → Int32) (viFC' : Int32) (viFO' : Bool) : Nat → ((Nat → Int32) → Int32 → Bool → Prop)
  | 0 => fun _ _ _ => False
  | n + 1 => S_Visits_pushF viFn viT viFE' viFC' viFO' (T_Visits_pushF viFn viT viFE' viFC' viFO' n)
def D_Visits_pushF (viFn : Nat) (viFE : Nat → Int32) (viFC : Int32) (viFO : Bool) (viT : Int32) (viFE' : Nat → Int32) (viFC' : Int32) (viFO' : Bool) : Prop := ∃ n : Nat, ((viFC < 16 → T_Visits_pushF viFn viT viFE' viFC' viFO' n viFE viFC viFO) ∧ (¬ (viFC < 16) → (∃ viFE_10 : Nat → Int32, ∃ viFC_10 : Int32, ∃ viFO_10 : Bool, D_Row_dropFirst viFn viFE viFC viFO viFE_10 viFC_10 viFO_10 ∧ T_Visits_pushF viFn viT viFE' viFC' viFO' n viFE_10 viFC_10 viFO_10)))
theorem d_Visits_pushF_0 : decode b_Visits_pushF 0 = .ok (.aload_n 1, 1) := by decide +kernel
theorem d_Visits_pushF_1 : decode b_Visits_pushF 1 = .ok (.invokevirtual 30, 3) := by decide +kernel
theorem d_Visits_pushF_4 : decode b_Visits_pushF 4 = .ok (.bipush 16, 2) := by decide +kernel
theorem d_Visits_pushF_6 : decode b_Visits_pushF 6 = .ok (.if_icmp .lt 7, 3) := by decide +kernel
theorem d_Visits_pushF_9 : decode b_Visits_pushF 9 = .ok (.aload_n 1, 1) := by decide +kernel
theorem d_Visits_pushF_10 : decode b_Visits_pushF 10 = .ok (.invokevirtual 42, 3) := by decide +kernel
theorem d_Visits_pushF_13 : decode b_Visits_pushF 13 = .ok (.aload_n 1, 1) := by decide +kernel
theorem d_Visits_pushF_14 : decode b_Visits_pushF 14 = .ok (.aload_n 0, 1) := by decide +kernel
theorem d_Visits_pushF_15 : decode b_Visits_pushF 15 = .ok (.getfield 23, 3) := by decide +kernel
theorem d_Visits_pushF_18 : decode b_Visits_pushF 18 = .ok (.invokevirtual 45, 3) := by decide +kernel
theorem d_Visits_pushF_21 : decode b_Visits_pushF 21 = .ok (.return_, 1) := by decide +kernel
set_option maxHeartbeats 4000000 in
set_option maxRecDepth 100000 in
theorem c_Visits_pushF (l : Launch) (dC : Nat → ClassId) (dI : Nat → Nat → Nat) (cI cL cZ : ClassId) (vi : Nat) (viB : Nat) (viBEa : Nat) (viBn : Nat) (viBE : Nat → Int32) (viBC : Int32) (viBO : Bool) (viF : Nat) (viFEa : Nat) (viFn : Nat) (viFE : Nat → Int32) (viFC : Int32) (viFO : Bool) (viT : Int32) (viFE' : Nat → Int32) (viFC' : Int32) (viFO' : Bool) (hd : D_Visits_pushF viFn viFE viFC viFO viT viFE' viFC' viFO') : Ctr l y_Visits_pushF (Cond.code y_Visits_pushF b_Visits_pushF 2 none :: ga) { frames := 2, cells := 0, slots := 0, locals := 42 } (dC, dI) classes (Tys cI cL cZ) [.ref vi, .ref viF] ((sh_Visits cI cL cZ vi viB viBEa viBn viBE viBC viBO viF viFEa viFn viFE viFC viFO viT)) none ((sh_Visits cI cL cZ vi viB viBEa viBn viBE viBC viBO viF viFEa viFn viFE' viFC' viFO' viT)) := by
  refine Ctr.ofW (by decide) (Nat.le_of_ble_eq_true rfl) ?_
  intro p e s m below meth c A ls hx hb hr hml hown hlocks hts hK hN hA hP hD hS hl
  have hown : s.vm.findClass R_Visits = some m.cls := hown
  have hl : lv_has ls 2 [(0, .ref vi), (1, .ref viF)] := hl
  have key : ∀ n : Nat, (∀ (viFE : Nat → Int32) (viFC : Int32) (viFO : Bool) (ls : Array Slot) (H : Heap) (locs : List Loc), lv_has ls 2 [(0, .ref vi), (1, .ref viF)] → va_P (dC, dI) classes ((sh_Visits cI cL cZ vi viB viBEa viBn viBE viBC viBO viF viFEa viFn viFE viFC viFO viT)) H → va_D A ((sh_Visits cI cL cZ vi viB viBEa viBn viBE viBC viBO viF viFEa viFn viFE viFC viFO viT)) → va_S A s.heap H locs → T_Visits_pushF viFn viT viFE' viFC' viFO' n viFE viFC viFO → W p l e ({ frames := 2, cells := 0, slots := 0, locals := 42 }) s m ([.ref vi, .ref viF] : List Value).toArray below meth c H locs 0 0 (MQ below (Qs (dC, dI) classes (Tys cI cL cZ) none ((sh_Visits cI cL cZ vi viB viBEa viBn viBE viBC viBO viF viFEa viFn viFE' viFC' viFO' viT)) A) ([.ref vi, .ref viF] : List Value).toArray s 0 0 A) (F0 m 13 ls [])) := by
    intro n
    induction n with
    | zero =>
      exact fun _ _ _ _ _ _ _ _ _ _ hd => False.elim hd
    | succ n ih =>
      · intro viFE viFC viFO ls H locs hl hP hD hS hd
        have hd : B_Visits_pushF_13 viFn viT viFE' viFC' viFO' (T_Visits_pushF viFn viT viFE' viFC' viFO' n) viFE viFC viFO := hd
        refine lv_aload_n hx hb d_Visits_pushF_13 rfl (lv_at hl 1 rfl) ?_
        refine lv_aload_n hx hb d_Visits_pushF_14 rfl (lv_at hl 0 rfl) ?_
        refine va_get (D := (dC, dI)) (ci := 6) (v := .int viT) (C := R_Visits) (T := F_Visits) (N := 3) hx hb hts in_Visits hown hK hP 0 rfl rfl 2 (by decide) (hts _ (List.mem_cons_of_mem _ k291_fieldLink)) (fun _ h9 => h9) rfl d_Visits_pushF_15 ?_
        obtain ⟨viFE_18, viFC_18, viFO_18, c18, hd⟩ := hd
        refine ct_V (As := [.int viT]) (rest := []) (C := R_Row) (ci := 1) (q := (R_Row, F_Row, 3)) ⟨hx, hb, hml, hown, hts⟩ fm_Row_append (c_Row_append l dC dI cI cL cZ viF viFEa viFn viFE viFC viFO viT viFE_18 viFC_18 viFO_18 c18) k298_methodLink k8_instanceMethod k9_selects ⟨Nat.le_of_ble_eq_true rfl, Nat.le_of_ble_eq_true rfl⟩ rfl rfl hK hN hP hD hS hA [3, 4] [0, 1, 2] rfl rfl rfl (by decide) (by decide) (by decide) 3 rfl rfl rfl rfl hl.1 rfl (Nat.le_of_ble_eq_true rfl) d_Visits_pushF_18 (fun H locs hP hD hS => ?_)
        have hP : va_P (dC, dI) classes ((sh_Visits cI cL cZ vi viB viBEa viBn viBE viBC viBO viF viFEa viFn viFE_18 viFC_18 viFO_18 viT)) H := hP.sub [0, 1, 2, 3, 4] rfl
        have hD : va_D A ((sh_Visits cI cL cZ vi viB viBEa viBn viBE viBC viBO viF viFEa viFn viFE_18 viFC_18 viFO_18 viT)) := hD.sub [0, 1, 2, 3, 4] (by decide) rfl
        obtain ⟨e0, e1, e2⟩ := hd
        subst e0
        subst e1
        subst e2
        exact ct_vret hx hb hr hlocks hK hP hD hS d_Visits_pushF_21
  obtain ⟨n, hd⟩ := hd
  refine lv_aload_n hx hb d_Visits_pushF_0 rfl (lv_at hl 1 rfl) ?_
  refine ct_VR (As := []) (rest := []) (C := R_Row) (ci := 1) (q := (R_Row, F_Row, 3)) ⟨hx, hb, hml, hown, hts⟩ fm_Row_count (c_Row_count l dC dI cI cL cZ viF viFEa viFn viFE viFC viFO viFC rfl) k293_methodLink k67_instanceMethod k68_selects ⟨Nat.le_of_ble_eq_true rfl, Nat.le_of_ble_eq_true rfl⟩ rfl rfl hK hN hP hD [3, 4] rfl rfl (by decide) 3 rfl rfl rfl rfl hl.1 rfl (Nat.le_of_ble_eq_true rfl) d_Visits_pushF_1 ?_
  refine lv_bipush (v := 16) hx hb d_Visits_pushF_4 (by decide) ?_
  refine lv_icmp_lt (tgt := 13) hx hb d_Visits_pushF_6 (by decide) (fun h6 => ?_) (fun h6 => ?_)
  · have hd := hd.1 h6
    exact (key n) viFE viFC viFO _ _ _ (lv_sub hl [0, 1] rfl) hP hD hS hd
  · have hd := hd.2 h6
    refine lv_aload_n hx hb d_Visits_pushF_9 rfl (lv_at hl 1 rfl) ?_
    obtain ⟨viFE_10, viFC_10, viFO_10, c10, hd⟩ := hd
    refine ct_V (As := []) (rest := []) (C := R_Row) (ci := 1) (q := (R_Row, F_Row, 3)) ⟨hx, hb, hml, hown, hts⟩ fm_Row_dropFirst (c_Row_dropFirst l dC dI cI cL cZ viF viFEa viFn viFE viFC viFO viFE_10 viFC_10 viFO_10 c10) k295_methodLink k296_instanceMethod k297_selects ⟨Nat.le_of_ble_eq_true rfl, Nat.le_of_ble_eq_true rfl⟩ rfl rfl hK hN hP hD hS hA [3, 4] [0, 1, 2] rfl rfl rfl (by decide) (by decide) (by decide) 3 rfl rfl rfl rfl hl.1 rfl (Nat.le_of_ble_eq_true rfl) d_Visits_pushF_10 (fun H locs hP hD hS => ?_)
    have hP : va_P (dC, dI) classes ((sh_Visits cI cL cZ vi viB viBEa viBn viBE viBC viBO viF viFEa viFn viFE_10 viFC_10 viFO_10 viT)) H := hP.sub [0, 1, 2, 3, 4] rfl
    have hD : va_D A ((sh_Visits cI cL cZ vi viB viBEa viBn viBE viBC viBO viF viFEa viFn viFE_10 viFC_10 viFO_10 viT)) := hD.sub [0, 1, 2, 3, 4] (by decide) rfl
    exact (key n) viFE_10 viFC_10 viFO_10 _ _ _ (lv_sub hl [0, 1] rfl) hP hD hS hd
-- Visits.visit
abbrev b_Visits_visit : ByteArray := prog_11_method_6_code
def y_Visits_visit : MethodName := ⟨"HelpFile$Visits", "visit", "(I)V"⟩
theorem k299_methodLink : Cond.methodLink "HelpFile$Visits" 34 ⟨"HelpFile$Visits", "push", "(LHelpFile$Row;)V"⟩ ∈ ga := ga_t 831 (by decide +kernel) rfl
theorem k300_instanceMethod : Cond.instanceMethod ⟨"HelpFile$Visits", "push", "(LHelpFile$Row;)V"⟩ ∈ ga := ga_t 833 (by decide +kernel) rfl
theorem k301_selects : Cond.selects "HelpFile$Visits" ⟨"HelpFile$Visits", "push", "(LHelpFile$Row;)V"⟩ ⟨"HelpFile$Visits", "push", "(LHelpFile$Row;)V"⟩ ∈ ga := ga_s (q := (⟨"HelpFile$Visits", "push", "(LHelpFile$Row;)V"⟩, _)) 23 rfl
set_option maxRecDepth 100000 in
theorem fm_Visits_visit : Fm y_Visits_visit b_Visits_visit 2 none 1 := ⟨ga_t 830 rfl rfl, k292_initialized, by decide, by decide, by decide +kernel⟩
def D_Visits_visit (viBn : Nat) (k0 : Int32) (viBE : Nat → Int32) (viBC : Int32) (viBO : Bool) (viFC : Int32) (viFO : Bool) (viT : Int32) (viBE' : Nat → Int32) (viBC' : Int32) (viBO' : Bool) (viFC' : Int32) (viFO' : Bool) (viT' : Int32) : Prop := (∃ viBE_5 : Nat → Int32, ∃ viBC_5 : Int32, ∃ viBO_5 : Bool, D_Visits_pushB viBn viBE viBC viBO viT viBE_5 viBC_5 viBO_5 ∧ (∃ viFC_13 : Int32, ∃ viFO_13 : Bool, D_Row_shorten 0 viFC viFO viFC_13 viFO_13 ∧ (viBE' = viBE_5 ∧ viBC' = viBC_5 ∧ viBO' = viBO_5 ∧ viFC' = viFC_13 ∧ viFO' = viFO_13 ∧ viT' = k0)))
theorem d_Visits_visit_0 : decode b_Visits_visit 0 = .ok (.aload_n 0, 1) := by decide +kernel
theorem d_Visits_visit_1 : decode b_Visits_visit 1 = .ok (.aload_n 0, 1) := by decide +kernel
theorem d_Visits_visit_2 : decode b_Visits_visit 2 = .ok (.getfield 14, 3) := by decide +kernel
theorem d_Visits_visit_5 : decode b_Visits_visit 5 = .ok (.invokevirtual 34, 3) := by decide +kernel
theorem d_Visits_visit_8 : decode b_Visits_visit 8 = .ok (.aload_n 0, 1) := by decide +kernel
theorem d_Visits_visit_9 : decode b_Visits_visit 9 = .ok (.getfield 20, 3) := by decide +kernel
theorem d_Visits_visit_12 : decode b_Visits_visit 12 = .ok (.iconst 0, 1) := by decide +kernel
theorem d_Visits_visit_13 : decode b_Visits_visit 13 = .ok (.invokevirtual 27, 3) := by decide +kernel
theorem d_Visits_visit_16 : decode b_Visits_visit 16 = .ok (.aload_n 0, 1) := by decide +kernel
theorem d_Visits_visit_17 : decode b_Visits_visit 17 = .ok (.iload_n 1, 1) := by decide +kernel
theorem d_Visits_visit_18 : decode b_Visits_visit 18 = .ok (.putfield 23, 3) := by decide +kernel
theorem d_Visits_visit_21 : decode b_Visits_visit 21 = .ok (.return_, 1) := by decide +kernel
set_option maxHeartbeats 4000000 in
set_option maxRecDepth 100000 in
theorem c_Visits_visit (l : Launch) (dC : Nat → ClassId) (dI : Nat → Nat → Nat) (cI cL cZ : ClassId) (vi : Nat) (viB : Nat) (viBEa : Nat) (viBn : Nat) (viBE : Nat → Int32) (viBC : Int32) (viBO : Bool) (viF : Nat) (viFEa : Nat) (viFn : Nat) (viFE : Nat → Int32) (viFC : Int32) (viFO : Bool) (viT : Int32) (k0 : Int32) (viBE' : Nat → Int32) (viBC' : Int32) (viBO' : Bool) (viFC' : Int32) (viFO' : Bool) (viT' : Int32) (hd : D_Visits_visit viBn k0 viBE viBC viBO viFC viFO viT viBE' viBC' viBO' viFC' viFO' viT') : Ctr l y_Visits_visit (Cond.code y_Visits_visit b_Visits_visit 2 none :: ga) { frames := 3, cells := 0, slots := 0, locals := 63 } (dC, dI) classes (Tys cI cL cZ) [.ref vi, .int k0] ((sh_Visits cI cL cZ vi viB viBEa viBn viBE viBC viBO viF viFEa viFn viFE viFC viFO viT)) none ((sh_Visits cI cL cZ vi viB viBEa viBn viBE' viBC' viBO' viF viFEa viFn viFE viFC' viFO' viT')) := by
  refine Ctr.ofW (by decide) (Nat.le_of_ble_eq_true rfl) ?_
  intro p e s m below meth c A ls hx hb hr hml hown hlocks hts hK hN hA hP hD hS hl
  have hown : s.vm.findClass R_Visits = some m.cls := hown
  have hl : lv_has ls 2 [(0, .ref vi), (1, .int k0)] := hl
  refine lv_aload_n hx hb d_Visits_visit_0 rfl (lv_at hl 0 rfl) ?_
  refine lv_aload_n hx hb d_Visits_visit_1 rfl (lv_at hl 0 rfl) ?_
  refine va_get (D := (dC, dI)) (ci := 6) (v := .ref viB) (C := R_Visits) (T := F_Visits) (N := 3) hx hb hts in_Visits hown hK hP 0 rfl rfl 0 (by decide) (hts _ (List.mem_cons_of_mem _ k288_fieldLink)) (fun _ h9 => h9) rfl d_Visits_visit_2 ?_
  obtain ⟨viBE_5, viBC_5, viBO_5, c5, hd⟩ := hd
  refine ct_V (As := [.ref viB]) (rest := []) (C := R_Visits) (ci := 6) (q := (R_Visits, F_Visits, 3)) ⟨hx, hb, hml, hown, hts⟩ fm_Visits_pushB (c_Visits_pushB l dC dI cI cL cZ vi viB viBEa viBn viBE viBC viBO viF viFEa viFn viFE viFC viFO viT viBE_5 viBC_5 viBO_5 c5) k299_methodLink k300_instanceMethod k301_selects ⟨Nat.le_of_ble_eq_true rfl, Nat.le_of_ble_eq_true rfl⟩ rfl rfl hK hN hP hD hS hA [0, 1, 2, 3, 4] [] rfl rfl rfl (by decide) (by decide) (by decide) 0 rfl rfl rfl rfl hl.1 rfl (Nat.le_of_ble_eq_true rfl) d_Visits_visit_5 (fun H locs hP hD hS => ?_)
  have hP : va_P (dC, dI) classes ((sh_Visits cI cL cZ vi viB viBEa viBn viBE_5 viBC_5 viBO_5 viF viFEa viFn viFE viFC viFO viT)) H := hP.sub [0, 1, 2, 3, 4] rfl
  have hD : va_D A ((sh_Visits cI cL cZ vi viB viBEa viBn viBE_5 viBC_5 viBO_5 viF viFEa viFn viFE viFC viFO viT)) := hD.sub [0, 1, 2, 3, 4] (by decide) rfl
  refine lv_aload_n hx hb d_Visits_visit_8 rfl (lv_at hl 0 rfl) ?_
  refine va_get (D := (dC, dI)) (ci := 6) (v := .ref viF) (C := R_Visits) (T := F_Visits) (N := 3) hx hb hts in_Visits hown hK hP 0 rfl rfl 1 (by decide) (hts _ (List.mem_cons_of_mem _ k290_fieldLink)) (fun _ h9 => h9) rfl d_Visits_visit_9 ?_
  refine lv_iconst (v := 0) hx hb d_Visits_visit_12 (by decide) ?_
  obtain ⟨viFC_13, viFO_13, c13, hd⟩ := hd
  refine ct_V (As := [.int 0]) (rest := []) (C := R_Row) (ci := 1) (q := (R_Row, F_Row, 3)) ⟨hx, hb, hml, hown, hts⟩ fm_Row_shorten (c_Row_shorten l dC dI cI cL cZ viF viFEa viFn viFE viFC viFO 0 viFC_13 viFO_13 c13) k289_methodLink k17_instanceMethod k18_selects ⟨Nat.le_of_ble_eq_true rfl, Nat.le_of_ble_eq_true rfl⟩ rfl rfl hK hN hP hD hS hA [3, 4] [0, 1, 2] rfl rfl rfl (by decide) (by decide) (by decide) 3 rfl rfl rfl rfl hl.1 rfl (Nat.le_of_ble_eq_true rfl) d_Visits_visit_13 (fun H locs hP hD hS => ?_)
  have hP : va_P (dC, dI) classes ((sh_Visits cI cL cZ vi viB viBEa viBn viBE_5 viBC_5 viBO_5 viF viFEa viFn viFE viFC_13 viFO_13 viT)) H := hP.sub [0, 1, 2, 3, 4] rfl
  have hD : va_D A ((sh_Visits cI cL cZ vi viB viBEa viBn viBE_5 viBC_5 viBO_5 viF viFEa viFn viFE viFC_13 viFO_13 viT)) := hD.sub [0, 1, 2, 3, 4] (by decide) rfl
  refine lv_aload_n hx hb d_Visits_visit_16 rfl (lv_at hl 0 rfl) ?_
  refine lv_iload_n hx hb d_Visits_visit_17 rfl (lv_at hl 1 rfl) ?_
  refine va_put (D := (dC, dI)) (ci := 6) (v := .int k0) (ty := t_Visits 2) (C := R_Visits) (T := F_Visits) (N := 3) hx hb hts in_Visits t_Visits t_Visits_ok n_Visits hown hK hP hD hS 0 rfl rfl 2 (by decide) (hts _ (List.mem_cons_of_mem _ k291_fieldLink)) (fun _ h9 => h9) rfl (t_Visits_ok 2 (by decide)) rfl rfl (Nat.le_of_ble_eq_true rfl) d_Visits_visit_18 (fun H locs hP hD hS => ?_)
  have hP : va_P (dC, dI) classes ((sh_Visits cI cL cZ vi viB viBEa viBn viBE_5 viBC_5 viBO_5 viF viFEa viFn viFE viFC_13 viFO_13 k0)) H := hP
  have hD : va_D A ((sh_Visits cI cL cZ vi viB viBEa viBn viBE_5 viBC_5 viBO_5 viF viFEa viFn viFE viFC_13 viFO_13 k0)) := hD
  obtain ⟨e0, e1, e2, e3, e4, e5⟩ := hd
  subst e0
  subst e1
  subst e2
  subst e3
  subst e4
  subst e5
  exact ct_vret hx hb hr hlocks hK hP hD hS d_Visits_visit_21
-- Visits.stepBack
abbrev b_Visits_stepBack : ByteArray := prog_11_method_7_code
def y_Visits_stepBack : MethodName := ⟨"HelpFile$Visits", "stepBack", "()V"⟩
theorem k302_methodLink : Cond.methodLink "HelpFile$Visits" 38 ⟨"HelpFile$Visits", "pop", "(LHelpFile$Row;)I"⟩ ∈ ga := ga_t 878 (by decide +kernel) rfl
theorem k303_static : Cond.static ⟨"HelpFile$Visits", "pop", "(LHelpFile$Row;)I"⟩ ∈ ga := ga_t 879 (by decide +kernel) rfl
set_option maxRecDepth 100000 in
theorem fm_Visits_stepBack : Fm y_Visits_stepBack b_Visits_stepBack 1 none 0 := ⟨ga_t 885 rfl rfl, k292_initialized, by decide, by decide, by decide +kernel⟩
def D_Visits_stepBack (viBn : Nat) (viFn : Nat) (viBE : Nat → Int32) (viBC : Int32) (viBO : Bool) (viFE : Nat → Int32) (viFC : Int32) (viFO : Bool) (viT : Int32) (viBC' : Int32) (viBO' : Bool) (viFE' : Nat → Int32) (viFC' : Int32) (viFO' : Bool) (viT' : Int32) : Prop := (∃ viFE_5 : Nat → Int32, ∃ viFC_5 : Int32, ∃ viFO_5 : Bool, D_Visits_pushF viFn viFE viFC viFO viT viFE_5 viFC_5 viFO_5 ∧ (∃ r13 : Int32, ∃ viBC_13 : Int32, ∃ viBO_13 : Bool, D_Visits_pop viBn viBE viBC viBO r13 viBC_13 viBO_13 ∧ (viBC' = viBC_13 ∧ viBO' = viBO_13 ∧ viFE' = viFE_5 ∧ viFC' = viFC_5 ∧ viFO' = viFO_5 ∧ viT' = r13)))
theorem d_Visits_stepBack_0 : decode b_Visits_stepBack 0 = .ok (.aload_n 0, 1) := by decide +kernel
theorem d_Visits_stepBack_1 : decode b_Visits_stepBack 1 = .ok (.aload_n 0, 1) := by decide +kernel
theorem d_Visits_stepBack_2 : decode b_Visits_stepBack 2 = .ok (.getfield 20, 3) := by decide +kernel
theorem d_Visits_stepBack_5 : decode b_Visits_stepBack 5 = .ok (.invokevirtual 34, 3) := by decide +kernel
theorem d_Visits_stepBack_8 : decode b_Visits_stepBack 8 = .ok (.aload_n 0, 1) := by decide +kernel
theorem d_Visits_stepBack_9 : decode b_Visits_stepBack 9 = .ok (.aload_n 0, 1) := by decide +kernel
theorem d_Visits_stepBack_10 : decode b_Visits_stepBack 10 = .ok (.getfield 14, 3) := by decide +kernel
theorem d_Visits_stepBack_13 : decode b_Visits_stepBack 13 = .ok (.invokestatic 38, 3) := by decide +kernel
theorem d_Visits_stepBack_16 : decode b_Visits_stepBack 16 = .ok (.putfield 23, 3) := by decide +kernel
theorem d_Visits_stepBack_19 : decode b_Visits_stepBack 19 = .ok (.return_, 1) := by decide +kernel
set_option maxHeartbeats 4000000 in
set_option maxRecDepth 100000 in
theorem c_Visits_stepBack (l : Launch) (dC : Nat → ClassId) (dI : Nat → Nat → Nat) (cI cL cZ : ClassId) (vi : Nat) (viB : Nat) (viBEa : Nat) (viBn : Nat) (viBE : Nat → Int32) (viBC : Int32) (viBO : Bool) (viF : Nat) (viFEa : Nat) (viFn : Nat) (viFE : Nat → Int32) (viFC : Int32) (viFO : Bool) (viT : Int32) (viBC' : Int32) (viBO' : Bool) (viFE' : Nat → Int32) (viFC' : Int32) (viFO' : Bool) (viT' : Int32) (hd : D_Visits_stepBack viBn viFn viBE viBC viBO viFE viFC viFO viT viBC' viBO' viFE' viFC' viFO' viT') : Ctr l y_Visits_stepBack (Cond.code y_Visits_stepBack b_Visits_stepBack 1 none :: ga) { frames := 3, cells := 0, slots := 0, locals := 63 } (dC, dI) classes (Tys cI cL cZ) [.ref vi] ((sh_Visits cI cL cZ vi viB viBEa viBn viBE viBC viBO viF viFEa viFn viFE viFC viFO viT)) none ((sh_Visits cI cL cZ vi viB viBEa viBn viBE viBC' viBO' viF viFEa viFn viFE' viFC' viFO' viT')) := by
  refine Ctr.ofW (by decide) (Nat.le_of_ble_eq_true rfl) ?_
  intro p e s m below meth c A ls hx hb hr hml hown hlocks hts hK hN hA hP hD hS hl
  have hown : s.vm.findClass R_Visits = some m.cls := hown
  have hl : lv_has ls 1 [(0, .ref vi)] := hl
  refine lv_aload_n hx hb d_Visits_stepBack_0 rfl (lv_at hl 0 rfl) ?_
  refine lv_aload_n hx hb d_Visits_stepBack_1 rfl (lv_at hl 0 rfl) ?_
  refine va_get (D := (dC, dI)) (ci := 6) (v := .ref viF) (C := R_Visits) (T := F_Visits) (N := 3) hx hb hts in_Visits hown hK hP 0 rfl rfl 1 (by decide) (hts _ (List.mem_cons_of_mem _ k290_fieldLink)) (fun _ h9 => h9) rfl d_Visits_stepBack_2 ?_
  obtain ⟨viFE_5, viFC_5, viFO_5, c5, hd⟩ := hd
  refine ct_V (As := [.ref viF]) (rest := []) (C := R_Visits) (ci := 6) (q := (R_Visits, F_Visits, 3)) ⟨hx, hb, hml, hown, hts⟩ fm_Visits_pushF (c_Visits_pushF l dC dI cI cL cZ vi viB viBEa viBn viBE viBC viBO viF viFEa viFn viFE viFC viFO viT viFE_5 viFC_5 viFO_5 c5) k299_methodLink k300_instanceMethod k301_selects ⟨Nat.le_of_ble_eq_true rfl, Nat.le_of_ble_eq_true rfl⟩ rfl rfl hK hN hP hD hS hA [0, 1, 2, 3, 4] [] rfl rfl rfl (by decide) (by decide) (by decide) 0 rfl rfl rfl rfl hl.1 rfl (Nat.le_of_ble_eq_true rfl) d_Visits_stepBack_5 (fun H locs hP hD hS => ?_)
  have hP : va_P (dC, dI) classes ((sh_Visits cI cL cZ vi viB viBEa viBn viBE viBC viBO viF viFEa viFn viFE_5 viFC_5 viFO_5 viT)) H := hP.sub [0, 1, 2, 3, 4] rfl
  have hD : va_D A ((sh_Visits cI cL cZ vi viB viBEa viBn viBE viBC viBO viF viFEa viFn viFE_5 viFC_5 viFO_5 viT)) := hD.sub [0, 1, 2, 3, 4] (by decide) rfl
  refine lv_aload_n hx hb d_Visits_stepBack_8 rfl (lv_at hl 0 rfl) ?_
  refine lv_aload_n hx hb d_Visits_stepBack_9 rfl (lv_at hl 0 rfl) ?_
  refine va_get (D := (dC, dI)) (ci := 6) (v := .ref viB) (C := R_Visits) (T := F_Visits) (N := 3) hx hb hts in_Visits hown hK hP 0 rfl rfl 0 (by decide) (hts _ (List.mem_cons_of_mem _ k288_fieldLink)) (fun _ h9 => h9) rfl d_Visits_stepBack_10 ?_
  obtain ⟨r13, viBC_13, viBO_13, c13, hd⟩ := hd
  refine ct_S (As := [.ref viB]) (rest := [.ref vi]) ⟨hx, hb, hml, hown, hts⟩ fm_Visits_pop (c_Visits_pop l dC dI cI cL cZ viB viBEa viBn viBE viBC viBO r13 viBC_13 viBO_13 c13) k302_methodLink k303_static ⟨Nat.le_of_ble_eq_true rfl, Nat.le_of_ble_eq_true rfl⟩ rfl rfl hK hN hP hD hS hA [1, 2] [0, 3, 4] rfl rfl rfl (by decide) (by decide) (by decide) rfl hl.1 rfl (Nat.le_of_ble_eq_true rfl) d_Visits_stepBack_13 (fun H locs hP hD hS => ?_)
  have hP : va_P (dC, dI) classes ((sh_Visits cI cL cZ vi viB viBEa viBn viBE viBC_13 viBO_13 viF viFEa viFn viFE_5 viFC_5 viFO_5 viT)) H := hP.sub [0, 3, 4, 1, 2] rfl
  have hD : va_D A ((sh_Visits cI cL cZ vi viB viBEa viBn viBE viBC_13 viBO_13 viF viFEa viFn viFE_5 viFC_5 viFO_5 viT)) := hD.sub [0, 3, 4, 1, 2] (by decide) rfl
  refine va_put (D := (dC, dI)) (ci := 6) (v := .int r13) (ty := t_Visits 2) (C := R_Visits) (T := F_Visits) (N := 3) hx hb hts in_Visits t_Visits t_Visits_ok n_Visits hown hK hP hD hS 0 rfl rfl 2 (by decide) (hts _ (List.mem_cons_of_mem _ k291_fieldLink)) (fun _ h9 => h9) rfl (t_Visits_ok 2 (by decide)) rfl rfl (Nat.le_of_ble_eq_true rfl) d_Visits_stepBack_16 (fun H locs hP hD hS => ?_)
  have hP : va_P (dC, dI) classes ((sh_Visits cI cL cZ vi viB viBEa viBn viBE viBC_13 viBO_13 viF viFEa viFn viFE_5 viFC_5 viFO_5 r13)) H := hP
  have hD : va_D A ((sh_Visits cI cL cZ vi viB viBEa viBn viBE viBC_13 viBO_13 viF viFEa viFn viFE_5 viFC_5 viFO_5 r13)) := hD
  obtain ⟨e0, e1, e2, e3, e4, e5⟩ := hd
  subst e0
  subst e1
  subst e2
  subst e3
  subst e4
  subst e5
  exact ct_vret hx hb hr hlocks hK hP hD hS d_Visits_stepBack_19
-- Visits.stepForward
abbrev b_Visits_stepForward : ByteArray := prog_11_method_8_code
def y_Visits_stepForward : MethodName := ⟨"HelpFile$Visits", "stepForward", "()V"⟩
set_option maxRecDepth 100000 in
theorem fm_Visits_stepForward : Fm y_Visits_stepForward b_Visits_stepForward 1 none 0 := ⟨ga_t 877 rfl rfl, k292_initialized, by decide, by decide, by decide +kernel⟩
def D_Visits_stepForward (viBn : Nat) (viFn : Nat) (viBE : Nat → Int32) (viBC : Int32) (viBO : Bool) (viFE : Nat → Int32) (viFC : Int32) (viFO : Bool) (viT : Int32) (viBE' : Nat → Int32) (viBC' : Int32) (viBO' : Bool) (viFC' : Int32) (viFO' : Bool) (viT' : Int32) : Prop := (∃ viBE_5 : Nat → Int32, ∃ viBC_5 : Int32, ∃ viBO_5 : Bool, D_Visits_pushB viBn viBE viBC viBO viT viBE_5 viBC_5 viBO_5 ∧ (∃ r13 : Int32, ∃ viFC_13 : Int32, ∃ viFO_13 : Bool, D_Visits_pop viFn viFE viFC viFO r13 viFC_13 viFO_13 ∧ (viBE' = viBE_5 ∧ viBC' = viBC_5 ∧ viBO' = viBO_5 ∧ viFC' = viFC_13 ∧ viFO' = viFO_13 ∧ viT' = r13)))
theorem d_Visits_stepForward_0 : decode b_Visits_stepForward 0 = .ok (.aload_n 0, 1) := by decide +kernel
theorem d_Visits_stepForward_1 : decode b_Visits_stepForward 1 = .ok (.aload_n 0, 1) := by decide +kernel
theorem d_Visits_stepForward_2 : decode b_Visits_stepForward 2 = .ok (.getfield 14, 3) := by decide +kernel
theorem d_Visits_stepForward_5 : decode b_Visits_stepForward 5 = .ok (.invokevirtual 34, 3) := by decide +kernel
theorem d_Visits_stepForward_8 : decode b_Visits_stepForward 8 = .ok (.aload_n 0, 1) := by decide +kernel
theorem d_Visits_stepForward_9 : decode b_Visits_stepForward 9 = .ok (.aload_n 0, 1) := by decide +kernel
theorem d_Visits_stepForward_10 : decode b_Visits_stepForward 10 = .ok (.getfield 20, 3) := by decide +kernel
theorem d_Visits_stepForward_13 : decode b_Visits_stepForward 13 = .ok (.invokestatic 38, 3) := by decide +kernel
theorem d_Visits_stepForward_16 : decode b_Visits_stepForward 16 = .ok (.putfield 23, 3) := by decide +kernel
theorem d_Visits_stepForward_19 : decode b_Visits_stepForward 19 = .ok (.return_, 1) := by decide +kernel
set_option maxHeartbeats 4000000 in
set_option maxRecDepth 100000 in
theorem c_Visits_stepForward (l : Launch) (dC : Nat → ClassId) (dI : Nat → Nat → Nat) (cI cL cZ : ClassId) (vi : Nat) (viB : Nat) (viBEa : Nat) (viBn : Nat) (viBE : Nat → Int32) (viBC : Int32) (viBO : Bool) (viF : Nat) (viFEa : Nat) (viFn : Nat) (viFE : Nat → Int32) (viFC : Int32) (viFO : Bool) (viT : Int32) (viBE' : Nat → Int32) (viBC' : Int32) (viBO' : Bool) (viFC' : Int32) (viFO' : Bool) (viT' : Int32) (hd : D_Visits_stepForward viBn viFn viBE viBC viBO viFE viFC viFO viT viBE' viBC' viBO' viFC' viFO' viT') : Ctr l y_Visits_stepForward (Cond.code y_Visits_stepForward b_Visits_stepForward 1 none :: ga) { frames := 3, cells := 0, slots := 0, locals := 63 } (dC, dI) classes (Tys cI cL cZ) [.ref vi] ((sh_Visits cI cL cZ vi viB viBEa viBn viBE viBC viBO viF viFEa viFn viFE viFC viFO viT)) none ((sh_Visits cI cL cZ vi viB viBEa viBn viBE' viBC' viBO' viF viFEa viFn viFE viFC' viFO' viT')) := by
  refine Ctr.ofW (by decide) (Nat.le_of_ble_eq_true rfl) ?_
  intro p e s m below meth c A ls hx hb hr hml hown hlocks hts hK hN hA hP hD hS hl
  have hown : s.vm.findClass R_Visits = some m.cls := hown
  have hl : lv_has ls 1 [(0, .ref vi)] := hl
  refine lv_aload_n hx hb d_Visits_stepForward_0 rfl (lv_at hl 0 rfl) ?_
  refine lv_aload_n hx hb d_Visits_stepForward_1 rfl (lv_at hl 0 rfl) ?_
  refine va_get (D := (dC, dI)) (ci := 6) (v := .ref viB) (C := R_Visits) (T := F_Visits) (N := 3) hx hb hts in_Visits hown hK hP 0 rfl rfl 0 (by decide) (hts _ (List.mem_cons_of_mem _ k288_fieldLink)) (fun _ h9 => h9) rfl d_Visits_stepForward_2 ?_
  obtain ⟨viBE_5, viBC_5, viBO_5, c5, hd⟩ := hd
  refine ct_V (As := [.ref viB]) (rest := []) (C := R_Visits) (ci := 6) (q := (R_Visits, F_Visits, 3)) ⟨hx, hb, hml, hown, hts⟩ fm_Visits_pushB (c_Visits_pushB l dC dI cI cL cZ vi viB viBEa viBn viBE viBC viBO viF viFEa viFn viFE viFC viFO viT viBE_5 viBC_5 viBO_5 c5) k299_methodLink k300_instanceMethod k301_selects ⟨Nat.le_of_ble_eq_true rfl, Nat.le_of_ble_eq_true rfl⟩ rfl rfl hK hN hP hD hS hA [0, 1, 2, 3, 4] [] rfl rfl rfl (by decide) (by decide) (by decide) 0 rfl rfl rfl rfl hl.1 rfl (Nat.le_of_ble_eq_true rfl) d_Visits_stepForward_5 (fun H locs hP hD hS => ?_)
  have hP : va_P (dC, dI) classes ((sh_Visits cI cL cZ vi viB viBEa viBn viBE_5 viBC_5 viBO_5 viF viFEa viFn viFE viFC viFO viT)) H := hP.sub [0, 1, 2, 3, 4] rfl
  have hD : va_D A ((sh_Visits cI cL cZ vi viB viBEa viBn viBE_5 viBC_5 viBO_5 viF viFEa viFn viFE viFC viFO viT)) := hD.sub [0, 1, 2, 3, 4] (by decide) rfl
  refine lv_aload_n hx hb d_Visits_stepForward_8 rfl (lv_at hl 0 rfl) ?_
  refine lv_aload_n hx hb d_Visits_stepForward_9 rfl (lv_at hl 0 rfl) ?_
  refine va_get (D := (dC, dI)) (ci := 6) (v := .ref viF) (C := R_Visits) (T := F_Visits) (N := 3) hx hb hts in_Visits hown hK hP 0 rfl rfl 1 (by decide) (hts _ (List.mem_cons_of_mem _ k290_fieldLink)) (fun _ h9 => h9) rfl d_Visits_stepForward_10 ?_
  obtain ⟨r13, viFC_13, viFO_13, c13, hd⟩ := hd
  refine ct_S (As := [.ref viF]) (rest := [.ref vi]) ⟨hx, hb, hml, hown, hts⟩ fm_Visits_pop (c_Visits_pop l dC dI cI cL cZ viF viFEa viFn viFE viFC viFO r13 viFC_13 viFO_13 c13) k302_methodLink k303_static ⟨Nat.le_of_ble_eq_true rfl, Nat.le_of_ble_eq_true rfl⟩ rfl rfl hK hN hP hD hS hA [3, 4] [0, 1, 2] rfl rfl rfl (by decide) (by decide) (by decide) rfl hl.1 rfl (Nat.le_of_ble_eq_true rfl) d_Visits_stepForward_13 (fun H locs hP hD hS => ?_)
  have hP : va_P (dC, dI) classes ((sh_Visits cI cL cZ vi viB viBEa viBn viBE_5 viBC_5 viBO_5 viF viFEa viFn viFE viFC_13 viFO_13 viT)) H := hP.sub [0, 1, 2, 3, 4] rfl
  have hD : va_D A ((sh_Visits cI cL cZ vi viB viBEa viBn viBE_5 viBC_5 viBO_5 viF viFEa viFn viFE viFC_13 viFO_13 viT)) := hD.sub [0, 1, 2, 3, 4] (by decide) rfl
  refine va_put (D := (dC, dI)) (ci := 6) (v := .int r13) (ty := t_Visits 2) (C := R_Visits) (T := F_Visits) (N := 3) hx hb hts in_Visits t_Visits t_Visits_ok n_Visits hown hK hP hD hS 0 rfl rfl 2 (by decide) (hts _ (List.mem_cons_of_mem _ k291_fieldLink)) (fun _ h9 => h9) rfl (t_Visits_ok 2 (by decide)) rfl rfl (Nat.le_of_ble_eq_true rfl) d_Visits_stepForward_16 (fun H locs hP hD hS => ?_)
  have hP : va_P (dC, dI) classes ((sh_Visits cI cL cZ vi viB viBEa viBn viBE_5 viBC_5 viBO_5 viF viFEa viFn viFE viFC_13 viFO_13 r13)) H := hP
  have hD : va_D A ((sh_Visits cI cL cZ vi viB viBEa viBn viBE_5 viBC_5 viBO_5 viF viFEa viFn viFE viFC_13 viFO_13 r13)) := hD
  obtain ⟨e0, e1, e2, e3, e4, e5⟩ := hd
  subst e0
  subst e1
  subst e2
  subst e3
  subst e4
  subst e5
  exact ct_vret hx hb hr hlocks hK hP hD hS d_Visits_stepForward_19
