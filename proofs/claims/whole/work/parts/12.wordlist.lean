/-! 12.wordlist: what each method does, read off its bytecode (D_..), and its contract (c_..); written by a program of mine. -/
-- WordList.clear
abbrev b_WordList_clear : ByteArray := prog_12_method_2_code
def y_WordList_clear : MethodName := ⟨"HelpFile$WordList", "clear", "()V"⟩
theorem k27_fieldLink : Cond.fieldLink "HelpFile$WordList" 17 "HelpFile$WordList" "count" "I" ∈ ga := ga_t 199 (by decide +kernel) rfl
theorem k28_initialized : Cond.initialized "HelpFile$WordList" ∈ ga := ga_t 9 (by decide +kernel) rfl
set_option maxRecDepth 100000 in
theorem fm_WordList_clear : Fm y_WordList_clear b_WordList_clear 1 none 0 := ⟨ga_t 292 rfl rfl, k28_initialized, by decide, by decide, by decide +kernel⟩
def D_WordList_clear (wlC : Int32) (wlC' : Int32) : Prop := (wlC' = 0)
theorem d_WordList_clear_0 : decode b_WordList_clear 0 = .ok (.aload_n 0, 1) := by decide +kernel
theorem d_WordList_clear_1 : decode b_WordList_clear 1 = .ok (.iconst 0, 1) := by decide +kernel
theorem d_WordList_clear_2 : decode b_WordList_clear 2 = .ok (.putfield 17, 3) := by decide +kernel
theorem d_WordList_clear_5 : decode b_WordList_clear 5 = .ok (.return_, 1) := by decide +kernel
set_option maxHeartbeats 4000000 in
set_option maxRecDepth 100000 in
theorem c_WordList_clear (l : Launch) (dC : Nat → ClassId) (dI : Nat → Nat → Nat) (cI cL cZ : ClassId) (wl : Nat) (wlWa : Nat) (wln : Nat) (wlW : Nat → Int64) (wlTa : Nat) (wlT : Nat → Int32) (wlC : Int32) (wlC' : Int32) (hd : D_WordList_clear wlC wlC') : Ctr l y_WordList_clear (Cond.code y_WordList_clear b_WordList_clear 1 none :: ga) { frames := 0, cells := 0, slots := 0, locals := 0 } (dC, dI) classes (Tys cI cL cZ) [.ref wl] ((sh_WordList cI cL cZ wl wlWa wln wlW wlTa wlT wlC)) none ((sh_WordList cI cL cZ wl wlWa wln wlW wlTa wlT wlC')) := by
  refine Ctr.ofW (by decide) (Nat.le_of_ble_eq_true rfl) ?_
  intro p e s m below meth c A ls hx hb hr hml hown hlocks hts hK hN hA hP hD hS hl
  have hown : s.vm.findClass R_WordList = some m.cls := hown
  have hl : lv_has ls 1 [(0, .ref wl)] := hl
  refine lv_aload_n hx hb d_WordList_clear_0 rfl (lv_at hl 0 rfl) ?_
  refine lv_iconst (v := 0) hx hb d_WordList_clear_1 (by decide) ?_
  refine va_put (D := (dC, dI)) (ci := 2) (v := .int 0) (ty := t_WordList 2) (C := R_WordList) (T := F_WordList) (N := 3) hx hb hts in_WordList t_WordList t_WordList_ok n_WordList hown hK hP hD hS 0 rfl rfl 2 (by decide) (hts _ (List.mem_cons_of_mem _ k27_fieldLink)) (fun _ h9 => h9) rfl (t_WordList_ok 2 (by decide)) rfl rfl (Nat.le_of_ble_eq_true rfl) d_WordList_clear_2 (fun H locs hP hD hS => ?_)
  have hP : va_P (dC, dI) classes ((sh_WordList cI cL cZ wl wlWa wln wlW wlTa wlT 0)) H := hP
  have hD : va_D A ((sh_WordList cI cL cZ wl wlWa wln wlW wlTa wlT 0)) := hD
  have e0 : wlC' = 0 := hd
  subst e0
  exact ct_vret hx hb hr hlocks hK hP hD hS d_WordList_clear_5
-- WordList.count
abbrev b_WordList_count : ByteArray := prog_12_method_3_code
def y_WordList_count : MethodName := ⟨"HelpFile$WordList", "count", "()I"⟩
set_option maxRecDepth 100000 in
theorem fm_WordList_count : Fm y_WordList_count b_WordList_count 1 (some .int) 0 := ⟨ga_t 502 rfl rfl, k28_initialized, by decide, by decide, by decide +kernel⟩
def D_WordList_count (wlC : Int32) (res : Int32) : Prop := (res = wlC)
theorem d_WordList_count_0 : decode b_WordList_count 0 = .ok (.aload_n 0, 1) := by decide +kernel
theorem d_WordList_count_1 : decode b_WordList_count 1 = .ok (.getfield 17, 3) := by decide +kernel
theorem d_WordList_count_4 : decode b_WordList_count 4 = .ok (.ireturn, 1) := by decide +kernel
set_option maxHeartbeats 4000000 in
set_option maxRecDepth 100000 in
theorem c_WordList_count (l : Launch) (dC : Nat → ClassId) (dI : Nat → Nat → Nat) (cI cL cZ : ClassId) (wl : Nat) (wlWa : Nat) (wln : Nat) (wlW : Nat → Int64) (wlTa : Nat) (wlT : Nat → Int32) (wlC : Int32) (res : Int32) (hd : D_WordList_count wlC res) : CtrR l y_WordList_count (Cond.code y_WordList_count b_WordList_count 1 (some .int) :: ga) { frames := 0, cells := 0, slots := 0, locals := 0 } (dC, dI) classes (Tys cI cL cZ) [.ref wl] ((sh_WordList cI cL cZ wl wlWa wln wlW wlTa wlT wlC)) (some (.int res)) := by
  refine CtrR.ofW (by decide) (Nat.le_of_ble_eq_true rfl) ?_
  intro p e s m below meth c ls hx hb hr hml hown hlocks hts hK hN hP hD hl
  have hown : s.vm.findClass R_WordList = some m.cls := hown
  have hl : lv_has ls 1 [(0, .ref wl)] := hl
  refine lv_aload_n hx hb d_WordList_count_0 rfl (lv_at hl 0 rfl) ?_
  refine va_get (D := (dC, dI)) (ci := 2) (v := .int wlC) (C := R_WordList) (T := F_WordList) (N := 3) hx hb hts in_WordList hown hK hP 0 rfl rfl 2 (by decide) (hts _ (List.mem_cons_of_mem _ k27_fieldLink)) (fun _ h9 => h9) rfl d_WordList_count_1 ?_
  have e0 : res = wlC := hd
  subst e0
  exact ct_iretR hx hb hr hlocks d_WordList_count_4
-- WordList.word
abbrev b_WordList_word : ByteArray := prog_12_method_4_code
def y_WordList_word : MethodName := ⟨"HelpFile$WordList", "word", "(I)J"⟩
theorem k29_fieldLink : Cond.fieldLink "HelpFile$WordList" 7 "HelpFile$WordList" "words" "[J" ∈ ga := ga_t 197 (by decide +kernel) rfl
set_option maxRecDepth 100000 in
theorem fm_WordList_word : Fm y_WordList_word b_WordList_word 2 (some .long) 1 := ⟨ga_t 521 rfl rfl, k28_initialized, by decide, by decide, by decide +kernel⟩
def D_WordList_word (wln : Nat) (k0 : Int32) (wlW : Nat → Int64) (wlC : Int32) (res : Int64) : Prop := ((k0 < 0 → (res = 0)) ∧ (¬ (k0 < 0) → ((wlC ≤ k0 → (res = 0)) ∧ (¬ (wlC ≤ k0) → (vp_in k0 wln ∧ (res = wlW (Int32.toNatClampNeg k0)))))))
theorem d_WordList_word_0 : decode b_WordList_word 0 = .ok (.iload_n 1, 1) := by decide +kernel
theorem d_WordList_word_1 : decode b_WordList_word 1 = .ok (.ifCond .lt 20, 3) := by decide +kernel
theorem d_WordList_word_4 : decode b_WordList_word 4 = .ok (.iload_n 1, 1) := by decide +kernel
theorem d_WordList_word_5 : decode b_WordList_word 5 = .ok (.aload_n 0, 1) := by decide +kernel
theorem d_WordList_word_6 : decode b_WordList_word 6 = .ok (.getfield 17, 3) := by decide +kernel
theorem d_WordList_word_9 : decode b_WordList_word 9 = .ok (.if_icmp .ge 12, 3) := by decide +kernel
theorem d_WordList_word_12 : decode b_WordList_word 12 = .ok (.aload_n 0, 1) := by decide +kernel
theorem d_WordList_word_13 : decode b_WordList_word 13 = .ok (.getfield 7, 3) := by decide +kernel
theorem d_WordList_word_16 : decode b_WordList_word 16 = .ok (.iload_n 1, 1) := by decide +kernel
theorem d_WordList_word_17 : decode b_WordList_word 17 = .ok (.laload, 1) := by decide +kernel
theorem d_WordList_word_18 : decode b_WordList_word 18 = .ok (.goto 4, 3) := by decide +kernel
theorem d_WordList_word_21 : decode b_WordList_word 21 = .ok (.lconst 0, 1) := by decide +kernel
theorem d_WordList_word_22 : decode b_WordList_word 22 = .ok (.lreturn, 1) := by decide +kernel
set_option maxHeartbeats 4000000 in
set_option maxRecDepth 100000 in
theorem c_WordList_word (l : Launch) (dC : Nat → ClassId) (dI : Nat → Nat → Nat) (cI cL cZ : ClassId) (wl : Nat) (wlWa : Nat) (wln : Nat) (wlW : Nat → Int64) (wlTa : Nat) (wlT : Nat → Int32) (wlC : Int32) (k0 : Int32) (res : Int64) (hd : D_WordList_word wln k0 wlW wlC res) : CtrR l y_WordList_word (Cond.code y_WordList_word b_WordList_word 2 (some .long) :: ga) { frames := 0, cells := 0, slots := 0, locals := 0 } (dC, dI) classes (Tys cI cL cZ) [.ref wl, .int k0] ((sh_WordList cI cL cZ wl wlWa wln wlW wlTa wlT wlC)) (some (.long res)) := by
  refine CtrR.ofW (by decide) (Nat.le_of_ble_eq_true rfl) ?_
  intro p e s m below meth c ls hx hb hr hml hown hlocks hts hK hN hP hD hl
  have hown : s.vm.findClass R_WordList = some m.cls := hown
  have hl : lv_has ls 2 [(0, .ref wl), (1, .int k0)] := hl
  refine lv_iload_n hx hb d_WordList_word_0 rfl (lv_at hl 1 rfl) ?_
  refine lv_if_lt (tgt := 21) hx hb d_WordList_word_1 (by decide) (fun h1 => ?_) (fun h1 => ?_)
  · have hd := hd.1 h1
    refine lv_lconst (v := 0) hx hb d_WordList_word_21 (by decide) ?_
    have e0 : res = 0 := hd
    subst e0
    exact ct_lretR hx hb hr hlocks d_WordList_word_22
  · have hd := hd.2 h1
    refine lv_iload_n hx hb d_WordList_word_4 rfl (lv_at hl 1 rfl) ?_
    refine lv_aload_n hx hb d_WordList_word_5 rfl (lv_at hl 0 rfl) ?_
    refine va_get (D := (dC, dI)) (ci := 2) (v := .int wlC) (C := R_WordList) (T := F_WordList) (N := 3) hx hb hts in_WordList hown hK hP 0 rfl rfl 2 (by decide) (hts _ (List.mem_cons_of_mem _ k27_fieldLink)) (fun _ h9 => h9) rfl d_WordList_word_6 ?_
    refine lv_icmp_ge (tgt := 21) hx hb d_WordList_word_9 (by decide) (fun h9 => ?_) (fun h9 => ?_)
    · have hd := hd.1 h9
      refine lv_lconst (v := 0) hx hb d_WordList_word_21 (by decide) ?_
      have e0 : res = 0 := hd
      subst e0
      exact ct_lretR hx hb hr hlocks d_WordList_word_22
    · have hd := hd.2 h9
      refine lv_aload_n hx hb d_WordList_word_12 rfl (lv_at hl 0 rfl) ?_
      refine va_get (D := (dC, dI)) (ci := 2) (v := .ref wlWa) (C := R_WordList) (T := F_WordList) (N := 3) hx hb hts in_WordList hown hK hP 0 rfl rfl 0 (by decide) (hts _ (List.mem_cons_of_mem _ k29_fieldLink)) (fun _ h9 => h9) rfl d_WordList_word_13 ?_
      refine lv_iload_n hx hb d_WordList_word_16 rfl (lv_at hl 1 rfl) ?_
      obtain ⟨h17, hd⟩ := hd
      refine va_lald hx hb hK hP 1 1 rfl rfl h17 d_WordList_word_17 ?_
      refine lv_goto (tgt := 22) hx hb d_WordList_word_18 (by decide) ?_
      have e0 : res = wlW (Int32.toNatClampNeg k0) := hd
      subst e0
      exact ct_lretR hx hb hr hlocks d_WordList_word_22
-- WordList.topics
abbrev b_WordList_topics : ByteArray := prog_12_method_5_code
def y_WordList_topics : MethodName := ⟨"HelpFile$WordList", "topics", "(I)I"⟩
theorem k30_fieldLink : Cond.fieldLink "HelpFile$WordList" 13 "HelpFile$WordList" "topics" "[I" ∈ ga := ga_t 198 (by decide +kernel) rfl
set_option maxRecDepth 100000 in
theorem fm_WordList_topics : Fm y_WordList_topics b_WordList_topics 2 (some .int) 1 := ⟨ga_t 531 rfl rfl, k28_initialized, by decide, by decide, by decide +kernel⟩
def D_WordList_topics (wln : Nat) (k0 : Int32) (wlT : Nat → Int32) (wlC : Int32) (res : Int32) : Prop := ((k0 < 0 → (res = 0)) ∧ (¬ (k0 < 0) → ((wlC ≤ k0 → (res = 0)) ∧ (¬ (wlC ≤ k0) → (vp_in k0 wln ∧ (res = wlT (Int32.toNatClampNeg k0)))))))
theorem d_WordList_topics_0 : decode b_WordList_topics 0 = .ok (.iload_n 1, 1) := by decide +kernel
theorem d_WordList_topics_1 : decode b_WordList_topics 1 = .ok (.ifCond .lt 20, 3) := by decide +kernel
theorem d_WordList_topics_4 : decode b_WordList_topics 4 = .ok (.iload_n 1, 1) := by decide +kernel
theorem d_WordList_topics_5 : decode b_WordList_topics 5 = .ok (.aload_n 0, 1) := by decide +kernel
theorem d_WordList_topics_6 : decode b_WordList_topics 6 = .ok (.getfield 17, 3) := by decide +kernel
theorem d_WordList_topics_9 : decode b_WordList_topics 9 = .ok (.if_icmp .ge 12, 3) := by decide +kernel
theorem d_WordList_topics_12 : decode b_WordList_topics 12 = .ok (.aload_n 0, 1) := by decide +kernel
theorem d_WordList_topics_13 : decode b_WordList_topics 13 = .ok (.getfield 13, 3) := by decide +kernel
theorem d_WordList_topics_16 : decode b_WordList_topics 16 = .ok (.iload_n 1, 1) := by decide +kernel
theorem d_WordList_topics_17 : decode b_WordList_topics 17 = .ok (.iaload, 1) := by decide +kernel
theorem d_WordList_topics_18 : decode b_WordList_topics 18 = .ok (.goto 4, 3) := by decide +kernel
theorem d_WordList_topics_21 : decode b_WordList_topics 21 = .ok (.iconst 0, 1) := by decide +kernel
theorem d_WordList_topics_22 : decode b_WordList_topics 22 = .ok (.ireturn, 1) := by decide +kernel
set_option maxHeartbeats 4000000 in
set_option maxRecDepth 100000 in
theorem c_WordList_topics (l : Launch) (dC : Nat → ClassId) (dI : Nat → Nat → Nat) (cI cL cZ : ClassId) (wl : Nat) (wlWa : Nat) (wln : Nat) (wlW : Nat → Int64) (wlTa : Nat) (wlT : Nat → Int32) (wlC : Int32) (k0 : Int32) (res : Int32) (hd : D_WordList_topics wln k0 wlT wlC res) : CtrR l y_WordList_topics (Cond.code y_WordList_topics b_WordList_topics 2 (some .int) :: ga) { frames := 0, cells := 0, slots := 0, locals := 0 } (dC, dI) classes (Tys cI cL cZ) [.ref wl, .int k0] ((sh_WordList cI cL cZ wl wlWa wln wlW wlTa wlT wlC)) (some (.int res)) := by
  refine CtrR.ofW (by decide) (Nat.le_of_ble_eq_true rfl) ?_
  intro p e s m below meth c ls hx hb hr hml hown hlocks hts hK hN hP hD hl
  have hown : s.vm.findClass R_WordList = some m.cls := hown
  have hl : lv_has ls 2 [(0, .ref wl), (1, .int k0)] := hl
  refine lv_iload_n hx hb d_WordList_topics_0 rfl (lv_at hl 1 rfl) ?_
  refine lv_if_lt (tgt := 21) hx hb d_WordList_topics_1 (by decide) (fun h1 => ?_) (fun h1 => ?_)
  · have hd := hd.1 h1
    refine lv_iconst (v := 0) hx hb d_WordList_topics_21 (by decide) ?_
    have e0 : res = 0 := hd
    subst e0
    exact ct_iretR hx hb hr hlocks d_WordList_topics_22
  · have hd := hd.2 h1
    refine lv_iload_n hx hb d_WordList_topics_4 rfl (lv_at hl 1 rfl) ?_
    refine lv_aload_n hx hb d_WordList_topics_5 rfl (lv_at hl 0 rfl) ?_
    refine va_get (D := (dC, dI)) (ci := 2) (v := .int wlC) (C := R_WordList) (T := F_WordList) (N := 3) hx hb hts in_WordList hown hK hP 0 rfl rfl 2 (by decide) (hts _ (List.mem_cons_of_mem _ k27_fieldLink)) (fun _ h9 => h9) rfl d_WordList_topics_6 ?_
    refine lv_icmp_ge (tgt := 21) hx hb d_WordList_topics_9 (by decide) (fun h9 => ?_) (fun h9 => ?_)
    · have hd := hd.1 h9
      refine lv_iconst (v := 0) hx hb d_WordList_topics_21 (by decide) ?_
      have e0 : res = 0 := hd
      subst e0
      exact ct_iretR hx hb hr hlocks d_WordList_topics_22
    · have hd := hd.2 h9
      refine lv_aload_n hx hb d_WordList_topics_12 rfl (lv_at hl 0 rfl) ?_
      refine va_get (D := (dC, dI)) (ci := 2) (v := .ref wlTa) (C := R_WordList) (T := F_WordList) (N := 3) hx hb hts in_WordList hown hK hP 0 rfl rfl 1 (by decide) (hts _ (List.mem_cons_of_mem _ k30_fieldLink)) (fun _ h9 => h9) rfl d_WordList_topics_13 ?_
      refine lv_iload_n hx hb d_WordList_topics_16 rfl (lv_at hl 1 rfl) ?_
      obtain ⟨h17, hd⟩ := hd
      refine va_iald hx hb hK hP 2 0 rfl rfl h17 d_WordList_topics_17 ?_
      refine lv_goto (tgt := 22) hx hb d_WordList_topics_18 (by decide) ?_
      have e0 : res = wlT (Int32.toNatClampNeg k0) := hd
      subst e0
      exact ct_iretR hx hb hr hlocks d_WordList_topics_22
-- WordList.insert
abbrev b_WordList_insert : ByteArray := prog_12_method_8_code
def y_WordList_insert : MethodName := ⟨"HelpFile$WordList", "insert", "(IJI)V"⟩
set_option maxRecDepth 100000 in
theorem fm_WordList_insert : Fm y_WordList_insert b_WordList_insert 6 none 3 := ⟨ga_t 381 rfl rfl, k28_initialized, by decide, by decide, by decide +kernel⟩
def B_WordList_insert_6 (wln : Nat) (wlW' : Nat → Int64) (wlT' : Nat → Int32) (wlC' : Int32) (X : Int32 → Int64 → Int32 → Int32 → (Nat → Int64) → (Nat → Int32) → Int32 → Prop) (x1 : Int32) (y2 : Int64) (x4 : Int32) (x5 : Int32) (wlW : Nat → Int64) (wlT : Nat → Int32) (wlC : Int32) : Prop := ((x5 ≤ x1 → (vp_in x1 wln ∧ (vp_in x1 wln ∧ (wlW' = vp_updL wlW (Int32.toNatClampNeg x1) y2 ∧ wlT' = upd wlT (Int32.toNatClampNeg x1) x4 ∧ wlC' = wlC + 1)))) ∧ (¬ (x5 ≤ x1) → (vp_in (x5 - 1) wln ∧ (vp_in x5 wln ∧ (vp_in (x5 - 1) wln ∧ (vp_in x5 wln ∧ X x1 y2 x4 (x5 + (-1)) (vp_updL wlW (Int32.toNatClampNeg x5) (wlW (Int32.toNatClampNeg (x5 - 1)))) (upd wlT (Int32.toNatClampNeg x5) (wlT (Int32.toNatClampNeg (x5 - 1)))) wlC))))))
def S_WordList_insert (wln : Nat) (wlW' : Nat → Int64) (wlT' : Nat → Int32) (wlC' : Int32) (X : Int32 → Int64 → Int32 → Int32 → (Nat → Int64) → (Nat → Int32) → Int32 → Prop) : Int32 → Int64 → Int32 → Int32 → (Nat → Int64) → (Nat → Int32) → Int32 → Prop := fun x1 y2 x4 x5 wlW wlT wlC => B_WordList_insert_6 wln wlW' wlT' wlC' X x1 y2 x4 x5 wlW wlT wlC
def T_WordList_insert (wln : Nat) (wlW' : Nat → Int64) (wlT' : Nat → Int32) (wlC' : Int32) : Nat → (Int32 → Int64 → Int32 → Int32 → (Nat → Int64) → (Nat → Int32) → Int32 → Prop)
  | 0 => fun _ _ _ _ _ _ _ => False
  | n + 1 => S_WordList_insert wln wlW' wlT' wlC' (T_WordList_insert wln wlW' wlT' wlC' n)
def D_WordList_insert (wln : Nat) (k0 : Int32) (w0 : Int64) (k1 : Int32) (wlW : Nat → Int64) (wlT : Nat → Int32) (wlC : Int32) (wlW' : Nat → Int64) (wlT' : Nat → Int32) (wlC' : Int32) : Prop := ∃ n : Nat, T_WordList_insert wln wlW' wlT' wlC' n k0 w0 k1 wlC wlW wlT wlC
theorem d_WordList_insert_0 : decode b_WordList_insert 0 = .ok (.aload_n 0, 1) := by decide +kernel
theorem d_WordList_insert_1 : decode b_WordList_insert 1 = .ok (.getfield 17, 3) := by decide +kernel
theorem d_WordList_insert_4 : decode b_WordList_insert 4 = .ok (.istore 5, 2) := by decide +kernel
theorem d_WordList_insert_6 : decode b_WordList_insert 6 = .ok (.iload 5, 2) := by decide +kernel
theorem d_WordList_insert_8 : decode b_WordList_insert 8 = .ok (.iload_n 1, 1) := by decide +kernel
theorem d_WordList_insert_9 : decode b_WordList_insert 9 = .ok (.if_icmp .le 41, 3) := by decide +kernel
theorem d_WordList_insert_12 : decode b_WordList_insert 12 = .ok (.aload_n 0, 1) := by decide +kernel
theorem d_WordList_insert_13 : decode b_WordList_insert 13 = .ok (.getfield 7, 3) := by decide +kernel
theorem d_WordList_insert_16 : decode b_WordList_insert 16 = .ok (.iload 5, 2) := by decide +kernel
theorem d_WordList_insert_18 : decode b_WordList_insert 18 = .ok (.aload_n 0, 1) := by decide +kernel
theorem d_WordList_insert_19 : decode b_WordList_insert 19 = .ok (.getfield 7, 3) := by decide +kernel
theorem d_WordList_insert_22 : decode b_WordList_insert 22 = .ok (.iload 5, 2) := by decide +kernel
theorem d_WordList_insert_24 : decode b_WordList_insert 24 = .ok (.iconst 1, 1) := by decide +kernel
theorem d_WordList_insert_25 : decode b_WordList_insert 25 = .ok (.isub, 1) := by decide +kernel
theorem d_WordList_insert_26 : decode b_WordList_insert 26 = .ok (.laload, 1) := by decide +kernel
theorem d_WordList_insert_27 : decode b_WordList_insert 27 = .ok (.lastore, 1) := by decide +kernel
theorem d_WordList_insert_28 : decode b_WordList_insert 28 = .ok (.aload_n 0, 1) := by decide +kernel
theorem d_WordList_insert_29 : decode b_WordList_insert 29 = .ok (.getfield 13, 3) := by decide +kernel
theorem d_WordList_insert_32 : decode b_WordList_insert 32 = .ok (.iload 5, 2) := by decide +kernel
theorem d_WordList_insert_34 : decode b_WordList_insert 34 = .ok (.aload_n 0, 1) := by decide +kernel
theorem d_WordList_insert_35 : decode b_WordList_insert 35 = .ok (.getfield 13, 3) := by decide +kernel
theorem d_WordList_insert_38 : decode b_WordList_insert 38 = .ok (.iload 5, 2) := by decide +kernel
theorem d_WordList_insert_40 : decode b_WordList_insert 40 = .ok (.iconst 1, 1) := by decide +kernel
theorem d_WordList_insert_41 : decode b_WordList_insert 41 = .ok (.isub, 1) := by decide +kernel
theorem d_WordList_insert_42 : decode b_WordList_insert 42 = .ok (.iaload, 1) := by decide +kernel
theorem d_WordList_insert_43 : decode b_WordList_insert 43 = .ok (.iastore, 1) := by decide +kernel
theorem d_WordList_insert_44 : decode b_WordList_insert 44 = .ok (.iinc 5 (-1), 3) := by decide +kernel
theorem d_WordList_insert_47 : decode b_WordList_insert 47 = .ok (.goto (-41), 3) := by decide +kernel
theorem d_WordList_insert_50 : decode b_WordList_insert 50 = .ok (.aload_n 0, 1) := by decide +kernel
theorem d_WordList_insert_51 : decode b_WordList_insert 51 = .ok (.getfield 7, 3) := by decide +kernel
theorem d_WordList_insert_54 : decode b_WordList_insert 54 = .ok (.iload_n 1, 1) := by decide +kernel
theorem d_WordList_insert_55 : decode b_WordList_insert 55 = .ok (.lload_n 2, 1) := by decide +kernel
theorem d_WordList_insert_56 : decode b_WordList_insert 56 = .ok (.lastore, 1) := by decide +kernel
theorem d_WordList_insert_57 : decode b_WordList_insert 57 = .ok (.aload_n 0, 1) := by decide +kernel
theorem d_WordList_insert_58 : decode b_WordList_insert 58 = .ok (.getfield 13, 3) := by decide +kernel
theorem d_WordList_insert_61 : decode b_WordList_insert 61 = .ok (.iload_n 1, 1) := by decide +kernel
theorem d_WordList_insert_62 : decode b_WordList_insert 62 = .ok (.iload 4, 2) := by decide +kernel
theorem d_WordList_insert_64 : decode b_WordList_insert 64 = .ok (.iastore, 1) := by decide +kernel
theorem d_WordList_insert_65 : decode b_WordList_insert 65 = .ok (.aload_n 0, 1) := by decide +kernel
theorem d_WordList_insert_66 : decode b_WordList_insert 66 = .ok (.dup, 1) := by decide +kernel
theorem d_WordList_insert_67 : decode b_WordList_insert 67 = .ok (.getfield 17, 3) := by decide +kernel
theorem d_WordList_insert_70 : decode b_WordList_insert 70 = .ok (.iconst 1, 1) := by decide +kernel
theorem d_WordList_insert_71 : decode b_WordList_insert 71 = .ok (.iadd, 1) := by decide +kernel
theorem d_WordList_insert_72 : decode b_WordList_insert 72 = .ok (.putfield 17, 3) := by decide +kernel
theorem d_WordList_insert_75 : decode b_WordList_insert 75 = .ok (.return_, 1) := by decide +kernel
set_option maxHeartbeats 4000000 in
set_option maxRecDepth 100000 in
theorem c_WordList_insert (l : Launch) (dC : Nat → ClassId) (dI : Nat → Nat → Nat) (cI cL cZ : ClassId) (wl : Nat) (wlWa : Nat) (wln : Nat) (wlW : Nat → Int64) (wlTa : Nat) (wlT : Nat → Int32) (wlC : Int32) (k0 : Int32) (w0 : Int64) (k1 : Int32) (wlW' : Nat → Int64) (wlT' : Nat → Int32) (wlC' : Int32) (hd : D_WordList_insert wln k0 w0 k1 wlW wlT wlC wlW' wlT' wlC') : Ctr l y_WordList_insert (Cond.code y_WordList_insert b_WordList_insert 6 none :: ga) { frames := 0, cells := 0, slots := 0, locals := 0 } (dC, dI) classes (Tys cI cL cZ) [.ref wl, .int k0, .long w0, .int k1] ((sh_WordList cI cL cZ wl wlWa wln wlW wlTa wlT wlC)) none ((sh_WordList cI cL cZ wl wlWa wln wlW' wlTa wlT' wlC')) := by
  refine Ctr.ofW (by decide) (Nat.le_of_ble_eq_true rfl) ?_
  intro p e s m below meth c A ls hx hb hr hml hown hlocks hts hK hN hA hP hD hS hl
  have hown : s.vm.findClass R_WordList = some m.cls := hown
  have hl : lv_has ls 6 [(0, .ref wl), (1, .int k0), (2, .long w0), (4, .int k1)] := hl
  have key : ∀ n : Nat, (∀ (x1 : Int32) (y2 : Int64) (x4 : Int32) (x5 : Int32) (wlW : Nat → Int64) (wlT : Nat → Int32) (wlC : Int32) (ls : Array Slot) (H : Heap) (locs : List Loc), lv_has ls 6 [(0, .ref wl), (1, .int x1), (2, .long y2), (4, .int x4), (5, .int x5)] → va_P (dC, dI) classes ((sh_WordList cI cL cZ wl wlWa wln wlW wlTa wlT wlC)) H → va_D A ((sh_WordList cI cL cZ wl wlWa wln wlW wlTa wlT wlC)) → va_S A s.heap H locs → T_WordList_insert wln wlW' wlT' wlC' n x1 y2 x4 x5 wlW wlT wlC → W p l e ({ frames := 0, cells := 0, slots := 0, locals := 0 }) s m ([.ref wl, .int k0, .long w0, .int k1] : List Value).toArray below meth c H locs 0 0 (MQ below (Qs (dC, dI) classes (Tys cI cL cZ) none ((sh_WordList cI cL cZ wl wlWa wln wlW' wlTa wlT' wlC')) A) ([.ref wl, .int k0, .long w0, .int k1] : List Value).toArray s 0 0 A) (F0 m 6 ls [])) := by
    intro n
    induction n with
    | zero =>
      exact fun _ _ _ _ _ _ _ _ _ _ _ _ _ _ hd => False.elim hd
    | succ n ih =>
      · intro x1 y2 x4 x5 wlW wlT wlC ls H locs hl hP hD hS hd
        have hd : B_WordList_insert_6 wln wlW' wlT' wlC' (T_WordList_insert wln wlW' wlT' wlC' n) x1 y2 x4 x5 wlW wlT wlC := hd
        refine lv_iload hx hb d_WordList_insert_6 (lv_at hl 4 rfl) ?_
        refine lv_iload_n hx hb d_WordList_insert_8 rfl (lv_at hl 1 rfl) ?_
        refine lv_icmp_le (tgt := 50) hx hb d_WordList_insert_9 (by decide) (fun h9 => ?_) (fun h9 => ?_)
        · have hd := hd.1 h9
          refine lv_aload_n hx hb d_WordList_insert_50 rfl (lv_at hl 0 rfl) ?_
          refine va_get (D := (dC, dI)) (ci := 2) (v := .ref wlWa) (C := R_WordList) (T := F_WordList) (N := 3) hx hb hts in_WordList hown hK hP 0 rfl rfl 0 (by decide) (hts _ (List.mem_cons_of_mem _ k29_fieldLink)) (fun _ h9 => h9) rfl d_WordList_insert_51 ?_
          refine lv_iload_n hx hb d_WordList_insert_54 rfl (lv_at hl 1 rfl) ?_
          refine lv_lload_n hx hb d_WordList_insert_55 rfl (lv_at hl 2 rfl) ?_
          obtain ⟨h56, hd⟩ := hd
          refine va_last hx hb hK hP hD hS 1 1 rfl rfl h56 d_WordList_insert_56 (fun H locs hP hD hS => ?_)
          have hP : va_P (dC, dI) classes ((sh_WordList cI cL cZ wl wlWa wln (vp_updL wlW (Int32.toNatClampNeg x1) y2) wlTa wlT wlC)) H := hP
          have hD : va_D A ((sh_WordList cI cL cZ wl wlWa wln (vp_updL wlW (Int32.toNatClampNeg x1) y2) wlTa wlT wlC)) := hD
          refine lv_aload_n hx hb d_WordList_insert_57 rfl (lv_at hl 0 rfl) ?_
          refine va_get (D := (dC, dI)) (ci := 2) (v := .ref wlTa) (C := R_WordList) (T := F_WordList) (N := 3) hx hb hts in_WordList hown hK hP 0 rfl rfl 1 (by decide) (hts _ (List.mem_cons_of_mem _ k30_fieldLink)) (fun _ h9 => h9) rfl d_WordList_insert_58 ?_
          refine lv_iload_n hx hb d_WordList_insert_61 rfl (lv_at hl 1 rfl) ?_
          refine lv_iload hx hb d_WordList_insert_62 (lv_at hl 3 rfl) ?_
          obtain ⟨h64, hd⟩ := hd
          refine va_iast hx hb hK hP hD hS 2 0 rfl rfl h64 d_WordList_insert_64 (fun H locs hP hD hS => ?_)
          have hP : va_P (dC, dI) classes ((sh_WordList cI cL cZ wl wlWa wln (vp_updL wlW (Int32.toNatClampNeg x1) y2) wlTa (upd wlT (Int32.toNatClampNeg x1) x4) wlC)) H := hP
          have hD : va_D A ((sh_WordList cI cL cZ wl wlWa wln (vp_updL wlW (Int32.toNatClampNeg x1) y2) wlTa (upd wlT (Int32.toNatClampNeg x1) x4) wlC)) := hD
          refine lv_aload_n hx hb d_WordList_insert_65 rfl (lv_at hl 0 rfl) ?_
          refine lv_dup hx hb d_WordList_insert_66 rfl ?_
          refine va_get (D := (dC, dI)) (ci := 2) (v := .int wlC) (C := R_WordList) (T := F_WordList) (N := 3) hx hb hts in_WordList hown hK hP 0 rfl rfl 2 (by decide) (hts _ (List.mem_cons_of_mem _ k27_fieldLink)) (fun _ h9 => h9) rfl d_WordList_insert_67 ?_
          refine lv_iconst (v := 1) hx hb d_WordList_insert_70 (by decide) ?_
          refine lv_iadd hx hb d_WordList_insert_71 ?_
          refine va_put (D := (dC, dI)) (ci := 2) (v := .int (wlC + 1)) (ty := t_WordList 2) (C := R_WordList) (T := F_WordList) (N := 3) hx hb hts in_WordList t_WordList t_WordList_ok n_WordList hown hK hP hD hS 0 rfl rfl 2 (by decide) (hts _ (List.mem_cons_of_mem _ k27_fieldLink)) (fun _ h9 => h9) rfl (t_WordList_ok 2 (by decide)) rfl rfl (Nat.le_of_ble_eq_true rfl) d_WordList_insert_72 (fun H locs hP hD hS => ?_)
          have hP : va_P (dC, dI) classes ((sh_WordList cI cL cZ wl wlWa wln (vp_updL wlW (Int32.toNatClampNeg x1) y2) wlTa (upd wlT (Int32.toNatClampNeg x1) x4) (wlC + 1))) H := hP
          have hD : va_D A ((sh_WordList cI cL cZ wl wlWa wln (vp_updL wlW (Int32.toNatClampNeg x1) y2) wlTa (upd wlT (Int32.toNatClampNeg x1) x4) (wlC + 1))) := hD
          obtain ⟨e0, e1, e2⟩ := hd
          subst e0
          subst e1
          subst e2
          exact ct_vret hx hb hr hlocks hK hP hD hS d_WordList_insert_75
        · have hd := hd.2 h9
          refine lv_aload_n hx hb d_WordList_insert_12 rfl (lv_at hl 0 rfl) ?_
          refine va_get (D := (dC, dI)) (ci := 2) (v := .ref wlWa) (C := R_WordList) (T := F_WordList) (N := 3) hx hb hts in_WordList hown hK hP 0 rfl rfl 0 (by decide) (hts _ (List.mem_cons_of_mem _ k29_fieldLink)) (fun _ h9 => h9) rfl d_WordList_insert_13 ?_
          refine lv_iload hx hb d_WordList_insert_16 (lv_at hl 4 rfl) ?_
          refine lv_aload_n hx hb d_WordList_insert_18 rfl (lv_at hl 0 rfl) ?_
          refine va_get (D := (dC, dI)) (ci := 2) (v := .ref wlWa) (C := R_WordList) (T := F_WordList) (N := 3) hx hb hts in_WordList hown hK hP 0 rfl rfl 0 (by decide) (hts _ (List.mem_cons_of_mem _ k29_fieldLink)) (fun _ h9 => h9) rfl d_WordList_insert_19 ?_
          refine lv_iload hx hb d_WordList_insert_22 (lv_at hl 4 rfl) ?_
          refine lv_iconst (v := 1) hx hb d_WordList_insert_24 (by decide) ?_
          refine lv_isub hx hb d_WordList_insert_25 ?_
          obtain ⟨h26, hd⟩ := hd
          refine va_lald hx hb hK hP 1 1 rfl rfl h26 d_WordList_insert_26 ?_
          obtain ⟨h27, hd⟩ := hd
          refine va_last hx hb hK hP hD hS 1 1 rfl rfl h27 d_WordList_insert_27 (fun H locs hP hD hS => ?_)
          have hP : va_P (dC, dI) classes ((sh_WordList cI cL cZ wl wlWa wln (vp_updL wlW (Int32.toNatClampNeg x5) (wlW (Int32.toNatClampNeg (x5 - 1)))) wlTa wlT wlC)) H := hP
          have hD : va_D A ((sh_WordList cI cL cZ wl wlWa wln (vp_updL wlW (Int32.toNatClampNeg x5) (wlW (Int32.toNatClampNeg (x5 - 1)))) wlTa wlT wlC)) := hD
          refine lv_aload_n hx hb d_WordList_insert_28 rfl (lv_at hl 0 rfl) ?_
          refine va_get (D := (dC, dI)) (ci := 2) (v := .ref wlTa) (C := R_WordList) (T := F_WordList) (N := 3) hx hb hts in_WordList hown hK hP 0 rfl rfl 1 (by decide) (hts _ (List.mem_cons_of_mem _ k30_fieldLink)) (fun _ h9 => h9) rfl d_WordList_insert_29 ?_
          refine lv_iload hx hb d_WordList_insert_32 (lv_at hl 4 rfl) ?_
          refine lv_aload_n hx hb d_WordList_insert_34 rfl (lv_at hl 0 rfl) ?_
          refine va_get (D := (dC, dI)) (ci := 2) (v := .ref wlTa) (C := R_WordList) (T := F_WordList) (N := 3) hx hb hts in_WordList hown hK hP 0 rfl rfl 1 (by decide) (hts _ (List.mem_cons_of_mem _ k30_fieldLink)) (fun _ h9 => h9) rfl d_WordList_insert_35 ?_
          refine lv_iload hx hb d_WordList_insert_38 (lv_at hl 4 rfl) ?_
          refine lv_iconst (v := 1) hx hb d_WordList_insert_40 (by decide) ?_
          refine lv_isub hx hb d_WordList_insert_41 ?_
          obtain ⟨h42, hd⟩ := hd
          refine va_iald hx hb hK hP 2 0 rfl rfl h42 d_WordList_insert_42 ?_
          obtain ⟨h43, hd⟩ := hd
          refine va_iast hx hb hK hP hD hS 2 0 rfl rfl h43 d_WordList_insert_43 (fun H locs hP hD hS => ?_)
          have hP : va_P (dC, dI) classes ((sh_WordList cI cL cZ wl wlWa wln (vp_updL wlW (Int32.toNatClampNeg x5) (wlW (Int32.toNatClampNeg (x5 - 1)))) wlTa (upd wlT (Int32.toNatClampNeg x5) (wlT (Int32.toNatClampNeg (x5 - 1)))) wlC)) H := hP
          have hD : va_D A ((sh_WordList cI cL cZ wl wlWa wln (vp_updL wlW (Int32.toNatClampNeg x5) (wlW (Int32.toNatClampNeg (x5 - 1)))) wlTa (upd wlT (Int32.toNatClampNeg x5) (wlT (Int32.toNatClampNeg (x5 - 1)))) wlC)) := hD
          refine lv_iinc (k := 4) (v := x5 + (-1)) (lv' := [(5, .int (x5 + (-1))), (0, .ref wl), (1, .int x1), (2, .long y2), (4, .int x4)]) hx hb d_WordList_insert_44 hl rfl (congrArg (fun z => x5 + z) (by decide)) (by decide) rfl (fun ls hl => ?_)
          refine lv_goto (tgt := 6) hx hb d_WordList_insert_47 (by decide) ?_
          exact ih x1 y2 x4 (x5 + (-1)) (vp_updL wlW (Int32.toNatClampNeg x5) (wlW (Int32.toNatClampNeg (x5 - 1)))) (upd wlT (Int32.toNatClampNeg x5) (wlT (Int32.toNatClampNeg (x5 - 1)))) wlC _ _ _ (lv_sub hl [1, 2, 3, 4, 0] rfl) hP hD hS hd
  obtain ⟨n, hd⟩ := hd
  refine lv_aload_n hx hb d_WordList_insert_0 rfl (lv_at hl 0 rfl) ?_
  refine va_get (D := (dC, dI)) (ci := 2) (v := .int wlC) (C := R_WordList) (T := F_WordList) (N := 3) hx hb hts in_WordList hown hK hP 0 rfl rfl 2 (by decide) (hts _ (List.mem_cons_of_mem _ k27_fieldLink)) (fun _ h9 => h9) rfl d_WordList_insert_1 ?_
  refine lv_istore (lv' := [(5, .int wlC), (0, .ref wl), (1, .int k0), (2, .long w0), (4, .int k1)]) hx hb d_WordList_insert_4 hl (by decide) rfl (fun ls hl => ?_)
  exact (key n) k0 w0 k1 wlC wlW wlT wlC _ _ _ (lv_sub hl [1, 2, 3, 4, 0] rfl) hP hD hS hd
-- WordList.placeOf
abbrev b_WordList_placeOf : ByteArray := prog_12_method_9_code
def y_WordList_placeOf : MethodName := ⟨"HelpFile$WordList", "placeOf", "(J)I"⟩
set_option maxRecDepth 100000 in
theorem fm_WordList_placeOf : Fm y_WordList_placeOf b_WordList_placeOf 6 (some .int) 1 := ⟨ga_t 377 rfl rfl, k28_initialized, by decide, by decide, by decide +kernel⟩
def B_WordList_placeOf_8 (wln : Nat) (wlW : Nat → Int64) (wlC : Int32) (res : Int32) (X : Int64 → Int32 → Int32 → Prop) (y1 : Int64) (x3 : Int32) (x4 : Int32) : Prop := ((x4 ≤ x3 → (res = x3)) ∧ (¬ (x4 ≤ x3) → (vp_in ((x3 + x4) / 2) wln ∧ ((0 ≤ (lg_cmp (wlW (Int32.toNatClampNeg ((x3 + x4) / 2))) y1) → X y1 x3 ((x3 + x4) / 2)) ∧ (¬ (0 ≤ (lg_cmp (wlW (Int32.toNatClampNeg ((x3 + x4) / 2))) y1)) → X y1 (((x3 + x4) / 2) + 1) x4)))))
def S_WordList_placeOf (wln : Nat) (wlW : Nat → Int64) (wlC : Int32) (res : Int32) (X : Int64 → Int32 → Int32 → Prop) : Int64 → Int32 → Int32 → Prop := fun y1 x3 x4 => B_WordList_placeOf_8 wln wlW wlC res X y1 x3 x4
def T_WordList_placeOf (wln : Nat) (wlW : Nat → Int64) (wlC : Int32) (res : Int32) : Nat → (Int64 → Int32 → Int32 → Prop)
  | 0 => fun _ _ _ => False
  | n + 1 => S_WordList_placeOf wln wlW wlC res (T_WordList_placeOf wln wlW wlC res n)
def D_WordList_placeOf (wln : Nat) (w0 : Int64) (wlW : Nat → Int64) (wlC : Int32) (res : Int32) : Prop := ∃ n : Nat, T_WordList_placeOf wln wlW wlC res n w0 0 wlC
theorem d_WordList_placeOf_0 : decode b_WordList_placeOf 0 = .ok (.iconst 0, 1) := by decide +kernel
theorem d_WordList_placeOf_1 : decode b_WordList_placeOf 1 = .ok (.istore_n 3, 1) := by decide +kernel
theorem d_WordList_placeOf_2 : decode b_WordList_placeOf 2 = .ok (.aload_n 0, 1) := by decide +kernel
theorem d_WordList_placeOf_3 : decode b_WordList_placeOf 3 = .ok (.getfield 17, 3) := by decide +kernel
theorem d_WordList_placeOf_6 : decode b_WordList_placeOf 6 = .ok (.istore 4, 2) := by decide +kernel
theorem d_WordList_placeOf_8 : decode b_WordList_placeOf 8 = .ok (.iload_n 3, 1) := by decide +kernel
theorem d_WordList_placeOf_9 : decode b_WordList_placeOf 9 = .ok (.iload 4, 2) := by decide +kernel
theorem d_WordList_placeOf_11 : decode b_WordList_placeOf 11 = .ok (.if_icmp .ge 38, 3) := by decide +kernel
theorem d_WordList_placeOf_14 : decode b_WordList_placeOf 14 = .ok (.iload_n 3, 1) := by decide +kernel
theorem d_WordList_placeOf_15 : decode b_WordList_placeOf 15 = .ok (.iload 4, 2) := by decide +kernel
theorem d_WordList_placeOf_17 : decode b_WordList_placeOf 17 = .ok (.iadd, 1) := by decide +kernel
theorem d_WordList_placeOf_18 : decode b_WordList_placeOf 18 = .ok (.iconst 2, 1) := by decide +kernel
theorem d_WordList_placeOf_19 : decode b_WordList_placeOf 19 = .ok (.idiv, 1) := by decide +kernel
theorem d_WordList_placeOf_20 : decode b_WordList_placeOf 20 = .ok (.istore 5, 2) := by decide +kernel
theorem d_WordList_placeOf_22 : decode b_WordList_placeOf 22 = .ok (.aload_n 0, 1) := by decide +kernel
theorem d_WordList_placeOf_23 : decode b_WordList_placeOf 23 = .ok (.getfield 7, 3) := by decide +kernel
theorem d_WordList_placeOf_26 : decode b_WordList_placeOf 26 = .ok (.iload 5, 2) := by decide +kernel
theorem d_WordList_placeOf_28 : decode b_WordList_placeOf 28 = .ok (.laload, 1) := by decide +kernel
theorem d_WordList_placeOf_29 : decode b_WordList_placeOf 29 = .ok (.lload_n 1, 1) := by decide +kernel
theorem d_WordList_placeOf_30 : decode b_WordList_placeOf 30 = .ok (.lcmp, 1) := by decide +kernel
theorem d_WordList_placeOf_31 : decode b_WordList_placeOf 31 = .ok (.ifCond .ge 11, 3) := by decide +kernel
theorem d_WordList_placeOf_34 : decode b_WordList_placeOf 34 = .ok (.iload 5, 2) := by decide +kernel
theorem d_WordList_placeOf_36 : decode b_WordList_placeOf 36 = .ok (.iconst 1, 1) := by decide +kernel
theorem d_WordList_placeOf_37 : decode b_WordList_placeOf 37 = .ok (.iadd, 1) := by decide +kernel
theorem d_WordList_placeOf_38 : decode b_WordList_placeOf 38 = .ok (.istore_n 3, 1) := by decide +kernel
theorem d_WordList_placeOf_39 : decode b_WordList_placeOf 39 = .ok (.goto 7, 3) := by decide +kernel
theorem d_WordList_placeOf_42 : decode b_WordList_placeOf 42 = .ok (.iload 5, 2) := by decide +kernel
theorem d_WordList_placeOf_44 : decode b_WordList_placeOf 44 = .ok (.istore 4, 2) := by decide +kernel
theorem d_WordList_placeOf_46 : decode b_WordList_placeOf 46 = .ok (.goto (-38), 3) := by decide +kernel
theorem d_WordList_placeOf_49 : decode b_WordList_placeOf 49 = .ok (.iload_n 3, 1) := by decide +kernel
theorem d_WordList_placeOf_50 : decode b_WordList_placeOf 50 = .ok (.ireturn, 1) := by decide +kernel
set_option maxHeartbeats 4000000 in
set_option maxRecDepth 100000 in
theorem c_WordList_placeOf (l : Launch) (dC : Nat → ClassId) (dI : Nat → Nat → Nat) (cI cL cZ : ClassId) (wl : Nat) (wlWa : Nat) (wln : Nat) (wlW : Nat → Int64) (wlTa : Nat) (wlT : Nat → Int32) (wlC : Int32) (w0 : Int64) (res : Int32) (hd : D_WordList_placeOf wln w0 wlW wlC res) : CtrR l y_WordList_placeOf (Cond.code y_WordList_placeOf b_WordList_placeOf 6 (some .int) :: ga) { frames := 0, cells := 0, slots := 0, locals := 0 } (dC, dI) classes (Tys cI cL cZ) [.ref wl, .long w0] ((sh_WordList cI cL cZ wl wlWa wln wlW wlTa wlT wlC)) (some (.int res)) := by
  refine CtrR.ofW (by decide) (Nat.le_of_ble_eq_true rfl) ?_
  intro p e s m below meth c ls hx hb hr hml hown hlocks hts hK hN hP hD hl
  have hown : s.vm.findClass R_WordList = some m.cls := hown
  have hl : lv_has ls 6 [(0, .ref wl), (1, .long w0)] := hl
  have key : ∀ n : Nat, (∀ (y1 : Int64) (x3 : Int32) (x4 : Int32) (ls : Array Slot), lv_has ls 6 [(0, .ref wl), (1, .long y1), (3, .int x3), (4, .int x4)] → T_WordList_placeOf wln wlW wlC res n y1 x3 x4 → W p l e ({ frames := 0, cells := 0, slots := 0, locals := 0 }) s m ([.ref wl, .long w0] : List Value).toArray below meth c s.heap [] 0 0 (MQ below (Qr (some (.int res))) ([.ref wl, .long w0] : List Value).toArray s 0 0 (fun _ => False)) (F0 m 8 ls [])) := by
    intro n
    induction n with
    | zero =>
      exact fun _ _ _ _ _ hd => False.elim hd
    | succ n ih =>
      · intro y1 x3 x4 ls hl hd
        have hd : B_WordList_placeOf_8 wln wlW wlC res (T_WordList_placeOf wln wlW wlC res n) y1 x3 x4 := hd
        refine lv_iload_n hx hb d_WordList_placeOf_8 rfl (lv_at hl 2 rfl) ?_
        refine lv_iload hx hb d_WordList_placeOf_9 (lv_at hl 3 rfl) ?_
        refine lv_icmp_ge (tgt := 49) hx hb d_WordList_placeOf_11 (by decide) (fun h11 => ?_) (fun h11 => ?_)
        · have hd := hd.1 h11
          refine lv_iload_n hx hb d_WordList_placeOf_49 rfl (lv_at hl 2 rfl) ?_
          have e0 : res = x3 := hd
          subst e0
          exact ct_iretR hx hb hr hlocks d_WordList_placeOf_50
        · have hd := hd.2 h11
          refine lv_iload_n hx hb d_WordList_placeOf_14 rfl (lv_at hl 2 rfl) ?_
          refine lv_iload hx hb d_WordList_placeOf_15 (lv_at hl 3 rfl) ?_
          refine lv_iadd hx hb d_WordList_placeOf_17 ?_
          refine lv_iconst (v := 2) hx hb d_WordList_placeOf_18 (by decide) ?_
          refine lv_idiv hx hb d_WordList_placeOf_19 (by decide) ?_
          refine lv_istore (lv' := [(5, .int ((x3 + x4) / 2)), (0, .ref wl), (1, .long y1), (3, .int x3), (4, .int x4)]) hx hb d_WordList_placeOf_20 hl (by decide) rfl (fun ls hl => ?_)
          refine lv_aload_n hx hb d_WordList_placeOf_22 rfl (lv_at hl 1 rfl) ?_
          refine va_get (D := (dC, dI)) (ci := 2) (v := .ref wlWa) (C := R_WordList) (T := F_WordList) (N := 3) hx hb hts in_WordList hown hK hP 0 rfl rfl 0 (by decide) (hts _ (List.mem_cons_of_mem _ k29_fieldLink)) (fun _ h9 => h9) rfl d_WordList_placeOf_23 ?_
          refine lv_iload hx hb d_WordList_placeOf_26 (lv_at hl 0 rfl) ?_
          obtain ⟨h28, hd⟩ := hd
          refine va_lald hx hb hK hP 1 1 rfl rfl h28 d_WordList_placeOf_28 ?_
          refine lv_lload_n hx hb d_WordList_placeOf_29 rfl (lv_at hl 2 rfl) ?_
          refine W.lcmp hx hb d_WordList_placeOf_30 ?_
          refine lv_if_ge (tgt := 42) hx hb d_WordList_placeOf_31 (by decide) (fun h31 => ?_) (fun h31 => ?_)
          · have hd := hd.1 h31
            refine lv_iload hx hb d_WordList_placeOf_42 (lv_at hl 0 rfl) ?_
            refine lv_istore (lv' := [(4, .int ((x3 + x4) / 2)), (5, .int ((x3 + x4) / 2)), (0, .ref wl), (1, .long y1), (3, .int x3)]) hx hb d_WordList_placeOf_44 hl (by decide) rfl (fun ls hl => ?_)
            refine lv_goto (tgt := 8) hx hb d_WordList_placeOf_46 (by decide) ?_
            exact ih y1 x3 ((x3 + x4) / 2) _ (lv_sub hl [2, 3, 4, 0] rfl) hd
          · have hd := hd.2 h31
            refine lv_iload hx hb d_WordList_placeOf_34 (lv_at hl 0 rfl) ?_
            refine lv_iconst (v := 1) hx hb d_WordList_placeOf_36 (by decide) ?_
            refine lv_iadd hx hb d_WordList_placeOf_37 ?_
            refine lv_istore_n (lv' := [(3, .int (((x3 + x4) / 2) + 1)), (5, .int ((x3 + x4) / 2)), (0, .ref wl), (1, .long y1), (4, .int x4)]) hx hb d_WordList_placeOf_38 rfl hl (by decide) rfl (fun ls hl => ?_)
            refine lv_goto (tgt := 46) hx hb d_WordList_placeOf_39 (by decide) ?_
            refine lv_goto (tgt := 8) hx hb d_WordList_placeOf_46 (by decide) ?_
            exact ih y1 (((x3 + x4) / 2) + 1) x4 _ (lv_sub hl [2, 3, 0, 4] rfl) hd
  obtain ⟨n, hd⟩ := hd
  refine lv_iconst (v := 0) hx hb d_WordList_placeOf_0 (by decide) ?_
  refine lv_istore_n (lv' := [(3, .int 0), (0, .ref wl), (1, .long w0)]) hx hb d_WordList_placeOf_1 rfl hl (by decide) rfl (fun ls hl => ?_)
  refine lv_aload_n hx hb d_WordList_placeOf_2 rfl (lv_at hl 1 rfl) ?_
  refine va_get (D := (dC, dI)) (ci := 2) (v := .int wlC) (C := R_WordList) (T := F_WordList) (N := 3) hx hb hts in_WordList hown hK hP 0 rfl rfl 2 (by decide) (hts _ (List.mem_cons_of_mem _ k27_fieldLink)) (fun _ h9 => h9) rfl d_WordList_placeOf_3 ?_
  refine lv_istore (lv' := [(4, .int wlC), (3, .int 0), (0, .ref wl), (1, .long w0)]) hx hb d_WordList_placeOf_6 hl (by decide) rfl (fun ls hl => ?_)
  exact (key n) w0 0 wlC _ (lv_sub hl [2, 3, 1, 0] rfl) hd
-- WordList.note
abbrev b_WordList_note : ByteArray := prog_12_method_6_code
def y_WordList_note : MethodName := ⟨"HelpFile$WordList", "note", "(JI)V"⟩
theorem k31_methodLink : Cond.methodLink "HelpFile$WordList" 21 ⟨"HelpFile$WordList", "placeOf", "(J)I"⟩ ∈ ga := ga_t 374 (by decide +kernel) rfl
theorem k32_instanceMethod : Cond.instanceMethod ⟨"HelpFile$WordList", "placeOf", "(J)I"⟩ ∈ ga := ga_t 376 (by decide +kernel) rfl
theorem k33_selects : Cond.selects "HelpFile$WordList" ⟨"HelpFile$WordList", "placeOf", "(J)I"⟩ ⟨"HelpFile$WordList", "placeOf", "(J)I"⟩ ∈ ga := ga_s (q := (⟨"HelpFile$WordList", "placeOf", "(J)I"⟩, _)) 8 rfl
theorem k34_methodLink : Cond.methodLink "HelpFile$WordList" 25 ⟨"HelpFile$WordList", "insert", "(IJI)V"⟩ ∈ ga := ga_t 378 (by decide +kernel) rfl
theorem k35_instanceMethod : Cond.instanceMethod ⟨"HelpFile$WordList", "insert", "(IJI)V"⟩ ∈ ga := ga_t 380 (by decide +kernel) rfl
theorem k36_selects : Cond.selects "HelpFile$WordList" ⟨"HelpFile$WordList", "insert", "(IJI)V"⟩ ⟨"HelpFile$WordList", "insert", "(IJI)V"⟩ ∈ ga := ga_s (q := (⟨"HelpFile$WordList", "insert", "(IJI)V"⟩, _)) 9 rfl
set_option maxRecDepth 100000 in
theorem fm_WordList_note : Fm y_WordList_note b_WordList_note 5 none 2 := ⟨ga_t 373 rfl rfl, k28_initialized, by decide, by decide, by decide +kernel⟩
def B_WordList_note_42 (wln : Nat) (wlW' : Nat → Int64) (wlT' : Nat → Int32) (wlC' : Int32) (X : Int64 → Int32 → Int32 → (Nat → Int64) → (Nat → Int32) → Int32 → Prop) (y1 : Int64) (x3 : Int32) (x4 : Int32) (wlW : Nat → Int64) (wlT : Nat → Int32) (wlC : Int32) : Prop := (((nI wln) ≤ wlC → (wlW' = wlW ∧ wlT' = wlT ∧ wlC' = wlC)) ∧ (¬ ((nI wln) ≤ wlC) → (∃ wlW_59 : Nat → Int64, ∃ wlT_59 : Nat → Int32, ∃ wlC_59 : Int32, D_WordList_insert wln x4 y1 x3 wlW wlT wlC wlW_59 wlT_59 wlC_59 ∧ (wlW' = wlW_59 ∧ wlT' = wlT_59 ∧ wlC' = wlC_59))))
def S_WordList_note (wln : Nat) (wlW' : Nat → Int64) (wlT' : Nat → Int32) (wlC' : Int32) (X : Int64 → Int32 → Int32 → (Nat → Int64) → (Nat → Int32) → Int32 → Prop) : Int64 → Int32 → Int32 → (Nat → Int64) → (Nat → Int32) → Int32 → Prop := fun y1 x3 x4 wlW wlT wlC => B_WordList_note_42 wln wlW' wlT' wlC' X y1 x3 x4 wlW wlT wlC
def T_WordList_note (wln : Nat) (wlW' : Nat → Int64) (wlT' : Nat → Int32) (wlC' : Int32) : Nat → (Int64 → Int32 → Int32 → (Nat → Int64) → (Nat → Int32) → Int32 → Prop)
  | 0 => fun _ _ _ _ _ _ => False
  | n + 1 => S_WordList_note wln wlW' wlT' wlC' (T_WordList_note wln wlW' wlT' wlC' n)
def D_WordList_note (wln : Nat) (w0 : Int64) (k0 : Int32) (wlW : Nat → Int64) (wlT : Nat → Int32) (wlC : Int32) (wlW' : Nat → Int64) (wlT' : Nat → Int32) (wlC' : Int32) : Prop := ∃ n : Nat, (∃ r2 : Int32, D_WordList_placeOf wln w0 wlW wlC r2 ∧ ((wlC ≤ r2 → T_WordList_note wln wlW' wlT' wlC' n w0 k0 r2 wlW wlT wlC) ∧ (¬ (wlC ≤ r2) → (vp_in r2 wln ∧ (((lg_cmp (wlW (Int32.toNatClampNeg r2)) w0) = 0 → (vp_in r2 wln ∧ (vp_in r2 wln ∧ (wlW' = wlW ∧ wlT' = upd wlT (Int32.toNatClampNeg r2) ((wlT (Int32.toNatClampNeg r2)) ||| k0) ∧ wlC' = wlC)))) ∧ (¬ ((lg_cmp (wlW (Int32.toNatClampNeg r2)) w0) = 0) → T_WordList_note wln wlW' wlT' wlC' n w0 k0 r2 wlW wlT wlC))))))
theorem d_WordList_note_0 : decode b_WordList_note 0 = .ok (.aload_n 0, 1) := by decide +kernel
theorem d_WordList_note_1 : decode b_WordList_note 1 = .ok (.lload_n 1, 1) := by decide +kernel
theorem d_WordList_note_2 : decode b_WordList_note 2 = .ok (.invokevirtual 21, 3) := by decide +kernel
theorem d_WordList_note_5 : decode b_WordList_note 5 = .ok (.istore 4, 2) := by decide +kernel
theorem d_WordList_note_7 : decode b_WordList_note 7 = .ok (.iload 4, 2) := by decide +kernel
theorem d_WordList_note_9 : decode b_WordList_note 9 = .ok (.aload_n 0, 1) := by decide +kernel
theorem d_WordList_note_10 : decode b_WordList_note 10 = .ok (.getfield 17, 3) := by decide +kernel
theorem d_WordList_note_13 : decode b_WordList_note 13 = .ok (.if_icmp .ge 29, 3) := by decide +kernel
theorem d_WordList_note_16 : decode b_WordList_note 16 = .ok (.aload_n 0, 1) := by decide +kernel
theorem d_WordList_note_17 : decode b_WordList_note 17 = .ok (.getfield 7, 3) := by decide +kernel
theorem d_WordList_note_20 : decode b_WordList_note 20 = .ok (.iload 4, 2) := by decide +kernel
theorem d_WordList_note_22 : decode b_WordList_note 22 = .ok (.laload, 1) := by decide +kernel
theorem d_WordList_note_23 : decode b_WordList_note 23 = .ok (.lload_n 1, 1) := by decide +kernel
theorem d_WordList_note_24 : decode b_WordList_note 24 = .ok (.lcmp, 1) := by decide +kernel
theorem d_WordList_note_25 : decode b_WordList_note 25 = .ok (.ifCond .ne 17, 3) := by decide +kernel
theorem d_WordList_note_28 : decode b_WordList_note 28 = .ok (.aload_n 0, 1) := by decide +kernel
theorem d_WordList_note_29 : decode b_WordList_note 29 = .ok (.getfield 13, 3) := by decide +kernel
theorem d_WordList_note_32 : decode b_WordList_note 32 = .ok (.iload 4, 2) := by decide +kernel
theorem d_WordList_note_34 : decode b_WordList_note 34 = .ok (.dup2, 1) := by decide +kernel
theorem d_WordList_note_35 : decode b_WordList_note 35 = .ok (.iaload, 1) := by decide +kernel
theorem d_WordList_note_36 : decode b_WordList_note 36 = .ok (.iload_n 3, 1) := by decide +kernel
theorem d_WordList_note_37 : decode b_WordList_note 37 = .ok (.ior, 1) := by decide +kernel
theorem d_WordList_note_38 : decode b_WordList_note 38 = .ok (.iastore, 1) := by decide +kernel
theorem d_WordList_note_39 : decode b_WordList_note 39 = .ok (.goto 23, 3) := by decide +kernel
theorem d_WordList_note_42 : decode b_WordList_note 42 = .ok (.aload_n 0, 1) := by decide +kernel
theorem d_WordList_note_43 : decode b_WordList_note 43 = .ok (.getfield 17, 3) := by decide +kernel
theorem d_WordList_note_46 : decode b_WordList_note 46 = .ok (.aload_n 0, 1) := by decide +kernel
theorem d_WordList_note_47 : decode b_WordList_note 47 = .ok (.getfield 7, 3) := by decide +kernel
theorem d_WordList_note_50 : decode b_WordList_note 50 = .ok (.arraylength, 1) := by decide +kernel
theorem d_WordList_note_51 : decode b_WordList_note 51 = .ok (.if_icmp .ge 11, 3) := by decide +kernel
theorem d_WordList_note_54 : decode b_WordList_note 54 = .ok (.aload_n 0, 1) := by decide +kernel
theorem d_WordList_note_55 : decode b_WordList_note 55 = .ok (.iload 4, 2) := by decide +kernel
theorem d_WordList_note_57 : decode b_WordList_note 57 = .ok (.lload_n 1, 1) := by decide +kernel
theorem d_WordList_note_58 : decode b_WordList_note 58 = .ok (.iload_n 3, 1) := by decide +kernel
theorem d_WordList_note_59 : decode b_WordList_note 59 = .ok (.invokevirtual 25, 3) := by decide +kernel
theorem d_WordList_note_62 : decode b_WordList_note 62 = .ok (.return_, 1) := by decide +kernel
set_option maxHeartbeats 4000000 in
set_option maxRecDepth 100000 in
theorem c_WordList_note (l : Launch) (dC : Nat → ClassId) (dI : Nat → Nat → Nat) (cI cL cZ : ClassId) (wl : Nat) (wlWa : Nat) (wln : Nat) (wlW : Nat → Int64) (wlTa : Nat) (wlT : Nat → Int32) (wlC : Int32) (w0 : Int64) (k0 : Int32) (wlW' : Nat → Int64) (wlT' : Nat → Int32) (wlC' : Int32) (hd : D_WordList_note wln w0 k0 wlW wlT wlC wlW' wlT' wlC') : Ctr l y_WordList_note (Cond.code y_WordList_note b_WordList_note 5 none :: ga) { frames := 1, cells := 0, slots := 0, locals := 25 } (dC, dI) classes (Tys cI cL cZ) [.ref wl, .long w0, .int k0] ((sh_WordList cI cL cZ wl wlWa wln wlW wlTa wlT wlC)) none ((sh_WordList cI cL cZ wl wlWa wln wlW' wlTa wlT' wlC')) := by
  refine Ctr.ofW (by decide) (Nat.le_of_ble_eq_true rfl) ?_
  intro p e s m below meth c A ls hx hb hr hml hown hlocks hts hK hN hA hP hD hS hl
  have hown : s.vm.findClass R_WordList = some m.cls := hown
  have hl : lv_has ls 5 [(0, .ref wl), (1, .long w0), (3, .int k0)] := hl
  have key : ∀ n : Nat, (∀ (y1 : Int64) (x3 : Int32) (x4 : Int32) (wlW : Nat → Int64) (wlT : Nat → Int32) (wlC : Int32) (ls : Array Slot) (H : Heap) (locs : List Loc), lv_has ls 5 [(0, .ref wl), (1, .long y1), (3, .int x3), (4, .int x4)] → va_P (dC, dI) classes ((sh_WordList cI cL cZ wl wlWa wln wlW wlTa wlT wlC)) H → va_D A ((sh_WordList cI cL cZ wl wlWa wln wlW wlTa wlT wlC)) → va_S A s.heap H locs → T_WordList_note wln wlW' wlT' wlC' n y1 x3 x4 wlW wlT wlC → W p l e ({ frames := 1, cells := 0, slots := 0, locals := 25 }) s m ([.ref wl, .long w0, .int k0] : List Value).toArray below meth c H locs 0 0 (MQ below (Qs (dC, dI) classes (Tys cI cL cZ) none ((sh_WordList cI cL cZ wl wlWa wln wlW' wlTa wlT' wlC')) A) ([.ref wl, .long w0, .int k0] : List Value).toArray s 0 0 A) (F0 m 42 ls [])) := by
    intro n
    induction n with
    | zero =>
      exact fun _ _ _ _ _ _ _ _ _ _ _ _ _ hd => False.elim hd
    | succ n ih =>
      · intro y1 x3 x4 wlW wlT wlC ls H locs hl hP hD hS hd
        have hd : B_WordList_note_42 wln wlW' wlT' wlC' (T_WordList_note wln wlW' wlT' wlC' n) y1 x3 x4 wlW wlT wlC := hd
        refine lv_aload_n hx hb d_WordList_note_42 rfl (lv_at hl 0 rfl) ?_
        refine va_get (D := (dC, dI)) (ci := 2) (v := .int wlC) (C := R_WordList) (T := F_WordList) (N := 3) hx hb hts in_WordList hown hK hP 0 rfl rfl 2 (by decide) (hts _ (List.mem_cons_of_mem _ k27_fieldLink)) (fun _ h9 => h9) rfl d_WordList_note_43 ?_
        refine lv_aload_n hx hb d_WordList_note_46 rfl (lv_at hl 0 rfl) ?_
        refine va_get (D := (dC, dI)) (ci := 2) (v := .ref wlWa) (C := R_WordList) (T := F_WordList) (N := 3) hx hb hts in_WordList hown hK hP 0 rfl rfl 0 (by decide) (hts _ (List.mem_cons_of_mem _ k29_fieldLink)) (fun _ h9 => h9) rfl d_WordList_note_47 ?_
        refine va_alen (v := nI wln) hx hb hK hP 1 1 rfl rfl rfl d_WordList_note_50 ?_
        refine lv_icmp_ge (tgt := 62) hx hb d_WordList_note_51 (by decide) (fun h51 => ?_) (fun h51 => ?_)
        · have hd := hd.1 h51
          obtain ⟨e0, e1, e2⟩ := hd
          subst e0
          subst e1
          subst e2
          exact ct_vret hx hb hr hlocks hK hP hD hS d_WordList_note_62
        · have hd := hd.2 h51
          refine lv_aload_n hx hb d_WordList_note_54 rfl (lv_at hl 0 rfl) ?_
          refine lv_iload hx hb d_WordList_note_55 (lv_at hl 3 rfl) ?_
          refine lv_lload_n hx hb d_WordList_note_57 rfl (lv_at hl 1 rfl) ?_
          refine lv_iload_n hx hb d_WordList_note_58 rfl (lv_at hl 2 rfl) ?_
          obtain ⟨wlW_59, wlT_59, wlC_59, c59, hd⟩ := hd
          refine ct_V (As := [.int x4, .long y1, .int x3]) (rest := []) (C := R_WordList) (ci := 2) (q := (R_WordList, F_WordList, 3)) ⟨hx, hb, hml, hown, hts⟩ fm_WordList_insert (c_WordList_insert l dC dI cI cL cZ wl wlWa wln wlW wlTa wlT wlC x4 y1 x3 wlW_59 wlT_59 wlC_59 c59) k34_methodLink k35_instanceMethod k36_selects ⟨Nat.le_of_ble_eq_true rfl, Nat.le_of_ble_eq_true rfl⟩ rfl rfl hK hN hP hD hS hA [0, 1, 2] [] rfl rfl rfl (by decide) (by decide) (by decide) 0 rfl rfl rfl rfl hl.1 rfl (Nat.le_of_ble_eq_true rfl) d_WordList_note_59 (fun H locs hP hD hS => ?_)
          have hP : va_P (dC, dI) classes ((sh_WordList cI cL cZ wl wlWa wln wlW_59 wlTa wlT_59 wlC_59)) H := hP.sub [0, 1, 2] rfl
          have hD : va_D A ((sh_WordList cI cL cZ wl wlWa wln wlW_59 wlTa wlT_59 wlC_59)) := hD.sub [0, 1, 2] (by decide) rfl
          obtain ⟨e0, e1, e2⟩ := hd
          subst e0
          subst e1
          subst e2
          exact ct_vret hx hb hr hlocks hK hP hD hS d_WordList_note_62
  obtain ⟨n, hd⟩ := hd
  refine lv_aload_n hx hb d_WordList_note_0 rfl (lv_at hl 0 rfl) ?_
  refine lv_lload_n hx hb d_WordList_note_1 rfl (lv_at hl 1 rfl) ?_
  obtain ⟨r2, c2, hd⟩ := hd
  refine ct_VR (As := [.long w0]) (rest := []) (C := R_WordList) (ci := 2) (q := (R_WordList, F_WordList, 3)) ⟨hx, hb, hml, hown, hts⟩ fm_WordList_placeOf (c_WordList_placeOf l dC dI cI cL cZ wl wlWa wln wlW wlTa wlT wlC w0 r2 c2) k31_methodLink k32_instanceMethod k33_selects ⟨Nat.le_of_ble_eq_true rfl, Nat.le_of_ble_eq_true rfl⟩ rfl rfl hK hN hP hD [0, 1, 2] rfl rfl (by decide) 0 rfl rfl rfl rfl hl.1 rfl (Nat.le_of_ble_eq_true rfl) d_WordList_note_2 ?_
  refine lv_istore (lv' := [(4, .int r2), (0, .ref wl), (1, .long w0), (3, .int k0)]) hx hb d_WordList_note_5 hl (by decide) rfl (fun ls hl => ?_)
  refine lv_iload hx hb d_WordList_note_7 (lv_at hl 0 rfl) ?_
  refine lv_aload_n hx hb d_WordList_note_9 rfl (lv_at hl 1 rfl) ?_
  refine va_get (D := (dC, dI)) (ci := 2) (v := .int wlC) (C := R_WordList) (T := F_WordList) (N := 3) hx hb hts in_WordList hown hK hP 0 rfl rfl 2 (by decide) (hts _ (List.mem_cons_of_mem _ k27_fieldLink)) (fun _ h9 => h9) rfl d_WordList_note_10 ?_
  refine lv_icmp_ge (tgt := 42) hx hb d_WordList_note_13 (by decide) (fun h13 => ?_) (fun h13 => ?_)
  · have hd := hd.1 h13
    exact (key n) w0 k0 r2 wlW wlT wlC _ _ _ (lv_sub hl [1, 2, 3, 0] rfl) hP hD hS hd
  · have hd := hd.2 h13
    refine lv_aload_n hx hb d_WordList_note_16 rfl (lv_at hl 1 rfl) ?_
    refine va_get (D := (dC, dI)) (ci := 2) (v := .ref wlWa) (C := R_WordList) (T := F_WordList) (N := 3) hx hb hts in_WordList hown hK hP 0 rfl rfl 0 (by decide) (hts _ (List.mem_cons_of_mem _ k29_fieldLink)) (fun _ h9 => h9) rfl d_WordList_note_17 ?_
    refine lv_iload hx hb d_WordList_note_20 (lv_at hl 0 rfl) ?_
    obtain ⟨h22, hd⟩ := hd
    refine va_lald hx hb hK hP 1 1 rfl rfl h22 d_WordList_note_22 ?_
    refine lv_lload_n hx hb d_WordList_note_23 rfl (lv_at hl 2 rfl) ?_
    refine W.lcmp hx hb d_WordList_note_24 ?_
    refine lv_if_ne (tgt := 42) hx hb d_WordList_note_25 (by decide) (fun h25 => ?_) (fun h25 => ?_)
    · have hd := hd.2 h25
      exact (key n) w0 k0 r2 wlW wlT wlC _ _ _ (lv_sub hl [1, 2, 3, 0] rfl) hP hD hS hd
    · have hd := hd.1 h25
      refine lv_aload_n hx hb d_WordList_note_28 rfl (lv_at hl 1 rfl) ?_
      refine va_get (D := (dC, dI)) (ci := 2) (v := .ref wlTa) (C := R_WordList) (T := F_WordList) (N := 3) hx hb hts in_WordList hown hK hP 0 rfl rfl 1 (by decide) (hts _ (List.mem_cons_of_mem _ k30_fieldLink)) (fun _ h9 => h9) rfl d_WordList_note_29 ?_
      refine lv_iload hx hb d_WordList_note_32 (lv_at hl 0 rfl) ?_
      refine lv_dup2_11 hx hb d_WordList_note_34 rfl rfl ?_
      obtain ⟨h35, hd⟩ := hd
      refine va_iald hx hb hK hP 2 0 rfl rfl h35 d_WordList_note_35 ?_
      refine lv_iload_n hx hb d_WordList_note_36 rfl (lv_at hl 3 rfl) ?_
      refine lv_ior hx hb d_WordList_note_37 ?_
      obtain ⟨h38, hd⟩ := hd
      refine va_iast hx hb hK hP hD hS 2 0 rfl rfl h38 d_WordList_note_38 (fun H locs hP hD hS => ?_)
      have hP : va_P (dC, dI) classes ((sh_WordList cI cL cZ wl wlWa wln wlW wlTa (upd wlT (Int32.toNatClampNeg r2) ((wlT (Int32.toNatClampNeg r2)) ||| k0)) wlC)) H := hP
      have hD : va_D A ((sh_WordList cI cL cZ wl wlWa wln wlW wlTa (upd wlT (Int32.toNatClampNeg r2) ((wlT (Int32.toNatClampNeg r2)) ||| k0)) wlC)) := hD
      refine lv_goto (tgt := 62) hx hb d_WordList_note_39 (by decide) ?_
      obtain ⟨e0, e1, e2⟩ := hd
      subst e0
      subst e1
      subst e2
      exact ct_vret hx hb hr hlocks hK hP hD hS d_WordList_note_62
-- WordList.topicsOf
abbrev b_WordList_topicsOf : ByteArray := prog_12_method_7_code
def y_WordList_topicsOf : MethodName := ⟨"HelpFile$WordList", "topicsOf", "(J)I"⟩
set_option maxRecDepth 100000 in
theorem fm_WordList_topicsOf : Fm y_WordList_topicsOf b_WordList_topicsOf 4 (some .int) 1 := ⟨ga_t 935 rfl rfl, k28_initialized, by decide, by decide, by decide +kernel⟩
def D_WordList_topicsOf (wln : Nat) (w0 : Int64) (wlW : Nat → Int64) (wlT : Nat → Int32) (wlC : Int32) (res : Int32) : Prop := (∃ r2 : Int32, D_WordList_placeOf wln w0 wlW wlC r2 ∧ ((wlC ≤ r2 → (res = 0)) ∧ (¬ (wlC ≤ r2) → (vp_in r2 wln ∧ (((lg_cmp (wlW (Int32.toNatClampNeg r2)) w0) = 0 → (vp_in r2 wln ∧ (res = wlT (Int32.toNatClampNeg r2)))) ∧ (¬ ((lg_cmp (wlW (Int32.toNatClampNeg r2)) w0) = 0) → (res = 0)))))))
theorem d_WordList_topicsOf_0 : decode b_WordList_topicsOf 0 = .ok (.aload_n 0, 1) := by decide +kernel
theorem d_WordList_topicsOf_1 : decode b_WordList_topicsOf 1 = .ok (.lload_n 1, 1) := by decide +kernel
theorem d_WordList_topicsOf_2 : decode b_WordList_topicsOf 2 = .ok (.invokevirtual 21, 3) := by decide +kernel
theorem d_WordList_topicsOf_5 : decode b_WordList_topicsOf 5 = .ok (.istore_n 3, 1) := by decide +kernel
theorem d_WordList_topicsOf_6 : decode b_WordList_topicsOf 6 = .ok (.iload_n 3, 1) := by decide +kernel
theorem d_WordList_topicsOf_7 : decode b_WordList_topicsOf 7 = .ok (.aload_n 0, 1) := by decide +kernel
theorem d_WordList_topicsOf_8 : decode b_WordList_topicsOf 8 = .ok (.getfield 17, 3) := by decide +kernel
theorem d_WordList_topicsOf_11 : decode b_WordList_topicsOf 11 = .ok (.if_icmp .ge 23, 3) := by decide +kernel
theorem d_WordList_topicsOf_14 : decode b_WordList_topicsOf 14 = .ok (.aload_n 0, 1) := by decide +kernel
theorem d_WordList_topicsOf_15 : decode b_WordList_topicsOf 15 = .ok (.getfield 7, 3) := by decide +kernel
theorem d_WordList_topicsOf_18 : decode b_WordList_topicsOf 18 = .ok (.iload_n 3, 1) := by decide +kernel
theorem d_WordList_topicsOf_19 : decode b_WordList_topicsOf 19 = .ok (.laload, 1) := by decide +kernel
theorem d_WordList_topicsOf_20 : decode b_WordList_topicsOf 20 = .ok (.lload_n 1, 1) := by decide +kernel
theorem d_WordList_topicsOf_21 : decode b_WordList_topicsOf 21 = .ok (.lcmp, 1) := by decide +kernel
theorem d_WordList_topicsOf_22 : decode b_WordList_topicsOf 22 = .ok (.ifCond .ne 12, 3) := by decide +kernel
theorem d_WordList_topicsOf_25 : decode b_WordList_topicsOf 25 = .ok (.aload_n 0, 1) := by decide +kernel
theorem d_WordList_topicsOf_26 : decode b_WordList_topicsOf 26 = .ok (.getfield 13, 3) := by decide +kernel
theorem d_WordList_topicsOf_29 : decode b_WordList_topicsOf 29 = .ok (.iload_n 3, 1) := by decide +kernel
theorem d_WordList_topicsOf_30 : decode b_WordList_topicsOf 30 = .ok (.iaload, 1) := by decide +kernel
theorem d_WordList_topicsOf_31 : decode b_WordList_topicsOf 31 = .ok (.goto 4, 3) := by decide +kernel
theorem d_WordList_topicsOf_34 : decode b_WordList_topicsOf 34 = .ok (.iconst 0, 1) := by decide +kernel
theorem d_WordList_topicsOf_35 : decode b_WordList_topicsOf 35 = .ok (.ireturn, 1) := by decide +kernel
set_option maxHeartbeats 4000000 in
set_option maxRecDepth 100000 in
theorem c_WordList_topicsOf (l : Launch) (dC : Nat → ClassId) (dI : Nat → Nat → Nat) (cI cL cZ : ClassId) (wl : Nat) (wlWa : Nat) (wln : Nat) (wlW : Nat → Int64) (wlTa : Nat) (wlT : Nat → Int32) (wlC : Int32) (w0 : Int64) (res : Int32) (hd : D_WordList_topicsOf wln w0 wlW wlT wlC res) : CtrR l y_WordList_topicsOf (Cond.code y_WordList_topicsOf b_WordList_topicsOf 4 (some .int) :: ga) { frames := 1, cells := 0, slots := 0, locals := 25 } (dC, dI) classes (Tys cI cL cZ) [.ref wl, .long w0] ((sh_WordList cI cL cZ wl wlWa wln wlW wlTa wlT wlC)) (some (.int res)) := by
  refine CtrR.ofW (by decide) (Nat.le_of_ble_eq_true rfl) ?_
  intro p e s m below meth c ls hx hb hr hml hown hlocks hts hK hN hP hD hl
  have hown : s.vm.findClass R_WordList = some m.cls := hown
  have hl : lv_has ls 4 [(0, .ref wl), (1, .long w0)] := hl
  refine lv_aload_n hx hb d_WordList_topicsOf_0 rfl (lv_at hl 0 rfl) ?_
  refine lv_lload_n hx hb d_WordList_topicsOf_1 rfl (lv_at hl 1 rfl) ?_
  obtain ⟨r2, c2, hd⟩ := hd
  refine ct_VR (As := [.long w0]) (rest := []) (C := R_WordList) (ci := 2) (q := (R_WordList, F_WordList, 3)) ⟨hx, hb, hml, hown, hts⟩ fm_WordList_placeOf (c_WordList_placeOf l dC dI cI cL cZ wl wlWa wln wlW wlTa wlT wlC w0 r2 c2) k31_methodLink k32_instanceMethod k33_selects ⟨Nat.le_of_ble_eq_true rfl, Nat.le_of_ble_eq_true rfl⟩ rfl rfl hK hN hP hD [0, 1, 2] rfl rfl (by decide) 0 rfl rfl rfl rfl hl.1 rfl (Nat.le_of_ble_eq_true rfl) d_WordList_topicsOf_2 ?_
  refine lv_istore_n (lv' := [(3, .int r2), (0, .ref wl), (1, .long w0)]) hx hb d_WordList_topicsOf_5 rfl hl (by decide) rfl (fun ls hl => ?_)
  refine lv_iload_n hx hb d_WordList_topicsOf_6 rfl (lv_at hl 0 rfl) ?_
  refine lv_aload_n hx hb d_WordList_topicsOf_7 rfl (lv_at hl 1 rfl) ?_
  refine va_get (D := (dC, dI)) (ci := 2) (v := .int wlC) (C := R_WordList) (T := F_WordList) (N := 3) hx hb hts in_WordList hown hK hP 0 rfl rfl 2 (by decide) (hts _ (List.mem_cons_of_mem _ k27_fieldLink)) (fun _ h9 => h9) rfl d_WordList_topicsOf_8 ?_
  refine lv_icmp_ge (tgt := 34) hx hb d_WordList_topicsOf_11 (by decide) (fun h11 => ?_) (fun h11 => ?_)
  · have hd := hd.1 h11
    refine lv_iconst (v := 0) hx hb d_WordList_topicsOf_34 (by decide) ?_
    have e0 : res = 0 := hd
    subst e0
    exact ct_iretR hx hb hr hlocks d_WordList_topicsOf_35
  · have hd := hd.2 h11
    refine lv_aload_n hx hb d_WordList_topicsOf_14 rfl (lv_at hl 1 rfl) ?_
    refine va_get (D := (dC, dI)) (ci := 2) (v := .ref wlWa) (C := R_WordList) (T := F_WordList) (N := 3) hx hb hts in_WordList hown hK hP 0 rfl rfl 0 (by decide) (hts _ (List.mem_cons_of_mem _ k29_fieldLink)) (fun _ h9 => h9) rfl d_WordList_topicsOf_15 ?_
    refine lv_iload_n hx hb d_WordList_topicsOf_18 rfl (lv_at hl 0 rfl) ?_
    obtain ⟨h19, hd⟩ := hd
    refine va_lald hx hb hK hP 1 1 rfl rfl h19 d_WordList_topicsOf_19 ?_
    refine lv_lload_n hx hb d_WordList_topicsOf_20 rfl (lv_at hl 2 rfl) ?_
    refine W.lcmp hx hb d_WordList_topicsOf_21 ?_
    refine lv_if_ne (tgt := 34) hx hb d_WordList_topicsOf_22 (by decide) (fun h22 => ?_) (fun h22 => ?_)
    · have hd := hd.2 h22
      refine lv_iconst (v := 0) hx hb d_WordList_topicsOf_34 (by decide) ?_
      have e0 : res = 0 := hd
      subst e0
      exact ct_iretR hx hb hr hlocks d_WordList_topicsOf_35
    · have hd := hd.1 h22
      refine lv_aload_n hx hb d_WordList_topicsOf_25 rfl (lv_at hl 1 rfl) ?_
      refine va_get (D := (dC, dI)) (ci := 2) (v := .ref wlTa) (C := R_WordList) (T := F_WordList) (N := 3) hx hb hts in_WordList hown hK hP 0 rfl rfl 1 (by decide) (hts _ (List.mem_cons_of_mem _ k30_fieldLink)) (fun _ h9 => h9) rfl d_WordList_topicsOf_26 ?_
      refine lv_iload_n hx hb d_WordList_topicsOf_29 rfl (lv_at hl 0 rfl) ?_
      obtain ⟨h30, hd⟩ := hd
      refine va_iald hx hb hK hP 2 0 rfl rfl h30 d_WordList_topicsOf_30 ?_
      refine lv_goto (tgt := 35) hx hb d_WordList_topicsOf_31 (by decide) ?_
      have e0 : res = wlT (Int32.toNatClampNeg r2) := hd
      subst e0
      exact ct_iretR hx hb hr hlocks d_WordList_topicsOf_35
