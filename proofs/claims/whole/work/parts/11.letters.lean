/-! 11.letters: what each method does, read off its bytecode (D_..), and its contract (c_..); written by a program of mine. -/
-- Letters.isSmall
abbrev b_Letters_isSmall : ByteArray := prog_6_method_2_code
def y_Letters_isSmall : MethodName := ⟨"HelpFile$Letters", "isSmall", "(I)Z"⟩
theorem k19_initialized : Cond.initialized "HelpFile$Letters" ∈ ga := ga_t 16 (by decide +kernel) rfl
set_option maxRecDepth 100000 in
theorem fm_Letters_isSmall : Fm y_Letters_isSmall b_Letters_isSmall 1 (some .boolean) 1 := ⟨ga_t 349 rfl rfl, k19_initialized, by decide, by decide, by decide +kernel⟩
def D_Letters_isSmall (k0 : Int32) (res : Bool) : Prop := ((k0 < 97 → (res = false)) ∧ (¬ (k0 < 97) → ((122 < k0 → (res = false)) ∧ (¬ (122 < k0) → (res = true)))))
theorem d_Letters_isSmall_0 : decode b_Letters_isSmall 0 = .ok (.iload_n 0, 1) := by decide +kernel
theorem d_Letters_isSmall_1 : decode b_Letters_isSmall 1 = .ok (.bipush 97, 2) := by decide +kernel
theorem d_Letters_isSmall_3 : decode b_Letters_isSmall 3 = .ok (.if_icmp .lt 13, 3) := by decide +kernel
theorem d_Letters_isSmall_6 : decode b_Letters_isSmall 6 = .ok (.iload_n 0, 1) := by decide +kernel
theorem d_Letters_isSmall_7 : decode b_Letters_isSmall 7 = .ok (.bipush 122, 2) := by decide +kernel
theorem d_Letters_isSmall_9 : decode b_Letters_isSmall 9 = .ok (.if_icmp .gt 7, 3) := by decide +kernel
theorem d_Letters_isSmall_12 : decode b_Letters_isSmall 12 = .ok (.iconst 1, 1) := by decide +kernel
theorem d_Letters_isSmall_13 : decode b_Letters_isSmall 13 = .ok (.goto 4, 3) := by decide +kernel
theorem d_Letters_isSmall_16 : decode b_Letters_isSmall 16 = .ok (.iconst 0, 1) := by decide +kernel
theorem d_Letters_isSmall_17 : decode b_Letters_isSmall 17 = .ok (.ireturn, 1) := by decide +kernel
set_option maxHeartbeats 4000000 in
set_option maxRecDepth 100000 in
theorem c_Letters_isSmall (l : Launch) (dC : Nat → ClassId) (dI : Nat → Nat → Nat) (cI cL cZ : ClassId) (k0 : Int32) (res : Bool) (hd : D_Letters_isSmall k0 res) : CtrR l y_Letters_isSmall (Cond.code y_Letters_isSmall b_Letters_isSmall 1 (some .boolean) :: ga) { frames := 0, cells := 0, slots := 0, locals := 0 } (dC, dI) classes (Tys cI cL cZ) [.int k0] (([] : va_W)) (some (.int (bI res))) := by
  refine CtrR.ofW (by decide) (Nat.le_of_ble_eq_true rfl) ?_
  intro p e s m below meth c ls hx hb hr hml hown hlocks hts hK hN hP hD hl
  have hown : s.vm.findClass R_Letters = some m.cls := hown
  have hl : lv_has ls 1 [(0, .int k0)] := hl
  refine lv_iload_n hx hb d_Letters_isSmall_0 rfl (lv_at hl 0 rfl) ?_
  refine lv_bipush (v := 97) hx hb d_Letters_isSmall_1 (by decide) ?_
  refine lv_icmp_lt (tgt := 16) hx hb d_Letters_isSmall_3 (by decide) (fun h3 => ?_) (fun h3 => ?_)
  · have hd := hd.1 h3
    refine lv_iconst (v := 0) hx hb d_Letters_isSmall_16 (by decide) ?_
    have e0 : res = false := hd
    subst e0
    exact ct_zretR (b := false) hx hb hr hlocks d_Letters_isSmall_17
  · have hd := hd.2 h3
    refine lv_iload_n hx hb d_Letters_isSmall_6 rfl (lv_at hl 0 rfl) ?_
    refine lv_bipush (v := 122) hx hb d_Letters_isSmall_7 (by decide) ?_
    refine lv_icmp_gt (tgt := 16) hx hb d_Letters_isSmall_9 (by decide) (fun h9 => ?_) (fun h9 => ?_)
    · have hd := hd.1 h9
      refine lv_iconst (v := 0) hx hb d_Letters_isSmall_16 (by decide) ?_
      have e0 : res = false := hd
      subst e0
      exact ct_zretR (b := false) hx hb hr hlocks d_Letters_isSmall_17
    · have hd := hd.2 h9
      refine lv_iconst (v := 1) hx hb d_Letters_isSmall_12 (by decide) ?_
      refine lv_goto (tgt := 17) hx hb d_Letters_isSmall_13 (by decide) ?_
      have e0 : res = true := hd
      subst e0
      exact ct_zretR (b := true) hx hb hr hlocks d_Letters_isSmall_17
-- Letters.isLetter
abbrev b_Letters_isLetter : ByteArray := prog_6_method_3_code
def y_Letters_isLetter : MethodName := ⟨"HelpFile$Letters", "isLetter", "(I)Z"⟩
set_option maxRecDepth 100000 in
theorem fm_Letters_isLetter : Fm y_Letters_isLetter b_Letters_isLetter 1 (some .boolean) 1 := ⟨ga_t 340 rfl rfl, k19_initialized, by decide, by decide, by decide +kernel⟩
def B_Letters_isLetter_12 (res : Bool) (X : Int32 → Prop) (x0 : Int32) : Prop := ((x0 < 65 → (res = false)) ∧ (¬ (x0 < 65) → ((90 < x0 → (res = false)) ∧ (¬ (90 < x0) → (res = true)))))
def S_Letters_isLetter (res : Bool) (X : Int32 → Prop) : Int32 → Prop := fun x0 => B_Letters_isLetter_12 res X x0
def T_Letters_isLetter (res : Bool) : Nat → (Int32 → Prop)
  | 0 => fun _ => False
  | n + 1 => S_Letters_isLetter res (T_Letters_isLetter res n)
def D_Letters_isLetter (k0 : Int32) (res : Bool) : Prop := ∃ n : Nat, ((k0 < 97 → T_Letters_isLetter res n k0) ∧ (¬ (k0 < 97) → ((k0 ≤ 122 → (res = true)) ∧ (¬ (k0 ≤ 122) → T_Letters_isLetter res n k0))))
theorem d_Letters_isLetter_0 : decode b_Letters_isLetter 0 = .ok (.iload_n 0, 1) := by decide +kernel
theorem d_Letters_isLetter_1 : decode b_Letters_isLetter 1 = .ok (.bipush 97, 2) := by decide +kernel
theorem d_Letters_isLetter_3 : decode b_Letters_isLetter 3 = .ok (.if_icmp .lt 9, 3) := by decide +kernel
theorem d_Letters_isLetter_6 : decode b_Letters_isLetter 6 = .ok (.iload_n 0, 1) := by decide +kernel
theorem d_Letters_isLetter_7 : decode b_Letters_isLetter 7 = .ok (.bipush 122, 2) := by decide +kernel
theorem d_Letters_isLetter_9 : decode b_Letters_isLetter 9 = .ok (.if_icmp .le 15, 3) := by decide +kernel
theorem d_Letters_isLetter_12 : decode b_Letters_isLetter 12 = .ok (.iload_n 0, 1) := by decide +kernel
theorem d_Letters_isLetter_13 : decode b_Letters_isLetter 13 = .ok (.bipush 65, 2) := by decide +kernel
theorem d_Letters_isLetter_15 : decode b_Letters_isLetter 15 = .ok (.if_icmp .lt 13, 3) := by decide +kernel
theorem d_Letters_isLetter_18 : decode b_Letters_isLetter 18 = .ok (.iload_n 0, 1) := by decide +kernel
theorem d_Letters_isLetter_19 : decode b_Letters_isLetter 19 = .ok (.bipush 90, 2) := by decide +kernel
theorem d_Letters_isLetter_21 : decode b_Letters_isLetter 21 = .ok (.if_icmp .gt 7, 3) := by decide +kernel
theorem d_Letters_isLetter_24 : decode b_Letters_isLetter 24 = .ok (.iconst 1, 1) := by decide +kernel
theorem d_Letters_isLetter_25 : decode b_Letters_isLetter 25 = .ok (.goto 4, 3) := by decide +kernel
theorem d_Letters_isLetter_28 : decode b_Letters_isLetter 28 = .ok (.iconst 0, 1) := by decide +kernel
theorem d_Letters_isLetter_29 : decode b_Letters_isLetter 29 = .ok (.ireturn, 1) := by decide +kernel
set_option maxHeartbeats 4000000 in
set_option maxRecDepth 100000 in
theorem c_Letters_isLetter (l : Launch) (dC : Nat → ClassId) (dI : Nat → Nat → Nat) (cI cL cZ : ClassId) (k0 : Int32) (res : Bool) (hd : D_Letters_isLetter k0 res) : CtrR l y_Letters_isLetter (Cond.code y_Letters_isLetter b_Letters_isLetter 1 (some .boolean) :: ga) { frames := 0, cells := 0, slots := 0, locals := 0 } (dC, dI) classes (Tys cI cL cZ) [.int k0] (([] : va_W)) (some (.int (bI res))) := by
  refine CtrR.ofW (by decide) (Nat.le_of_ble_eq_true rfl) ?_
  intro p e s m below meth c ls hx hb hr hml hown hlocks hts hK hN hP hD hl
  have hown : s.vm.findClass R_Letters = some m.cls := hown
  have hl : lv_has ls 1 [(0, .int k0)] := hl
  have key : ∀ n : Nat, (∀ (x0 : Int32) (ls : Array Slot), lv_has ls 1 [(0, .int x0)] → T_Letters_isLetter res n x0 → W p l e ({ frames := 0, cells := 0, slots := 0, locals := 0 }) s m ([.int k0] : List Value).toArray below meth c s.heap [] 0 0 (MQ below (Qr (some (.int (bI res)))) ([.int k0] : List Value).toArray s 0 0 (fun _ => False)) (F0 m 12 ls [])) := by
    intro n
    induction n with
    | zero =>
      exact fun _ _ _ hd => False.elim hd
    | succ n ih =>
      · intro x0 ls hl hd
        have hd : B_Letters_isLetter_12 res (T_Letters_isLetter res n) x0 := hd
        refine lv_iload_n hx hb d_Letters_isLetter_12 rfl (lv_at hl 0 rfl) ?_
        refine lv_bipush (v := 65) hx hb d_Letters_isLetter_13 (by decide) ?_
        refine lv_icmp_lt (tgt := 28) hx hb d_Letters_isLetter_15 (by decide) (fun h15 => ?_) (fun h15 => ?_)
        · have hd := hd.1 h15
          refine lv_iconst (v := 0) hx hb d_Letters_isLetter_28 (by decide) ?_
          have e0 : res = false := hd
          subst e0
          exact ct_zretR (b := false) hx hb hr hlocks d_Letters_isLetter_29
        · have hd := hd.2 h15
          refine lv_iload_n hx hb d_Letters_isLetter_18 rfl (lv_at hl 0 rfl) ?_
          refine lv_bipush (v := 90) hx hb d_Letters_isLetter_19 (by decide) ?_
          refine lv_icmp_gt (tgt := 28) hx hb d_Letters_isLetter_21 (by decide) (fun h21 => ?_) (fun h21 => ?_)
          · have hd := hd.1 h21
            refine lv_iconst (v := 0) hx hb d_Letters_isLetter_28 (by decide) ?_
            have e0 : res = false := hd
            subst e0
            exact ct_zretR (b := false) hx hb hr hlocks d_Letters_isLetter_29
          · have hd := hd.2 h21
            refine lv_iconst (v := 1) hx hb d_Letters_isLetter_24 (by decide) ?_
            refine lv_goto (tgt := 29) hx hb d_Letters_isLetter_25 (by decide) ?_
            have e0 : res = true := hd
            subst e0
            exact ct_zretR (b := true) hx hb hr hlocks d_Letters_isLetter_29
  obtain ⟨n, hd⟩ := hd
  refine lv_iload_n hx hb d_Letters_isLetter_0 rfl (lv_at hl 0 rfl) ?_
  refine lv_bipush (v := 97) hx hb d_Letters_isLetter_1 (by decide) ?_
  refine lv_icmp_lt (tgt := 12) hx hb d_Letters_isLetter_3 (by decide) (fun h3 => ?_) (fun h3 => ?_)
  · have hd := hd.1 h3
    exact (key n) k0 _ (lv_sub hl [0] rfl) hd
  · have hd := hd.2 h3
    refine lv_iload_n hx hb d_Letters_isLetter_6 rfl (lv_at hl 0 rfl) ?_
    refine lv_bipush (v := 122) hx hb d_Letters_isLetter_7 (by decide) ?_
    refine lv_icmp_le (tgt := 24) hx hb d_Letters_isLetter_9 (by decide) (fun h9 => ?_) (fun h9 => ?_)
    · have hd := hd.1 h9
      refine lv_iconst (v := 1) hx hb d_Letters_isLetter_24 (by decide) ?_
      refine lv_goto (tgt := 29) hx hb d_Letters_isLetter_25 (by decide) ?_
      have e0 : res = true := hd
      subst e0
      exact ct_zretR (b := true) hx hb hr hlocks d_Letters_isLetter_29
    · have hd := hd.2 h9
      exact (key n) k0 _ (lv_sub hl [0] rfl) hd
-- Letters.lettersEnd
abbrev b_Letters_lettersEnd : ByteArray := prog_6_method_4_code
def y_Letters_lettersEnd : MethodName := ⟨"HelpFile$Letters", "lettersEnd", "(LHelpFile$Row;II)I"⟩
theorem k20_methodLink : Cond.methodLink "HelpFile$Letters" 9 ⟨"HelpFile$Row", "element", "(I)I"⟩ ∈ ga := ga_t 337 (by decide +kernel) rfl
theorem k21_methodLink : Cond.methodLink "HelpFile$Letters" 15 ⟨"HelpFile$Letters", "isLetter", "(I)Z"⟩ ∈ ga := ga_t 338 (by decide +kernel) rfl
theorem k22_static : Cond.static ⟨"HelpFile$Letters", "isLetter", "(I)Z"⟩ ∈ ga := ga_t 339 (by decide +kernel) rfl
set_option maxRecDepth 100000 in
theorem fm_Letters_lettersEnd : Fm y_Letters_lettersEnd b_Letters_lettersEnd 4 (some .int) 3 := ⟨ga_t 396 rfl rfl, k19_initialized, by decide, by decide, by decide +kernel⟩
def B_Letters_lettersEnd_2 (ron : Nat) (roE : Nat → Int32) (roC : Int32) (res : Int32) (X : Int32 → Int32 → Prop) (x2 : Int32) (x3 : Int32) : Prop := ((x2 ≤ x3 → (res = x3)) ∧ (¬ (x2 ≤ x3) → (∃ r9 : Int32, D_Row_element ron x3 roE roC r9 ∧ (∃ r12 : Bool, D_Letters_isLetter r9 r12 ∧ (((bI r12) = 0 → (res = x3)) ∧ (¬ ((bI r12) = 0) → X x2 (x3 + 1)))))))
def S_Letters_lettersEnd (ron : Nat) (roE : Nat → Int32) (roC : Int32) (res : Int32) (X : Int32 → Int32 → Prop) : Int32 → Int32 → Prop := fun x2 x3 => B_Letters_lettersEnd_2 ron roE roC res X x2 x3
def T_Letters_lettersEnd (ron : Nat) (roE : Nat → Int32) (roC : Int32) (res : Int32) : Nat → (Int32 → Int32 → Prop)
  | 0 => fun _ _ => False
  | n + 1 => S_Letters_lettersEnd ron roE roC res (T_Letters_lettersEnd ron roE roC res n)
def D_Letters_lettersEnd (ron : Nat) (k0 : Int32) (k1 : Int32) (roE : Nat → Int32) (roC : Int32) (res : Int32) : Prop := ∃ n : Nat, T_Letters_lettersEnd ron roE roC res n k1 k0
theorem d_Letters_lettersEnd_0 : decode b_Letters_lettersEnd 0 = .ok (.iload_n 1, 1) := by decide +kernel
theorem d_Letters_lettersEnd_1 : decode b_Letters_lettersEnd 1 = .ok (.istore_n 3, 1) := by decide +kernel
theorem d_Letters_lettersEnd_2 : decode b_Letters_lettersEnd 2 = .ok (.iload_n 3, 1) := by decide +kernel
theorem d_Letters_lettersEnd_3 : decode b_Letters_lettersEnd 3 = .ok (.iload_n 2, 1) := by decide +kernel
theorem d_Letters_lettersEnd_4 : decode b_Letters_lettersEnd 4 = .ok (.if_icmp .ge 20, 3) := by decide +kernel
theorem d_Letters_lettersEnd_7 : decode b_Letters_lettersEnd 7 = .ok (.aload_n 0, 1) := by decide +kernel
theorem d_Letters_lettersEnd_8 : decode b_Letters_lettersEnd 8 = .ok (.iload_n 3, 1) := by decide +kernel
theorem d_Letters_lettersEnd_9 : decode b_Letters_lettersEnd 9 = .ok (.invokevirtual 9, 3) := by decide +kernel
theorem d_Letters_lettersEnd_12 : decode b_Letters_lettersEnd 12 = .ok (.invokestatic 15, 3) := by decide +kernel
theorem d_Letters_lettersEnd_15 : decode b_Letters_lettersEnd 15 = .ok (.ifCond .eq 9, 3) := by decide +kernel
theorem d_Letters_lettersEnd_18 : decode b_Letters_lettersEnd 18 = .ok (.iinc 3 1, 3) := by decide +kernel
theorem d_Letters_lettersEnd_21 : decode b_Letters_lettersEnd 21 = .ok (.goto (-19), 3) := by decide +kernel
theorem d_Letters_lettersEnd_24 : decode b_Letters_lettersEnd 24 = .ok (.iload_n 3, 1) := by decide +kernel
theorem d_Letters_lettersEnd_25 : decode b_Letters_lettersEnd 25 = .ok (.ireturn, 1) := by decide +kernel
set_option maxHeartbeats 4000000 in
set_option maxRecDepth 100000 in
theorem c_Letters_lettersEnd (l : Launch) (dC : Nat → ClassId) (dI : Nat → Nat → Nat) (cI cL cZ : ClassId) (ro : Nat) (roEa : Nat) (ron : Nat) (roE : Nat → Int32) (roC : Int32) (roO : Bool) (k0 : Int32) (k1 : Int32) (res : Int32) (hd : D_Letters_lettersEnd ron k0 k1 roE roC res) : CtrR l y_Letters_lettersEnd (Cond.code y_Letters_lettersEnd b_Letters_lettersEnd 4 (some .int) :: ga) { frames := 1, cells := 0, slots := 0, locals := 21 } (dC, dI) classes (Tys cI cL cZ) [.ref ro, .int k0, .int k1] ((sh_Row cI cL cZ ro roEa ron roE roC roO)) (some (.int res)) := by
  refine CtrR.ofW (by decide) (Nat.le_of_ble_eq_true rfl) ?_
  intro p e s m below meth c ls hx hb hr hml hown hlocks hts hK hN hP hD hl
  have hown : s.vm.findClass R_Letters = some m.cls := hown
  have hl : lv_has ls 4 [(0, .ref ro), (1, .int k0), (2, .int k1)] := hl
  have key : ∀ n : Nat, (∀ (x2 : Int32) (x3 : Int32) (ls : Array Slot), lv_has ls 4 [(0, .ref ro), (2, .int x2), (3, .int x3)] → T_Letters_lettersEnd ron roE roC res n x2 x3 → W p l e ({ frames := 1, cells := 0, slots := 0, locals := 21 }) s m ([.ref ro, .int k0, .int k1] : List Value).toArray below meth c s.heap [] 0 0 (MQ below (Qr (some (.int res))) ([.ref ro, .int k0, .int k1] : List Value).toArray s 0 0 (fun _ => False)) (F0 m 2 ls [])) := by
    intro n
    induction n with
    | zero =>
      exact fun _ _ _ _ hd => False.elim hd
    | succ n ih =>
      · intro x2 x3 ls hl hd
        have hd : B_Letters_lettersEnd_2 ron roE roC res (T_Letters_lettersEnd ron roE roC res n) x2 x3 := hd
        refine lv_iload_n hx hb d_Letters_lettersEnd_2 rfl (lv_at hl 2 rfl) ?_
        refine lv_iload_n hx hb d_Letters_lettersEnd_3 rfl (lv_at hl 1 rfl) ?_
        refine lv_icmp_ge (tgt := 24) hx hb d_Letters_lettersEnd_4 (by decide) (fun h4 => ?_) (fun h4 => ?_)
        · have hd := hd.1 h4
          refine lv_iload_n hx hb d_Letters_lettersEnd_24 rfl (lv_at hl 2 rfl) ?_
          have e0 : res = x3 := hd
          subst e0
          exact ct_iretR hx hb hr hlocks d_Letters_lettersEnd_25
        · have hd := hd.2 h4
          refine lv_aload_n hx hb d_Letters_lettersEnd_7 rfl (lv_at hl 0 rfl) ?_
          refine lv_iload_n hx hb d_Letters_lettersEnd_8 rfl (lv_at hl 2 rfl) ?_
          obtain ⟨r9, c9, hd⟩ := hd
          refine ct_VR (As := [.int x3]) (rest := []) (C := R_Row) (ci := 1) (q := (R_Row, F_Row, 3)) ⟨hx, hb, hml, hown, hts⟩ fm_Row_element (c_Row_element l dC dI cI cL cZ ro roEa ron roE roC roO x3 r9 c9) k20_methodLink k4_instanceMethod k5_selects ⟨Nat.le_of_ble_eq_true rfl, Nat.le_of_ble_eq_true rfl⟩ rfl rfl hK hN hP hD [0, 1] rfl rfl (by decide) 0 rfl rfl rfl rfl hl.1 rfl (Nat.le_of_ble_eq_true rfl) d_Letters_lettersEnd_9 ?_
          obtain ⟨r12, c12, hd⟩ := hd
          refine ct_SR (As := [.int r9]) (rest := []) ⟨hx, hb, hml, hown, hts⟩ fm_Letters_isLetter (c_Letters_isLetter l dC dI cI cL cZ r9 r12 c12) k21_methodLink k22_static ⟨Nat.le_of_ble_eq_true rfl, Nat.le_of_ble_eq_true rfl⟩ rfl rfl hK hN hP hD [] rfl rfl (by decide) rfl hl.1 rfl (Nat.le_of_ble_eq_true rfl) d_Letters_lettersEnd_12 ?_
          refine lv_if_eq (tgt := 24) hx hb d_Letters_lettersEnd_15 (by decide) (fun h15 => ?_) (fun h15 => ?_)
          · have hd := hd.1 h15
            refine lv_iload_n hx hb d_Letters_lettersEnd_24 rfl (lv_at hl 2 rfl) ?_
            have e0 : res = x3 := hd
            subst e0
            exact ct_iretR hx hb hr hlocks d_Letters_lettersEnd_25
          · have hd := hd.2 h15
            refine lv_iinc (k := 2) (v := x3 + 1) (lv' := [(3, .int (x3 + 1)), (0, .ref ro), (2, .int x2)]) hx hb d_Letters_lettersEnd_18 hl rfl (congrArg (fun z => x3 + z) (by decide)) (by decide) rfl (fun ls hl => ?_)
            refine lv_goto (tgt := 2) hx hb d_Letters_lettersEnd_21 (by decide) ?_
            exact ih x2 (x3 + 1) _ (lv_sub hl [1, 2, 0] rfl) hd
  obtain ⟨n, hd⟩ := hd
  refine lv_iload_n hx hb d_Letters_lettersEnd_0 rfl (lv_at hl 1 rfl) ?_
  refine lv_istore_n (lv' := [(3, .int k0), (0, .ref ro), (1, .int k0), (2, .int k1)]) hx hb d_Letters_lettersEnd_1 rfl hl (by decide) rfl (fun ls hl => ?_)
  exact (key n) k1 k0 _ (lv_sub hl [1, 3, 0] rfl) hd
-- Letters.isWord
abbrev b_Letters_isWord : ByteArray := prog_6_method_5_code
def y_Letters_isWord : MethodName := ⟨"HelpFile$Letters", "isWord", "(LHelpFile$Row;III)Z"⟩
theorem k23_methodLink : Cond.methodLink "HelpFile$Letters" 21 ⟨"HelpFile$Letters", "isSmall", "(I)Z"⟩ ∈ ga := ga_t 347 (by decide +kernel) rfl
theorem k24_static : Cond.static ⟨"HelpFile$Letters", "isSmall", "(I)Z"⟩ ∈ ga := ga_t 348 (by decide +kernel) rfl
set_option maxRecDepth 100000 in
theorem fm_Letters_isWord : Fm y_Letters_isWord b_Letters_isWord 5 (some .boolean) 4 := ⟨ga_t 346 rfl rfl, k19_initialized, by decide, by decide, by decide +kernel⟩
def B_Letters_isWord_3 (ron : Nat) (roE : Nat → Int32) (roC : Int32) (res : Bool) (X : Int32 → Int32 → Int32 → Int32 → Prop) (x1 : Int32) (x2 : Int32) (x3 : Int32) (x4 : Int32) : Prop := ((x2 ≤ x4 → ((x2 ≤ x1 → (res = false)) ∧ (¬ (x2 ≤ x1) → ((x3 < (x2 - x1) → (res = false)) ∧ (¬ (x3 < (x2 - x1)) → (res = true)))))) ∧ (¬ (x2 ≤ x4) → (∃ r12 : Int32, D_Row_element ron x4 roE roC r12 ∧ (∃ r15 : Bool, D_Letters_isSmall r12 r15 ∧ (((bI r15) = 0 → (res = false)) ∧ (¬ ((bI r15) = 0) → X x1 x2 x3 (x4 + 1)))))))
def S_Letters_isWord (ron : Nat) (roE : Nat → Int32) (roC : Int32) (res : Bool) (X : Int32 → Int32 → Int32 → Int32 → Prop) : Int32 → Int32 → Int32 → Int32 → Prop := fun x1 x2 x3 x4 => B_Letters_isWord_3 ron roE roC res X x1 x2 x3 x4
def T_Letters_isWord (ron : Nat) (roE : Nat → Int32) (roC : Int32) (res : Bool) : Nat → (Int32 → Int32 → Int32 → Int32 → Prop)
  | 0 => fun _ _ _ _ => False
  | n + 1 => S_Letters_isWord ron roE roC res (T_Letters_isWord ron roE roC res n)
def D_Letters_isWord (ron : Nat) (k0 : Int32) (k1 : Int32) (k2 : Int32) (roE : Nat → Int32) (roC : Int32) (res : Bool) : Prop := ∃ n : Nat, T_Letters_isWord ron roE roC res n k0 k1 k2 k0
theorem d_Letters_isWord_0 : decode b_Letters_isWord 0 = .ok (.iload_n 1, 1) := by decide +kernel
theorem d_Letters_isWord_1 : decode b_Letters_isWord 1 = .ok (.istore 4, 2) := by decide +kernel
theorem d_Letters_isWord_3 : decode b_Letters_isWord 3 = .ok (.iload 4, 2) := by decide +kernel
theorem d_Letters_isWord_5 : decode b_Letters_isWord 5 = .ok (.iload_n 2, 1) := by decide +kernel
theorem d_Letters_isWord_6 : decode b_Letters_isWord 6 = .ok (.if_icmp .ge 23, 3) := by decide +kernel
theorem d_Letters_isWord_9 : decode b_Letters_isWord 9 = .ok (.aload_n 0, 1) := by decide +kernel
theorem d_Letters_isWord_10 : decode b_Letters_isWord 10 = .ok (.iload 4, 2) := by decide +kernel
theorem d_Letters_isWord_12 : decode b_Letters_isWord 12 = .ok (.invokevirtual 9, 3) := by decide +kernel
theorem d_Letters_isWord_15 : decode b_Letters_isWord 15 = .ok (.invokestatic 21, 3) := by decide +kernel
theorem d_Letters_isWord_18 : decode b_Letters_isWord 18 = .ok (.ifCond .ne 5, 3) := by decide +kernel
theorem d_Letters_isWord_21 : decode b_Letters_isWord 21 = .ok (.iconst 0, 1) := by decide +kernel
theorem d_Letters_isWord_22 : decode b_Letters_isWord 22 = .ok (.ireturn, 1) := by decide +kernel
theorem d_Letters_isWord_23 : decode b_Letters_isWord 23 = .ok (.iinc 4 1, 3) := by decide +kernel
theorem d_Letters_isWord_26 : decode b_Letters_isWord 26 = .ok (.goto (-23), 3) := by decide +kernel
theorem d_Letters_isWord_29 : decode b_Letters_isWord 29 = .ok (.iload_n 2, 1) := by decide +kernel
theorem d_Letters_isWord_30 : decode b_Letters_isWord 30 = .ok (.iload_n 1, 1) := by decide +kernel
theorem d_Letters_isWord_31 : decode b_Letters_isWord 31 = .ok (.if_icmp .le 14, 3) := by decide +kernel
theorem d_Letters_isWord_34 : decode b_Letters_isWord 34 = .ok (.iload_n 2, 1) := by decide +kernel
theorem d_Letters_isWord_35 : decode b_Letters_isWord 35 = .ok (.iload_n 1, 1) := by decide +kernel
theorem d_Letters_isWord_36 : decode b_Letters_isWord 36 = .ok (.isub, 1) := by decide +kernel
theorem d_Letters_isWord_37 : decode b_Letters_isWord 37 = .ok (.iload_n 3, 1) := by decide +kernel
theorem d_Letters_isWord_38 : decode b_Letters_isWord 38 = .ok (.if_icmp .gt 7, 3) := by decide +kernel
theorem d_Letters_isWord_41 : decode b_Letters_isWord 41 = .ok (.iconst 1, 1) := by decide +kernel
theorem d_Letters_isWord_42 : decode b_Letters_isWord 42 = .ok (.goto 4, 3) := by decide +kernel
theorem d_Letters_isWord_45 : decode b_Letters_isWord 45 = .ok (.iconst 0, 1) := by decide +kernel
theorem d_Letters_isWord_46 : decode b_Letters_isWord 46 = .ok (.ireturn, 1) := by decide +kernel
set_option maxHeartbeats 4000000 in
set_option maxRecDepth 100000 in
theorem c_Letters_isWord (l : Launch) (dC : Nat → ClassId) (dI : Nat → Nat → Nat) (cI cL cZ : ClassId) (ro : Nat) (roEa : Nat) (ron : Nat) (roE : Nat → Int32) (roC : Int32) (roO : Bool) (k0 : Int32) (k1 : Int32) (k2 : Int32) (res : Bool) (hd : D_Letters_isWord ron k0 k1 k2 roE roC res) : CtrR l y_Letters_isWord (Cond.code y_Letters_isWord b_Letters_isWord 5 (some .boolean) :: ga) { frames := 1, cells := 0, slots := 0, locals := 21 } (dC, dI) classes (Tys cI cL cZ) [.ref ro, .int k0, .int k1, .int k2] ((sh_Row cI cL cZ ro roEa ron roE roC roO)) (some (.int (bI res))) := by
  refine CtrR.ofW (by decide) (Nat.le_of_ble_eq_true rfl) ?_
  intro p e s m below meth c ls hx hb hr hml hown hlocks hts hK hN hP hD hl
  have hown : s.vm.findClass R_Letters = some m.cls := hown
  have hl : lv_has ls 5 [(0, .ref ro), (1, .int k0), (2, .int k1), (3, .int k2)] := hl
  have key : ∀ n : Nat, (∀ (x1 : Int32) (x2 : Int32) (x3 : Int32) (x4 : Int32) (ls : Array Slot), lv_has ls 5 [(0, .ref ro), (1, .int x1), (2, .int x2), (3, .int x3), (4, .int x4)] → T_Letters_isWord ron roE roC res n x1 x2 x3 x4 → W p l e ({ frames := 1, cells := 0, slots := 0, locals := 21 }) s m ([.ref ro, .int k0, .int k1, .int k2] : List Value).toArray below meth c s.heap [] 0 0 (MQ below (Qr (some (.int (bI res)))) ([.ref ro, .int k0, .int k1, .int k2] : List Value).toArray s 0 0 (fun _ => False)) (F0 m 3 ls [])) := by
    intro n
    induction n with
    | zero =>
      exact fun _ _ _ _ _ _ hd => False.elim hd
    | succ n ih =>
      · intro x1 x2 x3 x4 ls hl hd
        have hd : B_Letters_isWord_3 ron roE roC res (T_Letters_isWord ron roE roC res n) x1 x2 x3 x4 := hd
        refine lv_iload hx hb d_Letters_isWord_3 (lv_at hl 4 rfl) ?_
        refine lv_iload_n hx hb d_Letters_isWord_5 rfl (lv_at hl 2 rfl) ?_
        refine lv_icmp_ge (tgt := 29) hx hb d_Letters_isWord_6 (by decide) (fun h6 => ?_) (fun h6 => ?_)
        · have hd := hd.1 h6
          refine lv_iload_n hx hb d_Letters_isWord_29 rfl (lv_at hl 2 rfl) ?_
          refine lv_iload_n hx hb d_Letters_isWord_30 rfl (lv_at hl 1 rfl) ?_
          refine lv_icmp_le (tgt := 45) hx hb d_Letters_isWord_31 (by decide) (fun h31 => ?_) (fun h31 => ?_)
          · have hd := hd.1 h31
            refine lv_iconst (v := 0) hx hb d_Letters_isWord_45 (by decide) ?_
            have e0 : res = false := hd
            subst e0
            exact ct_zretR (b := false) hx hb hr hlocks d_Letters_isWord_46
          · have hd := hd.2 h31
            refine lv_iload_n hx hb d_Letters_isWord_34 rfl (lv_at hl 2 rfl) ?_
            refine lv_iload_n hx hb d_Letters_isWord_35 rfl (lv_at hl 1 rfl) ?_
            refine lv_isub hx hb d_Letters_isWord_36 ?_
            refine lv_iload_n hx hb d_Letters_isWord_37 rfl (lv_at hl 3 rfl) ?_
            refine lv_icmp_gt (tgt := 45) hx hb d_Letters_isWord_38 (by decide) (fun h38 => ?_) (fun h38 => ?_)
            · have hd := hd.1 h38
              refine lv_iconst (v := 0) hx hb d_Letters_isWord_45 (by decide) ?_
              have e0 : res = false := hd
              subst e0
              exact ct_zretR (b := false) hx hb hr hlocks d_Letters_isWord_46
            · have hd := hd.2 h38
              refine lv_iconst (v := 1) hx hb d_Letters_isWord_41 (by decide) ?_
              refine lv_goto (tgt := 46) hx hb d_Letters_isWord_42 (by decide) ?_
              have e0 : res = true := hd
              subst e0
              exact ct_zretR (b := true) hx hb hr hlocks d_Letters_isWord_46
        · have hd := hd.2 h6
          refine lv_aload_n hx hb d_Letters_isWord_9 rfl (lv_at hl 0 rfl) ?_
          refine lv_iload hx hb d_Letters_isWord_10 (lv_at hl 4 rfl) ?_
          obtain ⟨r12, c12, hd⟩ := hd
          refine ct_VR (As := [.int x4]) (rest := []) (C := R_Row) (ci := 1) (q := (R_Row, F_Row, 3)) ⟨hx, hb, hml, hown, hts⟩ fm_Row_element (c_Row_element l dC dI cI cL cZ ro roEa ron roE roC roO x4 r12 c12) k20_methodLink k4_instanceMethod k5_selects ⟨Nat.le_of_ble_eq_true rfl, Nat.le_of_ble_eq_true rfl⟩ rfl rfl hK hN hP hD [0, 1] rfl rfl (by decide) 0 rfl rfl rfl rfl hl.1 rfl (Nat.le_of_ble_eq_true rfl) d_Letters_isWord_12 ?_
          obtain ⟨r15, c15, hd⟩ := hd
          refine ct_SR (As := [.int r12]) (rest := []) ⟨hx, hb, hml, hown, hts⟩ fm_Letters_isSmall (c_Letters_isSmall l dC dI cI cL cZ r12 r15 c15) k23_methodLink k24_static ⟨Nat.le_of_ble_eq_true rfl, Nat.le_of_ble_eq_true rfl⟩ rfl rfl hK hN hP hD [] rfl rfl (by decide) rfl hl.1 rfl (Nat.le_of_ble_eq_true rfl) d_Letters_isWord_15 ?_
          refine lv_if_ne (tgt := 23) hx hb d_Letters_isWord_18 (by decide) (fun h18 => ?_) (fun h18 => ?_)
          · have hd := hd.2 h18
            refine lv_iinc (k := 4) (v := x4 + 1) (lv' := [(4, .int (x4 + 1)), (0, .ref ro), (1, .int x1), (2, .int x2), (3, .int x3)]) hx hb d_Letters_isWord_23 hl rfl (congrArg (fun z => x4 + z) (by decide)) (by decide) rfl (fun ls hl => ?_)
            refine lv_goto (tgt := 3) hx hb d_Letters_isWord_26 (by decide) ?_
            exact ih x1 x2 x3 (x4 + 1) _ (lv_sub hl [1, 2, 3, 4, 0] rfl) hd
          · have hd := hd.1 h18
            refine lv_iconst (v := 0) hx hb d_Letters_isWord_21 (by decide) ?_
            have e0 : res = false := hd
            subst e0
            exact ct_zretR (b := false) hx hb hr hlocks d_Letters_isWord_22
  obtain ⟨n, hd⟩ := hd
  refine lv_iload_n hx hb d_Letters_isWord_0 rfl (lv_at hl 1 rfl) ?_
  refine lv_istore (lv' := [(4, .int k0), (0, .ref ro), (1, .int k0), (2, .int k1), (3, .int k2)]) hx hb d_Letters_isWord_1 hl (by decide) rfl (fun ls hl => ?_)
  exact (key n) k0 k1 k2 k0 _ (lv_sub hl [1, 2, 3, 4, 0] rfl) hd
-- Letters.extended
abbrev b_Letters_extended : ByteArray := prog_6_method_7_code
def y_Letters_extended : MethodName := ⟨"HelpFile$Letters", "extended", "(JII)J"⟩
set_option maxRecDepth 100000 in
theorem fm_Letters_extended : Fm y_Letters_extended b_Letters_extended 6 (some .long) 3 := ⟨ga_t 343 rfl rfl, k19_initialized, by decide, by decide, by decide +kernel⟩
def D_Letters_extended (w0 : Int64) (k0 : Int32) (k1 : Int32) (res : Int64) : Prop := ((k0 < 12 → (res = w0 ||| ((Int32.toInt64 (k1 &&& 31)) <<< (Int32.toInt64 (5 * (11 - k0)) &&& 63)))) ∧ (¬ (k0 < 12) → (res = w0)))
theorem d_Letters_extended_0 : decode b_Letters_extended 0 = .ok (.iload_n 2, 1) := by decide +kernel
theorem d_Letters_extended_1 : decode b_Letters_extended 1 = .ok (.bipush 12, 2) := by decide +kernel
theorem d_Letters_extended_3 : decode b_Letters_extended 3 = .ok (.if_icmp .lt 5, 3) := by decide +kernel
theorem d_Letters_extended_6 : decode b_Letters_extended 6 = .ok (.lload_n 0, 1) := by decide +kernel
theorem d_Letters_extended_7 : decode b_Letters_extended 7 = .ok (.lreturn, 1) := by decide +kernel
theorem d_Letters_extended_8 : decode b_Letters_extended 8 = .ok (.iload_n 3, 1) := by decide +kernel
theorem d_Letters_extended_9 : decode b_Letters_extended 9 = .ok (.bipush 31, 2) := by decide +kernel
theorem d_Letters_extended_11 : decode b_Letters_extended 11 = .ok (.iand, 1) := by decide +kernel
theorem d_Letters_extended_12 : decode b_Letters_extended 12 = .ok (.i2l, 1) := by decide +kernel
theorem d_Letters_extended_13 : decode b_Letters_extended 13 = .ok (.lstore 4, 2) := by decide +kernel
theorem d_Letters_extended_15 : decode b_Letters_extended 15 = .ok (.lload_n 0, 1) := by decide +kernel
theorem d_Letters_extended_16 : decode b_Letters_extended 16 = .ok (.lload 4, 2) := by decide +kernel
theorem d_Letters_extended_18 : decode b_Letters_extended 18 = .ok (.iconst 5, 1) := by decide +kernel
theorem d_Letters_extended_19 : decode b_Letters_extended 19 = .ok (.bipush 11, 2) := by decide +kernel
theorem d_Letters_extended_21 : decode b_Letters_extended 21 = .ok (.iload_n 2, 1) := by decide +kernel
theorem d_Letters_extended_22 : decode b_Letters_extended 22 = .ok (.isub, 1) := by decide +kernel
theorem d_Letters_extended_23 : decode b_Letters_extended 23 = .ok (.imul, 1) := by decide +kernel
theorem d_Letters_extended_24 : decode b_Letters_extended 24 = .ok (.lshl, 1) := by decide +kernel
theorem d_Letters_extended_25 : decode b_Letters_extended 25 = .ok (.lor, 1) := by decide +kernel
theorem d_Letters_extended_26 : decode b_Letters_extended 26 = .ok (.lreturn, 1) := by decide +kernel
set_option maxHeartbeats 4000000 in
set_option maxRecDepth 100000 in
theorem c_Letters_extended (l : Launch) (dC : Nat → ClassId) (dI : Nat → Nat → Nat) (cI cL cZ : ClassId) (w0 : Int64) (k0 : Int32) (k1 : Int32) (res : Int64) (hd : D_Letters_extended w0 k0 k1 res) : CtrR l y_Letters_extended (Cond.code y_Letters_extended b_Letters_extended 6 (some .long) :: ga) { frames := 0, cells := 0, slots := 0, locals := 0 } (dC, dI) classes (Tys cI cL cZ) [.long w0, .int k0, .int k1] (([] : va_W)) (some (.long res)) := by
  refine CtrR.ofW (by decide) (Nat.le_of_ble_eq_true rfl) ?_
  intro p e s m below meth c ls hx hb hr hml hown hlocks hts hK hN hP hD hl
  have hown : s.vm.findClass R_Letters = some m.cls := hown
  have hl : lv_has ls 6 [(0, .long w0), (2, .int k0), (3, .int k1)] := hl
  refine lv_iload_n hx hb d_Letters_extended_0 rfl (lv_at hl 1 rfl) ?_
  refine lv_bipush (v := 12) hx hb d_Letters_extended_1 (by decide) ?_
  refine lv_icmp_lt (tgt := 8) hx hb d_Letters_extended_3 (by decide) (fun h3 => ?_) (fun h3 => ?_)
  · have hd := hd.1 h3
    refine lv_iload_n hx hb d_Letters_extended_8 rfl (lv_at hl 2 rfl) ?_
    refine lv_bipush (v := 31) hx hb d_Letters_extended_9 (by decide) ?_
    refine lv_iand hx hb d_Letters_extended_11 ?_
    refine lv_i2l (v := Int32.toInt64 (k1 &&& 31)) hx hb d_Letters_extended_12 rfl ?_
    refine lv_lstore (lv' := [(4, .long (Int32.toInt64 (k1 &&& 31))), (0, .long w0), (2, .int k0), (3, .int k1)]) hx hb d_Letters_extended_13 hl (by decide) rfl (fun ls hl => ?_)
    refine lv_lload_n hx hb d_Letters_extended_15 rfl (lv_at hl 1 rfl) ?_
    refine lv_lload hx hb d_Letters_extended_16 (lv_at hl 0 rfl) ?_
    refine lv_iconst (v := 5) hx hb d_Letters_extended_18 (by decide) ?_
    refine lv_bipush (v := 11) hx hb d_Letters_extended_19 (by decide) ?_
    refine lv_iload_n hx hb d_Letters_extended_21 rfl (lv_at hl 2 rfl) ?_
    refine lv_isub hx hb d_Letters_extended_22 ?_
    refine lv_imul hx hb d_Letters_extended_23 ?_
    refine lv_lshl (v := (Int32.toInt64 (k1 &&& 31)) <<< (Int32.toInt64 (5 * (11 - k0)) &&& 63)) hx hb d_Letters_extended_24 rfl ?_
    refine lv_lor hx hb d_Letters_extended_25 ?_
    have e0 : res = w0 ||| ((Int32.toInt64 (k1 &&& 31)) <<< (Int32.toInt64 (5 * (11 - k0)) &&& 63)) := hd
    subst e0
    exact ct_lretR hx hb hr hlocks d_Letters_extended_26
  · have hd := hd.2 h3
    refine lv_lload_n hx hb d_Letters_extended_6 rfl (lv_at hl 0 rfl) ?_
    have e0 : res = w0 := hd
    subst e0
    exact ct_lretR hx hb hr hlocks d_Letters_extended_7
-- Letters.word
abbrev b_Letters_word : ByteArray := prog_6_method_6_code
def y_Letters_word : MethodName := ⟨"HelpFile$Letters", "word", "(LHelpFile$Row;II)J"⟩
theorem k25_methodLink : Cond.methodLink "HelpFile$Letters" 24 ⟨"HelpFile$Letters", "extended", "(JII)J"⟩ ∈ ga := ga_t 341 (by decide +kernel) rfl
theorem k26_static : Cond.static ⟨"HelpFile$Letters", "extended", "(JII)J"⟩ ∈ ga := ga_t 342 (by decide +kernel) rfl
set_option maxRecDepth 100000 in
theorem fm_Letters_word : Fm y_Letters_word b_Letters_word 6 (some .long) 3 := ⟨ga_t 336 rfl rfl, k19_initialized, by decide, by decide, by decide +kernel⟩
def B_Letters_word_5 (ron : Nat) (roE : Nat → Int32) (roC : Int32) (res : Int64) (X : Int32 → Int32 → Int64 → Int32 → Prop) (x1 : Int32) (x2 : Int32) (y3 : Int64) (x5 : Int32) : Prop := ((x2 ≤ x5 → (res = y3)) ∧ (¬ (x2 ≤ x5) → (∃ r14 : Int32, D_Row_element ron x5 roE roC r14 ∧ (∃ r17 : Bool, D_Letters_isLetter r14 r17 ∧ (((bI r17) = 0 → (res = y3)) ∧ (¬ ((bI r17) = 0) → (∃ r31 : Int32, D_Row_element ron x5 roE roC r31 ∧ (∃ r34 : Int64, D_Letters_extended y3 (x5 - x1) r31 r34 ∧ X x1 x2 r34 (x5 + 1)))))))))
def S_Letters_word (ron : Nat) (roE : Nat → Int32) (roC : Int32) (res : Int64) (X : Int32 → Int32 → Int64 → Int32 → Prop) : Int32 → Int32 → Int64 → Int32 → Prop := fun x1 x2 y3 x5 => B_Letters_word_5 ron roE roC res X x1 x2 y3 x5
def T_Letters_word (ron : Nat) (roE : Nat → Int32) (roC : Int32) (res : Int64) : Nat → (Int32 → Int32 → Int64 → Int32 → Prop)
  | 0 => fun _ _ _ _ => False
  | n + 1 => S_Letters_word ron roE roC res (T_Letters_word ron roE roC res n)
def D_Letters_word (ron : Nat) (k0 : Int32) (k1 : Int32) (roE : Nat → Int32) (roC : Int32) (res : Int64) : Prop := ∃ n : Nat, T_Letters_word ron roE roC res n k0 k1 0 k0
theorem d_Letters_word_0 : decode b_Letters_word 0 = .ok (.lconst 0, 1) := by decide +kernel
theorem d_Letters_word_1 : decode b_Letters_word 1 = .ok (.lstore_n 3, 1) := by decide +kernel
theorem d_Letters_word_2 : decode b_Letters_word 2 = .ok (.iload_n 1, 1) := by decide +kernel
theorem d_Letters_word_3 : decode b_Letters_word 3 = .ok (.istore 5, 2) := by decide +kernel
theorem d_Letters_word_5 : decode b_Letters_word 5 = .ok (.iload 5, 2) := by decide +kernel
theorem d_Letters_word_7 : decode b_Letters_word 7 = .ok (.iload_n 2, 1) := by decide +kernel
theorem d_Letters_word_8 : decode b_Letters_word 8 = .ok (.if_icmp .ge 36, 3) := by decide +kernel
theorem d_Letters_word_11 : decode b_Letters_word 11 = .ok (.aload_n 0, 1) := by decide +kernel
theorem d_Letters_word_12 : decode b_Letters_word 12 = .ok (.iload 5, 2) := by decide +kernel
theorem d_Letters_word_14 : decode b_Letters_word 14 = .ok (.invokevirtual 9, 3) := by decide +kernel
theorem d_Letters_word_17 : decode b_Letters_word 17 = .ok (.invokestatic 15, 3) := by decide +kernel
theorem d_Letters_word_20 : decode b_Letters_word 20 = .ok (.ifCond .eq 24, 3) := by decide +kernel
theorem d_Letters_word_23 : decode b_Letters_word 23 = .ok (.lload_n 3, 1) := by decide +kernel
theorem d_Letters_word_24 : decode b_Letters_word 24 = .ok (.iload 5, 2) := by decide +kernel
theorem d_Letters_word_26 : decode b_Letters_word 26 = .ok (.iload_n 1, 1) := by decide +kernel
theorem d_Letters_word_27 : decode b_Letters_word 27 = .ok (.isub, 1) := by decide +kernel
theorem d_Letters_word_28 : decode b_Letters_word 28 = .ok (.aload_n 0, 1) := by decide +kernel
theorem d_Letters_word_29 : decode b_Letters_word 29 = .ok (.iload 5, 2) := by decide +kernel
theorem d_Letters_word_31 : decode b_Letters_word 31 = .ok (.invokevirtual 9, 3) := by decide +kernel
theorem d_Letters_word_34 : decode b_Letters_word 34 = .ok (.invokestatic 24, 3) := by decide +kernel
theorem d_Letters_word_37 : decode b_Letters_word 37 = .ok (.lstore_n 3, 1) := by decide +kernel
theorem d_Letters_word_38 : decode b_Letters_word 38 = .ok (.iinc 5 1, 3) := by decide +kernel
theorem d_Letters_word_41 : decode b_Letters_word 41 = .ok (.goto (-36), 3) := by decide +kernel
theorem d_Letters_word_44 : decode b_Letters_word 44 = .ok (.lload_n 3, 1) := by decide +kernel
theorem d_Letters_word_45 : decode b_Letters_word 45 = .ok (.lreturn, 1) := by decide +kernel
set_option maxHeartbeats 4000000 in
set_option maxRecDepth 100000 in
theorem c_Letters_word (l : Launch) (dC : Nat → ClassId) (dI : Nat → Nat → Nat) (cI cL cZ : ClassId) (ro : Nat) (roEa : Nat) (ron : Nat) (roE : Nat → Int32) (roC : Int32) (roO : Bool) (k0 : Int32) (k1 : Int32) (res : Int64) (hd : D_Letters_word ron k0 k1 roE roC res) : CtrR l y_Letters_word (Cond.code y_Letters_word b_Letters_word 6 (some .long) :: ga) { frames := 1, cells := 0, slots := 0, locals := 25 } (dC, dI) classes (Tys cI cL cZ) [.ref ro, .int k0, .int k1] ((sh_Row cI cL cZ ro roEa ron roE roC roO)) (some (.long res)) := by
  refine CtrR.ofW (by decide) (Nat.le_of_ble_eq_true rfl) ?_
  intro p e s m below meth c ls hx hb hr hml hown hlocks hts hK hN hP hD hl
  have hown : s.vm.findClass R_Letters = some m.cls := hown
  have hl : lv_has ls 6 [(0, .ref ro), (1, .int k0), (2, .int k1)] := hl
  have key : ∀ n : Nat, (∀ (x1 : Int32) (x2 : Int32) (y3 : Int64) (x5 : Int32) (ls : Array Slot), lv_has ls 6 [(0, .ref ro), (1, .int x1), (2, .int x2), (3, .long y3), (5, .int x5)] → T_Letters_word ron roE roC res n x1 x2 y3 x5 → W p l e ({ frames := 1, cells := 0, slots := 0, locals := 25 }) s m ([.ref ro, .int k0, .int k1] : List Value).toArray below meth c s.heap [] 0 0 (MQ below (Qr (some (.long res))) ([.ref ro, .int k0, .int k1] : List Value).toArray s 0 0 (fun _ => False)) (F0 m 5 ls [])) := by
    intro n
    induction n with
    | zero =>
      exact fun _ _ _ _ _ _ hd => False.elim hd
    | succ n ih =>
      · intro x1 x2 y3 x5 ls hl hd
        have hd : B_Letters_word_5 ron roE roC res (T_Letters_word ron roE roC res n) x1 x2 y3 x5 := hd
        refine lv_iload hx hb d_Letters_word_5 (lv_at hl 4 rfl) ?_
        refine lv_iload_n hx hb d_Letters_word_7 rfl (lv_at hl 2 rfl) ?_
        refine lv_icmp_ge (tgt := 44) hx hb d_Letters_word_8 (by decide) (fun h8 => ?_) (fun h8 => ?_)
        · have hd := hd.1 h8
          refine lv_lload_n hx hb d_Letters_word_44 rfl (lv_at hl 3 rfl) ?_
          have e0 : res = y3 := hd
          subst e0
          exact ct_lretR hx hb hr hlocks d_Letters_word_45
        · have hd := hd.2 h8
          refine lv_aload_n hx hb d_Letters_word_11 rfl (lv_at hl 0 rfl) ?_
          refine lv_iload hx hb d_Letters_word_12 (lv_at hl 4 rfl) ?_
          obtain ⟨r14, c14, hd⟩ := hd
          refine ct_VR (As := [.int x5]) (rest := []) (C := R_Row) (ci := 1) (q := (R_Row, F_Row, 3)) ⟨hx, hb, hml, hown, hts⟩ fm_Row_element (c_Row_element l dC dI cI cL cZ ro roEa ron roE roC roO x5 r14 c14) k20_methodLink k4_instanceMethod k5_selects ⟨Nat.le_of_ble_eq_true rfl, Nat.le_of_ble_eq_true rfl⟩ rfl rfl hK hN hP hD [0, 1] rfl rfl (by decide) 0 rfl rfl rfl rfl hl.1 rfl (Nat.le_of_ble_eq_true rfl) d_Letters_word_14 ?_
          obtain ⟨r17, c17, hd⟩ := hd
          refine ct_SR (As := [.int r14]) (rest := []) ⟨hx, hb, hml, hown, hts⟩ fm_Letters_isLetter (c_Letters_isLetter l dC dI cI cL cZ r14 r17 c17) k21_methodLink k22_static ⟨Nat.le_of_ble_eq_true rfl, Nat.le_of_ble_eq_true rfl⟩ rfl rfl hK hN hP hD [] rfl rfl (by decide) rfl hl.1 rfl (Nat.le_of_ble_eq_true rfl) d_Letters_word_17 ?_
          refine lv_if_eq (tgt := 44) hx hb d_Letters_word_20 (by decide) (fun h20 => ?_) (fun h20 => ?_)
          · have hd := hd.1 h20
            refine lv_lload_n hx hb d_Letters_word_44 rfl (lv_at hl 3 rfl) ?_
            have e0 : res = y3 := hd
            subst e0
            exact ct_lretR hx hb hr hlocks d_Letters_word_45
          · have hd := hd.2 h20
            refine lv_lload_n hx hb d_Letters_word_23 rfl (lv_at hl 3 rfl) ?_
            refine lv_iload hx hb d_Letters_word_24 (lv_at hl 4 rfl) ?_
            refine lv_iload_n hx hb d_Letters_word_26 rfl (lv_at hl 1 rfl) ?_
            refine lv_isub hx hb d_Letters_word_27 ?_
            refine lv_aload_n hx hb d_Letters_word_28 rfl (lv_at hl 0 rfl) ?_
            refine lv_iload hx hb d_Letters_word_29 (lv_at hl 4 rfl) ?_
            obtain ⟨r31, c31, hd⟩ := hd
            refine ct_VR (As := [.int x5]) (rest := [.int (x5 - x1), .long y3]) (C := R_Row) (ci := 1) (q := (R_Row, F_Row, 3)) ⟨hx, hb, hml, hown, hts⟩ fm_Row_element (c_Row_element l dC dI cI cL cZ ro roEa ron roE roC roO x5 r31 c31) k20_methodLink k4_instanceMethod k5_selects ⟨Nat.le_of_ble_eq_true rfl, Nat.le_of_ble_eq_true rfl⟩ rfl rfl hK hN hP hD [0, 1] rfl rfl (by decide) 0 rfl rfl rfl rfl hl.1 rfl (Nat.le_of_ble_eq_true rfl) d_Letters_word_31 ?_
            obtain ⟨r34, c34, hd⟩ := hd
            refine ct_SR (As := [.long y3, .int (x5 - x1), .int r31]) (rest := []) ⟨hx, hb, hml, hown, hts⟩ fm_Letters_extended (c_Letters_extended l dC dI cI cL cZ y3 (x5 - x1) r31 r34 c34) k25_methodLink k26_static ⟨Nat.le_of_ble_eq_true rfl, Nat.le_of_ble_eq_true rfl⟩ rfl rfl hK hN hP hD [] rfl rfl (by decide) rfl hl.1 rfl (Nat.le_of_ble_eq_true rfl) d_Letters_word_34 ?_
            refine lv_lstore_n (lv' := [(3, .long r34), (0, .ref ro), (1, .int x1), (2, .int x2), (5, .int x5)]) hx hb d_Letters_word_37 rfl hl (by decide) rfl (fun ls hl => ?_)
            refine lv_iinc (k := 4) (v := x5 + 1) (lv' := [(5, .int (x5 + 1)), (3, .long r34), (0, .ref ro), (1, .int x1), (2, .int x2)]) hx hb d_Letters_word_38 hl rfl (congrArg (fun z => x5 + z) (by decide)) (by decide) rfl (fun ls hl => ?_)
            refine lv_goto (tgt := 5) hx hb d_Letters_word_41 (by decide) ?_
            exact ih x1 x2 r34 (x5 + 1) _ (lv_sub hl [2, 3, 4, 1, 0] rfl) hd
  obtain ⟨n, hd⟩ := hd
  refine lv_lconst (v := 0) hx hb d_Letters_word_0 (by decide) ?_
  refine lv_lstore_n (lv' := [(3, .long 0), (0, .ref ro), (1, .int k0), (2, .int k1)]) hx hb d_Letters_word_1 rfl hl (by decide) rfl (fun ls hl => ?_)
  refine lv_iload_n hx hb d_Letters_word_2 rfl (lv_at hl 2 rfl) ?_
  refine lv_istore (lv' := [(5, .int k0), (3, .long 0), (0, .ref ro), (1, .int k0), (2, .int k1)]) hx hb d_Letters_word_3 hl (by decide) rfl (fun ls hl => ?_)
  exact (key n) k0 k1 0 k0 _ (lv_sub hl [2, 3, 4, 1, 0] rfl) hd
-- Letters.length
abbrev b_Letters_length : ByteArray := prog_6_method_8_code
def y_Letters_length : MethodName := ⟨"HelpFile$Letters", "length", "(J)I"⟩
set_option maxRecDepth 100000 in
theorem fm_Letters_length : Fm y_Letters_length b_Letters_length 3 (some .int) 1 := ⟨ga_t 527 rfl rfl, k19_initialized, by decide, by decide, by decide +kernel⟩
def B_Letters_length_2 (res : Int32) (X : Int64 → Int32 → Prop) (y0 : Int64) (x2 : Int32) : Prop := ((12 ≤ x2 → (res = x2)) ∧ (¬ (12 ≤ x2) → (((lg_cmp (y0 <<< (Int32.toInt64 (((5 * x2) + 64) - 60) &&& 63)) 0) = 0 → (res = x2)) ∧ (¬ ((lg_cmp (y0 <<< (Int32.toInt64 (((5 * x2) + 64) - 60) &&& 63)) 0) = 0) → X y0 (x2 + 1)))))
def S_Letters_length (res : Int32) (X : Int64 → Int32 → Prop) : Int64 → Int32 → Prop := fun y0 x2 => B_Letters_length_2 res X y0 x2
def T_Letters_length (res : Int32) : Nat → (Int64 → Int32 → Prop)
  | 0 => fun _ _ => False
  | n + 1 => S_Letters_length res (T_Letters_length res n)
def D_Letters_length (w0 : Int64) (res : Int32) : Prop := ∃ n : Nat, T_Letters_length res n w0 0
theorem d_Letters_length_0 : decode b_Letters_length 0 = .ok (.iconst 0, 1) := by decide +kernel
theorem d_Letters_length_1 : decode b_Letters_length 1 = .ok (.istore_n 2, 1) := by decide +kernel
theorem d_Letters_length_2 : decode b_Letters_length 2 = .ok (.iload_n 2, 1) := by decide +kernel
theorem d_Letters_length_3 : decode b_Letters_length 3 = .ok (.bipush 12, 2) := by decide +kernel
theorem d_Letters_length_5 : decode b_Letters_length 5 = .ok (.if_icmp .ge 25, 3) := by decide +kernel
theorem d_Letters_length_8 : decode b_Letters_length 8 = .ok (.lload_n 0, 1) := by decide +kernel
theorem d_Letters_length_9 : decode b_Letters_length 9 = .ok (.iconst 5, 1) := by decide +kernel
theorem d_Letters_length_10 : decode b_Letters_length 10 = .ok (.iload_n 2, 1) := by decide +kernel
theorem d_Letters_length_11 : decode b_Letters_length 11 = .ok (.imul, 1) := by decide +kernel
theorem d_Letters_length_12 : decode b_Letters_length 12 = .ok (.bipush 64, 2) := by decide +kernel
theorem d_Letters_length_14 : decode b_Letters_length 14 = .ok (.iadd, 1) := by decide +kernel
theorem d_Letters_length_15 : decode b_Letters_length 15 = .ok (.bipush 60, 2) := by decide +kernel
theorem d_Letters_length_17 : decode b_Letters_length 17 = .ok (.isub, 1) := by decide +kernel
theorem d_Letters_length_18 : decode b_Letters_length 18 = .ok (.lshl, 1) := by decide +kernel
theorem d_Letters_length_19 : decode b_Letters_length 19 = .ok (.lconst 0, 1) := by decide +kernel
theorem d_Letters_length_20 : decode b_Letters_length 20 = .ok (.lcmp, 1) := by decide +kernel
theorem d_Letters_length_21 : decode b_Letters_length 21 = .ok (.ifCond .eq 9, 3) := by decide +kernel
theorem d_Letters_length_24 : decode b_Letters_length 24 = .ok (.iinc 2 1, 3) := by decide +kernel
theorem d_Letters_length_27 : decode b_Letters_length 27 = .ok (.goto (-25), 3) := by decide +kernel
theorem d_Letters_length_30 : decode b_Letters_length 30 = .ok (.iload_n 2, 1) := by decide +kernel
theorem d_Letters_length_31 : decode b_Letters_length 31 = .ok (.ireturn, 1) := by decide +kernel
set_option maxHeartbeats 4000000 in
set_option maxRecDepth 100000 in
theorem c_Letters_length (l : Launch) (dC : Nat → ClassId) (dI : Nat → Nat → Nat) (cI cL cZ : ClassId) (w0 : Int64) (res : Int32) (hd : D_Letters_length w0 res) : CtrR l y_Letters_length (Cond.code y_Letters_length b_Letters_length 3 (some .int) :: ga) { frames := 0, cells := 0, slots := 0, locals := 0 } (dC, dI) classes (Tys cI cL cZ) [.long w0] (([] : va_W)) (some (.int res)) := by
  refine CtrR.ofW (by decide) (Nat.le_of_ble_eq_true rfl) ?_
  intro p e s m below meth c ls hx hb hr hml hown hlocks hts hK hN hP hD hl
  have hown : s.vm.findClass R_Letters = some m.cls := hown
  have hl : lv_has ls 3 [(0, .long w0)] := hl
  have key : ∀ n : Nat, (∀ (y0 : Int64) (x2 : Int32) (ls : Array Slot), lv_has ls 3 [(0, .long y0), (2, .int x2)] → T_Letters_length res n y0 x2 → W p l e ({ frames := 0, cells := 0, slots := 0, locals := 0 }) s m ([.long w0] : List Value).toArray below meth c s.heap [] 0 0 (MQ below (Qr (some (.int res))) ([.long w0] : List Value).toArray s 0 0 (fun _ => False)) (F0 m 2 ls [])) := by
    intro n
    induction n with
    | zero =>
      exact fun _ _ _ _ hd => False.elim hd
    | succ n ih =>
      · intro y0 x2 ls hl hd
        have hd : B_Letters_length_2 res (T_Letters_length res n) y0 x2 := hd
        refine lv_iload_n hx hb d_Letters_length_2 rfl (lv_at hl 1 rfl) ?_
        refine lv_bipush (v := 12) hx hb d_Letters_length_3 (by decide) ?_
        refine lv_icmp_ge (tgt := 30) hx hb d_Letters_length_5 (by decide) (fun h5 => ?_) (fun h5 => ?_)
        · have hd := hd.1 h5
          refine lv_iload_n hx hb d_Letters_length_30 rfl (lv_at hl 1 rfl) ?_
          have e0 : res = x2 := hd
          subst e0
          exact ct_iretR hx hb hr hlocks d_Letters_length_31
        · have hd := hd.2 h5
          refine lv_lload_n hx hb d_Letters_length_8 rfl (lv_at hl 0 rfl) ?_
          refine lv_iconst (v := 5) hx hb d_Letters_length_9 (by decide) ?_
          refine lv_iload_n hx hb d_Letters_length_10 rfl (lv_at hl 1 rfl) ?_
          refine lv_imul hx hb d_Letters_length_11 ?_
          refine lv_bipush (v := 64) hx hb d_Letters_length_12 (by decide) ?_
          refine lv_iadd hx hb d_Letters_length_14 ?_
          refine lv_bipush (v := 60) hx hb d_Letters_length_15 (by decide) ?_
          refine lv_isub hx hb d_Letters_length_17 ?_
          refine lv_lshl (v := y0 <<< (Int32.toInt64 (((5 * x2) + 64) - 60) &&& 63)) hx hb d_Letters_length_18 rfl ?_
          refine lv_lconst (v := 0) hx hb d_Letters_length_19 (by decide) ?_
          refine W.lcmp hx hb d_Letters_length_20 ?_
          refine lv_if_eq (tgt := 30) hx hb d_Letters_length_21 (by decide) (fun h21 => ?_) (fun h21 => ?_)
          · have hd := hd.1 h21
            refine lv_iload_n hx hb d_Letters_length_30 rfl (lv_at hl 1 rfl) ?_
            have e0 : res = x2 := hd
            subst e0
            exact ct_iretR hx hb hr hlocks d_Letters_length_31
          · have hd := hd.2 h21
            refine lv_iinc (k := 1) (v := x2 + 1) (lv' := [(2, .int (x2 + 1)), (0, .long y0)]) hx hb d_Letters_length_24 hl rfl (congrArg (fun z => x2 + z) (by decide)) (by decide) rfl (fun ls hl => ?_)
            refine lv_goto (tgt := 2) hx hb d_Letters_length_27 (by decide) ?_
            exact ih y0 (x2 + 1) _ (lv_sub hl [1, 0] rfl) hd
  obtain ⟨n, hd⟩ := hd
  refine lv_iconst (v := 0) hx hb d_Letters_length_0 (by decide) ?_
  refine lv_istore_n (lv' := [(2, .int 0), (0, .long w0)]) hx hb d_Letters_length_1 rfl hl (by decide) rfl (fun ls hl => ?_)
  exact (key n) w0 0 _ (lv_sub hl [1, 0] rfl) hd
-- Letters.letter
abbrev b_Letters_letter : ByteArray := prog_6_method_9_code
def y_Letters_letter : MethodName := ⟨"HelpFile$Letters", "letter", "(JI)I"⟩
set_option maxRecDepth 100000 in
theorem fm_Letters_letter : Fm y_Letters_letter b_Letters_letter 4 (some .int) 2 := ⟨ga_t 462 rfl rfl, k19_initialized, by decide, by decide, by decide +kernel⟩
def D_Letters_letter (w0 : Int64) (k0 : Int32) (res : Int32) : Prop := ((((Int64.toInt32 (w0 >>> (Int32.toInt64 (5 * (11 - k0)) &&& 63))) &&& 31) = 0 → (res = 0)) ∧ (¬ (((Int64.toInt32 (w0 >>> (Int32.toInt64 (5 * (11 - k0)) &&& 63))) &&& 31) = 0) → (res = ((Int64.toInt32 (w0 >>> (Int32.toInt64 (5 * (11 - k0)) &&& 63))) &&& 31) + 96)))
theorem d_Letters_letter_0 : decode b_Letters_letter 0 = .ok (.lload_n 0, 1) := by decide +kernel
theorem d_Letters_letter_1 : decode b_Letters_letter 1 = .ok (.iconst 5, 1) := by decide +kernel
theorem d_Letters_letter_2 : decode b_Letters_letter 2 = .ok (.bipush 11, 2) := by decide +kernel
theorem d_Letters_letter_4 : decode b_Letters_letter 4 = .ok (.iload_n 2, 1) := by decide +kernel
theorem d_Letters_letter_5 : decode b_Letters_letter 5 = .ok (.isub, 1) := by decide +kernel
theorem d_Letters_letter_6 : decode b_Letters_letter 6 = .ok (.imul, 1) := by decide +kernel
theorem d_Letters_letter_7 : decode b_Letters_letter 7 = .ok (.lshr, 1) := by decide +kernel
theorem d_Letters_letter_8 : decode b_Letters_letter 8 = .ok (.l2i, 1) := by decide +kernel
theorem d_Letters_letter_9 : decode b_Letters_letter 9 = .ok (.bipush 31, 2) := by decide +kernel
theorem d_Letters_letter_11 : decode b_Letters_letter 11 = .ok (.iand, 1) := by decide +kernel
theorem d_Letters_letter_12 : decode b_Letters_letter 12 = .ok (.istore_n 3, 1) := by decide +kernel
theorem d_Letters_letter_13 : decode b_Letters_letter 13 = .ok (.iload_n 3, 1) := by decide +kernel
theorem d_Letters_letter_14 : decode b_Letters_letter 14 = .ok (.ifCond .ne 7, 3) := by decide +kernel
theorem d_Letters_letter_17 : decode b_Letters_letter 17 = .ok (.iconst 0, 1) := by decide +kernel
theorem d_Letters_letter_18 : decode b_Letters_letter 18 = .ok (.goto 7, 3) := by decide +kernel
theorem d_Letters_letter_21 : decode b_Letters_letter 21 = .ok (.iload_n 3, 1) := by decide +kernel
theorem d_Letters_letter_22 : decode b_Letters_letter 22 = .ok (.bipush 96, 2) := by decide +kernel
theorem d_Letters_letter_24 : decode b_Letters_letter 24 = .ok (.iadd, 1) := by decide +kernel
theorem d_Letters_letter_25 : decode b_Letters_letter 25 = .ok (.ireturn, 1) := by decide +kernel
set_option maxHeartbeats 4000000 in
set_option maxRecDepth 100000 in
theorem c_Letters_letter (l : Launch) (dC : Nat → ClassId) (dI : Nat → Nat → Nat) (cI cL cZ : ClassId) (w0 : Int64) (k0 : Int32) (res : Int32) (hd : D_Letters_letter w0 k0 res) : CtrR l y_Letters_letter (Cond.code y_Letters_letter b_Letters_letter 4 (some .int) :: ga) { frames := 0, cells := 0, slots := 0, locals := 0 } (dC, dI) classes (Tys cI cL cZ) [.long w0, .int k0] (([] : va_W)) (some (.int res)) := by
  refine CtrR.ofW (by decide) (Nat.le_of_ble_eq_true rfl) ?_
  intro p e s m below meth c ls hx hb hr hml hown hlocks hts hK hN hP hD hl
  have hown : s.vm.findClass R_Letters = some m.cls := hown
  have hl : lv_has ls 4 [(0, .long w0), (2, .int k0)] := hl
  refine lv_lload_n hx hb d_Letters_letter_0 rfl (lv_at hl 0 rfl) ?_
  refine lv_iconst (v := 5) hx hb d_Letters_letter_1 (by decide) ?_
  refine lv_bipush (v := 11) hx hb d_Letters_letter_2 (by decide) ?_
  refine lv_iload_n hx hb d_Letters_letter_4 rfl (lv_at hl 1 rfl) ?_
  refine lv_isub hx hb d_Letters_letter_5 ?_
  refine lv_imul hx hb d_Letters_letter_6 ?_
  refine lv_lshr (v := w0 >>> (Int32.toInt64 (5 * (11 - k0)) &&& 63)) hx hb d_Letters_letter_7 rfl ?_
  refine lv_l2i (v := Int64.toInt32 (w0 >>> (Int32.toInt64 (5 * (11 - k0)) &&& 63))) hx hb d_Letters_letter_8 rfl ?_
  refine lv_bipush (v := 31) hx hb d_Letters_letter_9 (by decide) ?_
  refine lv_iand hx hb d_Letters_letter_11 ?_
  refine lv_istore_n (lv' := [(3, .int ((Int64.toInt32 (w0 >>> (Int32.toInt64 (5 * (11 - k0)) &&& 63))) &&& 31)), (0, .long w0), (2, .int k0)]) hx hb d_Letters_letter_12 rfl hl (by decide) rfl (fun ls hl => ?_)
  refine lv_iload_n hx hb d_Letters_letter_13 rfl (lv_at hl 0 rfl) ?_
  refine lv_if_ne (tgt := 21) hx hb d_Letters_letter_14 (by decide) (fun h14 => ?_) (fun h14 => ?_)
  · have hd := hd.2 h14
    refine lv_iload_n hx hb d_Letters_letter_21 rfl (lv_at hl 0 rfl) ?_
    refine lv_bipush (v := 96) hx hb d_Letters_letter_22 (by decide) ?_
    refine lv_iadd hx hb d_Letters_letter_24 ?_
    have e0 : res = ((Int64.toInt32 (w0 >>> (Int32.toInt64 (5 * (11 - k0)) &&& 63))) &&& 31) + 96 := hd
    subst e0
    exact ct_iretR hx hb hr hlocks d_Letters_letter_25
  · have hd := hd.1 h14
    refine lv_iconst (v := 0) hx hb d_Letters_letter_17 (by decide) ?_
    refine lv_goto (tgt := 25) hx hb d_Letters_letter_18 (by decide) ?_
    have e0 : res = 0 := hd
    subst e0
    exact ct_iretR hx hb hr hlocks d_Letters_letter_25
