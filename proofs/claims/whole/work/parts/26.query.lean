/-! 26.query: what each method does, read off its bytecode (D_..), and its contract (c_..); written by a program of mine. -/
-- Query.lettersAlone
abbrev b_Query_lettersAlone : ByteArray := prog_7_method_2_code
def y_Query_lettersAlone : MethodName := ⟨"HelpFile$Query", "lettersAlone", "(LHelpFile$Row;)J"⟩
theorem k304_methodLink : Cond.methodLink "HelpFile$Query" 22 ⟨"HelpFile$Row", "count", "()I"⟩ ∈ ga := ga_t 919 (by decide +kernel) rfl
theorem k305_methodLink : Cond.methodLink "HelpFile$Query" 28 ⟨"HelpFile$Row", "element", "(I)I"⟩ ∈ ga := ga_t 920 (by decide +kernel) rfl
theorem k306_methodLink : Cond.methodLink "HelpFile$Query" 32 ⟨"HelpFile$Letters", "isLetter", "(I)Z"⟩ ∈ ga := ga_t 921 (by decide +kernel) rfl
theorem k307_methodLink : Cond.methodLink "HelpFile$Query" 38 ⟨"HelpFile$Letters", "extended", "(JII)J"⟩ ∈ ga := ga_t 922 (by decide +kernel) rfl
theorem k308_initialized : Cond.initialized "HelpFile$Query" ∈ ga := ga_t 6 (by decide +kernel) rfl
set_option maxRecDepth 100000 in
theorem fm_Query_lettersAlone : Fm y_Query_lettersAlone b_Query_lettersAlone 6 (some .long) 1 := ⟨ga_t 918 rfl rfl, k308_initialized, by decide, by decide, by decide +kernel⟩
def B_Query_lettersAlone_8 (ron : Nat) (roE : Nat → Int32) (roC : Int32) (res : Int64) (X : Int64 → Int32 → Int32 → Prop) (y2 : Int64) (x4 : Int32) (x5 : Int32) : Prop := ((roC ≤ x5 → (res = y2)) ∧ (¬ (roC ≤ x5) → (∃ r20 : Int32, D_Row_element ron x5 roE roC r20 ∧ (∃ r23 : Bool, D_Letters_isLetter r20 r23 ∧ (((bI r23) = 0 → X y2 x4 (x5 + 1)) ∧ (¬ ((bI r23) = 0) → (∃ r35 : Int32, D_Row_element ron x5 roE roC r35 ∧ (∃ r38 : Int64, D_Letters_extended y2 x4 r35 r38 ∧ X r38 (x4 + 1) (x5 + 1)))))))))
def S_Query_lettersAlone (ron : Nat) (roE : Nat → Int32) (roC : Int32) (res : Int64) (X : Int64 → Int32 → Int32 → Prop) : Int64 → Int32 → Int32 → Prop := fun y2 x4 x5 => B_Query_lettersAlone_8 ron roE roC res X y2 x4 x5
def T_Query_lettersAlone (ron : Nat) (roE : Nat → Int32) (roC : Int32) (res : Int64) : Nat → (Int64 → Int32 → Int32 → Prop)
  | 0 => fun _ _ _ => False
  | n + 1 => S_Query_lettersAlone ron roE roC res (T_Query_lettersAlone ron roE roC res n)
def D_Query_lettersAlone (ron : Nat) (roE : Nat → Int32) (roC : Int32) (res : Int64) : Prop := ∃ n : Nat, T_Query_lettersAlone ron roE roC res n 0 0 0
theorem d_Query_lettersAlone_0 : decode b_Query_lettersAlone 0 = .ok (.lconst 0, 1) := by decide +kernel
theorem d_Query_lettersAlone_1 : decode b_Query_lettersAlone 1 = .ok (.lstore_n 2, 1) := by decide +kernel
theorem d_Query_lettersAlone_2 : decode b_Query_lettersAlone 2 = .ok (.iconst 0, 1) := by decide +kernel
theorem d_Query_lettersAlone_3 : decode b_Query_lettersAlone 3 = .ok (.istore 4, 2) := by decide +kernel
theorem d_Query_lettersAlone_5 : decode b_Query_lettersAlone 5 = .ok (.iconst 0, 1) := by decide +kernel
theorem d_Query_lettersAlone_6 : decode b_Query_lettersAlone 6 = .ok (.istore 5, 2) := by decide +kernel
theorem d_Query_lettersAlone_8 : decode b_Query_lettersAlone 8 = .ok (.iload 5, 2) := by decide +kernel
theorem d_Query_lettersAlone_10 : decode b_Query_lettersAlone 10 = .ok (.aload_n 1, 1) := by decide +kernel
theorem d_Query_lettersAlone_11 : decode b_Query_lettersAlone 11 = .ok (.invokevirtual 22, 3) := by decide +kernel
theorem d_Query_lettersAlone_14 : decode b_Query_lettersAlone 14 = .ok (.if_icmp .ge 37, 3) := by decide +kernel
theorem d_Query_lettersAlone_17 : decode b_Query_lettersAlone 17 = .ok (.aload_n 1, 1) := by decide +kernel
theorem d_Query_lettersAlone_18 : decode b_Query_lettersAlone 18 = .ok (.iload 5, 2) := by decide +kernel
theorem d_Query_lettersAlone_20 : decode b_Query_lettersAlone 20 = .ok (.invokevirtual 28, 3) := by decide +kernel
theorem d_Query_lettersAlone_23 : decode b_Query_lettersAlone 23 = .ok (.invokestatic 32, 3) := by decide +kernel
theorem d_Query_lettersAlone_26 : decode b_Query_lettersAlone 26 = .ok (.ifCond .eq 19, 3) := by decide +kernel
theorem d_Query_lettersAlone_29 : decode b_Query_lettersAlone 29 = .ok (.lload_n 2, 1) := by decide +kernel
theorem d_Query_lettersAlone_30 : decode b_Query_lettersAlone 30 = .ok (.iload 4, 2) := by decide +kernel
theorem d_Query_lettersAlone_32 : decode b_Query_lettersAlone 32 = .ok (.aload_n 1, 1) := by decide +kernel
theorem d_Query_lettersAlone_33 : decode b_Query_lettersAlone 33 = .ok (.iload 5, 2) := by decide +kernel
theorem d_Query_lettersAlone_35 : decode b_Query_lettersAlone 35 = .ok (.invokevirtual 28, 3) := by decide +kernel
theorem d_Query_lettersAlone_38 : decode b_Query_lettersAlone 38 = .ok (.invokestatic 38, 3) := by decide +kernel
theorem d_Query_lettersAlone_41 : decode b_Query_lettersAlone 41 = .ok (.lstore_n 2, 1) := by decide +kernel
theorem d_Query_lettersAlone_42 : decode b_Query_lettersAlone 42 = .ok (.iinc 4 1, 3) := by decide +kernel
theorem d_Query_lettersAlone_45 : decode b_Query_lettersAlone 45 = .ok (.iinc 5 1, 3) := by decide +kernel
theorem d_Query_lettersAlone_48 : decode b_Query_lettersAlone 48 = .ok (.goto (-40), 3) := by decide +kernel
theorem d_Query_lettersAlone_51 : decode b_Query_lettersAlone 51 = .ok (.lload_n 2, 1) := by decide +kernel
theorem d_Query_lettersAlone_52 : decode b_Query_lettersAlone 52 = .ok (.lreturn, 1) := by decide +kernel
set_option maxHeartbeats 4000000 in
set_option maxRecDepth 100000 in
theorem c_Query_lettersAlone (l : Launch) (dC : Nat → ClassId) (dI : Nat → Nat → Nat) (cI cL cZ : ClassId) (qu : Nat) (quFa : Nat) (quF : Nat → Int32) (quJa : Nat) (quJ : Nat → Int32) (quNa : Nat) (quN : Nat → Int32) (quE : Int32) (quL : Int32) (quD : Bool) (ro : Nat) (roEa : Nat) (ron : Nat) (roE : Nat → Int32) (roC : Int32) (roO : Bool) (res : Int64) (hd : D_Query_lettersAlone ron roE roC res) : CtrR l y_Query_lettersAlone (Cond.code y_Query_lettersAlone b_Query_lettersAlone 6 (some .long) :: ga) { frames := 1, cells := 0, slots := 0, locals := 25 } (dC, dI) classes (Tys cI cL cZ) [.ref qu, .ref ro] ((sh_Query cI cL cZ qu quFa quF quJa quJ quNa quN quE quL quD) ++ ((sh_Row cI cL cZ ro roEa ron roE roC roO))) (some (.long res)) := by
  refine CtrR.ofW (by decide) (Nat.le_of_ble_eq_true rfl) ?_
  intro p e s m below meth c ls hx hb hr hml hown hlocks hts hK hN hP hD hl
  have hown : s.vm.findClass R_Query = some m.cls := hown
  have hl : lv_has ls 6 [(0, .ref qu), (1, .ref ro)] := hl
  have key : ∀ n : Nat, (∀ (y2 : Int64) (x4 : Int32) (x5 : Int32) (ls : Array Slot), lv_has ls 6 [(1, .ref ro), (2, .long y2), (4, .int x4), (5, .int x5)] → T_Query_lettersAlone ron roE roC res n y2 x4 x5 → W p l e ({ frames := 1, cells := 0, slots := 0, locals := 25 }) s m ([.ref qu, .ref ro] : List Value).toArray below meth c s.heap [] 0 0 (MQ below (Qr (some (.long res))) ([.ref qu, .ref ro] : List Value).toArray s 0 0 (fun _ => False)) (F0 m 8 ls [])) := by
    intro n
    induction n with
    | zero =>
      exact fun _ _ _ _ _ hd => False.elim hd
    | succ n ih =>
      · intro y2 x4 x5 ls hl hd
        have hd : B_Query_lettersAlone_8 ron roE roC res (T_Query_lettersAlone ron roE roC res n) y2 x4 x5 := hd
        refine lv_iload hx hb d_Query_lettersAlone_8 (lv_at hl 3 rfl) ?_
        refine lv_aload_n hx hb d_Query_lettersAlone_10 rfl (lv_at hl 0 rfl) ?_
        refine ct_VR (As := []) (rest := [.int x5]) (C := R_Row) (ci := 1) (q := (R_Row, F_Row, 3)) ⟨hx, hb, hml, hown, hts⟩ fm_Row_count (c_Row_count l dC dI cI cL cZ ro roEa ron roE roC roO roC rfl) k304_methodLink k67_instanceMethod k68_selects ⟨Nat.le_of_ble_eq_true rfl, Nat.le_of_ble_eq_true rfl⟩ rfl rfl hK hN hP hD [4, 5] rfl rfl (by decide) 4 rfl rfl rfl rfl hl.1 rfl (Nat.le_of_ble_eq_true rfl) d_Query_lettersAlone_11 ?_
        refine lv_icmp_ge (tgt := 51) hx hb d_Query_lettersAlone_14 (by decide) (fun h14 => ?_) (fun h14 => ?_)
        · have hd := hd.1 h14
          refine lv_lload_n hx hb d_Query_lettersAlone_51 rfl (lv_at hl 1 rfl) ?_
          have e0 : res = y2 := hd
          subst e0
          exact ct_lretR hx hb hr hlocks d_Query_lettersAlone_52
        · have hd := hd.2 h14
          refine lv_aload_n hx hb d_Query_lettersAlone_17 rfl (lv_at hl 0 rfl) ?_
          refine lv_iload hx hb d_Query_lettersAlone_18 (lv_at hl 3 rfl) ?_
          obtain ⟨r20, c20, hd⟩ := hd
          refine ct_VR (As := [.int x5]) (rest := []) (C := R_Row) (ci := 1) (q := (R_Row, F_Row, 3)) ⟨hx, hb, hml, hown, hts⟩ fm_Row_element (c_Row_element l dC dI cI cL cZ ro roEa ron roE roC roO x5 r20 c20) k305_methodLink k4_instanceMethod k5_selects ⟨Nat.le_of_ble_eq_true rfl, Nat.le_of_ble_eq_true rfl⟩ rfl rfl hK hN hP hD [4, 5] rfl rfl (by decide) 4 rfl rfl rfl rfl hl.1 rfl (Nat.le_of_ble_eq_true rfl) d_Query_lettersAlone_20 ?_
          obtain ⟨r23, c23, hd⟩ := hd
          refine ct_SR (As := [.int r20]) (rest := []) ⟨hx, hb, hml, hown, hts⟩ fm_Letters_isLetter (c_Letters_isLetter l dC dI cI cL cZ r20 r23 c23) k306_methodLink k22_static ⟨Nat.le_of_ble_eq_true rfl, Nat.le_of_ble_eq_true rfl⟩ rfl rfl hK hN hP hD [] rfl rfl (by decide) rfl hl.1 rfl (Nat.le_of_ble_eq_true rfl) d_Query_lettersAlone_23 ?_
          refine lv_if_eq (tgt := 45) hx hb d_Query_lettersAlone_26 (by decide) (fun h26 => ?_) (fun h26 => ?_)
          · have hd := hd.1 h26
            refine lv_iinc (k := 3) (v := x5 + 1) (lv' := [(5, .int (x5 + 1)), (1, .ref ro), (2, .long y2), (4, .int x4)]) hx hb d_Query_lettersAlone_45 hl rfl (congrArg (fun z => x5 + z) (by decide)) (by decide) rfl (fun ls hl => ?_)
            refine lv_goto (tgt := 8) hx hb d_Query_lettersAlone_48 (by decide) ?_
            exact ih y2 x4 (x5 + 1) _ (lv_sub hl [1, 2, 3, 0] rfl) hd
          · have hd := hd.2 h26
            refine lv_lload_n hx hb d_Query_lettersAlone_29 rfl (lv_at hl 1 rfl) ?_
            refine lv_iload hx hb d_Query_lettersAlone_30 (lv_at hl 2 rfl) ?_
            refine lv_aload_n hx hb d_Query_lettersAlone_32 rfl (lv_at hl 0 rfl) ?_
            refine lv_iload hx hb d_Query_lettersAlone_33 (lv_at hl 3 rfl) ?_
            obtain ⟨r35, c35, hd⟩ := hd
            refine ct_VR (As := [.int x5]) (rest := [.int x4, .long y2]) (C := R_Row) (ci := 1) (q := (R_Row, F_Row, 3)) ⟨hx, hb, hml, hown, hts⟩ fm_Row_element (c_Row_element l dC dI cI cL cZ ro roEa ron roE roC roO x5 r35 c35) k305_methodLink k4_instanceMethod k5_selects ⟨Nat.le_of_ble_eq_true rfl, Nat.le_of_ble_eq_true rfl⟩ rfl rfl hK hN hP hD [4, 5] rfl rfl (by decide) 4 rfl rfl rfl rfl hl.1 rfl (Nat.le_of_ble_eq_true rfl) d_Query_lettersAlone_35 ?_
            obtain ⟨r38, c38, hd⟩ := hd
            refine ct_SR (As := [.long y2, .int x4, .int r35]) (rest := []) ⟨hx, hb, hml, hown, hts⟩ fm_Letters_extended (c_Letters_extended l dC dI cI cL cZ y2 x4 r35 r38 c38) k307_methodLink k26_static ⟨Nat.le_of_ble_eq_true rfl, Nat.le_of_ble_eq_true rfl⟩ rfl rfl hK hN hP hD [] rfl rfl (by decide) rfl hl.1 rfl (Nat.le_of_ble_eq_true rfl) d_Query_lettersAlone_38 ?_
            refine lv_lstore_n (lv' := [(2, .long r38), (1, .ref ro), (4, .int x4), (5, .int x5)]) hx hb d_Query_lettersAlone_41 rfl hl (by decide) rfl (fun ls hl => ?_)
            refine lv_iinc (k := 2) (v := x4 + 1) (lv' := [(4, .int (x4 + 1)), (2, .long r38), (1, .ref ro), (5, .int x5)]) hx hb d_Query_lettersAlone_42 hl rfl (congrArg (fun z => x4 + z) (by decide)) (by decide) rfl (fun ls hl => ?_)
            refine lv_iinc (k := 3) (v := x5 + 1) (lv' := [(5, .int (x5 + 1)), (4, .int (x4 + 1)), (2, .long r38), (1, .ref ro)]) hx hb d_Query_lettersAlone_45 hl rfl (congrArg (fun z => x5 + z) (by decide)) (by decide) rfl (fun ls hl => ?_)
            refine lv_goto (tgt := 8) hx hb d_Query_lettersAlone_48 (by decide) ?_
            exact ih r38 (x4 + 1) (x5 + 1) _ (lv_sub hl [3, 2, 1, 0] rfl) hd
  obtain ⟨n, hd⟩ := hd
  refine lv_lconst (v := 0) hx hb d_Query_lettersAlone_0 (by decide) ?_
  refine lv_lstore_n (lv' := [(2, .long 0), (0, .ref qu), (1, .ref ro)]) hx hb d_Query_lettersAlone_1 rfl hl (by decide) rfl (fun ls hl => ?_)
  refine lv_iconst (v := 0) hx hb d_Query_lettersAlone_2 (by decide) ?_
  refine lv_istore (lv' := [(4, .int 0), (2, .long 0), (0, .ref qu), (1, .ref ro)]) hx hb d_Query_lettersAlone_3 hl (by decide) rfl (fun ls hl => ?_)
  refine lv_iconst (v := 0) hx hb d_Query_lettersAlone_5 (by decide) ?_
  refine lv_istore (lv' := [(5, .int 0), (4, .int 0), (2, .long 0), (0, .ref qu), (1, .ref ro)]) hx hb d_Query_lettersAlone_6 hl (by decide) rfl (fun ls hl => ?_)
  exact (key n) 0 0 0 _ (lv_sub hl [4, 2, 1, 0] rfl) hd
-- Query.beginLevel
abbrev b_Query_beginLevel : ByteArray := prog_7_method_4_code
def y_Query_beginLevel : MethodName := ⟨"HelpFile$Query", "beginLevel", "()V"⟩
theorem k309_fieldLink : Cond.fieldLink "HelpFile$Query" 9 "HelpFile$Query" "found" "[I" ∈ ga := ga_t 139 (by decide +kernel) rfl
theorem k310_fieldLink : Cond.fieldLink "HelpFile$Query" 50 "HelpFile$Query" "level" "I" ∈ ga := ga_t 143 (by decide +kernel) rfl
theorem k311_fieldLink : Cond.fieldLink "HelpFile$Query" 15 "HelpFile$Query" "joined" "[I" ∈ ga := ga_t 140 (by decide +kernel) rfl
theorem k312_fieldLink : Cond.fieldLink "HelpFile$Query" 47 "HelpFile$Query" "everyTopic" "I" ∈ ga := ga_t 142 (by decide +kernel) rfl
theorem k313_fieldLink : Cond.fieldLink "HelpFile$Query" 18 "HelpFile$Query" "negated" "[Z" ∈ ga := ga_t 141 (by decide +kernel) rfl
theorem k314_fieldLink : Cond.fieldLink "HelpFile$Query" 56 "HelpFile$Query" "conditionDue" "Z" ∈ ga := ga_t 144 (by decide +kernel) rfl
set_option maxRecDepth 100000 in
theorem fm_Query_beginLevel : Fm y_Query_beginLevel b_Query_beginLevel 1 none 0 := ⟨ga_t 951 rfl rfl, k308_initialized, by decide, by decide, by decide +kernel⟩
def D_Query_beginLevel (quF : Nat → Int32) (quJ : Nat → Int32) (quN : Nat → Int32) (quE : Int32) (quL : Int32) (quD : Bool) (quF' : Nat → Int32) (quJ' : Nat → Int32) (quN' : Nat → Int32) (quD' : Bool) : Prop := (vp_in quL 41 ∧ (vp_in quL 41 ∧ (vp_in quL 41 ∧ (quF' = upd quF (Int32.toNatClampNeg quL) 0 ∧ quJ' = upd quJ (Int32.toNatClampNeg quL) quE ∧ quN' = upd quN (Int32.toNatClampNeg quL) (vp_nar .boolean 0) ∧ quD' = true))))
theorem d_Query_beginLevel_0 : decode b_Query_beginLevel 0 = .ok (.aload_n 0, 1) := by decide +kernel
theorem d_Query_beginLevel_1 : decode b_Query_beginLevel 1 = .ok (.getfield 9, 3) := by decide +kernel
theorem d_Query_beginLevel_4 : decode b_Query_beginLevel 4 = .ok (.aload_n 0, 1) := by decide +kernel
theorem d_Query_beginLevel_5 : decode b_Query_beginLevel 5 = .ok (.getfield 50, 3) := by decide +kernel
theorem d_Query_beginLevel_8 : decode b_Query_beginLevel 8 = .ok (.iconst 0, 1) := by decide +kernel
theorem d_Query_beginLevel_9 : decode b_Query_beginLevel 9 = .ok (.iastore, 1) := by decide +kernel
theorem d_Query_beginLevel_10 : decode b_Query_beginLevel 10 = .ok (.aload_n 0, 1) := by decide +kernel
theorem d_Query_beginLevel_11 : decode b_Query_beginLevel 11 = .ok (.getfield 15, 3) := by decide +kernel
theorem d_Query_beginLevel_14 : decode b_Query_beginLevel 14 = .ok (.aload_n 0, 1) := by decide +kernel
theorem d_Query_beginLevel_15 : decode b_Query_beginLevel 15 = .ok (.getfield 50, 3) := by decide +kernel
theorem d_Query_beginLevel_18 : decode b_Query_beginLevel 18 = .ok (.aload_n 0, 1) := by decide +kernel
theorem d_Query_beginLevel_19 : decode b_Query_beginLevel 19 = .ok (.getfield 47, 3) := by decide +kernel
theorem d_Query_beginLevel_22 : decode b_Query_beginLevel 22 = .ok (.iastore, 1) := by decide +kernel
theorem d_Query_beginLevel_23 : decode b_Query_beginLevel 23 = .ok (.aload_n 0, 1) := by decide +kernel
theorem d_Query_beginLevel_24 : decode b_Query_beginLevel 24 = .ok (.getfield 18, 3) := by decide +kernel
theorem d_Query_beginLevel_27 : decode b_Query_beginLevel 27 = .ok (.aload_n 0, 1) := by decide +kernel
theorem d_Query_beginLevel_28 : decode b_Query_beginLevel 28 = .ok (.getfield 50, 3) := by decide +kernel
theorem d_Query_beginLevel_31 : decode b_Query_beginLevel 31 = .ok (.iconst 0, 1) := by decide +kernel
theorem d_Query_beginLevel_32 : decode b_Query_beginLevel 32 = .ok (.bastore, 1) := by decide +kernel
theorem d_Query_beginLevel_33 : decode b_Query_beginLevel 33 = .ok (.aload_n 0, 1) := by decide +kernel
theorem d_Query_beginLevel_34 : decode b_Query_beginLevel 34 = .ok (.iconst 1, 1) := by decide +kernel
theorem d_Query_beginLevel_35 : decode b_Query_beginLevel 35 = .ok (.putfield 56, 3) := by decide +kernel
theorem d_Query_beginLevel_38 : decode b_Query_beginLevel 38 = .ok (.return_, 1) := by decide +kernel
set_option maxHeartbeats 4000000 in
set_option maxRecDepth 100000 in
theorem c_Query_beginLevel (l : Launch) (dC : Nat → ClassId) (dI : Nat → Nat → Nat) (cI cL cZ : ClassId) (qu : Nat) (quFa : Nat) (quF : Nat → Int32) (quJa : Nat) (quJ : Nat → Int32) (quNa : Nat) (quN : Nat → Int32) (quE : Int32) (quL : Int32) (quD : Bool) (quF' : Nat → Int32) (quJ' : Nat → Int32) (quN' : Nat → Int32) (quD' : Bool) (hd : D_Query_beginLevel quF quJ quN quE quL quD quF' quJ' quN' quD') : Ctr l y_Query_beginLevel (Cond.code y_Query_beginLevel b_Query_beginLevel 1 none :: ga) { frames := 0, cells := 0, slots := 0, locals := 0 } (dC, dI) classes (Tys cI cL cZ) [.ref qu] ((sh_Query cI cL cZ qu quFa quF quJa quJ quNa quN quE quL quD)) none ((sh_Query cI cL cZ qu quFa quF' quJa quJ' quNa quN' quE quL quD')) := by
  refine Ctr.ofW (by decide) (Nat.le_of_ble_eq_true rfl) ?_
  intro p e s m below meth c A ls hx hb hr hml hown hlocks hts hK hN hA hP hD hS hl
  have hown : s.vm.findClass R_Query = some m.cls := hown
  have hl : lv_has ls 1 [(0, .ref qu)] := hl
  refine lv_aload_n hx hb d_Query_beginLevel_0 rfl (lv_at hl 0 rfl) ?_
  refine va_get (D := (dC, dI)) (ci := 7) (v := .ref quFa) (C := R_Query) (T := F_Query) (N := 6) hx hb hts in_Query hown hK hP 0 rfl rfl 0 (by decide) (hts _ (List.mem_cons_of_mem _ k309_fieldLink)) (fun _ h9 => h9) rfl d_Query_beginLevel_1 ?_
  refine lv_aload_n hx hb d_Query_beginLevel_4 rfl (lv_at hl 0 rfl) ?_
  refine va_get (D := (dC, dI)) (ci := 7) (v := .int quL) (C := R_Query) (T := F_Query) (N := 6) hx hb hts in_Query hown hK hP 0 rfl rfl 4 (by decide) (hts _ (List.mem_cons_of_mem _ k310_fieldLink)) (fun _ h9 => h9) rfl d_Query_beginLevel_5 ?_
  refine lv_iconst (v := 0) hx hb d_Query_beginLevel_8 (by decide) ?_
  obtain ⟨h9, hd⟩ := hd
  refine va_iast hx hb hK hP hD hS 1 0 rfl rfl h9 d_Query_beginLevel_9 (fun H locs hP hD hS => ?_)
  have hP : va_P (dC, dI) classes ((sh_Query cI cL cZ qu quFa (upd quF (Int32.toNatClampNeg quL) 0) quJa quJ quNa quN quE quL quD)) H := hP
  have hD : va_D A ((sh_Query cI cL cZ qu quFa (upd quF (Int32.toNatClampNeg quL) 0) quJa quJ quNa quN quE quL quD)) := hD
  refine lv_aload_n hx hb d_Query_beginLevel_10 rfl (lv_at hl 0 rfl) ?_
  refine va_get (D := (dC, dI)) (ci := 7) (v := .ref quJa) (C := R_Query) (T := F_Query) (N := 6) hx hb hts in_Query hown hK hP 0 rfl rfl 1 (by decide) (hts _ (List.mem_cons_of_mem _ k311_fieldLink)) (fun _ h9 => h9) rfl d_Query_beginLevel_11 ?_
  refine lv_aload_n hx hb d_Query_beginLevel_14 rfl (lv_at hl 0 rfl) ?_
  refine va_get (D := (dC, dI)) (ci := 7) (v := .int quL) (C := R_Query) (T := F_Query) (N := 6) hx hb hts in_Query hown hK hP 0 rfl rfl 4 (by decide) (hts _ (List.mem_cons_of_mem _ k310_fieldLink)) (fun _ h9 => h9) rfl d_Query_beginLevel_15 ?_
  refine lv_aload_n hx hb d_Query_beginLevel_18 rfl (lv_at hl 0 rfl) ?_
  refine va_get (D := (dC, dI)) (ci := 7) (v := .int quE) (C := R_Query) (T := F_Query) (N := 6) hx hb hts in_Query hown hK hP 0 rfl rfl 3 (by decide) (hts _ (List.mem_cons_of_mem _ k312_fieldLink)) (fun _ h9 => h9) rfl d_Query_beginLevel_19 ?_
  obtain ⟨h22, hd⟩ := hd
  refine va_iast hx hb hK hP hD hS 2 0 rfl rfl h22 d_Query_beginLevel_22 (fun H locs hP hD hS => ?_)
  have hP : va_P (dC, dI) classes ((sh_Query cI cL cZ qu quFa (upd quF (Int32.toNatClampNeg quL) 0) quJa (upd quJ (Int32.toNatClampNeg quL) quE) quNa quN quE quL quD)) H := hP
  have hD : va_D A ((sh_Query cI cL cZ qu quFa (upd quF (Int32.toNatClampNeg quL) 0) quJa (upd quJ (Int32.toNatClampNeg quL) quE) quNa quN quE quL quD)) := hD
  refine lv_aload_n hx hb d_Query_beginLevel_23 rfl (lv_at hl 0 rfl) ?_
  refine va_get (D := (dC, dI)) (ci := 7) (v := .ref quNa) (C := R_Query) (T := F_Query) (N := 6) hx hb hts in_Query hown hK hP 0 rfl rfl 2 (by decide) (hts _ (List.mem_cons_of_mem _ k313_fieldLink)) (fun _ h9 => h9) rfl d_Query_beginLevel_24 ?_
  refine lv_aload_n hx hb d_Query_beginLevel_27 rfl (lv_at hl 0 rfl) ?_
  refine va_get (D := (dC, dI)) (ci := 7) (v := .int quL) (C := R_Query) (T := F_Query) (N := 6) hx hb hts in_Query hown hK hP 0 rfl rfl 4 (by decide) (hts _ (List.mem_cons_of_mem _ k310_fieldLink)) (fun _ h9 => h9) rfl d_Query_beginLevel_28 ?_
  refine lv_iconst (v := 0) hx hb d_Query_beginLevel_31 (by decide) ?_
  obtain ⟨h32, hd⟩ := hd
  refine va_zast hx hb hK hP hD hS 3 2 rfl rfl h32 d_Query_beginLevel_32 (fun H locs hP hD hS => ?_)
  have hP : va_P (dC, dI) classes ((sh_Query cI cL cZ qu quFa (upd quF (Int32.toNatClampNeg quL) 0) quJa (upd quJ (Int32.toNatClampNeg quL) quE) quNa (upd quN (Int32.toNatClampNeg quL) (vp_nar .boolean 0)) quE quL quD)) H := hP
  have hD : va_D A ((sh_Query cI cL cZ qu quFa (upd quF (Int32.toNatClampNeg quL) 0) quJa (upd quJ (Int32.toNatClampNeg quL) quE) quNa (upd quN (Int32.toNatClampNeg quL) (vp_nar .boolean 0)) quE quL quD)) := hD
  refine lv_aload_n hx hb d_Query_beginLevel_33 rfl (lv_at hl 0 rfl) ?_
  refine lv_iconst (v := 1) hx hb d_Query_beginLevel_34 (by decide) ?_
  refine va_put (D := (dC, dI)) (ci := 7) (v := .int (bI true)) (ty := t_Query 5) (C := R_Query) (T := F_Query) (N := 6) hx hb hts in_Query t_Query t_Query_ok n_Query hown hK hP hD hS 0 rfl rfl 5 (by decide) (hts _ (List.mem_cons_of_mem _ k314_fieldLink)) (fun _ h9 => h9) rfl (t_Query_ok 5 (by decide)) (bI_nar _) (bI_fit _) (Nat.le_of_ble_eq_true rfl) d_Query_beginLevel_35 (fun H locs hP hD hS => ?_)
  have hP : va_P (dC, dI) classes ((sh_Query cI cL cZ qu quFa (upd quF (Int32.toNatClampNeg quL) 0) quJa (upd quJ (Int32.toNatClampNeg quL) quE) quNa (upd quN (Int32.toNatClampNeg quL) (vp_nar .boolean 0)) quE quL true)) H := hP
  have hD : va_D A ((sh_Query cI cL cZ qu quFa (upd quF (Int32.toNatClampNeg quL) 0) quJa (upd quJ (Int32.toNatClampNeg quL) quE) quNa (upd quN (Int32.toNatClampNeg quL) (vp_nar .boolean 0)) quE quL true)) := hD
  obtain ⟨e0, e1, e2, e3⟩ := hd
  subst e0
  subst e1
  subst e2
  subst e3
  exact ct_vret hx hb hr hlocks hK hP hD hS d_Query_beginLevel_38
-- Query.closeCondition
abbrev b_Query_closeCondition : ByteArray := prog_7_method_5_code
def y_Query_closeCondition : MethodName := ⟨"HelpFile$Query", "closeCondition", "(I)V"⟩
set_option maxRecDepth 100000 in
theorem fm_Query_closeCondition : Fm y_Query_closeCondition b_Query_closeCondition 2 none 1 := ⟨ga_t 959 rfl rfl, k308_initialized, by decide, by decide, by decide +kernel⟩
def B_Query_closeCondition_36 (quE : Int32) (quL : Int32) (quJ' : Nat → Int32) (quN' : Nat → Int32) (quD' : Bool) (X : (Nat → Int32) → (Nat → Int32) → Bool → Prop) (quJ : Nat → Int32) (quN : Nat → Int32) (quD : Bool) : Prop := (vp_in quL 41 ∧ (quJ' = quJ ∧ quN' = upd quN (Int32.toNatClampNeg quL) (vp_nar .boolean 0) ∧ quD' = false))
def S_Query_closeCondition (quE : Int32) (quL : Int32) (quJ' : Nat → Int32) (quN' : Nat → Int32) (quD' : Bool) (X : (Nat → Int32) → (Nat → Int32) → Bool → Prop) : (Nat → Int32) → (Nat → Int32) → Bool → Prop := fun quJ quN quD => B_Query_closeCondition_36 quE quL quJ' quN' quD' X quJ quN quD
def T_Query_closeCondition (quE : Int32) (quL : Int32) (quJ' : Nat → Int32) (quN' : Nat → Int32) (quD' : Bool) : Nat → ((Nat → Int32) → (Nat → Int32) → Bool → Prop)
  | 0 => fun _ _ _ => False
  | n + 1 => S_Query_closeCondition quE quL quJ' quN' quD' (T_Query_closeCondition quE quL quJ' quN' quD' n)
def D_Query_closeCondition (k0 : Int32) (quJ : Nat → Int32) (quN : Nat → Int32) (quE : Int32) (quL : Int32) (quD : Bool) (quJ' : Nat → Int32) (quN' : Nat → Int32) (quD' : Bool) : Prop := ∃ n : Nat, (vp_in quL 41 ∧ (vp_in quL 41 ∧ (((quN (Int32.toNatClampNeg quL)) = 0 → (vp_in quL 41 ∧ T_Query_closeCondition quE quL quJ' quN' quD' n (upd quJ (Int32.toNatClampNeg quL) ((quJ (Int32.toNatClampNeg quL)) &&& k0)) quN quD)) ∧ (¬ ((quN (Int32.toNatClampNeg quL)) = 0) → (vp_in quL 41 ∧ T_Query_closeCondition quE quL quJ' quN' quD' n (upd quJ (Int32.toNatClampNeg quL) ((quJ (Int32.toNatClampNeg quL)) &&& (quE &&& (k0 ^^^ (-1))))) quN quD)))))
theorem d_Query_closeCondition_0 : decode b_Query_closeCondition 0 = .ok (.aload_n 0, 1) := by decide +kernel
theorem d_Query_closeCondition_1 : decode b_Query_closeCondition 1 = .ok (.getfield 15, 3) := by decide +kernel
theorem d_Query_closeCondition_4 : decode b_Query_closeCondition 4 = .ok (.aload_n 0, 1) := by decide +kernel
theorem d_Query_closeCondition_5 : decode b_Query_closeCondition 5 = .ok (.getfield 50, 3) := by decide +kernel
theorem d_Query_closeCondition_8 : decode b_Query_closeCondition 8 = .ok (.dup2, 1) := by decide +kernel
theorem d_Query_closeCondition_9 : decode b_Query_closeCondition 9 = .ok (.iaload, 1) := by decide +kernel
theorem d_Query_closeCondition_10 : decode b_Query_closeCondition 10 = .ok (.aload_n 0, 1) := by decide +kernel
theorem d_Query_closeCondition_11 : decode b_Query_closeCondition 11 = .ok (.getfield 18, 3) := by decide +kernel
theorem d_Query_closeCondition_14 : decode b_Query_closeCondition 14 = .ok (.aload_n 0, 1) := by decide +kernel
theorem d_Query_closeCondition_15 : decode b_Query_closeCondition 15 = .ok (.getfield 50, 3) := by decide +kernel
theorem d_Query_closeCondition_18 : decode b_Query_closeCondition 18 = .ok (.baload, 1) := by decide +kernel
theorem d_Query_closeCondition_19 : decode b_Query_closeCondition 19 = .ok (.ifCond .eq 14, 3) := by decide +kernel
theorem d_Query_closeCondition_22 : decode b_Query_closeCondition 22 = .ok (.aload_n 0, 1) := by decide +kernel
theorem d_Query_closeCondition_23 : decode b_Query_closeCondition 23 = .ok (.getfield 47, 3) := by decide +kernel
theorem d_Query_closeCondition_26 : decode b_Query_closeCondition 26 = .ok (.iload_n 1, 1) := by decide +kernel
theorem d_Query_closeCondition_27 : decode b_Query_closeCondition 27 = .ok (.iconst (-1), 1) := by decide +kernel
theorem d_Query_closeCondition_28 : decode b_Query_closeCondition 28 = .ok (.ixor, 1) := by decide +kernel
theorem d_Query_closeCondition_29 : decode b_Query_closeCondition 29 = .ok (.iand, 1) := by decide +kernel
theorem d_Query_closeCondition_30 : decode b_Query_closeCondition 30 = .ok (.goto 4, 3) := by decide +kernel
theorem d_Query_closeCondition_33 : decode b_Query_closeCondition 33 = .ok (.iload_n 1, 1) := by decide +kernel
theorem d_Query_closeCondition_34 : decode b_Query_closeCondition 34 = .ok (.iand, 1) := by decide +kernel
theorem d_Query_closeCondition_35 : decode b_Query_closeCondition 35 = .ok (.iastore, 1) := by decide +kernel
theorem d_Query_closeCondition_36 : decode b_Query_closeCondition 36 = .ok (.aload_n 0, 1) := by decide +kernel
theorem d_Query_closeCondition_37 : decode b_Query_closeCondition 37 = .ok (.getfield 18, 3) := by decide +kernel
theorem d_Query_closeCondition_40 : decode b_Query_closeCondition 40 = .ok (.aload_n 0, 1) := by decide +kernel
theorem d_Query_closeCondition_41 : decode b_Query_closeCondition 41 = .ok (.getfield 50, 3) := by decide +kernel
theorem d_Query_closeCondition_44 : decode b_Query_closeCondition 44 = .ok (.iconst 0, 1) := by decide +kernel
theorem d_Query_closeCondition_45 : decode b_Query_closeCondition 45 = .ok (.bastore, 1) := by decide +kernel
theorem d_Query_closeCondition_46 : decode b_Query_closeCondition 46 = .ok (.aload_n 0, 1) := by decide +kernel
theorem d_Query_closeCondition_47 : decode b_Query_closeCondition 47 = .ok (.iconst 0, 1) := by decide +kernel
theorem d_Query_closeCondition_48 : decode b_Query_closeCondition 48 = .ok (.putfield 56, 3) := by decide +kernel
theorem d_Query_closeCondition_51 : decode b_Query_closeCondition 51 = .ok (.return_, 1) := by decide +kernel
set_option maxHeartbeats 4000000 in
set_option maxRecDepth 100000 in
theorem c_Query_closeCondition (l : Launch) (dC : Nat → ClassId) (dI : Nat → Nat → Nat) (cI cL cZ : ClassId) (qu : Nat) (quFa : Nat) (quF : Nat → Int32) (quJa : Nat) (quJ : Nat → Int32) (quNa : Nat) (quN : Nat → Int32) (quE : Int32) (quL : Int32) (quD : Bool) (k0 : Int32) (quJ' : Nat → Int32) (quN' : Nat → Int32) (quD' : Bool) (hd : D_Query_closeCondition k0 quJ quN quE quL quD quJ' quN' quD') : Ctr l y_Query_closeCondition (Cond.code y_Query_closeCondition b_Query_closeCondition 2 none :: ga) { frames := 0, cells := 0, slots := 0, locals := 0 } (dC, dI) classes (Tys cI cL cZ) [.ref qu, .int k0] ((sh_Query cI cL cZ qu quFa quF quJa quJ quNa quN quE quL quD)) none ((sh_Query cI cL cZ qu quFa quF quJa quJ' quNa quN' quE quL quD')) := by
  refine Ctr.ofW (by decide) (Nat.le_of_ble_eq_true rfl) ?_
  intro p e s m below meth c A ls hx hb hr hml hown hlocks hts hK hN hA hP hD hS hl
  have hown : s.vm.findClass R_Query = some m.cls := hown
  have hl : lv_has ls 2 [(0, .ref qu), (1, .int k0)] := hl
  have key : ∀ n : Nat, (∀ (quJ : Nat → Int32) (quN : Nat → Int32) (quD : Bool) (ls : Array Slot) (H : Heap) (locs : List Loc), lv_has ls 2 [(0, .ref qu)] → va_P (dC, dI) classes ((sh_Query cI cL cZ qu quFa quF quJa quJ quNa quN quE quL quD)) H → va_D A ((sh_Query cI cL cZ qu quFa quF quJa quJ quNa quN quE quL quD)) → va_S A s.heap H locs → T_Query_closeCondition quE quL quJ' quN' quD' n quJ quN quD → W p l e ({ frames := 0, cells := 0, slots := 0, locals := 0 }) s m ([.ref qu, .int k0] : List Value).toArray below meth c H locs 0 0 (MQ below (Qs (dC, dI) classes (Tys cI cL cZ) none ((sh_Query cI cL cZ qu quFa quF quJa quJ' quNa quN' quE quL quD')) A) ([.ref qu, .int k0] : List Value).toArray s 0 0 A) (F0 m 36 ls [])) := by
    intro n
    induction n with
    | zero =>
      exact fun _ _ _ _ _ _ _ _ _ _ hd => False.elim hd
    | succ n ih =>
      · intro quJ quN quD ls H locs hl hP hD hS hd
        have hd : B_Query_closeCondition_36 quE quL quJ' quN' quD' (T_Query_closeCondition quE quL quJ' quN' quD' n) quJ quN quD := hd
        refine lv_aload_n hx hb d_Query_closeCondition_36 rfl (lv_at hl 0 rfl) ?_
        refine va_get (D := (dC, dI)) (ci := 7) (v := .ref quNa) (C := R_Query) (T := F_Query) (N := 6) hx hb hts in_Query hown hK hP 0 rfl rfl 2 (by decide) (hts _ (List.mem_cons_of_mem _ k313_fieldLink)) (fun _ h9 => h9) rfl d_Query_closeCondition_37 ?_
        refine lv_aload_n hx hb d_Query_closeCondition_40 rfl (lv_at hl 0 rfl) ?_
        refine va_get (D := (dC, dI)) (ci := 7) (v := .int quL) (C := R_Query) (T := F_Query) (N := 6) hx hb hts in_Query hown hK hP 0 rfl rfl 4 (by decide) (hts _ (List.mem_cons_of_mem _ k310_fieldLink)) (fun _ h9 => h9) rfl d_Query_closeCondition_41 ?_
        refine lv_iconst (v := 0) hx hb d_Query_closeCondition_44 (by decide) ?_
        obtain ⟨h45, hd⟩ := hd
        refine va_zast hx hb hK hP hD hS 3 2 rfl rfl h45 d_Query_closeCondition_45 (fun H locs hP hD hS => ?_)
        have hP : va_P (dC, dI) classes ((sh_Query cI cL cZ qu quFa quF quJa quJ quNa (upd quN (Int32.toNatClampNeg quL) (vp_nar .boolean 0)) quE quL quD)) H := hP
        have hD : va_D A ((sh_Query cI cL cZ qu quFa quF quJa quJ quNa (upd quN (Int32.toNatClampNeg quL) (vp_nar .boolean 0)) quE quL quD)) := hD
        refine lv_aload_n hx hb d_Query_closeCondition_46 rfl (lv_at hl 0 rfl) ?_
        refine lv_iconst (v := 0) hx hb d_Query_closeCondition_47 (by decide) ?_
        refine va_put (D := (dC, dI)) (ci := 7) (v := .int (bI false)) (ty := t_Query 5) (C := R_Query) (T := F_Query) (N := 6) hx hb hts in_Query t_Query t_Query_ok n_Query hown hK hP hD hS 0 rfl rfl 5 (by decide) (hts _ (List.mem_cons_of_mem _ k314_fieldLink)) (fun _ h9 => h9) rfl (t_Query_ok 5 (by decide)) (bI_nar _) (bI_fit _) (Nat.le_of_ble_eq_true rfl) d_Query_closeCondition_48 (fun H locs hP hD hS => ?_)
        have hP : va_P (dC, dI) classes ((sh_Query cI cL cZ qu quFa quF quJa quJ quNa (upd quN (Int32.toNatClampNeg quL) (vp_nar .boolean 0)) quE quL false)) H := hP
        have hD : va_D A ((sh_Query cI cL cZ qu quFa quF quJa quJ quNa (upd quN (Int32.toNatClampNeg quL) (vp_nar .boolean 0)) quE quL false)) := hD
        obtain ⟨e0, e1, e2⟩ := hd
        subst e0
        subst e1
        subst e2
        exact ct_vret hx hb hr hlocks hK hP hD hS d_Query_closeCondition_51
  obtain ⟨n, hd⟩ := hd
  refine lv_aload_n hx hb d_Query_closeCondition_0 rfl (lv_at hl 0 rfl) ?_
  refine va_get (D := (dC, dI)) (ci := 7) (v := .ref quJa) (C := R_Query) (T := F_Query) (N := 6) hx hb hts in_Query hown hK hP 0 rfl rfl 1 (by decide) (hts _ (List.mem_cons_of_mem _ k311_fieldLink)) (fun _ h9 => h9) rfl d_Query_closeCondition_1 ?_
  refine lv_aload_n hx hb d_Query_closeCondition_4 rfl (lv_at hl 0 rfl) ?_
  refine va_get (D := (dC, dI)) (ci := 7) (v := .int quL) (C := R_Query) (T := F_Query) (N := 6) hx hb hts in_Query hown hK hP 0 rfl rfl 4 (by decide) (hts _ (List.mem_cons_of_mem _ k310_fieldLink)) (fun _ h9 => h9) rfl d_Query_closeCondition_5 ?_
  refine lv_dup2_11 hx hb d_Query_closeCondition_8 rfl rfl ?_
  obtain ⟨h9, hd⟩ := hd
  refine va_iald hx hb hK hP 2 0 rfl rfl h9 d_Query_closeCondition_9 ?_
  refine lv_aload_n hx hb d_Query_closeCondition_10 rfl (lv_at hl 0 rfl) ?_
  refine va_get (D := (dC, dI)) (ci := 7) (v := .ref quNa) (C := R_Query) (T := F_Query) (N := 6) hx hb hts in_Query hown hK hP 0 rfl rfl 2 (by decide) (hts _ (List.mem_cons_of_mem _ k313_fieldLink)) (fun _ h9 => h9) rfl d_Query_closeCondition_11 ?_
  refine lv_aload_n hx hb d_Query_closeCondition_14 rfl (lv_at hl 0 rfl) ?_
  refine va_get (D := (dC, dI)) (ci := 7) (v := .int quL) (C := R_Query) (T := F_Query) (N := 6) hx hb hts in_Query hown hK hP 0 rfl rfl 4 (by decide) (hts _ (List.mem_cons_of_mem _ k310_fieldLink)) (fun _ h9 => h9) rfl d_Query_closeCondition_15 ?_
  obtain ⟨h18, hd⟩ := hd
  refine va_zald hx hb hK hP 3 2 rfl rfl h18 d_Query_closeCondition_18 ?_
  refine lv_if_eq (tgt := 33) hx hb d_Query_closeCondition_19 (by decide) (fun h19 => ?_) (fun h19 => ?_)
  · have hd := hd.1 h19
    refine lv_iload_n hx hb d_Query_closeCondition_33 rfl (lv_at hl 1 rfl) ?_
    refine lv_iand hx hb d_Query_closeCondition_34 ?_
    obtain ⟨h35, hd⟩ := hd
    refine va_iast hx hb hK hP hD hS 2 0 rfl rfl h35 d_Query_closeCondition_35 (fun H locs hP hD hS => ?_)
    have hP : va_P (dC, dI) classes ((sh_Query cI cL cZ qu quFa quF quJa (upd quJ (Int32.toNatClampNeg quL) ((quJ (Int32.toNatClampNeg quL)) &&& k0)) quNa quN quE quL quD)) H := hP
    have hD : va_D A ((sh_Query cI cL cZ qu quFa quF quJa (upd quJ (Int32.toNatClampNeg quL) ((quJ (Int32.toNatClampNeg quL)) &&& k0)) quNa quN quE quL quD)) := hD
    exact (key n) (upd quJ (Int32.toNatClampNeg quL) ((quJ (Int32.toNatClampNeg quL)) &&& k0)) quN quD _ _ _ (lv_sub hl [0] rfl) hP hD hS hd
  · have hd := hd.2 h19
    refine lv_aload_n hx hb d_Query_closeCondition_22 rfl (lv_at hl 0 rfl) ?_
    refine va_get (D := (dC, dI)) (ci := 7) (v := .int quE) (C := R_Query) (T := F_Query) (N := 6) hx hb hts in_Query hown hK hP 0 rfl rfl 3 (by decide) (hts _ (List.mem_cons_of_mem _ k312_fieldLink)) (fun _ h9 => h9) rfl d_Query_closeCondition_23 ?_
    refine lv_iload_n hx hb d_Query_closeCondition_26 rfl (lv_at hl 1 rfl) ?_
    refine lv_iconst (v := (-1)) hx hb d_Query_closeCondition_27 (by decide) ?_
    refine lv_ixor hx hb d_Query_closeCondition_28 ?_
    refine lv_iand hx hb d_Query_closeCondition_29 ?_
    refine lv_goto (tgt := 34) hx hb d_Query_closeCondition_30 (by decide) ?_
    refine lv_iand hx hb d_Query_closeCondition_34 ?_
    obtain ⟨h35, hd⟩ := hd
    refine va_iast hx hb hK hP hD hS 2 0 rfl rfl h35 d_Query_closeCondition_35 (fun H locs hP hD hS => ?_)
    have hP : va_P (dC, dI) classes ((sh_Query cI cL cZ qu quFa quF quJa (upd quJ (Int32.toNatClampNeg quL) ((quJ (Int32.toNatClampNeg quL)) &&& (quE &&& (k0 ^^^ (-1))))) quNa quN quE quL quD)) H := hP
    have hD : va_D A ((sh_Query cI cL cZ qu quFa quF quJa (upd quJ (Int32.toNatClampNeg quL) ((quJ (Int32.toNatClampNeg quL)) &&& (quE &&& (k0 ^^^ (-1))))) quNa quN quE quL quD)) := hD
    exact (key n) (upd quJ (Int32.toNatClampNeg quL) ((quJ (Int32.toNatClampNeg quL)) &&& (quE &&& (k0 ^^^ (-1))))) quN quD _ _ _ (lv_sub hl [0] rfl) hP hD hS hd
-- Query.opens
abbrev b_Query_opens : ByteArray := prog_7_method_6_code
def y_Query_opens : MethodName := ⟨"HelpFile$Query", "opens", "(I)Z"⟩
theorem k315_methodLink : Cond.methodLink "HelpFile$Query" 53 ⟨"HelpFile$Query", "beginLevel", "()V"⟩ ∈ ga := ga_t 948 (by decide +kernel) rfl
theorem k316_instanceMethod : Cond.instanceMethod ⟨"HelpFile$Query", "beginLevel", "()V"⟩ ∈ ga := ga_t 950 (by decide +kernel) rfl
theorem k317_selects : Cond.selects "HelpFile$Query" ⟨"HelpFile$Query", "beginLevel", "()V"⟩ ⟨"HelpFile$Query", "beginLevel", "()V"⟩ ∈ ga := ga_s (q := (⟨"HelpFile$Query", "beginLevel", "()V"⟩, _)) 24 rfl
set_option maxRecDepth 100000 in
theorem fm_Query_opens : Fm y_Query_opens b_Query_opens 2 (some .boolean) 1 := ⟨ga_t 963 rfl rfl, k308_initialized, by decide, by decide, by decide +kernel⟩
def D_Query_opens (k0 : Int32) (quF : Nat → Int32) (quJ : Nat → Int32) (quN : Nat → Int32) (quE : Int32) (quL : Int32) (quD : Bool) (res : Bool) (quF' : Nat → Int32) (quJ' : Nat → Int32) (quN' : Nat → Int32) (quL' : Int32) (quD' : Bool) : Prop := ((k0 = 33 → (vp_in quL 41 ∧ (((quN (Int32.toNatClampNeg quL)) = 0 → (vp_in quL 41 ∧ (res = true ∧ quF' = quF ∧ quJ' = quJ ∧ quN' = upd quN (Int32.toNatClampNeg quL) (vp_nar .boolean 1) ∧ quL' = quL ∧ quD' = quD))) ∧ (¬ ((quN (Int32.toNatClampNeg quL)) = 0) → (vp_in quL 41 ∧ (res = true ∧ quF' = quF ∧ quJ' = quJ ∧ quN' = upd quN (Int32.toNatClampNeg quL) (vp_nar .boolean 0) ∧ quL' = quL ∧ quD' = quD)))))) ∧ (¬ (k0 = 33) → ((k0 = 40 → ((40 ≤ quL → (res = false ∧ quF' = quF ∧ quJ' = quJ ∧ quN' = quN ∧ quL' = quL ∧ quD' = quD)) ∧ (¬ (40 ≤ quL) → (∃ quF_60 : Nat → Int32, ∃ quJ_60 : Nat → Int32, ∃ quN_60 : Nat → Int32, ∃ quD_60 : Bool, D_Query_beginLevel quF quJ quN quE (quL + 1) quD quF_60 quJ_60 quN_60 quD_60 ∧ (res = true ∧ quF' = quF_60 ∧ quJ' = quJ_60 ∧ quN' = quN_60 ∧ quL' = quL + 1 ∧ quD' = quD_60))))) ∧ (¬ (k0 = 40) → (res = false ∧ quF' = quF ∧ quJ' = quJ ∧ quN' = quN ∧ quL' = quL ∧ quD' = quD)))))
theorem d_Query_opens_0 : decode b_Query_opens 0 = .ok (.iload_n 1, 1) := by decide +kernel
theorem d_Query_opens_1 : decode b_Query_opens 1 = .ok (.bipush 33, 2) := by decide +kernel
theorem d_Query_opens_3 : decode b_Query_opens 3 = .ok (.if_icmp .ne 31, 3) := by decide +kernel
theorem d_Query_opens_6 : decode b_Query_opens 6 = .ok (.aload_n 0, 1) := by decide +kernel
theorem d_Query_opens_7 : decode b_Query_opens 7 = .ok (.getfield 18, 3) := by decide +kernel
theorem d_Query_opens_10 : decode b_Query_opens 10 = .ok (.aload_n 0, 1) := by decide +kernel
theorem d_Query_opens_11 : decode b_Query_opens 11 = .ok (.getfield 50, 3) := by decide +kernel
theorem d_Query_opens_14 : decode b_Query_opens 14 = .ok (.aload_n 0, 1) := by decide +kernel
theorem d_Query_opens_15 : decode b_Query_opens 15 = .ok (.getfield 18, 3) := by decide +kernel
theorem d_Query_opens_18 : decode b_Query_opens 18 = .ok (.aload_n 0, 1) := by decide +kernel
theorem d_Query_opens_19 : decode b_Query_opens 19 = .ok (.getfield 50, 3) := by decide +kernel
theorem d_Query_opens_22 : decode b_Query_opens 22 = .ok (.baload, 1) := by decide +kernel
theorem d_Query_opens_23 : decode b_Query_opens 23 = .ok (.ifCond .ne 7, 3) := by decide +kernel
theorem d_Query_opens_26 : decode b_Query_opens 26 = .ok (.iconst 1, 1) := by decide +kernel
theorem d_Query_opens_27 : decode b_Query_opens 27 = .ok (.goto 4, 3) := by decide +kernel
theorem d_Query_opens_30 : decode b_Query_opens 30 = .ok (.iconst 0, 1) := by decide +kernel
theorem d_Query_opens_31 : decode b_Query_opens 31 = .ok (.bastore, 1) := by decide +kernel
theorem d_Query_opens_32 : decode b_Query_opens 32 = .ok (.iconst 1, 1) := by decide +kernel
theorem d_Query_opens_33 : decode b_Query_opens 33 = .ok (.ireturn, 1) := by decide +kernel
theorem d_Query_opens_34 : decode b_Query_opens 34 = .ok (.iload_n 1, 1) := by decide +kernel
theorem d_Query_opens_35 : decode b_Query_opens 35 = .ok (.bipush 40, 2) := by decide +kernel
theorem d_Query_opens_37 : decode b_Query_opens 37 = .ok (.if_icmp .ne 28, 3) := by decide +kernel
theorem d_Query_opens_40 : decode b_Query_opens 40 = .ok (.aload_n 0, 1) := by decide +kernel
theorem d_Query_opens_41 : decode b_Query_opens 41 = .ok (.getfield 50, 3) := by decide +kernel
theorem d_Query_opens_44 : decode b_Query_opens 44 = .ok (.bipush 40, 2) := by decide +kernel
theorem d_Query_opens_46 : decode b_Query_opens 46 = .ok (.if_icmp .ge 19, 3) := by decide +kernel
theorem d_Query_opens_49 : decode b_Query_opens 49 = .ok (.aload_n 0, 1) := by decide +kernel
theorem d_Query_opens_50 : decode b_Query_opens 50 = .ok (.dup, 1) := by decide +kernel
theorem d_Query_opens_51 : decode b_Query_opens 51 = .ok (.getfield 50, 3) := by decide +kernel
theorem d_Query_opens_54 : decode b_Query_opens 54 = .ok (.iconst 1, 1) := by decide +kernel
theorem d_Query_opens_55 : decode b_Query_opens 55 = .ok (.iadd, 1) := by decide +kernel
theorem d_Query_opens_56 : decode b_Query_opens 56 = .ok (.putfield 50, 3) := by decide +kernel
theorem d_Query_opens_59 : decode b_Query_opens 59 = .ok (.aload_n 0, 1) := by decide +kernel
theorem d_Query_opens_60 : decode b_Query_opens 60 = .ok (.invokevirtual 53, 3) := by decide +kernel
theorem d_Query_opens_63 : decode b_Query_opens 63 = .ok (.iconst 1, 1) := by decide +kernel
theorem d_Query_opens_64 : decode b_Query_opens 64 = .ok (.ireturn, 1) := by decide +kernel
theorem d_Query_opens_65 : decode b_Query_opens 65 = .ok (.iconst 0, 1) := by decide +kernel
theorem d_Query_opens_66 : decode b_Query_opens 66 = .ok (.ireturn, 1) := by decide +kernel
set_option maxHeartbeats 4000000 in
set_option maxRecDepth 100000 in
theorem c_Query_opens (l : Launch) (dC : Nat → ClassId) (dI : Nat → Nat → Nat) (cI cL cZ : ClassId) (qu : Nat) (quFa : Nat) (quF : Nat → Int32) (quJa : Nat) (quJ : Nat → Int32) (quNa : Nat) (quN : Nat → Int32) (quE : Int32) (quL : Int32) (quD : Bool) (k0 : Int32) (res : Bool) (quF' : Nat → Int32) (quJ' : Nat → Int32) (quN' : Nat → Int32) (quL' : Int32) (quD' : Bool) (hd : D_Query_opens k0 quF quJ quN quE quL quD res quF' quJ' quN' quL' quD') : Ctr l y_Query_opens (Cond.code y_Query_opens b_Query_opens 2 (some .boolean) :: ga) { frames := 1, cells := 0, slots := 0, locals := 20 } (dC, dI) classes (Tys cI cL cZ) [.ref qu, .int k0] ((sh_Query cI cL cZ qu quFa quF quJa quJ quNa quN quE quL quD)) (some (.int (bI res))) ((sh_Query cI cL cZ qu quFa quF' quJa quJ' quNa quN' quE quL' quD')) := by
  refine Ctr.ofW (by decide) (Nat.le_of_ble_eq_true rfl) ?_
  intro p e s m below meth c A ls hx hb hr hml hown hlocks hts hK hN hA hP hD hS hl
  have hown : s.vm.findClass R_Query = some m.cls := hown
  have hl : lv_has ls 2 [(0, .ref qu), (1, .int k0)] := hl
  refine lv_iload_n hx hb d_Query_opens_0 rfl (lv_at hl 1 rfl) ?_
  refine lv_bipush (v := 33) hx hb d_Query_opens_1 (by decide) ?_
  refine lv_icmp_ne (tgt := 34) hx hb d_Query_opens_3 (by decide) (fun h3 => ?_) (fun h3 => ?_)
  · have hd := hd.2 h3
    refine lv_iload_n hx hb d_Query_opens_34 rfl (lv_at hl 1 rfl) ?_
    refine lv_bipush (v := 40) hx hb d_Query_opens_35 (by decide) ?_
    refine lv_icmp_ne (tgt := 65) hx hb d_Query_opens_37 (by decide) (fun h37 => ?_) (fun h37 => ?_)
    · have hd := hd.2 h37
      refine lv_iconst (v := 0) hx hb d_Query_opens_65 (by decide) ?_
      obtain ⟨e0, e1, e2, e3, e4, e5⟩ := hd
      subst e0
      subst e1
      subst e2
      subst e3
      subst e4
      subst e5
      exact ct_zret (b := false) hx hb hr hlocks hK hP hD hS d_Query_opens_66
    · have hd := hd.1 h37
      refine lv_aload_n hx hb d_Query_opens_40 rfl (lv_at hl 0 rfl) ?_
      refine va_get (D := (dC, dI)) (ci := 7) (v := .int quL) (C := R_Query) (T := F_Query) (N := 6) hx hb hts in_Query hown hK hP 0 rfl rfl 4 (by decide) (hts _ (List.mem_cons_of_mem _ k310_fieldLink)) (fun _ h9 => h9) rfl d_Query_opens_41 ?_
      refine lv_bipush (v := 40) hx hb d_Query_opens_44 (by decide) ?_
      refine lv_icmp_ge (tgt := 65) hx hb d_Query_opens_46 (by decide) (fun h46 => ?_) (fun h46 => ?_)
      · have hd := hd.1 h46
        refine lv_iconst (v := 0) hx hb d_Query_opens_65 (by decide) ?_
        obtain ⟨e0, e1, e2, e3, e4, e5⟩ := hd
        subst e0
        subst e1
        subst e2
        subst e3
        subst e4
        subst e5
        exact ct_zret (b := false) hx hb hr hlocks hK hP hD hS d_Query_opens_66
      · have hd := hd.2 h46
        refine lv_aload_n hx hb d_Query_opens_49 rfl (lv_at hl 0 rfl) ?_
        refine lv_dup hx hb d_Query_opens_50 rfl ?_
        refine va_get (D := (dC, dI)) (ci := 7) (v := .int quL) (C := R_Query) (T := F_Query) (N := 6) hx hb hts in_Query hown hK hP 0 rfl rfl 4 (by decide) (hts _ (List.mem_cons_of_mem _ k310_fieldLink)) (fun _ h9 => h9) rfl d_Query_opens_51 ?_
        refine lv_iconst (v := 1) hx hb d_Query_opens_54 (by decide) ?_
        refine lv_iadd hx hb d_Query_opens_55 ?_
        refine va_put (D := (dC, dI)) (ci := 7) (v := .int (quL + 1)) (ty := t_Query 4) (C := R_Query) (T := F_Query) (N := 6) hx hb hts in_Query t_Query t_Query_ok n_Query hown hK hP hD hS 0 rfl rfl 4 (by decide) (hts _ (List.mem_cons_of_mem _ k310_fieldLink)) (fun _ h9 => h9) rfl (t_Query_ok 4 (by decide)) rfl rfl (Nat.le_of_ble_eq_true rfl) d_Query_opens_56 (fun H locs hP hD hS => ?_)
        have hP : va_P (dC, dI) classes ((sh_Query cI cL cZ qu quFa quF quJa quJ quNa quN quE (quL + 1) quD)) H := hP
        have hD : va_D A ((sh_Query cI cL cZ qu quFa quF quJa quJ quNa quN quE (quL + 1) quD)) := hD
        refine lv_aload_n hx hb d_Query_opens_59 rfl (lv_at hl 0 rfl) ?_
        obtain ⟨quF_60, quJ_60, quN_60, quD_60, c60, hd⟩ := hd
        refine ct_V (As := []) (rest := []) (C := R_Query) (ci := 7) (q := (R_Query, F_Query, 6)) ⟨hx, hb, hml, hown, hts⟩ fm_Query_beginLevel (c_Query_beginLevel l dC dI cI cL cZ qu quFa quF quJa quJ quNa quN quE (quL + 1) quD quF_60 quJ_60 quN_60 quD_60 c60) k315_methodLink k316_instanceMethod k317_selects ⟨Nat.le_of_ble_eq_true rfl, Nat.le_of_ble_eq_true rfl⟩ rfl rfl hK hN hP hD hS hA [0, 1, 2, 3] [] rfl rfl rfl (by decide) (by decide) (by decide) 0 rfl rfl rfl rfl hl.1 rfl (Nat.le_of_ble_eq_true rfl) d_Query_opens_60 (fun H locs hP hD hS => ?_)
        have hP : va_P (dC, dI) classes ((sh_Query cI cL cZ qu quFa quF_60 quJa quJ_60 quNa quN_60 quE (quL + 1) quD_60)) H := hP.sub [0, 1, 2, 3] rfl
        have hD : va_D A ((sh_Query cI cL cZ qu quFa quF_60 quJa quJ_60 quNa quN_60 quE (quL + 1) quD_60)) := hD.sub [0, 1, 2, 3] (by decide) rfl
        refine lv_iconst (v := 1) hx hb d_Query_opens_63 (by decide) ?_
        obtain ⟨e0, e1, e2, e3, e4, e5⟩ := hd
        subst e0
        subst e1
        subst e2
        subst e3
        subst e4
        subst e5
        exact ct_zret (b := true) hx hb hr hlocks hK hP hD hS d_Query_opens_64
  · have hd := hd.1 h3
    refine lv_aload_n hx hb d_Query_opens_6 rfl (lv_at hl 0 rfl) ?_
    refine va_get (D := (dC, dI)) (ci := 7) (v := .ref quNa) (C := R_Query) (T := F_Query) (N := 6) hx hb hts in_Query hown hK hP 0 rfl rfl 2 (by decide) (hts _ (List.mem_cons_of_mem _ k313_fieldLink)) (fun _ h9 => h9) rfl d_Query_opens_7 ?_
    refine lv_aload_n hx hb d_Query_opens_10 rfl (lv_at hl 0 rfl) ?_
    refine va_get (D := (dC, dI)) (ci := 7) (v := .int quL) (C := R_Query) (T := F_Query) (N := 6) hx hb hts in_Query hown hK hP 0 rfl rfl 4 (by decide) (hts _ (List.mem_cons_of_mem _ k310_fieldLink)) (fun _ h9 => h9) rfl d_Query_opens_11 ?_
    refine lv_aload_n hx hb d_Query_opens_14 rfl (lv_at hl 0 rfl) ?_
    refine va_get (D := (dC, dI)) (ci := 7) (v := .ref quNa) (C := R_Query) (T := F_Query) (N := 6) hx hb hts in_Query hown hK hP 0 rfl rfl 2 (by decide) (hts _ (List.mem_cons_of_mem _ k313_fieldLink)) (fun _ h9 => h9) rfl d_Query_opens_15 ?_
    refine lv_aload_n hx hb d_Query_opens_18 rfl (lv_at hl 0 rfl) ?_
    refine va_get (D := (dC, dI)) (ci := 7) (v := .int quL) (C := R_Query) (T := F_Query) (N := 6) hx hb hts in_Query hown hK hP 0 rfl rfl 4 (by decide) (hts _ (List.mem_cons_of_mem _ k310_fieldLink)) (fun _ h9 => h9) rfl d_Query_opens_19 ?_
    obtain ⟨h22, hd⟩ := hd
    refine va_zald hx hb hK hP 3 2 rfl rfl h22 d_Query_opens_22 ?_
    refine lv_if_ne (tgt := 30) hx hb d_Query_opens_23 (by decide) (fun h23 => ?_) (fun h23 => ?_)
    · have hd := hd.2 h23
      refine lv_iconst (v := 0) hx hb d_Query_opens_30 (by decide) ?_
      obtain ⟨h31, hd⟩ := hd
      refine va_zast hx hb hK hP hD hS 3 2 rfl rfl h31 d_Query_opens_31 (fun H locs hP hD hS => ?_)
      have hP : va_P (dC, dI) classes ((sh_Query cI cL cZ qu quFa quF quJa quJ quNa (upd quN (Int32.toNatClampNeg quL) (vp_nar .boolean 0)) quE quL quD)) H := hP
      have hD : va_D A ((sh_Query cI cL cZ qu quFa quF quJa quJ quNa (upd quN (Int32.toNatClampNeg quL) (vp_nar .boolean 0)) quE quL quD)) := hD
      refine lv_iconst (v := 1) hx hb d_Query_opens_32 (by decide) ?_
      obtain ⟨e0, e1, e2, e3, e4, e5⟩ := hd
      subst e0
      subst e1
      subst e2
      subst e3
      subst e4
      subst e5
      exact ct_zret (b := true) hx hb hr hlocks hK hP hD hS d_Query_opens_33
    · have hd := hd.1 h23
      refine lv_iconst (v := 1) hx hb d_Query_opens_26 (by decide) ?_
      refine lv_goto (tgt := 31) hx hb d_Query_opens_27 (by decide) ?_
      obtain ⟨h31, hd⟩ := hd
      refine va_zast hx hb hK hP hD hS 3 2 rfl rfl h31 d_Query_opens_31 (fun H locs hP hD hS => ?_)
      have hP : va_P (dC, dI) classes ((sh_Query cI cL cZ qu quFa quF quJa quJ quNa (upd quN (Int32.toNatClampNeg quL) (vp_nar .boolean 1)) quE quL quD)) H := hP
      have hD : va_D A ((sh_Query cI cL cZ qu quFa quF quJa quJ quNa (upd quN (Int32.toNatClampNeg quL) (vp_nar .boolean 1)) quE quL quD)) := hD
      refine lv_iconst (v := 1) hx hb d_Query_opens_32 (by decide) ?_
      obtain ⟨e0, e1, e2, e3, e4, e5⟩ := hd
      subst e0
      subst e1
      subst e2
      subst e3
      subst e4
      subst e5
      exact ct_zret (b := true) hx hb hr hlocks hK hP hD hS d_Query_opens_33
-- Query.goesOn
abbrev b_Query_goesOn : ByteArray := prog_7_method_7_code
def y_Query_goesOn : MethodName := ⟨"HelpFile$Query", "goesOn", "(I)Z"⟩
theorem k318_methodLink : Cond.methodLink "HelpFile$Query" 78 ⟨"HelpFile$Query", "closeCondition", "(I)V"⟩ ∈ ga := ga_t 956 (by decide +kernel) rfl
theorem k319_instanceMethod : Cond.instanceMethod ⟨"HelpFile$Query", "closeCondition", "(I)V"⟩ ∈ ga := ga_t 958 (by decide +kernel) rfl
theorem k320_selects : Cond.selects "HelpFile$Query" ⟨"HelpFile$Query", "closeCondition", "(I)V"⟩ ⟨"HelpFile$Query", "closeCondition", "(I)V"⟩ ∈ ga := ga_s (q := (⟨"HelpFile$Query", "closeCondition", "(I)V"⟩, _)) 25 rfl
set_option maxRecDepth 100000 in
theorem fm_Query_goesOn : Fm y_Query_goesOn b_Query_goesOn 3 (some .boolean) 1 := ⟨ga_t 967 rfl rfl, k308_initialized, by decide, by decide, by decide +kernel⟩
def D_Query_goesOn (k0 : Int32) (quF : Nat → Int32) (quJ : Nat → Int32) (quN : Nat → Int32) (quE : Int32) (quL : Int32) (quD : Bool) (res : Bool) (quF' : Nat → Int32) (quJ' : Nat → Int32) (quN' : Nat → Int32) (quL' : Int32) (quD' : Bool) : Prop := ((k0 = 38 → (res = true ∧ quF' = quF ∧ quJ' = quJ ∧ quN' = quN ∧ quL' = quL ∧ quD' = true)) ∧ (¬ (k0 = 38) → ((k0 = 124 → (vp_in quL 41 ∧ (vp_in quL 41 ∧ (vp_in quL 41 ∧ (vp_in quL 41 ∧ (res = true ∧ quF' = upd quF (Int32.toNatClampNeg quL) ((quF (Int32.toNatClampNeg quL)) ||| (quJ (Int32.toNatClampNeg quL))) ∧ quJ' = upd quJ (Int32.toNatClampNeg quL) quE ∧ quN' = quN ∧ quL' = quL ∧ quD' = true)))))) ∧ (¬ (k0 = 124) → ((k0 = 41 → ((quL ≤ 0 → (res = false ∧ quF' = quF ∧ quJ' = quJ ∧ quN' = quN ∧ quL' = quL ∧ quD' = quD)) ∧ (¬ (quL ≤ 0) → (vp_in quL 41 ∧ (vp_in quL 41 ∧ (∃ quJ_105 : Nat → Int32, ∃ quN_105 : Nat → Int32, ∃ quD_105 : Bool, D_Query_closeCondition ((quF (Int32.toNatClampNeg quL)) ||| (quJ (Int32.toNatClampNeg quL))) quJ quN quE (quL - 1) quD quJ_105 quN_105 quD_105 ∧ (res = true ∧ quF' = quF ∧ quJ' = quJ_105 ∧ quN' = quN_105 ∧ quL' = quL - 1 ∧ quD' = quD_105))))))) ∧ (¬ (k0 = 41) → (res = false ∧ quF' = quF ∧ quJ' = quJ ∧ quN' = quN ∧ quL' = quL ∧ quD' = quD)))))))
theorem d_Query_goesOn_0 : decode b_Query_goesOn 0 = .ok (.iload_n 1, 1) := by decide +kernel
theorem d_Query_goesOn_1 : decode b_Query_goesOn 1 = .ok (.bipush 38, 2) := by decide +kernel
theorem d_Query_goesOn_3 : decode b_Query_goesOn 3 = .ok (.if_icmp .ne 10, 3) := by decide +kernel
theorem d_Query_goesOn_6 : decode b_Query_goesOn 6 = .ok (.aload_n 0, 1) := by decide +kernel
theorem d_Query_goesOn_7 : decode b_Query_goesOn 7 = .ok (.iconst 1, 1) := by decide +kernel
theorem d_Query_goesOn_8 : decode b_Query_goesOn 8 = .ok (.putfield 56, 3) := by decide +kernel
theorem d_Query_goesOn_11 : decode b_Query_goesOn 11 = .ok (.iconst 1, 1) := by decide +kernel
theorem d_Query_goesOn_12 : decode b_Query_goesOn 12 = .ok (.ireturn, 1) := by decide +kernel
theorem d_Query_goesOn_13 : decode b_Query_goesOn 13 = .ok (.iload_n 1, 1) := by decide +kernel
theorem d_Query_goesOn_14 : decode b_Query_goesOn 14 = .ok (.bipush 124, 2) := by decide +kernel
theorem d_Query_goesOn_16 : decode b_Query_goesOn 16 = .ok (.if_icmp .ne 44, 3) := by decide +kernel
theorem d_Query_goesOn_19 : decode b_Query_goesOn 19 = .ok (.aload_n 0, 1) := by decide +kernel
theorem d_Query_goesOn_20 : decode b_Query_goesOn 20 = .ok (.getfield 9, 3) := by decide +kernel
theorem d_Query_goesOn_23 : decode b_Query_goesOn 23 = .ok (.aload_n 0, 1) := by decide +kernel
theorem d_Query_goesOn_24 : decode b_Query_goesOn 24 = .ok (.getfield 50, 3) := by decide +kernel
theorem d_Query_goesOn_27 : decode b_Query_goesOn 27 = .ok (.dup2, 1) := by decide +kernel
theorem d_Query_goesOn_28 : decode b_Query_goesOn 28 = .ok (.iaload, 1) := by decide +kernel
theorem d_Query_goesOn_29 : decode b_Query_goesOn 29 = .ok (.aload_n 0, 1) := by decide +kernel
theorem d_Query_goesOn_30 : decode b_Query_goesOn 30 = .ok (.getfield 15, 3) := by decide +kernel
theorem d_Query_goesOn_33 : decode b_Query_goesOn 33 = .ok (.aload_n 0, 1) := by decide +kernel
theorem d_Query_goesOn_34 : decode b_Query_goesOn 34 = .ok (.getfield 50, 3) := by decide +kernel
theorem d_Query_goesOn_37 : decode b_Query_goesOn 37 = .ok (.iaload, 1) := by decide +kernel
theorem d_Query_goesOn_38 : decode b_Query_goesOn 38 = .ok (.ior, 1) := by decide +kernel
theorem d_Query_goesOn_39 : decode b_Query_goesOn 39 = .ok (.iastore, 1) := by decide +kernel
theorem d_Query_goesOn_40 : decode b_Query_goesOn 40 = .ok (.aload_n 0, 1) := by decide +kernel
theorem d_Query_goesOn_41 : decode b_Query_goesOn 41 = .ok (.getfield 15, 3) := by decide +kernel
theorem d_Query_goesOn_44 : decode b_Query_goesOn 44 = .ok (.aload_n 0, 1) := by decide +kernel
theorem d_Query_goesOn_45 : decode b_Query_goesOn 45 = .ok (.getfield 50, 3) := by decide +kernel
theorem d_Query_goesOn_48 : decode b_Query_goesOn 48 = .ok (.aload_n 0, 1) := by decide +kernel
theorem d_Query_goesOn_49 : decode b_Query_goesOn 49 = .ok (.getfield 47, 3) := by decide +kernel
theorem d_Query_goesOn_52 : decode b_Query_goesOn 52 = .ok (.iastore, 1) := by decide +kernel
theorem d_Query_goesOn_53 : decode b_Query_goesOn 53 = .ok (.aload_n 0, 1) := by decide +kernel
theorem d_Query_goesOn_54 : decode b_Query_goesOn 54 = .ok (.iconst 1, 1) := by decide +kernel
theorem d_Query_goesOn_55 : decode b_Query_goesOn 55 = .ok (.putfield 56, 3) := by decide +kernel
theorem d_Query_goesOn_58 : decode b_Query_goesOn 58 = .ok (.iconst 1, 1) := by decide +kernel
theorem d_Query_goesOn_59 : decode b_Query_goesOn 59 = .ok (.ireturn, 1) := by decide +kernel
theorem d_Query_goesOn_60 : decode b_Query_goesOn 60 = .ok (.iload_n 1, 1) := by decide +kernel
theorem d_Query_goesOn_61 : decode b_Query_goesOn 61 = .ok (.bipush 41, 2) := by decide +kernel
theorem d_Query_goesOn_63 : decode b_Query_goesOn 63 = .ok (.if_icmp .ne 47, 3) := by decide +kernel
theorem d_Query_goesOn_66 : decode b_Query_goesOn 66 = .ok (.aload_n 0, 1) := by decide +kernel
theorem d_Query_goesOn_67 : decode b_Query_goesOn 67 = .ok (.getfield 50, 3) := by decide +kernel
theorem d_Query_goesOn_70 : decode b_Query_goesOn 70 = .ok (.ifCond .le 40, 3) := by decide +kernel
theorem d_Query_goesOn_73 : decode b_Query_goesOn 73 = .ok (.aload_n 0, 1) := by decide +kernel
theorem d_Query_goesOn_74 : decode b_Query_goesOn 74 = .ok (.getfield 9, 3) := by decide +kernel
theorem d_Query_goesOn_77 : decode b_Query_goesOn 77 = .ok (.aload_n 0, 1) := by decide +kernel
theorem d_Query_goesOn_78 : decode b_Query_goesOn 78 = .ok (.getfield 50, 3) := by decide +kernel
theorem d_Query_goesOn_81 : decode b_Query_goesOn 81 = .ok (.iaload, 1) := by decide +kernel
theorem d_Query_goesOn_82 : decode b_Query_goesOn 82 = .ok (.aload_n 0, 1) := by decide +kernel
theorem d_Query_goesOn_83 : decode b_Query_goesOn 83 = .ok (.getfield 15, 3) := by decide +kernel
theorem d_Query_goesOn_86 : decode b_Query_goesOn 86 = .ok (.aload_n 0, 1) := by decide +kernel
theorem d_Query_goesOn_87 : decode b_Query_goesOn 87 = .ok (.getfield 50, 3) := by decide +kernel
theorem d_Query_goesOn_90 : decode b_Query_goesOn 90 = .ok (.iaload, 1) := by decide +kernel
theorem d_Query_goesOn_91 : decode b_Query_goesOn 91 = .ok (.ior, 1) := by decide +kernel
theorem d_Query_goesOn_92 : decode b_Query_goesOn 92 = .ok (.istore_n 2, 1) := by decide +kernel
theorem d_Query_goesOn_93 : decode b_Query_goesOn 93 = .ok (.aload_n 0, 1) := by decide +kernel
theorem d_Query_goesOn_94 : decode b_Query_goesOn 94 = .ok (.dup, 1) := by decide +kernel
theorem d_Query_goesOn_95 : decode b_Query_goesOn 95 = .ok (.getfield 50, 3) := by decide +kernel
theorem d_Query_goesOn_98 : decode b_Query_goesOn 98 = .ok (.iconst 1, 1) := by decide +kernel
theorem d_Query_goesOn_99 : decode b_Query_goesOn 99 = .ok (.isub, 1) := by decide +kernel
theorem d_Query_goesOn_100 : decode b_Query_goesOn 100 = .ok (.putfield 50, 3) := by decide +kernel
theorem d_Query_goesOn_103 : decode b_Query_goesOn 103 = .ok (.aload_n 0, 1) := by decide +kernel
theorem d_Query_goesOn_104 : decode b_Query_goesOn 104 = .ok (.iload_n 2, 1) := by decide +kernel
theorem d_Query_goesOn_105 : decode b_Query_goesOn 105 = .ok (.invokevirtual 78, 3) := by decide +kernel
theorem d_Query_goesOn_108 : decode b_Query_goesOn 108 = .ok (.iconst 1, 1) := by decide +kernel
theorem d_Query_goesOn_109 : decode b_Query_goesOn 109 = .ok (.ireturn, 1) := by decide +kernel
theorem d_Query_goesOn_110 : decode b_Query_goesOn 110 = .ok (.iconst 0, 1) := by decide +kernel
theorem d_Query_goesOn_111 : decode b_Query_goesOn 111 = .ok (.ireturn, 1) := by decide +kernel
set_option maxHeartbeats 4000000 in
set_option maxRecDepth 100000 in
theorem c_Query_goesOn (l : Launch) (dC : Nat → ClassId) (dI : Nat → Nat → Nat) (cI cL cZ : ClassId) (qu : Nat) (quFa : Nat) (quF : Nat → Int32) (quJa : Nat) (quJ : Nat → Int32) (quNa : Nat) (quN : Nat → Int32) (quE : Int32) (quL : Int32) (quD : Bool) (k0 : Int32) (res : Bool) (quF' : Nat → Int32) (quJ' : Nat → Int32) (quN' : Nat → Int32) (quL' : Int32) (quD' : Bool) (hd : D_Query_goesOn k0 quF quJ quN quE quL quD res quF' quJ' quN' quL' quD') : Ctr l y_Query_goesOn (Cond.code y_Query_goesOn b_Query_goesOn 3 (some .boolean) :: ga) { frames := 1, cells := 0, slots := 0, locals := 21 } (dC, dI) classes (Tys cI cL cZ) [.ref qu, .int k0] ((sh_Query cI cL cZ qu quFa quF quJa quJ quNa quN quE quL quD)) (some (.int (bI res))) ((sh_Query cI cL cZ qu quFa quF' quJa quJ' quNa quN' quE quL' quD')) := by
  refine Ctr.ofW (by decide) (Nat.le_of_ble_eq_true rfl) ?_
  intro p e s m below meth c A ls hx hb hr hml hown hlocks hts hK hN hA hP hD hS hl
  have hown : s.vm.findClass R_Query = some m.cls := hown
  have hl : lv_has ls 3 [(0, .ref qu), (1, .int k0)] := hl
  refine lv_iload_n hx hb d_Query_goesOn_0 rfl (lv_at hl 1 rfl) ?_
  refine lv_bipush (v := 38) hx hb d_Query_goesOn_1 (by decide) ?_
  refine lv_icmp_ne (tgt := 13) hx hb d_Query_goesOn_3 (by decide) (fun h3 => ?_) (fun h3 => ?_)
  · have hd := hd.2 h3
    refine lv_iload_n hx hb d_Query_goesOn_13 rfl (lv_at hl 1 rfl) ?_
    refine lv_bipush (v := 124) hx hb d_Query_goesOn_14 (by decide) ?_
    refine lv_icmp_ne (tgt := 60) hx hb d_Query_goesOn_16 (by decide) (fun h16 => ?_) (fun h16 => ?_)
    · have hd := hd.2 h16
      refine lv_iload_n hx hb d_Query_goesOn_60 rfl (lv_at hl 1 rfl) ?_
      refine lv_bipush (v := 41) hx hb d_Query_goesOn_61 (by decide) ?_
      refine lv_icmp_ne (tgt := 110) hx hb d_Query_goesOn_63 (by decide) (fun h63 => ?_) (fun h63 => ?_)
      · have hd := hd.2 h63
        refine lv_iconst (v := 0) hx hb d_Query_goesOn_110 (by decide) ?_
        obtain ⟨e0, e1, e2, e3, e4, e5⟩ := hd
        subst e0
        subst e1
        subst e2
        subst e3
        subst e4
        subst e5
        exact ct_zret (b := false) hx hb hr hlocks hK hP hD hS d_Query_goesOn_111
      · have hd := hd.1 h63
        refine lv_aload_n hx hb d_Query_goesOn_66 rfl (lv_at hl 0 rfl) ?_
        refine va_get (D := (dC, dI)) (ci := 7) (v := .int quL) (C := R_Query) (T := F_Query) (N := 6) hx hb hts in_Query hown hK hP 0 rfl rfl 4 (by decide) (hts _ (List.mem_cons_of_mem _ k310_fieldLink)) (fun _ h9 => h9) rfl d_Query_goesOn_67 ?_
        refine lv_if_le (tgt := 110) hx hb d_Query_goesOn_70 (by decide) (fun h70 => ?_) (fun h70 => ?_)
        · have hd := hd.1 h70
          refine lv_iconst (v := 0) hx hb d_Query_goesOn_110 (by decide) ?_
          obtain ⟨e0, e1, e2, e3, e4, e5⟩ := hd
          subst e0
          subst e1
          subst e2
          subst e3
          subst e4
          subst e5
          exact ct_zret (b := false) hx hb hr hlocks hK hP hD hS d_Query_goesOn_111
        · have hd := hd.2 h70
          refine lv_aload_n hx hb d_Query_goesOn_73 rfl (lv_at hl 0 rfl) ?_
          refine va_get (D := (dC, dI)) (ci := 7) (v := .ref quFa) (C := R_Query) (T := F_Query) (N := 6) hx hb hts in_Query hown hK hP 0 rfl rfl 0 (by decide) (hts _ (List.mem_cons_of_mem _ k309_fieldLink)) (fun _ h9 => h9) rfl d_Query_goesOn_74 ?_
          refine lv_aload_n hx hb d_Query_goesOn_77 rfl (lv_at hl 0 rfl) ?_
          refine va_get (D := (dC, dI)) (ci := 7) (v := .int quL) (C := R_Query) (T := F_Query) (N := 6) hx hb hts in_Query hown hK hP 0 rfl rfl 4 (by decide) (hts _ (List.mem_cons_of_mem _ k310_fieldLink)) (fun _ h9 => h9) rfl d_Query_goesOn_78 ?_
          obtain ⟨h81, hd⟩ := hd
          refine va_iald hx hb hK hP 1 0 rfl rfl h81 d_Query_goesOn_81 ?_
          refine lv_aload_n hx hb d_Query_goesOn_82 rfl (lv_at hl 0 rfl) ?_
          refine va_get (D := (dC, dI)) (ci := 7) (v := .ref quJa) (C := R_Query) (T := F_Query) (N := 6) hx hb hts in_Query hown hK hP 0 rfl rfl 1 (by decide) (hts _ (List.mem_cons_of_mem _ k311_fieldLink)) (fun _ h9 => h9) rfl d_Query_goesOn_83 ?_
          refine lv_aload_n hx hb d_Query_goesOn_86 rfl (lv_at hl 0 rfl) ?_
          refine va_get (D := (dC, dI)) (ci := 7) (v := .int quL) (C := R_Query) (T := F_Query) (N := 6) hx hb hts in_Query hown hK hP 0 rfl rfl 4 (by decide) (hts _ (List.mem_cons_of_mem _ k310_fieldLink)) (fun _ h9 => h9) rfl d_Query_goesOn_87 ?_
          obtain ⟨h90, hd⟩ := hd
          refine va_iald hx hb hK hP 2 0 rfl rfl h90 d_Query_goesOn_90 ?_
          refine lv_ior hx hb d_Query_goesOn_91 ?_
          refine lv_istore_n (lv' := [(2, .int ((quF (Int32.toNatClampNeg quL)) ||| (quJ (Int32.toNatClampNeg quL)))), (0, .ref qu), (1, .int k0)]) hx hb d_Query_goesOn_92 rfl hl (by decide) rfl (fun ls hl => ?_)
          refine lv_aload_n hx hb d_Query_goesOn_93 rfl (lv_at hl 1 rfl) ?_
          refine lv_dup hx hb d_Query_goesOn_94 rfl ?_
          refine va_get (D := (dC, dI)) (ci := 7) (v := .int quL) (C := R_Query) (T := F_Query) (N := 6) hx hb hts in_Query hown hK hP 0 rfl rfl 4 (by decide) (hts _ (List.mem_cons_of_mem _ k310_fieldLink)) (fun _ h9 => h9) rfl d_Query_goesOn_95 ?_
          refine lv_iconst (v := 1) hx hb d_Query_goesOn_98 (by decide) ?_
          refine lv_isub hx hb d_Query_goesOn_99 ?_
          refine va_put (D := (dC, dI)) (ci := 7) (v := .int (quL - 1)) (ty := t_Query 4) (C := R_Query) (T := F_Query) (N := 6) hx hb hts in_Query t_Query t_Query_ok n_Query hown hK hP hD hS 0 rfl rfl 4 (by decide) (hts _ (List.mem_cons_of_mem _ k310_fieldLink)) (fun _ h9 => h9) rfl (t_Query_ok 4 (by decide)) rfl rfl (Nat.le_of_ble_eq_true rfl) d_Query_goesOn_100 (fun H locs hP hD hS => ?_)
          have hP : va_P (dC, dI) classes ((sh_Query cI cL cZ qu quFa quF quJa quJ quNa quN quE (quL - 1) quD)) H := hP
          have hD : va_D A ((sh_Query cI cL cZ qu quFa quF quJa quJ quNa quN quE (quL - 1) quD)) := hD
          refine lv_aload_n hx hb d_Query_goesOn_103 rfl (lv_at hl 1 rfl) ?_
          refine lv_iload_n hx hb d_Query_goesOn_104 rfl (lv_at hl 0 rfl) ?_
          obtain ⟨quJ_105, quN_105, quD_105, c105, hd⟩ := hd
          refine ct_V (As := [.int ((quF (Int32.toNatClampNeg quL)) ||| (quJ (Int32.toNatClampNeg quL)))]) (rest := []) (C := R_Query) (ci := 7) (q := (R_Query, F_Query, 6)) ⟨hx, hb, hml, hown, hts⟩ fm_Query_closeCondition (c_Query_closeCondition l dC dI cI cL cZ qu quFa quF quJa quJ quNa quN quE (quL - 1) quD ((quF (Int32.toNatClampNeg quL)) ||| (quJ (Int32.toNatClampNeg quL))) quJ_105 quN_105 quD_105 c105) k318_methodLink k319_instanceMethod k320_selects ⟨Nat.le_of_ble_eq_true rfl, Nat.le_of_ble_eq_true rfl⟩ rfl rfl hK hN hP hD hS hA [0, 1, 2, 3] [] rfl rfl rfl (by decide) (by decide) (by decide) 0 rfl rfl rfl rfl hl.1 rfl (Nat.le_of_ble_eq_true rfl) d_Query_goesOn_105 (fun H locs hP hD hS => ?_)
          have hP : va_P (dC, dI) classes ((sh_Query cI cL cZ qu quFa quF quJa quJ_105 quNa quN_105 quE (quL - 1) quD_105)) H := hP.sub [0, 1, 2, 3] rfl
          have hD : va_D A ((sh_Query cI cL cZ qu quFa quF quJa quJ_105 quNa quN_105 quE (quL - 1) quD_105)) := hD.sub [0, 1, 2, 3] (by decide) rfl
          refine lv_iconst (v := 1) hx hb d_Query_goesOn_108 (by decide) ?_
          obtain ⟨e0, e1, e2, e3, e4, e5⟩ := hd
          subst e0
          subst e1
          subst e2
          subst e3
          subst e4
          subst e5
          exact ct_zret (b := true) hx hb hr hlocks hK hP hD hS d_Query_goesOn_109
    · have hd := hd.1 h16
      refine lv_aload_n hx hb d_Query_goesOn_19 rfl (lv_at hl 0 rfl) ?_
      refine va_get (D := (dC, dI)) (ci := 7) (v := .ref quFa) (C := R_Query) (T := F_Query) (N := 6) hx hb hts in_Query hown hK hP 0 rfl rfl 0 (by decide) (hts _ (List.mem_cons_of_mem _ k309_fieldLink)) (fun _ h9 => h9) rfl d_Query_goesOn_20 ?_
      refine lv_aload_n hx hb d_Query_goesOn_23 rfl (lv_at hl 0 rfl) ?_
      refine va_get (D := (dC, dI)) (ci := 7) (v := .int quL) (C := R_Query) (T := F_Query) (N := 6) hx hb hts in_Query hown hK hP 0 rfl rfl 4 (by decide) (hts _ (List.mem_cons_of_mem _ k310_fieldLink)) (fun _ h9 => h9) rfl d_Query_goesOn_24 ?_
      refine lv_dup2_11 hx hb d_Query_goesOn_27 rfl rfl ?_
      obtain ⟨h28, hd⟩ := hd
      refine va_iald hx hb hK hP 1 0 rfl rfl h28 d_Query_goesOn_28 ?_
      refine lv_aload_n hx hb d_Query_goesOn_29 rfl (lv_at hl 0 rfl) ?_
      refine va_get (D := (dC, dI)) (ci := 7) (v := .ref quJa) (C := R_Query) (T := F_Query) (N := 6) hx hb hts in_Query hown hK hP 0 rfl rfl 1 (by decide) (hts _ (List.mem_cons_of_mem _ k311_fieldLink)) (fun _ h9 => h9) rfl d_Query_goesOn_30 ?_
      refine lv_aload_n hx hb d_Query_goesOn_33 rfl (lv_at hl 0 rfl) ?_
      refine va_get (D := (dC, dI)) (ci := 7) (v := .int quL) (C := R_Query) (T := F_Query) (N := 6) hx hb hts in_Query hown hK hP 0 rfl rfl 4 (by decide) (hts _ (List.mem_cons_of_mem _ k310_fieldLink)) (fun _ h9 => h9) rfl d_Query_goesOn_34 ?_
      obtain ⟨h37, hd⟩ := hd
      refine va_iald hx hb hK hP 2 0 rfl rfl h37 d_Query_goesOn_37 ?_
      refine lv_ior hx hb d_Query_goesOn_38 ?_
      obtain ⟨h39, hd⟩ := hd
      refine va_iast hx hb hK hP hD hS 1 0 rfl rfl h39 d_Query_goesOn_39 (fun H locs hP hD hS => ?_)
      have hP : va_P (dC, dI) classes ((sh_Query cI cL cZ qu quFa (upd quF (Int32.toNatClampNeg quL) ((quF (Int32.toNatClampNeg quL)) ||| (quJ (Int32.toNatClampNeg quL)))) quJa quJ quNa quN quE quL quD)) H := hP
      have hD : va_D A ((sh_Query cI cL cZ qu quFa (upd quF (Int32.toNatClampNeg quL) ((quF (Int32.toNatClampNeg quL)) ||| (quJ (Int32.toNatClampNeg quL)))) quJa quJ quNa quN quE quL quD)) := hD
      refine lv_aload_n hx hb d_Query_goesOn_40 rfl (lv_at hl 0 rfl) ?_
      refine va_get (D := (dC, dI)) (ci := 7) (v := .ref quJa) (C := R_Query) (T := F_Query) (N := 6) hx hb hts in_Query hown hK hP 0 rfl rfl 1 (by decide) (hts _ (List.mem_cons_of_mem _ k311_fieldLink)) (fun _ h9 => h9) rfl d_Query_goesOn_41 ?_
      refine lv_aload_n hx hb d_Query_goesOn_44 rfl (lv_at hl 0 rfl) ?_
      refine va_get (D := (dC, dI)) (ci := 7) (v := .int quL) (C := R_Query) (T := F_Query) (N := 6) hx hb hts in_Query hown hK hP 0 rfl rfl 4 (by decide) (hts _ (List.mem_cons_of_mem _ k310_fieldLink)) (fun _ h9 => h9) rfl d_Query_goesOn_45 ?_
      refine lv_aload_n hx hb d_Query_goesOn_48 rfl (lv_at hl 0 rfl) ?_
      refine va_get (D := (dC, dI)) (ci := 7) (v := .int quE) (C := R_Query) (T := F_Query) (N := 6) hx hb hts in_Query hown hK hP 0 rfl rfl 3 (by decide) (hts _ (List.mem_cons_of_mem _ k312_fieldLink)) (fun _ h9 => h9) rfl d_Query_goesOn_49 ?_
      obtain ⟨h52, hd⟩ := hd
      refine va_iast hx hb hK hP hD hS 2 0 rfl rfl h52 d_Query_goesOn_52 (fun H locs hP hD hS => ?_)
      have hP : va_P (dC, dI) classes ((sh_Query cI cL cZ qu quFa (upd quF (Int32.toNatClampNeg quL) ((quF (Int32.toNatClampNeg quL)) ||| (quJ (Int32.toNatClampNeg quL)))) quJa (upd quJ (Int32.toNatClampNeg quL) quE) quNa quN quE quL quD)) H := hP
      have hD : va_D A ((sh_Query cI cL cZ qu quFa (upd quF (Int32.toNatClampNeg quL) ((quF (Int32.toNatClampNeg quL)) ||| (quJ (Int32.toNatClampNeg quL)))) quJa (upd quJ (Int32.toNatClampNeg quL) quE) quNa quN quE quL quD)) := hD
      refine lv_aload_n hx hb d_Query_goesOn_53 rfl (lv_at hl 0 rfl) ?_
      refine lv_iconst (v := 1) hx hb d_Query_goesOn_54 (by decide) ?_
      refine va_put (D := (dC, dI)) (ci := 7) (v := .int (bI true)) (ty := t_Query 5) (C := R_Query) (T := F_Query) (N := 6) hx hb hts in_Query t_Query t_Query_ok n_Query hown hK hP hD hS 0 rfl rfl 5 (by decide) (hts _ (List.mem_cons_of_mem _ k314_fieldLink)) (fun _ h9 => h9) rfl (t_Query_ok 5 (by decide)) (bI_nar _) (bI_fit _) (Nat.le_of_ble_eq_true rfl) d_Query_goesOn_55 (fun H locs hP hD hS => ?_)
      have hP : va_P (dC, dI) classes ((sh_Query cI cL cZ qu quFa (upd quF (Int32.toNatClampNeg quL) ((quF (Int32.toNatClampNeg quL)) ||| (quJ (Int32.toNatClampNeg quL)))) quJa (upd quJ (Int32.toNatClampNeg quL) quE) quNa quN quE quL true)) H := hP
      have hD : va_D A ((sh_Query cI cL cZ qu quFa (upd quF (Int32.toNatClampNeg quL) ((quF (Int32.toNatClampNeg quL)) ||| (quJ (Int32.toNatClampNeg quL)))) quJa (upd quJ (Int32.toNatClampNeg quL) quE) quNa quN quE quL true)) := hD
      refine lv_iconst (v := 1) hx hb d_Query_goesOn_58 (by decide) ?_
      obtain ⟨e0, e1, e2, e3, e4, e5⟩ := hd
      subst e0
      subst e1
      subst e2
      subst e3
      subst e4
      subst e5
      exact ct_zret (b := true) hx hb hr hlocks hK hP hD hS d_Query_goesOn_59
  · have hd := hd.1 h3
    refine lv_aload_n hx hb d_Query_goesOn_6 rfl (lv_at hl 0 rfl) ?_
    refine lv_iconst (v := 1) hx hb d_Query_goesOn_7 (by decide) ?_
    refine va_put (D := (dC, dI)) (ci := 7) (v := .int (bI true)) (ty := t_Query 5) (C := R_Query) (T := F_Query) (N := 6) hx hb hts in_Query t_Query t_Query_ok n_Query hown hK hP hD hS 0 rfl rfl 5 (by decide) (hts _ (List.mem_cons_of_mem _ k314_fieldLink)) (fun _ h9 => h9) rfl (t_Query_ok 5 (by decide)) (bI_nar _) (bI_fit _) (Nat.le_of_ble_eq_true rfl) d_Query_goesOn_8 (fun H locs hP hD hS => ?_)
    have hP : va_P (dC, dI) classes ((sh_Query cI cL cZ qu quFa quF quJa quJ quNa quN quE quL true)) H := hP
    have hD : va_D A ((sh_Query cI cL cZ qu quFa quF quJa quJ quNa quN quE quL true)) := hD
    refine lv_iconst (v := 1) hx hb d_Query_goesOn_11 (by decide) ?_
    obtain ⟨e0, e1, e2, e3, e4, e5⟩ := hd
    subst e0
    subst e1
    subst e2
    subst e3
    subst e4
    subst e5
    exact ct_zret (b := true) hx hb hr hlocks hK hP hD hS d_Query_goesOn_12
-- Query.find
abbrev b_Query_find : ByteArray := prog_7_method_3_code
def y_Query_find : MethodName := ⟨"HelpFile$Query", "find", "(LHelpFile$Row;LHelpFile$Book;)I"⟩
theorem k321_methodLink : Cond.methodLink "HelpFile$Query" 42 ⟨"HelpFile$Book", "everyTopic", "()I"⟩ ∈ ga := ga_t 947 (by decide +kernel) rfl
theorem k322_methodLink : Cond.methodLink "HelpFile$Query" 60 ⟨"HelpFile$Letters", "lettersEnd", "(LHelpFile$Row;II)I"⟩ ∈ ga := ga_t 952 (by decide +kernel) rfl
theorem k323_methodLink : Cond.methodLink "HelpFile$Query" 64 ⟨"HelpFile$Book", "words", "()LHelpFile$WordList;"⟩ ∈ ga := ga_t 953 (by decide +kernel) rfl
theorem k324_methodLink : Cond.methodLink "HelpFile$Query" 68 ⟨"HelpFile$Letters", "word", "(LHelpFile$Row;II)J"⟩ ∈ ga := ga_t 954 (by decide +kernel) rfl
theorem k325_methodLink : Cond.methodLink "HelpFile$Query" 72 ⟨"HelpFile$WordList", "topicsOf", "(J)I"⟩ ∈ ga := ga_t 955 (by decide +kernel) rfl
theorem k326_instanceMethod : Cond.instanceMethod ⟨"HelpFile$WordList", "topicsOf", "(J)I"⟩ ∈ ga := ga_t 933 (by decide +kernel) rfl
theorem k327_selects : Cond.selects "HelpFile$WordList" ⟨"HelpFile$WordList", "topicsOf", "(J)I"⟩ ⟨"HelpFile$WordList", "topicsOf", "(J)I"⟩ ∈ ga := ga_t 934 (by decide +kernel) rfl
theorem k328_methodLink : Cond.methodLink "HelpFile$Query" 85 ⟨"HelpFile$Query", "goesOn", "(I)Z"⟩ ∈ ga := ga_t 964 (by decide +kernel) rfl
theorem k329_instanceMethod : Cond.instanceMethod ⟨"HelpFile$Query", "goesOn", "(I)Z"⟩ ∈ ga := ga_t 966 (by decide +kernel) rfl
theorem k330_selects : Cond.selects "HelpFile$Query" ⟨"HelpFile$Query", "goesOn", "(I)Z"⟩ ⟨"HelpFile$Query", "goesOn", "(I)Z"⟩ ∈ ga := ga_s (q := (⟨"HelpFile$Query", "goesOn", "(I)Z"⟩, _)) 27 rfl
theorem k331_methodLink : Cond.methodLink "HelpFile$Query" 82 ⟨"HelpFile$Query", "opens", "(I)Z"⟩ ∈ ga := ga_t 960 (by decide +kernel) rfl
theorem k332_instanceMethod : Cond.instanceMethod ⟨"HelpFile$Query", "opens", "(I)Z"⟩ ∈ ga := ga_t 962 (by decide +kernel) rfl
theorem k333_selects : Cond.selects "HelpFile$Query" ⟨"HelpFile$Query", "opens", "(I)Z"⟩ ⟨"HelpFile$Query", "opens", "(I)Z"⟩ ∈ ga := ga_s (q := (⟨"HelpFile$Query", "opens", "(I)Z"⟩, _)) 26 rfl
set_option maxRecDepth 100000 in
theorem fm_Query_find : Fm y_Query_find b_Query_find 6 (some .int) 2 := ⟨ga_t 946 rfl rfl, k308_initialized, by decide, by decide, by decide +kernel⟩
def B_Query_find_22 (ron : Nat) (bkVn : Nat) (roE : Nat → Int32) (roC : Int32) (bkVW : Nat → Int64) (bkVT : Nat → Int32) (bkVC : Int32) (bkT : Int32) (res : Int32) (quF' : Nat → Int32) (quJ' : Nat → Int32) (quN' : Nat → Int32) (quE' : Int32) (quL' : Int32) (quD' : Bool) (X : Nat → Int32 → Int32 → Int32 → (Nat → Int32) → (Nat → Int32) → (Nat → Int32) → Int32 → Int32 → Bool → Prop) (x4 : Int32) (quF : Nat → Int32) (quJ : Nat → Int32) (quN : Nat → Int32) (quE : Int32) (quL : Int32) (quD : Bool) : Prop := ((roC ≤ x4 → (((bI quD) = 0 → ((quL ≤ 0 → (vp_in 0 41 ∧ (vp_in 0 41 ∧ (res = (quF (Int32.toNatClampNeg 0)) ||| (quJ (Int32.toNatClampNeg 0)) ∧ quF' = quF ∧ quJ' = quJ ∧ quN' = quN ∧ quE' = quE ∧ quL' = quL ∧ quD' = quD)))) ∧ (¬ (quL ≤ 0) → X 2 0 0 0 quF quJ quN quE quL quD))) ∧ (¬ ((bI quD) = 0) → X 2 0 0 0 quF quJ quN quE quL quD))) ∧ (¬ (roC ≤ x4) → (∃ r39 : Int32, D_Row_element ron x4 roE roC r39 ∧ (((bI quD) = 0 → X 1 (x4 + 1) x4 r39 quF quJ quN quE quL quD) ∧ (¬ ((bI quD) = 0) → (∃ r53 : Bool, D_Letters_isLetter r39 r53 ∧ (((bI r53) = 0 → X 1 (x4 + 1) x4 r39 quF quJ quN quE quL quD) ∧ (¬ ((bI r53) = 0) → (∃ r66 : Int32, D_Letters_lettersEnd ron x4 roC roE roC r66 ∧ (∃ r79 : Int64, D_Letters_word ron x4 r66 roE roC r79 ∧ (∃ r82 : Int32, D_WordList_topicsOf bkVn r79 bkVW bkVT bkVC r82 ∧ (∃ quJ_85 : Nat → Int32, ∃ quN_85 : Nat → Int32, ∃ quD_85 : Bool, D_Query_closeCondition r82 quJ quN quE quL quD quJ_85 quN_85 quD_85 ∧ X 0 0 r66 0 quF quJ_85 quN_85 quE quL quD_85))))))))))))
def B_Query_find_91 (ron : Nat) (bkVn : Nat) (roE : Nat → Int32) (roC : Int32) (bkVW : Nat → Int64) (bkVT : Nat → Int32) (bkVC : Int32) (bkT : Int32) (res : Int32) (quF' : Nat → Int32) (quJ' : Nat → Int32) (quN' : Nat → Int32) (quE' : Int32) (quL' : Int32) (quD' : Bool) (X : Nat → Int32 → Int32 → Int32 → (Nat → Int32) → (Nat → Int32) → (Nat → Int32) → Int32 → Int32 → Bool → Prop) (x3 : Int32) (x4 : Int32) (x5 : Int32) (quF : Nat → Int32) (quJ : Nat → Int32) (quN : Nat → Int32) (quE : Int32) (quL : Int32) (quD : Bool) : Prop := ((x5 = 32 → X 0 0 x3 0 quF quJ quN quE quL quD) ∧ (¬ (x5 = 32) → (((bI quD) = 0 → (∃ r120 : Bool, ∃ quF_120 : Nat → Int32, ∃ quJ_120 : Nat → Int32, ∃ quN_120 : Nat → Int32, ∃ quL_120 : Int32, ∃ quD_120 : Bool, D_Query_goesOn x5 quF quJ quN quE quL quD r120 quF_120 quJ_120 quN_120 quL_120 quD_120 ∧ (((bI r120) = 0 → (res = (-1) - x4 ∧ quF' = quF_120 ∧ quJ' = quJ_120 ∧ quN' = quN_120 ∧ quE' = quE ∧ quL' = quL_120 ∧ quD' = quD_120)) ∧ (¬ ((bI r120) = 0) → X 0 0 x3 0 quF_120 quJ_120 quN_120 quE quL_120 quD_120)))) ∧ (¬ ((bI quD) = 0) → (∃ r108 : Bool, ∃ quF_108 : Nat → Int32, ∃ quJ_108 : Nat → Int32, ∃ quN_108 : Nat → Int32, ∃ quL_108 : Int32, ∃ quD_108 : Bool, D_Query_opens x5 quF quJ quN quE quL quD r108 quF_108 quJ_108 quN_108 quL_108 quD_108 ∧ (((bI r108) = 0 → (res = (-1) - x4 ∧ quF' = quF_108 ∧ quJ' = quJ_108 ∧ quN' = quN_108 ∧ quE' = quE ∧ quL' = quL_108 ∧ quD' = quD_108)) ∧ (¬ ((bI r108) = 0) → X 0 0 x3 0 quF_108 quJ_108 quN_108 quE quL_108 quD_108)))))))
def B_Query_find_151 (ron : Nat) (bkVn : Nat) (roE : Nat → Int32) (roC : Int32) (bkVW : Nat → Int64) (bkVT : Nat → Int32) (bkVC : Int32) (bkT : Int32) (res : Int32) (quF' : Nat → Int32) (quJ' : Nat → Int32) (quN' : Nat → Int32) (quE' : Int32) (quL' : Int32) (quD' : Bool) (X : Nat → Int32 → Int32 → Int32 → (Nat → Int32) → (Nat → Int32) → (Nat → Int32) → Int32 → Int32 → Bool → Prop) (quF : Nat → Int32) (quJ : Nat → Int32) (quN : Nat → Int32) (quE : Int32) (quL : Int32) (quD : Bool) : Prop := (res = (-1) - roC ∧ quF' = quF ∧ quJ' = quJ ∧ quN' = quN ∧ quE' = quE ∧ quL' = quL ∧ quD' = quD)
def S_Query_find (ron : Nat) (bkVn : Nat) (roE : Nat → Int32) (roC : Int32) (bkVW : Nat → Int64) (bkVT : Nat → Int32) (bkVC : Int32) (bkT : Int32) (res : Int32) (quF' : Nat → Int32) (quJ' : Nat → Int32) (quN' : Nat → Int32) (quE' : Int32) (quL' : Int32) (quD' : Bool) (X : Nat → Int32 → Int32 → Int32 → (Nat → Int32) → (Nat → Int32) → (Nat → Int32) → Int32 → Int32 → Bool → Prop) : Nat → Int32 → Int32 → Int32 → (Nat → Int32) → (Nat → Int32) → (Nat → Int32) → Int32 → Int32 → Bool → Prop := fun q_lab x3 x4 x5 quF quJ quN quE quL quD => match q_lab with | 0 => B_Query_find_22 ron bkVn roE roC bkVW bkVT bkVC bkT res quF' quJ' quN' quE' quL' quD' X x4 quF quJ quN quE quL quD | 1 => B_Query_find_91 ron bkVn roE roC bkVW bkVT bkVC bkT res quF' quJ' quN' quE' quL' quD' X x3 x4 x5 quF quJ quN quE quL quD | 2 => B_Query_find_151 ron bkVn roE roC bkVW bkVT bkVC bkT res quF' quJ' quN' quE' quL' quD' X quF quJ quN quE quL quD | _ => False
def T_Query_find (ron : Nat) (bkVn : Nat) (roE : Nat → Int32) (roC : Int32) (bkVW : Nat → Int64) (bkVT : Nat → Int32) (bkVC : Int32) (bkT : Int32) (res : Int32) (quF' : Nat → Int32) (quJ' : Nat → Int32) (quN' : Nat → Int32) (quE' : Int32) (quL' : Int32) (quD' : Bool) : Nat → (Nat → Int32 → Int32 → Int32 → (Nat → Int32) → (Nat → Int32) → (Nat → Int32) → Int32 → Int32 → Bool → Prop)
  | 0 => fun _ _ _ _ _ _ _ _ _ _ => False
  | n + 1 => S_Query_find ron bkVn roE roC bkVW bkVT bkVC bkT res quF' quJ' quN' quE' quL' quD' (T_Query_find ron bkVn roE roC bkVW bkVT bkVC bkT res quF' quJ' quN' quE' quL' quD' n)
def D_Query_find (ron : Nat) (bkVn : Nat) (quF : Nat → Int32) (quJ : Nat → Int32) (quN : Nat → Int32) (quE : Int32) (quL : Int32) (quD : Bool) (roE : Nat → Int32) (roC : Int32) (bkVW : Nat → Int64) (bkVT : Nat → Int32) (bkVC : Int32) (bkT : Int32) (res : Int32) (quF' : Nat → Int32) (quJ' : Nat → Int32) (quN' : Nat → Int32) (quE' : Int32) (quL' : Int32) (quD' : Bool) : Prop := ∃ n : Nat, (∃ quF_14 : Nat → Int32, ∃ quJ_14 : Nat → Int32, ∃ quN_14 : Nat → Int32, ∃ quD_14 : Bool, D_Query_beginLevel quF quJ quN ((1 <<< (bkT &&& 31)) - 1) 0 quD quF_14 quJ_14 quN_14 quD_14 ∧ T_Query_find ron bkVn roE roC bkVW bkVT bkVC bkT res quF' quJ' quN' quE' quL' quD' n 0 0 0 0 quF_14 quJ_14 quN_14 ((1 <<< (bkT &&& 31)) - 1) 0 quD_14)
theorem d_Query_find_0 : decode b_Query_find 0 = .ok (.aload_n 0, 1) := by decide +kernel
theorem d_Query_find_1 : decode b_Query_find 1 = .ok (.aload_n 2, 1) := by decide +kernel
theorem d_Query_find_2 : decode b_Query_find 2 = .ok (.invokevirtual 42, 3) := by decide +kernel
theorem d_Query_find_5 : decode b_Query_find 5 = .ok (.putfield 47, 3) := by decide +kernel
theorem d_Query_find_8 : decode b_Query_find 8 = .ok (.aload_n 0, 1) := by decide +kernel
theorem d_Query_find_9 : decode b_Query_find 9 = .ok (.iconst 0, 1) := by decide +kernel
theorem d_Query_find_10 : decode b_Query_find 10 = .ok (.putfield 50, 3) := by decide +kernel
theorem d_Query_find_13 : decode b_Query_find 13 = .ok (.aload_n 0, 1) := by decide +kernel
theorem d_Query_find_14 : decode b_Query_find 14 = .ok (.invokevirtual 53, 3) := by decide +kernel
theorem d_Query_find_17 : decode b_Query_find 17 = .ok (.iconst 0, 1) := by decide +kernel
theorem d_Query_find_18 : decode b_Query_find 18 = .ok (.istore_n 3, 1) := by decide +kernel
theorem d_Query_find_19 : decode b_Query_find 19 = .ok (.iconst 0, 1) := by decide +kernel
theorem d_Query_find_20 : decode b_Query_find 20 = .ok (.istore 4, 2) := by decide +kernel
theorem d_Query_find_22 : decode b_Query_find 22 = .ok (.iload 4, 2) := by decide +kernel
theorem d_Query_find_24 : decode b_Query_find 24 = .ok (.aload_n 1, 1) := by decide +kernel
theorem d_Query_find_25 : decode b_Query_find 25 = .ok (.invokevirtual 22, 3) := by decide +kernel
theorem d_Query_find_28 : decode b_Query_find 28 = .ok (.if_icmp .ge 109, 3) := by decide +kernel
theorem d_Query_find_31 : decode b_Query_find 31 = .ok (.iload 4, 2) := by decide +kernel
theorem d_Query_find_33 : decode b_Query_find 33 = .ok (.iconst 1, 1) := by decide +kernel
theorem d_Query_find_34 : decode b_Query_find 34 = .ok (.iadd, 1) := by decide +kernel
theorem d_Query_find_35 : decode b_Query_find 35 = .ok (.istore_n 3, 1) := by decide +kernel
theorem d_Query_find_36 : decode b_Query_find 36 = .ok (.aload_n 1, 1) := by decide +kernel
theorem d_Query_find_37 : decode b_Query_find 37 = .ok (.iload 4, 2) := by decide +kernel
theorem d_Query_find_39 : decode b_Query_find 39 = .ok (.invokevirtual 28, 3) := by decide +kernel
theorem d_Query_find_42 : decode b_Query_find 42 = .ok (.istore 5, 2) := by decide +kernel
theorem d_Query_find_44 : decode b_Query_find 44 = .ok (.aload_n 0, 1) := by decide +kernel
theorem d_Query_find_45 : decode b_Query_find 45 = .ok (.getfield 56, 3) := by decide +kernel
theorem d_Query_find_48 : decode b_Query_find 48 = .ok (.ifCond .eq 43, 3) := by decide +kernel
theorem d_Query_find_51 : decode b_Query_find 51 = .ok (.iload 5, 2) := by decide +kernel
theorem d_Query_find_53 : decode b_Query_find 53 = .ok (.invokestatic 32, 3) := by decide +kernel
theorem d_Query_find_56 : decode b_Query_find 56 = .ok (.ifCond .eq 35, 3) := by decide +kernel
theorem d_Query_find_59 : decode b_Query_find 59 = .ok (.aload_n 1, 1) := by decide +kernel
theorem d_Query_find_60 : decode b_Query_find 60 = .ok (.iload 4, 2) := by decide +kernel
theorem d_Query_find_62 : decode b_Query_find 62 = .ok (.aload_n 1, 1) := by decide +kernel
theorem d_Query_find_63 : decode b_Query_find 63 = .ok (.invokevirtual 22, 3) := by decide +kernel
theorem d_Query_find_66 : decode b_Query_find 66 = .ok (.invokestatic 60, 3) := by decide +kernel
theorem d_Query_find_69 : decode b_Query_find 69 = .ok (.istore_n 3, 1) := by decide +kernel
theorem d_Query_find_70 : decode b_Query_find 70 = .ok (.aload_n 0, 1) := by decide +kernel
theorem d_Query_find_71 : decode b_Query_find 71 = .ok (.aload_n 2, 1) := by decide +kernel
theorem d_Query_find_72 : decode b_Query_find 72 = .ok (.invokevirtual 64, 3) := by decide +kernel
theorem d_Query_find_75 : decode b_Query_find 75 = .ok (.aload_n 1, 1) := by decide +kernel
theorem d_Query_find_76 : decode b_Query_find 76 = .ok (.iload 4, 2) := by decide +kernel
theorem d_Query_find_78 : decode b_Query_find 78 = .ok (.iload_n 3, 1) := by decide +kernel
theorem d_Query_find_79 : decode b_Query_find 79 = .ok (.invokestatic 68, 3) := by decide +kernel
theorem d_Query_find_82 : decode b_Query_find 82 = .ok (.invokevirtual 72, 3) := by decide +kernel
theorem d_Query_find_85 : decode b_Query_find 85 = .ok (.invokevirtual 78, 3) := by decide +kernel
theorem d_Query_find_88 : decode b_Query_find 88 = .ok (.goto 43, 3) := by decide +kernel
theorem d_Query_find_91 : decode b_Query_find 91 = .ok (.iload 5, 2) := by decide +kernel
theorem d_Query_find_93 : decode b_Query_find 93 = .ok (.bipush 32, 2) := by decide +kernel
theorem d_Query_find_95 : decode b_Query_find 95 = .ok (.if_icmp .eq 36, 3) := by decide +kernel
theorem d_Query_find_98 : decode b_Query_find 98 = .ok (.aload_n 0, 1) := by decide +kernel
theorem d_Query_find_99 : decode b_Query_find 99 = .ok (.getfield 56, 3) := by decide +kernel
theorem d_Query_find_102 : decode b_Query_find 102 = .ok (.ifCond .eq 15, 3) := by decide +kernel
theorem d_Query_find_105 : decode b_Query_find 105 = .ok (.aload_n 0, 1) := by decide +kernel
theorem d_Query_find_106 : decode b_Query_find 106 = .ok (.iload 5, 2) := by decide +kernel
theorem d_Query_find_108 : decode b_Query_find 108 = .ok (.invokevirtual 82, 3) := by decide +kernel
theorem d_Query_find_111 : decode b_Query_find 111 = .ok (.ifCond .eq 15, 3) := by decide +kernel
theorem d_Query_find_114 : decode b_Query_find 114 = .ok (.goto 17, 3) := by decide +kernel
theorem d_Query_find_117 : decode b_Query_find 117 = .ok (.aload_n 0, 1) := by decide +kernel
theorem d_Query_find_118 : decode b_Query_find 118 = .ok (.iload 5, 2) := by decide +kernel
theorem d_Query_find_120 : decode b_Query_find 120 = .ok (.invokevirtual 85, 3) := by decide +kernel
theorem d_Query_find_123 : decode b_Query_find 123 = .ok (.ifCond .ne 8, 3) := by decide +kernel
theorem d_Query_find_126 : decode b_Query_find 126 = .ok (.iconst (-1), 1) := by decide +kernel
theorem d_Query_find_127 : decode b_Query_find 127 = .ok (.iload 4, 2) := by decide +kernel
theorem d_Query_find_129 : decode b_Query_find 129 = .ok (.isub, 1) := by decide +kernel
theorem d_Query_find_130 : decode b_Query_find 130 = .ok (.ireturn, 1) := by decide +kernel
theorem d_Query_find_131 : decode b_Query_find 131 = .ok (.iload_n 3, 1) := by decide +kernel
theorem d_Query_find_132 : decode b_Query_find 132 = .ok (.istore 4, 2) := by decide +kernel
theorem d_Query_find_134 : decode b_Query_find 134 = .ok (.goto (-112), 3) := by decide +kernel
theorem d_Query_find_137 : decode b_Query_find 137 = .ok (.aload_n 0, 1) := by decide +kernel
theorem d_Query_find_138 : decode b_Query_find 138 = .ok (.getfield 56, 3) := by decide +kernel
theorem d_Query_find_141 : decode b_Query_find 141 = .ok (.ifCond .ne 10, 3) := by decide +kernel
theorem d_Query_find_144 : decode b_Query_find 144 = .ok (.aload_n 0, 1) := by decide +kernel
theorem d_Query_find_145 : decode b_Query_find 145 = .ok (.getfield 50, 3) := by decide +kernel
theorem d_Query_find_148 : decode b_Query_find 148 = .ok (.ifCond .le 10, 3) := by decide +kernel
theorem d_Query_find_151 : decode b_Query_find 151 = .ok (.iconst (-1), 1) := by decide +kernel
theorem d_Query_find_152 : decode b_Query_find 152 = .ok (.aload_n 1, 1) := by decide +kernel
theorem d_Query_find_153 : decode b_Query_find 153 = .ok (.invokevirtual 22, 3) := by decide +kernel
theorem d_Query_find_156 : decode b_Query_find 156 = .ok (.isub, 1) := by decide +kernel
theorem d_Query_find_157 : decode b_Query_find 157 = .ok (.ireturn, 1) := by decide +kernel
theorem d_Query_find_158 : decode b_Query_find 158 = .ok (.aload_n 0, 1) := by decide +kernel
theorem d_Query_find_159 : decode b_Query_find 159 = .ok (.getfield 9, 3) := by decide +kernel
theorem d_Query_find_162 : decode b_Query_find 162 = .ok (.iconst 0, 1) := by decide +kernel
theorem d_Query_find_163 : decode b_Query_find 163 = .ok (.iaload, 1) := by decide +kernel
theorem d_Query_find_164 : decode b_Query_find 164 = .ok (.aload_n 0, 1) := by decide +kernel
theorem d_Query_find_165 : decode b_Query_find 165 = .ok (.getfield 15, 3) := by decide +kernel
theorem d_Query_find_168 : decode b_Query_find 168 = .ok (.iconst 0, 1) := by decide +kernel
theorem d_Query_find_169 : decode b_Query_find 169 = .ok (.iaload, 1) := by decide +kernel
theorem d_Query_find_170 : decode b_Query_find 170 = .ok (.ior, 1) := by decide +kernel
theorem d_Query_find_171 : decode b_Query_find 171 = .ok (.ireturn, 1) := by decide +kernel
set_option maxHeartbeats 4000000 in
set_option maxRecDepth 100000 in
theorem c_Query_find (l : Launch) (dC : Nat → ClassId) (dI : Nat → Nat → Nat) (cI cL cZ : ClassId) (qu : Nat) (quFa : Nat) (quF : Nat → Int32) (quJa : Nat) (quJ : Nat → Int32) (quNa : Nat) (quN : Nat → Int32) (quE : Int32) (quL : Int32) (quD : Bool) (ro : Nat) (roEa : Nat) (ron : Nat) (roE : Nat → Int32) (roC : Int32) (roO : Bool) (bk : Nat) (bkNa : Nat) (bkN : Nat → Int64) (bkSa : Nat) (bkS : Nat → Int32) (bkB : Nat) (bkBEa : Nat) (bkBn : Nat) (bkBE : Nat → Int32) (bkBC : Int32) (bkBO : Bool) (bkK : Nat) (bkKWa : Nat) (bkKn : Nat) (bkKW : Nat → Int64) (bkKTa : Nat) (bkKT : Nat → Int32) (bkKC : Int32) (bkV : Nat) (bkVWa : Nat) (bkVn : Nat) (bkVW : Nat → Int64) (bkVTa : Nat) (bkVT : Nat → Int32) (bkVC : Int32) (bkT : Int32) (res : Int32) (quF' : Nat → Int32) (quJ' : Nat → Int32) (quN' : Nat → Int32) (quE' : Int32) (quL' : Int32) (quD' : Bool) (hd : D_Query_find ron bkVn quF quJ quN quE quL quD roE roC bkVW bkVT bkVC bkT res quF' quJ' quN' quE' quL' quD') : Ctr l y_Query_find (Cond.code y_Query_find b_Query_find 6 (some .int) :: ga) { frames := 2, cells := 0, slots := 0, locals := 50 } (dC, dI) classes (Tys cI cL cZ) [.ref qu, .ref ro, .ref bk] ((sh_Query cI cL cZ qu quFa quF quJa quJ quNa quN quE quL quD) ++ ((sh_Row cI cL cZ ro roEa ron roE roC roO) ++ ((sh_Book cI cL cZ bk bkNa bkN bkSa bkS bkB bkBEa bkBn bkBE bkBC bkBO bkK bkKWa bkKn bkKW bkKTa bkKT bkKC bkV bkVWa bkVn bkVW bkVTa bkVT bkVC bkT)))) (some (.int res)) ((sh_Query cI cL cZ qu quFa quF' quJa quJ' quNa quN' quE' quL' quD') ++ ((sh_Row cI cL cZ ro roEa ron roE roC roO) ++ ((sh_Book cI cL cZ bk bkNa bkN bkSa bkS bkB bkBEa bkBn bkBE bkBC bkBO bkK bkKWa bkKn bkKW bkKTa bkKT bkKC bkV bkVWa bkVn bkVW bkVTa bkVT bkVC bkT)))) := by
  refine Ctr.ofW (by decide) (Nat.le_of_ble_eq_true rfl) ?_
  intro p e s m below meth c A ls hx hb hr hml hown hlocks hts hK hN hA hP hD hS hl
  have hown : s.vm.findClass R_Query = some m.cls := hown
  have hl : lv_has ls 6 [(0, .ref qu), (1, .ref ro), (2, .ref bk)] := hl
  have key : ∀ n : Nat, (∀ (x4 : Int32) (quF : Nat → Int32) (quJ : Nat → Int32) (quN : Nat → Int32) (quE : Int32) (quL : Int32) (quD : Bool) (ls : Array Slot) (H : Heap) (locs : List Loc), lv_has ls 6 [(0, .ref qu), (1, .ref ro), (2, .ref bk), (4, .int x4)] → va_P (dC, dI) classes ((sh_Query cI cL cZ qu quFa quF quJa quJ quNa quN quE quL quD) ++ ((sh_Row cI cL cZ ro roEa ron roE roC roO) ++ ((sh_Book cI cL cZ bk bkNa bkN bkSa bkS bkB bkBEa bkBn bkBE bkBC bkBO bkK bkKWa bkKn bkKW bkKTa bkKT bkKC bkV bkVWa bkVn bkVW bkVTa bkVT bkVC bkT)))) H → va_D A ((sh_Query cI cL cZ qu quFa quF quJa quJ quNa quN quE quL quD) ++ ((sh_Row cI cL cZ ro roEa ron roE roC roO) ++ ((sh_Book cI cL cZ bk bkNa bkN bkSa bkS bkB bkBEa bkBn bkBE bkBC bkBO bkK bkKWa bkKn bkKW bkKTa bkKT bkKC bkV bkVWa bkVn bkVW bkVTa bkVT bkVC bkT)))) → va_S A s.heap H locs → T_Query_find ron bkVn roE roC bkVW bkVT bkVC bkT res quF' quJ' quN' quE' quL' quD' n 0 0 x4 0 quF quJ quN quE quL quD → W p l e ({ frames := 2, cells := 0, slots := 0, locals := 50 }) s m ([.ref qu, .ref ro, .ref bk] : List Value).toArray below meth c H locs 0 0 (MQ below (Qs (dC, dI) classes (Tys cI cL cZ) (some (.int res)) ((sh_Query cI cL cZ qu quFa quF' quJa quJ' quNa quN' quE' quL' quD') ++ ((sh_Row cI cL cZ ro roEa ron roE roC roO) ++ ((sh_Book cI cL cZ bk bkNa bkN bkSa bkS bkB bkBEa bkBn bkBE bkBC bkBO bkK bkKWa bkKn bkKW bkKTa bkKT bkKC bkV bkVWa bkVn bkVW bkVTa bkVT bkVC bkT)))) A) ([.ref qu, .ref ro, .ref bk] : List Value).toArray s 0 0 A) (F0 m 22 ls [])) ∧ (∀ (x3 : Int32) (x4 : Int32) (x5 : Int32) (quF : Nat → Int32) (quJ : Nat → Int32) (quN : Nat → Int32) (quE : Int32) (quL : Int32) (quD : Bool) (ls : Array Slot) (H : Heap) (locs : List Loc), lv_has ls 6 [(0, .ref qu), (1, .ref ro), (2, .ref bk), (3, .int x3), (4, .int x4), (5, .int x5)] → va_P (dC, dI) classes ((sh_Query cI cL cZ qu quFa quF quJa quJ quNa quN quE quL quD) ++ ((sh_Row cI cL cZ ro roEa ron roE roC roO) ++ ((sh_Book cI cL cZ bk bkNa bkN bkSa bkS bkB bkBEa bkBn bkBE bkBC bkBO bkK bkKWa bkKn bkKW bkKTa bkKT bkKC bkV bkVWa bkVn bkVW bkVTa bkVT bkVC bkT)))) H → va_D A ((sh_Query cI cL cZ qu quFa quF quJa quJ quNa quN quE quL quD) ++ ((sh_Row cI cL cZ ro roEa ron roE roC roO) ++ ((sh_Book cI cL cZ bk bkNa bkN bkSa bkS bkB bkBEa bkBn bkBE bkBC bkBO bkK bkKWa bkKn bkKW bkKTa bkKT bkKC bkV bkVWa bkVn bkVW bkVTa bkVT bkVC bkT)))) → va_S A s.heap H locs → T_Query_find ron bkVn roE roC bkVW bkVT bkVC bkT res quF' quJ' quN' quE' quL' quD' n 1 x3 x4 x5 quF quJ quN quE quL quD → W p l e ({ frames := 2, cells := 0, slots := 0, locals := 50 }) s m ([.ref qu, .ref ro, .ref bk] : List Value).toArray below meth c H locs 0 0 (MQ below (Qs (dC, dI) classes (Tys cI cL cZ) (some (.int res)) ((sh_Query cI cL cZ qu quFa quF' quJa quJ' quNa quN' quE' quL' quD') ++ ((sh_Row cI cL cZ ro roEa ron roE roC roO) ++ ((sh_Book cI cL cZ bk bkNa bkN bkSa bkS bkB bkBEa bkBn bkBE bkBC bkBO bkK bkKWa bkKn bkKW bkKTa bkKT bkKC bkV bkVWa bkVn bkVW bkVTa bkVT bkVC bkT)))) A) ([.ref qu, .ref ro, .ref bk] : List Value).toArray s 0 0 A) (F0 m 91 ls [])) ∧ (∀ (quF : Nat → Int32) (quJ : Nat → Int32) (quN : Nat → Int32) (quE : Int32) (quL : Int32) (quD : Bool) (ls : Array Slot) (H : Heap) (locs : List Loc), lv_has ls 6 [(1, .ref ro)] → va_P (dC, dI) classes ((sh_Query cI cL cZ qu quFa quF quJa quJ quNa quN quE quL quD) ++ ((sh_Row cI cL cZ ro roEa ron roE roC roO) ++ ((sh_Book cI cL cZ bk bkNa bkN bkSa bkS bkB bkBEa bkBn bkBE bkBC bkBO bkK bkKWa bkKn bkKW bkKTa bkKT bkKC bkV bkVWa bkVn bkVW bkVTa bkVT bkVC bkT)))) H → va_D A ((sh_Query cI cL cZ qu quFa quF quJa quJ quNa quN quE quL quD) ++ ((sh_Row cI cL cZ ro roEa ron roE roC roO) ++ ((sh_Book cI cL cZ bk bkNa bkN bkSa bkS bkB bkBEa bkBn bkBE bkBC bkBO bkK bkKWa bkKn bkKW bkKTa bkKT bkKC bkV bkVWa bkVn bkVW bkVTa bkVT bkVC bkT)))) → va_S A s.heap H locs → T_Query_find ron bkVn roE roC bkVW bkVT bkVC bkT res quF' quJ' quN' quE' quL' quD' n 2 0 0 0 quF quJ quN quE quL quD → W p l e ({ frames := 2, cells := 0, slots := 0, locals := 50 }) s m ([.ref qu, .ref ro, .ref bk] : List Value).toArray below meth c H locs 0 0 (MQ below (Qs (dC, dI) classes (Tys cI cL cZ) (some (.int res)) ((sh_Query cI cL cZ qu quFa quF' quJa quJ' quNa quN' quE' quL' quD') ++ ((sh_Row cI cL cZ ro roEa ron roE roC roO) ++ ((sh_Book cI cL cZ bk bkNa bkN bkSa bkS bkB bkBEa bkBn bkBE bkBC bkBO bkK bkKWa bkKn bkKW bkKTa bkKT bkKC bkV bkVWa bkVn bkVW bkVTa bkVT bkVC bkT)))) A) ([.ref qu, .ref ro, .ref bk] : List Value).toArray s 0 0 A) (F0 m 151 ls [])) := by
    intro n
    induction n with
    | zero =>
      exact ⟨fun _ _ _ _ _ _ _ _ _ _ _ _ _ _ hd => False.elim hd, fun _ _ _ _ _ _ _ _ _ _ _ _ _ _ _ _ hd => False.elim hd, fun _ _ _ _ _ _ _ _ _ _ _ _ _ hd => False.elim hd⟩
    | succ n ih =>
      refine ⟨?_, ?_, ?_⟩
      · intro x4 quF quJ quN quE quL quD ls H locs hl hP hD hS hd
        have hd : B_Query_find_22 ron bkVn roE roC bkVW bkVT bkVC bkT res quF' quJ' quN' quE' quL' quD' (T_Query_find ron bkVn roE roC bkVW bkVT bkVC bkT res quF' quJ' quN' quE' quL' quD' n) x4 quF quJ quN quE quL quD := hd
        refine lv_iload hx hb d_Query_find_22 (lv_at hl 3 rfl) ?_
        refine lv_aload_n hx hb d_Query_find_24 rfl (lv_at hl 1 rfl) ?_
        refine ct_VR (As := []) (rest := [.int x4]) (C := R_Row) (ci := 1) (q := (R_Row, F_Row, 3)) ⟨hx, hb, hml, hown, hts⟩ fm_Row_count (c_Row_count l dC dI cI cL cZ ro roEa ron roE roC roO roC rfl) k304_methodLink k67_instanceMethod k68_selects ⟨Nat.le_of_ble_eq_true rfl, Nat.le_of_ble_eq_true rfl⟩ rfl rfl hK hN hP hD [4, 5] rfl rfl (by decide) 4 rfl rfl rfl rfl hl.1 rfl (Nat.le_of_ble_eq_true rfl) d_Query_find_25 ?_
        refine lv_icmp_ge (tgt := 137) hx hb d_Query_find_28 (by decide) (fun h28 => ?_) (fun h28 => ?_)
        · have hd := hd.1 h28
          refine lv_aload_n hx hb d_Query_find_137 rfl (lv_at hl 0 rfl) ?_
          refine va_get (D := (dC, dI)) (ci := 7) (v := .int (bI quD)) (C := R_Query) (T := F_Query) (N := 6) hx hb hts in_Query hown hK hP 0 rfl rfl 5 (by decide) (hts _ (List.mem_cons_of_mem _ k314_fieldLink)) (fun _ h9 => h9) rfl d_Query_find_138 ?_
          refine lv_if_ne (tgt := 151) hx hb d_Query_find_141 (by decide) (fun h141 => ?_) (fun h141 => ?_)
          · have hd := hd.2 h141
            exact ih.2.2 quF quJ quN quE quL quD _ _ _ (lv_sub hl [1] rfl) hP hD hS hd
          · have hd := hd.1 h141
            refine lv_aload_n hx hb d_Query_find_144 rfl (lv_at hl 0 rfl) ?_
            refine va_get (D := (dC, dI)) (ci := 7) (v := .int quL) (C := R_Query) (T := F_Query) (N := 6) hx hb hts in_Query hown hK hP 0 rfl rfl 4 (by decide) (hts _ (List.mem_cons_of_mem _ k310_fieldLink)) (fun _ h9 => h9) rfl d_Query_find_145 ?_
            refine lv_if_le (tgt := 158) hx hb d_Query_find_148 (by decide) (fun h148 => ?_) (fun h148 => ?_)
            · have hd := hd.1 h148
              refine lv_aload_n hx hb d_Query_find_158 rfl (lv_at hl 0 rfl) ?_
              refine va_get (D := (dC, dI)) (ci := 7) (v := .ref quFa) (C := R_Query) (T := F_Query) (N := 6) hx hb hts in_Query hown hK hP 0 rfl rfl 0 (by decide) (hts _ (List.mem_cons_of_mem _ k309_fieldLink)) (fun _ h9 => h9) rfl d_Query_find_159 ?_
              refine lv_iconst (v := 0) hx hb d_Query_find_162 (by decide) ?_
              obtain ⟨h163, hd⟩ := hd
              refine va_iald hx hb hK hP 1 0 rfl rfl h163 d_Query_find_163 ?_
              refine lv_aload_n hx hb d_Query_find_164 rfl (lv_at hl 0 rfl) ?_
              refine va_get (D := (dC, dI)) (ci := 7) (v := .ref quJa) (C := R_Query) (T := F_Query) (N := 6) hx hb hts in_Query hown hK hP 0 rfl rfl 1 (by decide) (hts _ (List.mem_cons_of_mem _ k311_fieldLink)) (fun _ h9 => h9) rfl d_Query_find_165 ?_
              refine lv_iconst (v := 0) hx hb d_Query_find_168 (by decide) ?_
              obtain ⟨h169, hd⟩ := hd
              refine va_iald hx hb hK hP 2 0 rfl rfl h169 d_Query_find_169 ?_
              refine lv_ior hx hb d_Query_find_170 ?_
              obtain ⟨e0, e1, e2, e3, e4, e5, e6⟩ := hd
              subst e0
              subst e1
              subst e2
              subst e3
              subst e4
              subst e5
              subst e6
              exact ct_iret hx hb hr hlocks hK hP hD hS d_Query_find_171
            · have hd := hd.2 h148
              exact ih.2.2 quF quJ quN quE quL quD _ _ _ (lv_sub hl [1] rfl) hP hD hS hd
        · have hd := hd.2 h28
          refine lv_iload hx hb d_Query_find_31 (lv_at hl 3 rfl) ?_
          refine lv_iconst (v := 1) hx hb d_Query_find_33 (by decide) ?_
          refine lv_iadd hx hb d_Query_find_34 ?_
          refine lv_istore_n (lv' := [(3, .int (x4 + 1)), (0, .ref qu), (1, .ref ro), (2, .ref bk), (4, .int x4)]) hx hb d_Query_find_35 rfl hl (by decide) rfl (fun ls hl => ?_)
          refine lv_aload_n hx hb d_Query_find_36 rfl (lv_at hl 2 rfl) ?_
          refine lv_iload hx hb d_Query_find_37 (lv_at hl 4 rfl) ?_
          obtain ⟨r39, c39, hd⟩ := hd
          refine ct_VR (As := [.int x4]) (rest := []) (C := R_Row) (ci := 1) (q := (R_Row, F_Row, 3)) ⟨hx, hb, hml, hown, hts⟩ fm_Row_element (c_Row_element l dC dI cI cL cZ ro roEa ron roE roC roO x4 r39 c39) k305_methodLink k4_instanceMethod k5_selects ⟨Nat.le_of_ble_eq_true rfl, Nat.le_of_ble_eq_true rfl⟩ rfl rfl hK hN hP hD [4, 5] rfl rfl (by decide) 4 rfl rfl rfl rfl hl.1 rfl (Nat.le_of_ble_eq_true rfl) d_Query_find_39 ?_
          refine lv_istore (lv' := [(5, .int r39), (3, .int (x4 + 1)), (0, .ref qu), (1, .ref ro), (2, .ref bk), (4, .int x4)]) hx hb d_Query_find_42 hl (by decide) rfl (fun ls hl => ?_)
          refine lv_aload_n hx hb d_Query_find_44 rfl (lv_at hl 2 rfl) ?_
          refine va_get (D := (dC, dI)) (ci := 7) (v := .int (bI quD)) (C := R_Query) (T := F_Query) (N := 6) hx hb hts in_Query hown hK hP 0 rfl rfl 5 (by decide) (hts _ (List.mem_cons_of_mem _ k314_fieldLink)) (fun _ h9 => h9) rfl d_Query_find_45 ?_
          refine lv_if_eq (tgt := 91) hx hb d_Query_find_48 (by decide) (fun h48 => ?_) (fun h48 => ?_)
          · have hd := hd.1 h48
            exact ih.2.1 (x4 + 1) x4 r39 quF quJ quN quE quL quD _ _ _ (lv_sub hl [2, 3, 4, 1, 5, 0] rfl) hP hD hS hd
          · have hd := hd.2 h48
            refine lv_iload hx hb d_Query_find_51 (lv_at hl 0 rfl) ?_
            obtain ⟨r53, c53, hd⟩ := hd
            refine ct_SR (As := [.int r39]) (rest := []) ⟨hx, hb, hml, hown, hts⟩ fm_Letters_isLetter (c_Letters_isLetter l dC dI cI cL cZ r39 r53 c53) k306_methodLink k22_static ⟨Nat.le_of_ble_eq_true rfl, Nat.le_of_ble_eq_true rfl⟩ rfl rfl hK hN hP hD [] rfl rfl (by decide) rfl hl.1 rfl (Nat.le_of_ble_eq_true rfl) d_Query_find_53 ?_
            refine lv_if_eq (tgt := 91) hx hb d_Query_find_56 (by decide) (fun h56 => ?_) (fun h56 => ?_)
            · have hd := hd.1 h56
              exact ih.2.1 (x4 + 1) x4 r39 quF quJ quN quE quL quD _ _ _ (lv_sub hl [2, 3, 4, 1, 5, 0] rfl) hP hD hS hd
            · have hd := hd.2 h56
              refine lv_aload_n hx hb d_Query_find_59 rfl (lv_at hl 3 rfl) ?_
              refine lv_iload hx hb d_Query_find_60 (lv_at hl 5 rfl) ?_
              refine lv_aload_n hx hb d_Query_find_62 rfl (lv_at hl 3 rfl) ?_
              refine ct_VR (As := []) (rest := [.int x4, .ref ro]) (C := R_Row) (ci := 1) (q := (R_Row, F_Row, 3)) ⟨hx, hb, hml, hown, hts⟩ fm_Row_count (c_Row_count l dC dI cI cL cZ ro roEa ron roE roC roO roC rfl) k304_methodLink k67_instanceMethod k68_selects ⟨Nat.le_of_ble_eq_true rfl, Nat.le_of_ble_eq_true rfl⟩ rfl rfl hK hN hP hD [4, 5] rfl rfl (by decide) 4 rfl rfl rfl rfl hl.1 rfl (Nat.le_of_ble_eq_true rfl) d_Query_find_63 ?_
              obtain ⟨r66, c66, hd⟩ := hd
              refine ct_SR (As := [.ref ro, .int x4, .int roC]) (rest := []) ⟨hx, hb, hml, hown, hts⟩ fm_Letters_lettersEnd (c_Letters_lettersEnd l dC dI cI cL cZ ro roEa ron roE roC roO x4 roC r66 c66) k322_methodLink k84_static ⟨Nat.le_of_ble_eq_true rfl, Nat.le_of_ble_eq_true rfl⟩ rfl rfl hK hN hP hD [4, 5] rfl rfl (by decide) rfl hl.1 rfl (Nat.le_of_ble_eq_true rfl) d_Query_find_66 ?_
              refine lv_istore_n (lv' := [(3, .int r66), (5, .int r39), (0, .ref qu), (1, .ref ro), (2, .ref bk), (4, .int x4)]) hx hb d_Query_find_69 rfl hl (by decide) rfl (fun ls hl => ?_)
              refine lv_aload_n hx hb d_Query_find_70 rfl (lv_at hl 2 rfl) ?_
              refine lv_aload_n hx hb d_Query_find_71 rfl (lv_at hl 4 rfl) ?_
              refine ct_VR (As := []) (rest := [.ref qu]) (C := R_Book) (ci := 3) (q := (R_Book, F_Book, 6)) ⟨hx, hb, hml, hown, hts⟩ fm_Book_words (c_Book_words l dC dI cI cL cZ bk bkNa bkN bkSa bkS bkB bkBEa bkBn bkBE bkBC bkBO bkK bkKWa bkKn bkKW bkKTa bkKT bkKC bkV bkVWa bkVn bkVW bkVTa bkVT bkVC bkT trivial) k323_methodLink k248_instanceMethod k249_selects ⟨Nat.le_of_ble_eq_true rfl, Nat.le_of_ble_eq_true rfl⟩ rfl rfl hK hN hP hD [6, 7, 8, 9, 10, 11, 12, 13, 14, 15, 16] rfl rfl (by decide) 6 rfl rfl rfl rfl hl.1 rfl (Nat.le_of_ble_eq_true rfl) d_Query_find_72 ?_
              refine lv_aload_n hx hb d_Query_find_75 rfl (lv_at hl 3 rfl) ?_
              refine lv_iload hx hb d_Query_find_76 (lv_at hl 5 rfl) ?_
              refine lv_iload_n hx hb d_Query_find_78 rfl (lv_at hl 0 rfl) ?_
              obtain ⟨r79, c79, hd⟩ := hd
              refine ct_SR (As := [.ref ro, .int x4, .int r66]) (rest := [.ref bkV, .ref qu]) ⟨hx, hb, hml, hown, hts⟩ fm_Letters_word (c_Letters_word l dC dI cI cL cZ ro roEa ron roE roC roO x4 r66 r79 c79) k324_methodLink k86_static ⟨Nat.le_of_ble_eq_true rfl, Nat.le_of_ble_eq_true rfl⟩ rfl rfl hK hN hP hD [4, 5] rfl rfl (by decide) rfl hl.1 rfl (Nat.le_of_ble_eq_true rfl) d_Query_find_79 ?_
              obtain ⟨r82, c82, hd⟩ := hd
              refine ct_VR (As := [.long r79]) (rest := [.ref qu]) (C := R_WordList) (ci := 2) (q := (R_WordList, F_WordList, 3)) ⟨hx, hb, hml, hown, hts⟩ fm_WordList_topicsOf (c_WordList_topicsOf l dC dI cI cL cZ bkV bkVWa bkVn bkVW bkVTa bkVT bkVC r79 r82 c82) k325_methodLink k326_instanceMethod k327_selects ⟨Nat.le_of_ble_eq_true rfl, Nat.le_of_ble_eq_true rfl⟩ rfl rfl hK hN hP hD [14, 15, 16] rfl rfl (by decide) 14 rfl rfl rfl rfl hl.1 rfl (Nat.le_of_ble_eq_true rfl) d_Query_find_82 ?_
              obtain ⟨quJ_85, quN_85, quD_85, c85, hd⟩ := hd
              refine ct_V (As := [.int r82]) (rest := []) (C := R_Query) (ci := 7) (q := (R_Query, F_Query, 6)) ⟨hx, hb, hml, hown, hts⟩ fm_Query_closeCondition (c_Query_closeCondition l dC dI cI cL cZ qu quFa quF quJa quJ quNa quN quE quL quD r82 quJ_85 quN_85 quD_85 c85) k318_methodLink k319_instanceMethod k320_selects ⟨Nat.le_of_ble_eq_true rfl, Nat.le_of_ble_eq_true rfl⟩ rfl rfl hK hN hP hD hS hA [0, 1, 2, 3] [4, 5, 6, 7, 8, 9, 10, 11, 12, 13, 14, 15, 16] rfl rfl rfl (by decide) (by decide) (by decide) 0 rfl rfl rfl rfl hl.1 rfl (Nat.le_of_ble_eq_true rfl) d_Query_find_85 (fun H locs hP hD hS => ?_)
              have hP : va_P (dC, dI) classes ((sh_Query cI cL cZ qu quFa quF quJa quJ_85 quNa quN_85 quE quL quD_85) ++ ((sh_Row cI cL cZ ro roEa ron roE roC roO) ++ ((sh_Book cI cL cZ bk bkNa bkN bkSa bkS bkB bkBEa bkBn bkBE bkBC bkBO bkK bkKWa bkKn bkKW bkKTa bkKT bkKC bkV bkVWa bkVn bkVW bkVTa bkVT bkVC bkT)))) H := hP.sub [13, 14, 15, 16, 0, 1, 2, 3, 4, 5, 6, 7, 8, 9, 10, 11, 12] rfl
              have hD : va_D A ((sh_Query cI cL cZ qu quFa quF quJa quJ_85 quNa quN_85 quE quL quD_85) ++ ((sh_Row cI cL cZ ro roEa ron roE roC roO) ++ ((sh_Book cI cL cZ bk bkNa bkN bkSa bkS bkB bkBEa bkBn bkBE bkBC bkBO bkK bkKWa bkKn bkKW bkKTa bkKT bkKC bkV bkVWa bkVn bkVW bkVTa bkVT bkVC bkT)))) := hD.sub [13, 14, 15, 16, 0, 1, 2, 3, 4, 5, 6, 7, 8, 9, 10, 11, 12] (by decide) rfl
              refine lv_goto (tgt := 131) hx hb d_Query_find_88 (by decide) ?_
              refine lv_iload_n hx hb d_Query_find_131 rfl (lv_at hl 0 rfl) ?_
              refine lv_istore (lv' := [(4, .int r66), (3, .int r66), (5, .int r39), (0, .ref qu), (1, .ref ro), (2, .ref bk)]) hx hb d_Query_find_132 hl (by decide) rfl (fun ls hl => ?_)
              refine lv_goto (tgt := 22) hx hb d_Query_find_134 (by decide) ?_
              exact ih.1 r66 quF quJ_85 quN_85 quE quL quD_85 _ _ _ (lv_sub hl [3, 4, 5, 0] rfl) hP hD hS hd
      · intro x3 x4 x5 quF quJ quN quE quL quD ls H locs hl hP hD hS hd
        have hd : B_Query_find_91 ron bkVn roE roC bkVW bkVT bkVC bkT res quF' quJ' quN' quE' quL' quD' (T_Query_find ron bkVn roE roC bkVW bkVT bkVC bkT res quF' quJ' quN' quE' quL' quD' n) x3 x4 x5 quF quJ quN quE quL quD := hd
        refine lv_iload hx hb d_Query_find_91 (lv_at hl 5 rfl) ?_
        refine lv_bipush (v := 32) hx hb d_Query_find_93 (by decide) ?_
        refine lv_icmp_eq (tgt := 131) hx hb d_Query_find_95 (by decide) (fun h95 => ?_) (fun h95 => ?_)
        · have hd := hd.1 h95
          refine lv_iload_n hx hb d_Query_find_131 rfl (lv_at hl 3 rfl) ?_
          refine lv_istore (lv' := [(4, .int x3), (0, .ref qu), (1, .ref ro), (2, .ref bk), (3, .int x3), (5, .int x5)]) hx hb d_Query_find_132 hl (by decide) rfl (fun ls hl => ?_)
          refine lv_goto (tgt := 22) hx hb d_Query_find_134 (by decide) ?_
          exact ih.1 x3 quF quJ quN quE quL quD _ _ _ (lv_sub hl [1, 2, 3, 0] rfl) hP hD hS hd
        · have hd := hd.2 h95
          refine lv_aload_n hx hb d_Query_find_98 rfl (lv_at hl 0 rfl) ?_
          refine va_get (D := (dC, dI)) (ci := 7) (v := .int (bI quD)) (C := R_Query) (T := F_Query) (N := 6) hx hb hts in_Query hown hK hP 0 rfl rfl 5 (by decide) (hts _ (List.mem_cons_of_mem _ k314_fieldLink)) (fun _ h9 => h9) rfl d_Query_find_99 ?_
          refine lv_if_eq (tgt := 117) hx hb d_Query_find_102 (by decide) (fun h102 => ?_) (fun h102 => ?_)
          · have hd := hd.1 h102
            refine lv_aload_n hx hb d_Query_find_117 rfl (lv_at hl 0 rfl) ?_
            refine lv_iload hx hb d_Query_find_118 (lv_at hl 5 rfl) ?_
            obtain ⟨r120, quF_120, quJ_120, quN_120, quL_120, quD_120, c120, hd⟩ := hd
            refine ct_V (As := [.int x5]) (rest := []) (C := R_Query) (ci := 7) (q := (R_Query, F_Query, 6)) ⟨hx, hb, hml, hown, hts⟩ fm_Query_goesOn (c_Query_goesOn l dC dI cI cL cZ qu quFa quF quJa quJ quNa quN quE quL quD x5 r120 quF_120 quJ_120 quN_120 quL_120 quD_120 c120) k328_methodLink k329_instanceMethod k330_selects ⟨Nat.le_of_ble_eq_true rfl, Nat.le_of_ble_eq_true rfl⟩ rfl rfl hK hN hP hD hS hA [0, 1, 2, 3] [4, 5, 6, 7, 8, 9, 10, 11, 12, 13, 14, 15, 16] rfl rfl rfl (by decide) (by decide) (by decide) 0 rfl rfl rfl rfl hl.1 rfl (Nat.le_of_ble_eq_true rfl) d_Query_find_120 (fun H locs hP hD hS => ?_)
            have hP : va_P (dC, dI) classes ((sh_Query cI cL cZ qu quFa quF_120 quJa quJ_120 quNa quN_120 quE quL_120 quD_120) ++ ((sh_Row cI cL cZ ro roEa ron roE roC roO) ++ ((sh_Book cI cL cZ bk bkNa bkN bkSa bkS bkB bkBEa bkBn bkBE bkBC bkBO bkK bkKWa bkKn bkKW bkKTa bkKT bkKC bkV bkVWa bkVn bkVW bkVTa bkVT bkVC bkT)))) H := hP.sub [13, 14, 15, 16, 0, 1, 2, 3, 4, 5, 6, 7, 8, 9, 10, 11, 12] rfl
            have hD : va_D A ((sh_Query cI cL cZ qu quFa quF_120 quJa quJ_120 quNa quN_120 quE quL_120 quD_120) ++ ((sh_Row cI cL cZ ro roEa ron roE roC roO) ++ ((sh_Book cI cL cZ bk bkNa bkN bkSa bkS bkB bkBEa bkBn bkBE bkBC bkBO bkK bkKWa bkKn bkKW bkKTa bkKT bkKC bkV bkVWa bkVn bkVW bkVTa bkVT bkVC bkT)))) := hD.sub [13, 14, 15, 16, 0, 1, 2, 3, 4, 5, 6, 7, 8, 9, 10, 11, 12] (by decide) rfl
            refine lv_if_ne (tgt := 131) hx hb d_Query_find_123 (by decide) (fun h123 => ?_) (fun h123 => ?_)
            · have hd := hd.2 h123
              refine lv_iload_n hx hb d_Query_find_131 rfl (lv_at hl 3 rfl) ?_
              refine lv_istore (lv' := [(4, .int x3), (0, .ref qu), (1, .ref ro), (2, .ref bk), (3, .int x3), (5, .int x5)]) hx hb d_Query_find_132 hl (by decide) rfl (fun ls hl => ?_)
              refine lv_goto (tgt := 22) hx hb d_Query_find_134 (by decide) ?_
              exact ih.1 x3 quF_120 quJ_120 quN_120 quE quL_120 quD_120 _ _ _ (lv_sub hl [1, 2, 3, 0] rfl) hP hD hS hd
            · have hd := hd.1 h123
              refine lv_iconst (v := (-1)) hx hb d_Query_find_126 (by decide) ?_
              refine lv_iload hx hb d_Query_find_127 (lv_at hl 4 rfl) ?_
              refine lv_isub hx hb d_Query_find_129 ?_
              obtain ⟨e0, e1, e2, e3, e4, e5, e6⟩ := hd
              subst e0
              subst e1
              subst e2
              subst e3
              subst e4
              subst e5
              subst e6
              exact ct_iret hx hb hr hlocks hK hP hD hS d_Query_find_130
          · have hd := hd.2 h102
            refine lv_aload_n hx hb d_Query_find_105 rfl (lv_at hl 0 rfl) ?_
            refine lv_iload hx hb d_Query_find_106 (lv_at hl 5 rfl) ?_
            obtain ⟨r108, quF_108, quJ_108, quN_108, quL_108, quD_108, c108, hd⟩ := hd
            refine ct_V (As := [.int x5]) (rest := []) (C := R_Query) (ci := 7) (q := (R_Query, F_Query, 6)) ⟨hx, hb, hml, hown, hts⟩ fm_Query_opens (c_Query_opens l dC dI cI cL cZ qu quFa quF quJa quJ quNa quN quE quL quD x5 r108 quF_108 quJ_108 quN_108 quL_108 quD_108 c108) k331_methodLink k332_instanceMethod k333_selects ⟨Nat.le_of_ble_eq_true rfl, Nat.le_of_ble_eq_true rfl⟩ rfl rfl hK hN hP hD hS hA [0, 1, 2, 3] [4, 5, 6, 7, 8, 9, 10, 11, 12, 13, 14, 15, 16] rfl rfl rfl (by decide) (by decide) (by decide) 0 rfl rfl rfl rfl hl.1 rfl (Nat.le_of_ble_eq_true rfl) d_Query_find_108 (fun H locs hP hD hS => ?_)
            have hP : va_P (dC, dI) classes ((sh_Query cI cL cZ qu quFa quF_108 quJa quJ_108 quNa quN_108 quE quL_108 quD_108) ++ ((sh_Row cI cL cZ ro roEa ron roE roC roO) ++ ((sh_Book cI cL cZ bk bkNa bkN bkSa bkS bkB bkBEa bkBn bkBE bkBC bkBO bkK bkKWa bkKn bkKW bkKTa bkKT bkKC bkV bkVWa bkVn bkVW bkVTa bkVT bkVC bkT)))) H := hP.sub [13, 14, 15, 16, 0, 1, 2, 3, 4, 5, 6, 7, 8, 9, 10, 11, 12] rfl
            have hD : va_D A ((sh_Query cI cL cZ qu quFa quF_108 quJa quJ_108 quNa quN_108 quE quL_108 quD_108) ++ ((sh_Row cI cL cZ ro roEa ron roE roC roO) ++ ((sh_Book cI cL cZ bk bkNa bkN bkSa bkS bkB bkBEa bkBn bkBE bkBC bkBO bkK bkKWa bkKn bkKW bkKTa bkKT bkKC bkV bkVWa bkVn bkVW bkVTa bkVT bkVC bkT)))) := hD.sub [13, 14, 15, 16, 0, 1, 2, 3, 4, 5, 6, 7, 8, 9, 10, 11, 12] (by decide) rfl
            refine lv_if_eq (tgt := 126) hx hb d_Query_find_111 (by decide) (fun h111 => ?_) (fun h111 => ?_)
            · have hd := hd.1 h111
              refine lv_iconst (v := (-1)) hx hb d_Query_find_126 (by decide) ?_
              refine lv_iload hx hb d_Query_find_127 (lv_at hl 4 rfl) ?_
              refine lv_isub hx hb d_Query_find_129 ?_
              obtain ⟨e0, e1, e2, e3, e4, e5, e6⟩ := hd
              subst e0
              subst e1
              subst e2
              subst e3
              subst e4
              subst e5
              subst e6
              exact ct_iret hx hb hr hlocks hK hP hD hS d_Query_find_130
            · have hd := hd.2 h111
              refine lv_goto (tgt := 131) hx hb d_Query_find_114 (by decide) ?_
              refine lv_iload_n hx hb d_Query_find_131 rfl (lv_at hl 3 rfl) ?_
              refine lv_istore (lv' := [(4, .int x3), (0, .ref qu), (1, .ref ro), (2, .ref bk), (3, .int x3), (5, .int x5)]) hx hb d_Query_find_132 hl (by decide) rfl (fun ls hl => ?_)
              refine lv_goto (tgt := 22) hx hb d_Query_find_134 (by decide) ?_
              exact ih.1 x3 quF_108 quJ_108 quN_108 quE quL_108 quD_108 _ _ _ (lv_sub hl [1, 2, 3, 0] rfl) hP hD hS hd
      · intro quF quJ quN quE quL quD ls H locs hl hP hD hS hd
        have hd : B_Query_find_151 ron bkVn roE roC bkVW bkVT bkVC bkT res quF' quJ' quN' quE' quL' quD' (T_Query_find ron bkVn roE roC bkVW bkVT bkVC bkT res quF' quJ' quN' quE' quL' quD' n) quF quJ quN quE quL quD := hd
        refine lv_iconst (v := (-1)) hx hb d_Query_find_151 (by decide) ?_
        refine lv_aload_n hx hb d_Query_find_152 rfl (lv_at hl 0 rfl) ?_
        refine ct_VR (As := []) (rest := [.int (-1)]) (C := R_Row) (ci := 1) (q := (R_Row, F_Row, 3)) ⟨hx, hb, hml, hown, hts⟩ fm_Row_count (c_Row_count l dC dI cI cL cZ ro roEa ron roE roC roO roC rfl) k304_methodLink k67_instanceMethod k68_selects ⟨Nat.le_of_ble_eq_true rfl, Nat.le_of_ble_eq_true rfl⟩ rfl rfl hK hN hP hD [4, 5] rfl rfl (by decide) 4 rfl rfl rfl rfl hl.1 rfl (Nat.le_of_ble_eq_true rfl) d_Query_find_153 ?_
        refine lv_isub hx hb d_Query_find_156 ?_
        obtain ⟨e0, e1, e2, e3, e4, e5, e6⟩ := hd
        subst e0
        subst e1
        subst e2
        subst e3
        subst e4
        subst e5
        subst e6
        exact ct_iret hx hb hr hlocks hK hP hD hS d_Query_find_157
  obtain ⟨n, hd⟩ := hd
  refine lv_aload_n hx hb d_Query_find_0 rfl (lv_at hl 0 rfl) ?_
  refine lv_aload_n hx hb d_Query_find_1 rfl (lv_at hl 2 rfl) ?_
  refine ct_VR (As := []) (rest := [.ref qu]) (C := R_Book) (ci := 3) (q := (R_Book, F_Book, 6)) ⟨hx, hb, hml, hown, hts⟩ fm_Book_everyTopic (c_Book_everyTopic l dC dI cI cL cZ bk bkNa bkN bkSa bkS bkB bkBEa bkBn bkBE bkBC bkBO bkK bkKWa bkKn bkKW bkKTa bkKT bkKC bkV bkVWa bkVn bkVW bkVTa bkVT bkVC bkT ((1 <<< (bkT &&& 31)) - 1) rfl) k321_methodLink k105_instanceMethod k106_selects ⟨Nat.le_of_ble_eq_true rfl, Nat.le_of_ble_eq_true rfl⟩ rfl rfl hK hN hP hD [6, 7, 8, 9, 10, 11, 12, 13, 14, 15, 16] rfl rfl (by decide) 6 rfl rfl rfl rfl hl.1 rfl (Nat.le_of_ble_eq_true rfl) d_Query_find_2 ?_
  refine va_put (D := (dC, dI)) (ci := 7) (v := .int ((1 <<< (bkT &&& 31)) - 1)) (ty := t_Query 3) (C := R_Query) (T := F_Query) (N := 6) hx hb hts in_Query t_Query t_Query_ok n_Query hown hK hP hD hS 0 rfl rfl 3 (by decide) (hts _ (List.mem_cons_of_mem _ k312_fieldLink)) (fun _ h9 => h9) rfl (t_Query_ok 3 (by decide)) rfl rfl (Nat.le_of_ble_eq_true rfl) d_Query_find_5 (fun H locs hP hD hS => ?_)
  have hP : va_P (dC, dI) classes ((sh_Query cI cL cZ qu quFa quF quJa quJ quNa quN ((1 <<< (bkT &&& 31)) - 1) quL quD) ++ ((sh_Row cI cL cZ ro roEa ron roE roC roO) ++ ((sh_Book cI cL cZ bk bkNa bkN bkSa bkS bkB bkBEa bkBn bkBE bkBC bkBO bkK bkKWa bkKn bkKW bkKTa bkKT bkKC bkV bkVWa bkVn bkVW bkVTa bkVT bkVC bkT)))) H := hP
  have hD : va_D A ((sh_Query cI cL cZ qu quFa quF quJa quJ quNa quN ((1 <<< (bkT &&& 31)) - 1) quL quD) ++ ((sh_Row cI cL cZ ro roEa ron roE roC roO) ++ ((sh_Book cI cL cZ bk bkNa bkN bkSa bkS bkB bkBEa bkBn bkBE bkBC bkBO bkK bkKWa bkKn bkKW bkKTa bkKT bkKC bkV bkVWa bkVn bkVW bkVTa bkVT bkVC bkT)))) := hD
  refine lv_aload_n hx hb d_Query_find_8 rfl (lv_at hl 0 rfl) ?_
  refine lv_iconst (v := 0) hx hb d_Query_find_9 (by decide) ?_
  refine va_put (D := (dC, dI)) (ci := 7) (v := .int 0) (ty := t_Query 4) (C := R_Query) (T := F_Query) (N := 6) hx hb hts in_Query t_Query t_Query_ok n_Query hown hK hP hD hS 0 rfl rfl 4 (by decide) (hts _ (List.mem_cons_of_mem _ k310_fieldLink)) (fun _ h9 => h9) rfl (t_Query_ok 4 (by decide)) rfl rfl (Nat.le_of_ble_eq_true rfl) d_Query_find_10 (fun H locs hP hD hS => ?_)
  have hP : va_P (dC, dI) classes ((sh_Query cI cL cZ qu quFa quF quJa quJ quNa quN ((1 <<< (bkT &&& 31)) - 1) 0 quD) ++ ((sh_Row cI cL cZ ro roEa ron roE roC roO) ++ ((sh_Book cI cL cZ bk bkNa bkN bkSa bkS bkB bkBEa bkBn bkBE bkBC bkBO bkK bkKWa bkKn bkKW bkKTa bkKT bkKC bkV bkVWa bkVn bkVW bkVTa bkVT bkVC bkT)))) H := hP
  have hD : va_D A ((sh_Query cI cL cZ qu quFa quF quJa quJ quNa quN ((1 <<< (bkT &&& 31)) - 1) 0 quD) ++ ((sh_Row cI cL cZ ro roEa ron roE roC roO) ++ ((sh_Book cI cL cZ bk bkNa bkN bkSa bkS bkB bkBEa bkBn bkBE bkBC bkBO bkK bkKWa bkKn bkKW bkKTa bkKT bkKC bkV bkVWa bkVn bkVW bkVTa bkVT bkVC bkT)))) := hD
  refine lv_aload_n hx hb d_Query_find_13 rfl (lv_at hl 0 rfl) ?_
  obtain ⟨quF_14, quJ_14, quN_14, quD_14, c14, hd⟩ := hd
  refine ct_V (As := []) (rest := []) (C := R_Query) (ci := 7) (q := (R_Query, F_Query, 6)) ⟨hx, hb, hml, hown, hts⟩ fm_Query_beginLevel (c_Query_beginLevel l dC dI cI cL cZ qu quFa quF quJa quJ quNa quN ((1 <<< (bkT &&& 31)) - 1) 0 quD quF_14 quJ_14 quN_14 quD_14 c14) k315_methodLink k316_instanceMethod k317_selects ⟨Nat.le_of_ble_eq_true rfl, Nat.le_of_ble_eq_true rfl⟩ rfl rfl hK hN hP hD hS hA [0, 1, 2, 3] [4, 5, 6, 7, 8, 9, 10, 11, 12, 13, 14, 15, 16] rfl rfl rfl (by decide) (by decide) (by decide) 0 rfl rfl rfl rfl hl.1 rfl (Nat.le_of_ble_eq_true rfl) d_Query_find_14 (fun H locs hP hD hS => ?_)
  have hP : va_P (dC, dI) classes ((sh_Query cI cL cZ qu quFa quF_14 quJa quJ_14 quNa quN_14 ((1 <<< (bkT &&& 31)) - 1) 0 quD_14) ++ ((sh_Row cI cL cZ ro roEa ron roE roC roO) ++ ((sh_Book cI cL cZ bk bkNa bkN bkSa bkS bkB bkBEa bkBn bkBE bkBC bkBO bkK bkKWa bkKn bkKW bkKTa bkKT bkKC bkV bkVWa bkVn bkVW bkVTa bkVT bkVC bkT)))) H := hP.sub [13, 14, 15, 16, 0, 1, 2, 3, 4, 5, 6, 7, 8, 9, 10, 11, 12] rfl
  have hD : va_D A ((sh_Query cI cL cZ qu quFa quF_14 quJa quJ_14 quNa quN_14 ((1 <<< (bkT &&& 31)) - 1) 0 quD_14) ++ ((sh_Row cI cL cZ ro roEa ron roE roC roO) ++ ((sh_Book cI cL cZ bk bkNa bkN bkSa bkS bkB bkBEa bkBn bkBE bkBC bkBO bkK bkKWa bkKn bkKW bkKTa bkKT bkKC bkV bkVWa bkVn bkVW bkVTa bkVT bkVC bkT)))) := hD.sub [13, 14, 15, 16, 0, 1, 2, 3, 4, 5, 6, 7, 8, 9, 10, 11, 12] (by decide) rfl
  refine lv_iconst (v := 0) hx hb d_Query_find_17 (by decide) ?_
  refine lv_istore_n (lv' := [(3, .int 0), (0, .ref qu), (1, .ref ro), (2, .ref bk)]) hx hb d_Query_find_18 rfl hl (by decide) rfl (fun ls hl => ?_)
  refine lv_iconst (v := 0) hx hb d_Query_find_19 (by decide) ?_
  refine lv_istore (lv' := [(4, .int 0), (3, .int 0), (0, .ref qu), (1, .ref ro), (2, .ref bk)]) hx hb d_Query_find_20 hl (by decide) rfl (fun ls hl => ?_)
  exact (key n).1 0 quF_14 quJ_14 quN_14 ((1 <<< (bkT &&& 31)) - 1) 0 quD_14 _ _ _ (lv_sub hl [2, 3, 4, 0] rfl) hP hD hS hd
