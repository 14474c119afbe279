/-! 15.book: what each method does, read off its bytecode (D_..), and its contract (c_..); written by a program of mine. -/
-- Book.links
abbrev b_Book_links : ByteArray := prog_2_method_17_code
def y_Book_links : MethodName := ⟨"HelpFile$Book", "links", "(I)I"⟩
theorem k82_methodLink : Cond.methodLink "HelpFile$Book" 70 ⟨"HelpFile$Row", "element", "(I)I"⟩ ∈ ga := ga_t 612 (by decide +kernel) rfl
set_option maxRecDepth 100000 in
theorem fm_Book_links : Fm y_Book_links b_Book_links 4 (some .int) 1 := ⟨ga_t 896 rfl rfl, k62_initialized, by decide, by decide, by decide +kernel⟩
def B_Book_links_8 (bkBn : Nat) (bkS : Nat → Int32) (bkBE : Nat → Int32) (bkBC : Int32) (bkT : Int32) (res : Int32) (X : Int32 → Int32 → Int32 → Prop) (x1 : Int32) (x2 : Int32) (x3 : Int32) : Prop := (∃ r11 : Int32, D_Book_bodyEnd x1 bkS bkT r11 ∧ ((r11 ≤ x3 → (res = x2)) ∧ (¬ (r11 ≤ x3) → (∃ r22 : Int32, D_Row_element bkBn x3 bkBE bkBC r22 ∧ ((r22 = 2 → X x1 (x2 + 1) ((x3 + 1) + 1)) ∧ (¬ (r22 = 2) → X x1 x2 (x3 + 1)))))))
def S_Book_links (bkBn : Nat) (bkS : Nat → Int32) (bkBE : Nat → Int32) (bkBC : Int32) (bkT : Int32) (res : Int32) (X : Int32 → Int32 → Int32 → Prop) : Int32 → Int32 → Int32 → Prop := fun x1 x2 x3 => B_Book_links_8 bkBn bkS bkBE bkBC bkT res X x1 x2 x3
def T_Book_links (bkBn : Nat) (bkS : Nat → Int32) (bkBE : Nat → Int32) (bkBC : Int32) (bkT : Int32) (res : Int32) : Nat → (Int32 → Int32 → Int32 → Prop)
  | 0 => fun _ _ _ => False
  | n + 1 => S_Book_links bkBn bkS bkBE bkBC bkT res (T_Book_links bkBn bkS bkBE bkBC bkT res n)
def D_Book_links (bkBn : Nat) (k0 : Int32) (bkS : Nat → Int32) (bkBE : Nat → Int32) (bkBC : Int32) (bkT : Int32) (res : Int32) : Prop := ∃ n : Nat, (∃ r4 : Int32, D_Book_bodyStart k0 bkS bkT r4 ∧ T_Book_links bkBn bkS bkBE bkBC bkT res n k0 0 r4)
theorem d_Book_links_0 : decode b_Book_links 0 = .ok (.iconst 0, 1) := by decide +kernel
theorem d_Book_links_1 : decode b_Book_links 1 = .ok (.istore_n 2, 1) := by decide +kernel
theorem d_Book_links_2 : decode b_Book_links 2 = .ok (.aload_n 0, 1) := by decide +kernel
theorem d_Book_links_3 : decode b_Book_links 3 = .ok (.iload_n 1, 1) := by decide +kernel
theorem d_Book_links_4 : decode b_Book_links 4 = .ok (.invokevirtual 67, 3) := by decide +kernel
theorem d_Book_links_7 : decode b_Book_links 7 = .ok (.istore_n 3, 1) := by decide +kernel
theorem d_Book_links_8 : decode b_Book_links 8 = .ok (.iload_n 3, 1) := by decide +kernel
theorem d_Book_links_9 : decode b_Book_links 9 = .ok (.aload_n 0, 1) := by decide +kernel
theorem d_Book_links_10 : decode b_Book_links 10 = .ok (.iload_n 1, 1) := by decide +kernel
theorem d_Book_links_11 : decode b_Book_links 11 = .ok (.invokevirtual 63, 3) := by decide +kernel
theorem d_Book_links_14 : decode b_Book_links 14 = .ok (.if_icmp .ge 27, 3) := by decide +kernel
theorem d_Book_links_17 : decode b_Book_links 17 = .ok (.aload_n 0, 1) := by decide +kernel
theorem d_Book_links_18 : decode b_Book_links 18 = .ok (.getfield 24, 3) := by decide +kernel
theorem d_Book_links_21 : decode b_Book_links 21 = .ok (.iload_n 3, 1) := by decide +kernel
theorem d_Book_links_22 : decode b_Book_links 22 = .ok (.invokevirtual 70, 3) := by decide +kernel
theorem d_Book_links_25 : decode b_Book_links 25 = .ok (.iconst 2, 1) := by decide +kernel
theorem d_Book_links_26 : decode b_Book_links 26 = .ok (.if_icmp .ne 9, 3) := by decide +kernel
theorem d_Book_links_29 : decode b_Book_links 29 = .ok (.iinc 2 1, 3) := by decide +kernel
theorem d_Book_links_32 : decode b_Book_links 32 = .ok (.iinc 3 1, 3) := by decide +kernel
theorem d_Book_links_35 : decode b_Book_links 35 = .ok (.iinc 3 1, 3) := by decide +kernel
theorem d_Book_links_38 : decode b_Book_links 38 = .ok (.goto (-30), 3) := by decide +kernel
theorem d_Book_links_41 : decode b_Book_links 41 = .ok (.iload_n 2, 1) := by decide +kernel
theorem d_Book_links_42 : decode b_Book_links 42 = .ok (.ireturn, 1) := by decide +kernel
set_option maxHeartbeats 4000000 in
set_option maxRecDepth 100000 in
theorem c_Book_links (l : Launch) (dC : Nat → ClassId) (dI : Nat → Nat → Nat) (cI cL cZ : ClassId) (bk : Nat) (bkNa : Nat) (bkN : Nat → Int64) (bkSa : Nat) (bkS : Nat → Int32) (bkB : Nat) (bkBEa : Nat) (bkBn : Nat) (bkBE : Nat → Int32) (bkBC : Int32) (bkBO : Bool) (bkK : Nat) (bkKWa : Nat) (bkKn : Nat) (bkKW : Nat → Int64) (bkKTa : Nat) (bkKT : Nat → Int32) (bkKC : Int32) (bkV : Nat) (bkVWa : Nat) (bkVn : Nat) (bkVW : Nat → Int64) (bkVTa : Nat) (bkVT : Nat → Int32) (bkVC : Int32) (bkT : Int32) (k0 : Int32) (res : Int32) (hd : D_Book_links bkBn k0 bkS bkBE bkBC bkT res) : CtrR l y_Book_links (Cond.code y_Book_links b_Book_links 4 (some .int) :: ga) { frames := 2, cells := 0, slots := 0, locals := 42 } (dC, dI) classes (Tys cI cL cZ) [.ref bk, .int k0] ((sh_Book cI cL cZ bk bkNa bkN bkSa bkS bkB bkBEa bkBn bkBE bkBC bkBO bkK bkKWa bkKn bkKW bkKTa bkKT bkKC bkV bkVWa bkVn bkVW bkVTa bkVT bkVC bkT)) (some (.int res)) := by
  refine CtrR.ofW (by decide) (Nat.le_of_ble_eq_true rfl) ?_
  intro p e s m below meth c ls hx hb hr hml hown hlocks hts hK hN hP hD hl
  have hown : s.vm.findClass R_Book = some m.cls := hown
  have hl : lv_has ls 4 [(0, .ref bk), (1, .int k0)] := hl
  have key : ∀ n : Nat, (∀ (x1 : Int32) (x2 : Int32) (x3 : Int32) (ls : Array Slot), lv_has ls 4 [(0, .ref bk), (1, .int x1), (2, .int x2), (3, .int x3)] → T_Book_links bkBn bkS bkBE bkBC bkT res n x1 x2 x3 → W p l e ({ frames := 2, cells := 0, slots := 0, locals := 42 }) s m ([.ref bk, .int k0] : List Value).toArray below meth c s.heap [] 0 0 (MQ below (Qr (some (.int res))) ([.ref bk, .int k0] : List Value).toArray s 0 0 (fun _ => False)) (F0 m 8 ls [])) := by
    intro n
    induction n with
    | zero =>
      exact fun _ _ _ _ _ hd => False.elim hd
    | succ n ih =>
      · intro x1 x2 x3 ls hl hd
        have hd : B_Book_links_8 bkBn bkS bkBE bkBC bkT res (T_Book_links bkBn bkS bkBE bkBC bkT res n) x1 x2 x3 := hd
        refine lv_iload_n hx hb d_Book_links_8 rfl (lv_at hl 3 rfl) ?_
        refine lv_aload_n hx hb d_Book_links_9 rfl (lv_at hl 0 rfl) ?_
        refine lv_iload_n hx hb d_Book_links_10 rfl (lv_at hl 1 rfl) ?_
        obtain ⟨r11, c11, hd⟩ := hd
        refine ct_VR (As := [.int x1]) (rest := [.int x3]) (C := R_Book) (ci := 3) (q := (R_Book, F_Book, 6)) ⟨hx, hb, hml, hown, hts⟩ fm_Book_bodyEnd (c_Book_bodyEnd l dC dI cI cL cZ bk bkNa bkN bkSa bkS bkB bkBEa bkBn bkBE bkBC bkBO bkK bkKWa bkKn bkKW bkKTa bkKT bkKC bkV bkVWa bkVn bkVW bkVTa bkVT bkVC bkT x1 r11 c11) k76_methodLink k77_instanceMethod k78_selects ⟨Nat.le_of_ble_eq_true rfl, Nat.le_of_ble_eq_true rfl⟩ rfl rfl hK hN hP hD [0, 1, 2, 3, 4, 5, 6, 7, 8, 9, 10] rfl rfl (by decide) 0 rfl rfl rfl rfl hl.1 rfl (Nat.le_of_ble_eq_true rfl) d_Book_links_11 ?_
        refine lv_icmp_ge (tgt := 41) hx hb d_Book_links_14 (by decide) (fun h14 => ?_) (fun h14 => ?_)
        · have hd := hd.1 h14
          refine lv_iload_n hx hb d_Book_links_41 rfl (lv_at hl 2 rfl) ?_
          have e0 : res = x2 := hd
          subst e0
          exact ct_iretR hx hb hr hlocks d_Book_links_42
        · have hd := hd.2 h14
          refine lv_aload_n hx hb d_Book_links_17 rfl (lv_at hl 0 rfl) ?_
          refine va_get (D := (dC, dI)) (ci := 3) (v := .ref bkB) (C := R_Book) (T := F_Book) (N := 6) hx hb hts in_Book hown hK hP 0 rfl rfl 2 (by decide) (hts _ (List.mem_cons_of_mem _ k56_fieldLink)) (fun _ h9 => h9) rfl d_Book_links_18 ?_
          refine lv_iload_n hx hb d_Book_links_21 rfl (lv_at hl 3 rfl) ?_
          obtain ⟨r22, c22, hd⟩ := hd
          refine ct_VR (As := [.int x3]) (rest := []) (C := R_Row) (ci := 1) (q := (R_Row, F_Row, 3)) ⟨hx, hb, hml, hown, hts⟩ fm_Row_element (c_Row_element l dC dI cI cL cZ bkB bkBEa bkBn bkBE bkBC bkBO x3 r22 c22) k82_methodLink k4_instanceMethod k5_selects ⟨Nat.le_of_ble_eq_true rfl, Nat.le_of_ble_eq_true rfl⟩ rfl rfl hK hN hP hD [3, 4] rfl rfl (by decide) 3 rfl rfl rfl rfl hl.1 rfl (Nat.le_of_ble_eq_true rfl) d_Book_links_22 ?_
          refine lv_iconst (v := 2) hx hb d_Book_links_25 (by decide) ?_
          refine lv_icmp_ne (tgt := 35) hx hb d_Book_links_26 (by decide) (fun h26 => ?_) (fun h26 => ?_)
          · have hd := hd.2 h26
            refine lv_iinc (k := 3) (v := x3 + 1) (lv' := [(3, .int (x3 + 1)), (0, .ref bk), (1, .int x1), (2, .int x2)]) hx hb d_Book_links_35 hl rfl (congrArg (fun z => x3 + z) (by decide)) (by decide) rfl (fun ls hl => ?_)
            refine lv_goto (tgt := 8) hx hb d_Book_links_38 (by decide) ?_
            exact ih x1 x2 (x3 + 1) _ (lv_sub hl [1, 2, 3, 0] rfl) hd
          · have hd := hd.1 h26
            refine lv_iinc (k := 2) (v := x2 + 1) (lv' := [(2, .int (x2 + 1)), (0, .ref bk), (1, .int x1), (3, .int x3)]) hx hb d_Book_links_29 hl rfl (congrArg (fun z => x2 + z) (by decide)) (by decide) rfl (fun ls hl => ?_)
            refine lv_iinc (k := 3) (v := x3 + 1) (lv' := [(3, .int (x3 + 1)), (2, .int (x2 + 1)), (0, .ref bk), (1, .int x1)]) hx hb d_Book_links_32 hl rfl (congrArg (fun z => x3 + z) (by decide)) (by decide) rfl (fun ls hl => ?_)
            refine lv_iinc (k := 0) (v := (x3 + 1) + 1) (lv' := [(3, .int ((x3 + 1) + 1)), (2, .int (x2 + 1)), (0, .ref bk), (1, .int x1)]) hx hb d_Book_links_35 hl rfl (congrArg (fun z => (x3 + 1) + z) (by decide)) (by decide) rfl (fun ls hl => ?_)
            refine lv_goto (tgt := 8) hx hb d_Book_links_38 (by decide) ?_
            exact ih x1 (x2 + 1) ((x3 + 1) + 1) _ (lv_sub hl [2, 3, 1, 0] rfl) hd
  obtain ⟨n, hd⟩ := hd
  refine lv_iconst (v := 0) hx hb d_Book_links_0 (by decide) ?_
  refine lv_istore_n (lv' := [(2, .int 0), (0, .ref bk), (1, .int k0)]) hx hb d_Book_links_1 rfl hl (by decide) rfl (fun ls hl => ?_)
  refine lv_aload_n hx hb d_Book_links_2 rfl (lv_at hl 1 rfl) ?_
  refine lv_iload_n hx hb d_Book_links_3 rfl (lv_at hl 2 rfl) ?_
  obtain ⟨r4, c4, hd⟩ := hd
  refine ct_VR (As := [.int k0]) (rest := []) (C := R_Book) (ci := 3) (q := (R_Book, F_Book, 6)) ⟨hx, hb, hml, hown, hts⟩ fm_Book_bodyStart (c_Book_bodyStart l dC dI cI cL cZ bk bkNa bkN bkSa bkS bkB bkBEa bkBn bkBE bkBC bkBO bkK bkKWa bkKn bkKW bkKTa bkKT bkKC bkV bkVWa bkVn bkVW bkVTa bkVT bkVC bkT k0 r4 c4) k79_methodLink k80_instanceMethod k81_selects ⟨Nat.le_of_ble_eq_true rfl, Nat.le_of_ble_eq_true rfl⟩ rfl rfl hK hN hP hD [0, 1, 2, 3, 4, 5, 6, 7, 8, 9, 10] rfl rfl (by decide) 0 rfl rfl rfl rfl hl.1 rfl (Nat.le_of_ble_eq_true rfl) d_Book_links_4 ?_
  refine lv_istore_n (lv' := [(3, .int r4), (2, .int 0), (0, .ref bk), (1, .int k0)]) hx hb d_Book_links_7 rfl hl (by decide) rfl (fun ls hl => ?_)
  exact (key n) k0 0 r4 _ (lv_sub hl [2, 3, 1, 0] rfl) hd
-- Book.linkTarget
abbrev b_Book_linkTarget : ByteArray := prog_2_method_18_code
def y_Book_linkTarget : MethodName := ⟨"HelpFile$Book", "linkTarget", "(II)I"⟩
set_option maxRecDepth 100000 in
theorem fm_Book_linkTarget : Fm y_Book_linkTarget b_Book_linkTarget 5 (some .int) 2 := ⟨ga_t 856 rfl rfl, k62_initialized, by decide, by decide, by decide +kernel⟩
def B_Book_linkTarget_9 (bkBn : Nat) (bkS : Nat → Int32) (bkBE : Nat → Int32) (bkBC : Int32) (bkT : Int32) (res : Int32) (X : Int32 → Int32 → Int32 → Prop) (x1 : Int32) (x3 : Int32) (x4 : Int32) : Prop := (∃ r13 : Int32, D_Book_bodyEnd x1 bkS bkT r13 ∧ ((r13 ≤ x4 → (res = (-1))) ∧ (¬ (r13 ≤ x4) → (∃ r25 : Int32, D_Row_element bkBn x4 bkBE bkBC r25 ∧ ((r25 = 2 → ((x3 = 0 → (∃ r45 : Int32, D_Row_element bkBn (x4 + 1) bkBE bkBC r45 ∧ (res = r45))) ∧ (¬ (x3 = 0) → X x1 (x3 + (-1)) ((x4 + 1) + 1)))) ∧ (¬ (r25 = 2) → X x1 x3 (x4 + 1)))))))
def S_Book_linkTarget (bkBn : Nat) (bkS : Nat → Int32) (bkBE : Nat → Int32) (bkBC : Int32) (bkT : Int32) (res : Int32) (X : Int32 → Int32 → Int32 → Prop) : Int32 → Int32 → Int32 → Prop := fun x1 x3 x4 => B_Book_linkTarget_9 bkBn bkS bkBE bkBC bkT res X x1 x3 x4
def T_Book_linkTarget (bkBn : Nat) (bkS : Nat → Int32) (bkBE : Nat → Int32) (bkBC : Int32) (bkT : Int32) (res : Int32) : Nat → (Int32 → Int32 → Int32 → Prop)
  | 0 => fun _ _ _ => False
  | n + 1 => S_Book_linkTarget bkBn bkS bkBE bkBC bkT res (T_Book_linkTarget bkBn bkS bkBE bkBC bkT res n)
def D_Book_linkTarget (bkBn : Nat) (k0 : Int32) (k1 : Int32) (bkS : Nat → Int32) (bkBE : Nat → Int32) (bkBC : Int32) (bkT : Int32) (res : Int32) : Prop := ∃ n : Nat, (∃ r4 : Int32, D_Book_bodyStart k0 bkS bkT r4 ∧ T_Book_linkTarget bkBn bkS bkBE bkBC bkT res n k0 k1 r4)
theorem d_Book_linkTarget_0 : decode b_Book_linkTarget 0 = .ok (.iload_n 2, 1) := by decide +kernel
theorem d_Book_linkTarget_1 : decode b_Book_linkTarget 1 = .ok (.istore_n 3, 1) := by decide +kernel
theorem d_Book_linkTarget_2 : decode b_Book_linkTarget 2 = .ok (.aload_n 0, 1) := by decide +kernel
theorem d_Book_linkTarget_3 : decode b_Book_linkTarget 3 = .ok (.iload_n 1, 1) := by decide +kernel
theorem d_Book_linkTarget_4 : decode b_Book_linkTarget 4 = .ok (.invokevirtual 67, 3) := by decide +kernel
theorem d_Book_linkTarget_7 : decode b_Book_linkTarget 7 = .ok (.istore 4, 2) := by decide +kernel
theorem d_Book_linkTarget_9 : decode b_Book_linkTarget 9 = .ok (.iload 4, 2) := by decide +kernel
theorem d_Book_linkTarget_11 : decode b_Book_linkTarget 11 = .ok (.aload_n 0, 1) := by decide +kernel
theorem d_Book_linkTarget_12 : decode b_Book_linkTarget 12 = .ok (.iload_n 1, 1) := by decide +kernel
theorem d_Book_linkTarget_13 : decode b_Book_linkTarget 13 = .ok (.invokevirtual 63, 3) := by decide +kernel
theorem d_Book_linkTarget_16 : decode b_Book_linkTarget 16 = .ok (.if_icmp .ge 42, 3) := by decide +kernel
theorem d_Book_linkTarget_19 : decode b_Book_linkTarget 19 = .ok (.aload_n 0, 1) := by decide +kernel
theorem d_Book_linkTarget_20 : decode b_Book_linkTarget 20 = .ok (.getfield 24, 3) := by decide +kernel
theorem d_Book_linkTarget_23 : decode b_Book_linkTarget 23 = .ok (.iload 4, 2) := by decide +kernel
theorem d_Book_linkTarget_25 : decode b_Book_linkTarget 25 = .ok (.invokevirtual 70, 3) := by decide +kernel
theorem d_Book_linkTarget_28 : decode b_Book_linkTarget 28 = .ok (.iconst 2, 1) := by decide +kernel
theorem d_Book_linkTarget_29 : decode b_Book_linkTarget 29 = .ok (.if_icmp .ne 23, 3) := by decide +kernel
theorem d_Book_linkTarget_32 : decode b_Book_linkTarget 32 = .ok (.iinc 4 1, 3) := by decide +kernel
theorem d_Book_linkTarget_35 : decode b_Book_linkTarget 35 = .ok (.iload_n 3, 1) := by decide +kernel
theorem d_Book_linkTarget_36 : decode b_Book_linkTarget 36 = .ok (.ifCond .ne 13, 3) := by decide +kernel
theorem d_Book_linkTarget_39 : decode b_Book_linkTarget 39 = .ok (.aload_n 0, 1) := by decide +kernel
theorem d_Book_linkTarget_40 : decode b_Book_linkTarget 40 = .ok (.getfield 24, 3) := by decide +kernel
theorem d_Book_linkTarget_43 : decode b_Book_linkTarget 43 = .ok (.iload 4, 2) := by decide +kernel
theorem d_Book_linkTarget_45 : decode b_Book_linkTarget 45 = .ok (.invokevirtual 70, 3) := by decide +kernel
theorem d_Book_linkTarget_48 : decode b_Book_linkTarget 48 = .ok (.ireturn, 1) := by decide +kernel
theorem d_Book_linkTarget_49 : decode b_Book_linkTarget 49 = .ok (.iinc 3 (-1), 3) := by decide +kernel
theorem d_Book_linkTarget_52 : decode b_Book_linkTarget 52 = .ok (.iinc 4 1, 3) := by decide +kernel
theorem d_Book_linkTarget_55 : decode b_Book_linkTarget 55 = .ok (.goto (-46), 3) := by decide +kernel
theorem d_Book_linkTarget_58 : decode b_Book_linkTarget 58 = .ok (.iconst (-1), 1) := by decide +kernel
theorem d_Book_linkTarget_59 : decode b_Book_linkTarget 59 = .ok (.ireturn, 1) := by decide +kernel
set_option maxHeartbeats 4000000 in
set_option maxRecDepth 100000 in
theorem c_Book_linkTarget (l : Launch) (dC : Nat → ClassId) (dI : Nat → Nat → Nat) (cI cL cZ : ClassId) (bk : Nat) (bkNa : Nat) (bkN : Nat → Int64) (bkSa : Nat) (bkS : Nat → Int32) (bkB : Nat) (bkBEa : Nat) (bkBn : Nat) (bkBE : Nat → Int32) (bkBC : Int32) (bkBO : Bool) (bkK : Nat) (bkKWa : Nat) (bkKn : Nat) (bkKW : Nat → Int64) (bkKTa : Nat) (bkKT : Nat → Int32) (bkKC : Int32) (bkV : Nat) (bkVWa : Nat) (bkVn : Nat) (bkVW : Nat → Int64) (bkVTa : Nat) (bkVT : Nat → Int32) (bkVC : Int32) (bkT : Int32) (k0 : Int32) (k1 : Int32) (res : Int32) (hd : D_Book_linkTarget bkBn k0 k1 bkS bkBE bkBC bkT res) : CtrR l y_Book_linkTarget (Cond.code y_Book_linkTarget b_Book_linkTarget 5 (some .int) :: ga) { frames := 2, cells := 0, slots := 0, locals := 42 } (dC, dI) classes (Tys cI cL cZ) [.ref bk, .int k0, .int k1] ((sh_Book cI cL cZ bk bkNa bkN bkSa bkS bkB bkBEa bkBn bkBE bkBC bkBO bkK bkKWa bkKn bkKW bkKTa bkKT bkKC bkV bkVWa bkVn bkVW bkVTa bkVT bkVC bkT)) (some (.int res)) := by
  refine CtrR.ofW (by decide) (Nat.le_of_ble_eq_true rfl) ?_
  intro p e s m below meth c ls hx hb hr hml hown hlocks hts hK hN hP hD hl
  have hown : s.vm.findClass R_Book = some m.cls := hown
  have hl : lv_has ls 5 [(0, .ref bk), (1, .int k0), (2, .int k1)] := hl
  have key : ∀ n : Nat, (∀ (x1 : Int32) (x3 : Int32) (x4 : Int32) (ls : Array Slot), lv_has ls 5 [(0, .ref bk), (1, .int x1), (3, .int x3), (4, .int x4)] → T_Book_linkTarget bkBn bkS bkBE bkBC bkT res n x1 x3 x4 → W p l e ({ frames := 2, cells := 0, slots := 0, locals := 42 }) s m ([.ref bk, .int k0, .int k1] : List Value).toArray below meth c s.heap [] 0 0 (MQ below (Qr (some (.int res))) ([.ref bk, .int k0, .int k1] : List Value).toArray s 0 0 (fun _ => False)) (F0 m 9 ls [])) := by
    intro n
    induction n with
    | zero =>
      exact fun _ _ _ _ _ hd => False.elim hd
    | succ n ih =>
      · intro x1 x3 x4 ls hl hd
        have hd : B_Book_linkTarget_9 bkBn bkS bkBE bkBC bkT res (T_Book_linkTarget bkBn bkS bkBE bkBC bkT res n) x1 x3 x4 := hd
        refine lv_iload hx hb d_Book_linkTarget_9 (lv_at hl 3 rfl) ?_
        refine lv_aload_n hx hb d_Book_linkTarget_11 rfl (lv_at hl 0 rfl) ?_
        refine lv_iload_n hx hb d_Book_linkTarget_12 rfl (lv_at hl 1 rfl) ?_
        obtain ⟨r13, c13, hd⟩ := hd
        refine ct_VR (As := [.int x1]) (rest := [.int x4]) (C := R_Book) (ci := 3) (q := (R_Book, F_Book, 6)) ⟨hx, hb, hml, hown, hts⟩ fm_Book_bodyEnd (c_Book_bodyEnd l dC dI cI cL cZ bk bkNa bkN bkSa bkS bkB bkBEa bkBn bkBE bkBC bkBO bkK bkKWa bkKn bkKW bkKTa bkKT bkKC bkV bkVWa bkVn bkVW bkVTa bkVT bkVC bkT x1 r13 c13) k76_methodLink k77_instanceMethod k78_selects ⟨Nat.le_of_ble_eq_true rfl, Nat.le_of_ble_eq_true rfl⟩ rfl rfl hK hN hP hD [0, 1, 2, 3, 4, 5, 6, 7, 8, 9, 10] rfl rfl (by decide) 0 rfl rfl rfl rfl hl.1 rfl (Nat.le_of_ble_eq_true rfl) d_Book_linkTarget_13 ?_
        refine lv_icmp_ge (tgt := 58) hx hb d_Book_linkTarget_16 (by decide) (fun h16 => ?_) (fun h16 => ?_)
        · have hd := hd.1 h16
          refine lv_iconst (v := (-1)) hx hb d_Book_linkTarget_58 (by decide) ?_
          have e0 : res = (-1) := hd
          subst e0
          exact ct_iretR hx hb hr hlocks d_Book_linkTarget_59
        · have hd := hd.2 h16
          refine lv_aload_n hx hb d_Book_linkTarget_19 rfl (lv_at hl 0 rfl) ?_
          refine va_get (D := (dC, dI)) (ci := 3) (v := .ref bkB) (C := R_Book) (T := F_Book) (N := 6) hx hb hts in_Book hown hK hP 0 rfl rfl 2 (by decide) (hts _ (List.mem_cons_of_mem _ k56_fieldLink)) (fun _ h9 => h9) rfl d_Book_linkTarget_20 ?_
          refine lv_iload hx hb d_Book_linkTarget_23 (lv_at hl 3 rfl) ?_
          obtain ⟨r25, c25, hd⟩ := hd
          refine ct_VR (As := [.int x4]) (rest := []) (C := R_Row) (ci := 1) (q := (R_Row, F_Row, 3)) ⟨hx, hb, hml, hown, hts⟩ fm_Row_element (c_Row_element l dC dI cI cL cZ bkB bkBEa bkBn bkBE bkBC bkBO x4 r25 c25) k82_methodLink k4_instanceMethod k5_selects ⟨Nat.le_of_ble_eq_true rfl, Nat.le_of_ble_eq_true rfl⟩ rfl rfl hK hN hP hD [3, 4] rfl rfl (by decide) 3 rfl rfl rfl rfl hl.1 rfl (Nat.le_of_ble_eq_true rfl) d_Book_linkTarget_25 ?_
          refine lv_iconst (v := 2) hx hb d_Book_linkTarget_28 (by decide) ?_
          refine lv_icmp_ne (tgt := 52) hx hb d_Book_linkTarget_29 (by decide) (fun h29 => ?_) (fun h29 => ?_)
          · have hd := hd.2 h29
            refine lv_iinc (k := 3) (v := x4 + 1) (lv' := [(4, .int (x4 + 1)), (0, .ref bk), (1, .int x1), (3, .int x3)]) hx hb d_Book_linkTarget_52 hl rfl (congrArg (fun z => x4 + z) (by decide)) (by decide) rfl (fun ls hl => ?_)
            refine lv_goto (tgt := 9) hx hb d_Book_linkTarget_55 (by decide) ?_
            exact ih x1 x3 (x4 + 1) _ (lv_sub hl [1, 2, 3, 0] rfl) hd
          · have hd := hd.1 h29
            refine lv_iinc (k := 3) (v := x4 + 1) (lv' := [(4, .int (x4 + 1)), (0, .ref bk), (1, .int x1), (3, .int x3)]) hx hb d_Book_linkTarget_32 hl rfl (congrArg (fun z => x4 + z) (by decide)) (by decide) rfl (fun ls hl => ?_)
            refine lv_iload_n hx hb d_Book_linkTarget_35 rfl (lv_at hl 3 rfl) ?_
            refine lv_if_ne (tgt := 49) hx hb d_Book_linkTarget_36 (by decide) (fun h36 => ?_) (fun h36 => ?_)
            · have hd := hd.2 h36
              refine lv_iinc (k := 3) (v := x3 + (-1)) (lv' := [(3, .int (x3 + (-1))), (4, .int (x4 + 1)), (0, .ref bk), (1, .int x1)]) hx hb d_Book_linkTarget_49 hl rfl (congrArg (fun z => x3 + z) (by decide)) (by decide) rfl (fun ls hl => ?_)
              refine lv_iinc (k := 1) (v := (x4 + 1) + 1) (lv' := [(4, .int ((x4 + 1) + 1)), (3, .int (x3 + (-1))), (0, .ref bk), (1, .int x1)]) hx hb d_Book_linkTarget_52 hl rfl (congrArg (fun z => (x4 + 1) + z) (by decide)) (by decide) rfl (fun ls hl => ?_)
              refine lv_goto (tgt := 9) hx hb d_Book_linkTarget_55 (by decide) ?_
              exact ih x1 (x3 + (-1)) ((x4 + 1) + 1) _ (lv_sub hl [2, 3, 1, 0] rfl) hd
            · have hd := hd.1 h36
              refine lv_aload_n hx hb d_Book_linkTarget_39 rfl (lv_at hl 1 rfl) ?_
              refine va_get (D := (dC, dI)) (ci := 3) (v := .ref bkB) (C := R_Book) (T := F_Book) (N := 6) hx hb hts in_Book hown hK hP 0 rfl rfl 2 (by decide) (hts _ (List.mem_cons_of_mem _ k56_fieldLink)) (fun _ h9 => h9) rfl d_Book_linkTarget_40 ?_
              refine lv_iload hx hb d_Book_linkTarget_43 (lv_at hl 0 rfl) ?_
              obtain ⟨r45, c45, hd⟩ := hd
              refine ct_VR (As := [.int (x4 + 1)]) (rest := []) (C := R_Row) (ci := 1) (q := (R_Row, F_Row, 3)) ⟨hx, hb, hml, hown, hts⟩ fm_Row_element (c_Row_element l dC dI cI cL cZ bkB bkBEa bkBn bkBE bkBC bkBO (x4 + 1) r45 c45) k82_methodLink k4_instanceMethod k5_selects ⟨Nat.le_of_ble_eq_true rfl, Nat.le_of_ble_eq_true rfl⟩ rfl rfl hK hN hP hD [3, 4] rfl rfl (by decide) 3 rfl rfl rfl rfl hl.1 rfl (Nat.le_of_ble_eq_true rfl) d_Book_linkTarget_45 ?_
              have e0 : res = r45 := hd
              subst e0
              exact ct_iretR hx hb hr hlocks d_Book_linkTarget_48
  obtain ⟨n, hd⟩ := hd
  refine lv_iload_n hx hb d_Book_linkTarget_0 rfl (lv_at hl 2 rfl) ?_
  refine lv_istore_n (lv' := [(3, .int k1), (0, .ref bk), (1, .int k0), (2, .int k1)]) hx hb d_Book_linkTarget_1 rfl hl (by decide) rfl (fun ls hl => ?_)
  refine lv_aload_n hx hb d_Book_linkTarget_2 rfl (lv_at hl 1 rfl) ?_
  refine lv_iload_n hx hb d_Book_linkTarget_3 rfl (lv_at hl 2 rfl) ?_
  obtain ⟨r4, c4, hd⟩ := hd
  refine ct_VR (As := [.int k0]) (rest := []) (C := R_Book) (ci := 3) (q := (R_Book, F_Book, 6)) ⟨hx, hb, hml, hown, hts⟩ fm_Book_bodyStart (c_Book_bodyStart l dC dI cI cL cZ bk bkNa bkN bkSa bkS bkB bkBEa bkBn bkBE bkBC bkBO bkK bkKWa bkKn bkKW bkKTa bkKT bkKC bkV bkVWa bkVn bkVW bkVTa bkVT bkVC bkT k0 r4 c4) k79_methodLink k80_instanceMethod k81_selects ⟨Nat.le_of_ble_eq_true rfl, Nat.le_of_ble_eq_true rfl⟩ rfl rfl hK hN hP hD [0, 1, 2, 3, 4, 5, 6, 7, 8, 9, 10] rfl rfl (by decide) 0 rfl rfl rfl rfl hl.1 rfl (Nat.le_of_ble_eq_true rfl) d_Book_linkTarget_4 ?_
  refine lv_istore (lv' := [(4, .int r4), (3, .int k1), (0, .ref bk), (1, .int k0), (2, .int k1)]) hx hb d_Book_linkTarget_7 hl (by decide) rfl (fun ls hl => ?_)
  exact (key n) k0 k1 r4 _ (lv_sub hl [2, 3, 1, 0] rfl) hd
-- Book.gatherWords
abbrev b_Book_gatherWords : ByteArray := prog_2_method_19_code
def y_Book_gatherWords : MethodName := ⟨"HelpFile$Book", "gatherWords", "()V"⟩
theorem k83_methodLink : Cond.methodLink "HelpFile$Book" 73 ⟨"HelpFile$Letters", "lettersEnd", "(LHelpFile$Row;II)I"⟩ ∈ ga := ga_t 445 (by decide +kernel) rfl
theorem k84_static : Cond.static ⟨"HelpFile$Letters", "lettersEnd", "(LHelpFile$Row;II)I"⟩ ∈ ga := ga_t 395 (by decide +kernel) rfl
theorem k85_methodLink : Cond.methodLink "HelpFile$Book" 79 ⟨"HelpFile$Letters", "word", "(LHelpFile$Row;II)J"⟩ ∈ ga := ga_t 446 (by decide +kernel) rfl
theorem k86_static : Cond.static ⟨"HelpFile$Letters", "word", "(LHelpFile$Row;II)J"⟩ ∈ ga := ga_t 335 (by decide +kernel) rfl
set_option maxRecDepth 100000 in
theorem fm_Book_gatherWords : Fm y_Book_gatherWords b_Book_gatherWords 5 none 0 := ⟨ga_t 444 rfl rfl, k62_initialized, by decide, by decide, by decide +kernel⟩
def B_Book_gatherWords_9 (bkBn : Nat) (bkVn : Nat) (bkS : Nat → Int32) (bkBE : Nat → Int32) (bkBC : Int32) (bkT : Int32) (bkVW' : Nat → Int64) (bkVT' : Nat → Int32) (bkVC' : Int32) (X : Nat → Int32 → Int32 → Int32 → Int32 → (Nat → Int64) → (Nat → Int32) → Int32 → Prop) (x1 : Int32) (bkVW : Nat → Int64) (bkVT : Nat → Int32) (bkVC : Int32) : Prop := ((bkT ≤ x1 → (bkVW' = bkVW ∧ bkVT' = bkVT ∧ bkVC' = bkVC)) ∧ (¬ (bkT ≤ x1) → (∃ r19 : Int32, D_Book_bodyEnd x1 bkS bkT r19 ∧ (∃ r27 : Int32, D_Book_bodyStart x1 bkS bkT r27 ∧ X 1 x1 r19 0 r27 bkVW bkVT bkVC))))
def B_Book_gatherWords_32 (bkBn : Nat) (bkVn : Nat) (bkS : Nat → Int32) (bkBE : Nat → Int32) (bkBC : Int32) (bkT : Int32) (bkVW' : Nat → Int64) (bkVT' : Nat → Int32) (bkVC' : Int32) (X : Nat → Int32 → Int32 → Int32 → Int32 → (Nat → Int64) → (Nat → Int32) → Int32 → Prop) (x1 : Int32) (x2 : Int32) (x4 : Int32) (bkVW : Nat → Int64) (bkVT : Nat → Int32) (bkVC : Int32) : Prop := ((x2 ≤ x4 → X 0 (x1 + 1) 0 0 0 bkVW bkVT bkVC) ∧ (¬ (x2 ≤ x4) → (∃ r45 : Int32, D_Letters_lettersEnd bkBn x4 x2 bkBE bkBC r45 ∧ ((r45 ≤ x4 → X 2 x1 x2 r45 0 bkVW bkVT bkVC) ∧ (¬ (r45 ≤ x4) → (∃ r66 : Int64, D_Letters_word bkBn x4 r45 bkBE bkBC r66 ∧ (∃ bkVW_72 : Nat → Int64, ∃ bkVT_72 : Nat → Int32, ∃ bkVC_72 : Int32, D_WordList_note bkVn r66 (1 <<< (x1 &&& 31)) bkVW bkVT bkVC bkVW_72 bkVT_72 bkVC_72 ∧ X 2 x1 x2 r45 0 bkVW_72 bkVT_72 bkVC_72)))))))
def B_Book_gatherWords_75 (bkBn : Nat) (bkVn : Nat) (bkS : Nat → Int32) (bkBE : Nat → Int32) (bkBC : Int32) (bkT : Int32) (bkVW' : Nat → Int64) (bkVT' : Nat → Int32) (bkVC' : Int32) (X : Nat → Int32 → Int32 → Int32 → Int32 → (Nat → Int64) → (Nat → Int32) → Int32 → Prop) (x1 : Int32) (x2 : Int32) (x3 : Int32) (bkVW : Nat → Int64) (bkVT : Nat → Int32) (bkVC : Int32) : Prop := X 1 x1 x2 0 (x3 + 1) bkVW bkVT bkVC
def S_Book_gatherWords (bkBn : Nat) (bkVn : Nat) (bkS : Nat → Int32) (bkBE : Nat → Int32) (bkBC : Int32) (bkT : Int32) (bkVW' : Nat → Int64) (bkVT' : Nat → Int32) (bkVC' : Int32) (X : Nat → Int32 → Int32 → Int32 → Int32 → (Nat → Int64) → (Nat → Int32) → Int32 → Prop) : Nat → Int32 → Int32 → Int32 → Int32 → (Nat → Int64) → (Nat → Int32) → Int32 → Prop := fun q_lab x1 x2 x3 x4 bkVW bkVT bkVC => match q_lab with | 0 => B_Book_gatherWords_9 bkBn bkVn bkS bkBE bkBC bkT bkVW' bkVT' bkVC' X x1 bkVW bkVT bkVC | 1 => B_Book_gatherWords_32 bkBn bkVn bkS bkBE bkBC bkT bkVW' bkVT' bkVC' X x1 x2 x4 bkVW bkVT bkVC | 2 => B_Book_gatherWords_75 bkBn bkVn bkS bkBE bkBC bkT bkVW' bkVT' bkVC' X x1 x2 x3 bkVW bkVT bkVC | _ => False
def T_Book_gatherWords (bkBn : Nat) (bkVn : Nat) (bkS : Nat → Int32) (bkBE : Nat → Int32) (bkBC : Int32) (bkT : Int32) (bkVW' : Nat → Int64) (bkVT' : Nat → Int32) (bkVC' : Int32) : Nat → (Nat → Int32 → Int32 → Int32 → Int32 → (Nat → Int64) → (Nat → Int32) → Int32 → Prop)
  | 0 => fun _ _ _ _ _ _ _ _ => False
  | n + 1 => S_Book_gatherWords bkBn bkVn bkS bkBE bkBC bkT bkVW' bkVT' bkVC' (T_Book_gatherWords bkBn bkVn bkS bkBE bkBC bkT bkVW' bkVT' bkVC' n)
def D_Book_gatherWords (bkBn : Nat) (bkVn : Nat) (bkS : Nat → Int32) (bkBE : Nat → Int32) (bkBC : Int32) (bkVW : Nat → Int64) (bkVT : Nat → Int32) (bkVC : Int32) (bkT : Int32) (bkVW' : Nat → Int64) (bkVT' : Nat → Int32) (bkVC' : Int32) : Prop := ∃ n : Nat, T_Book_gatherWords bkBn bkVn bkS bkBE bkBC bkT bkVW' bkVT' bkVC' n 0 0 0 0 0 bkVW bkVT 0
theorem d_Book_gatherWords_0 : decode b_Book_gatherWords 0 = .ok (.aload_n 0, 1) := by decide +kernel
theorem d_Book_gatherWords_1 : decode b_Book_gatherWords 1 = .ok (.getfield 35, 3) := by decide +kernel
theorem d_Book_gatherWords_4 : decode b_Book_gatherWords 4 = .ok (.invokevirtual 45, 3) := by decide +kernel
theorem d_Book_gatherWords_7 : decode b_Book_gatherWords 7 = .ok (.iconst 0, 1) := by decide +kernel
theorem d_Book_gatherWords_8 : decode b_Book_gatherWords 8 = .ok (.istore_n 1, 1) := by decide +kernel
theorem d_Book_gatherWords_9 : decode b_Book_gatherWords 9 = .ok (.iload_n 1, 1) := by decide +kernel
theorem d_Book_gatherWords_10 : decode b_Book_gatherWords 10 = .ok (.aload_n 0, 1) := by decide +kernel
theorem d_Book_gatherWords_11 : decode b_Book_gatherWords 11 = .ok (.getfield 38, 3) := by decide +kernel
theorem d_Book_gatherWords_14 : decode b_Book_gatherWords 14 = .ok (.if_icmp .ge 75, 3) := by decide +kernel
theorem d_Book_gatherWords_17 : decode b_Book_gatherWords 17 = .ok (.aload_n 0, 1) := by decide +kernel
theorem d_Book_gatherWords_18 : decode b_Book_gatherWords 18 = .ok (.iload_n 1, 1) := by decide +kernel
theorem d_Book_gatherWords_19 : decode b_Book_gatherWords 19 = .ok (.invokevirtual 63, 3) := by decide +kernel
theorem d_Book_gatherWords_22 : decode b_Book_gatherWords 22 = .ok (.istore_n 2, 1) := by decide +kernel
theorem d_Book_gatherWords_23 : decode b_Book_gatherWords 23 = .ok (.iconst 0, 1) := by decide +kernel
theorem d_Book_gatherWords_24 : decode b_Book_gatherWords 24 = .ok (.istore_n 3, 1) := by decide +kernel
theorem d_Book_gatherWords_25 : decode b_Book_gatherWords 25 = .ok (.aload_n 0, 1) := by decide +kernel
theorem d_Book_gatherWords_26 : decode b_Book_gatherWords 26 = .ok (.iload_n 1, 1) := by decide +kernel
theorem d_Book_gatherWords_27 : decode b_Book_gatherWords 27 = .ok (.invokevirtual 67, 3) := by decide +kernel
theorem d_Book_gatherWords_30 : decode b_Book_gatherWords 30 = .ok (.istore 4, 2) := by decide +kernel
theorem d_Book_gatherWords_32 : decode b_Book_gatherWords 32 = .ok (.iload 4, 2) := by decide +kernel
theorem d_Book_gatherWords_34 : decode b_Book_gatherWords 34 = .ok (.iload_n 2, 1) := by decide +kernel
theorem d_Book_gatherWords_35 : decode b_Book_gatherWords 35 = .ok (.if_icmp .ge 48, 3) := by decide +kernel
theorem d_Book_gatherWords_38 : decode b_Book_gatherWords 38 = .ok (.aload_n 0, 1) := by decide +kernel
theorem d_Book_gatherWords_39 : decode b_Book_gatherWords 39 = .ok (.getfield 24, 3) := by decide +kernel
theorem d_Book_gatherWords_42 : decode b_Book_gatherWords 42 = .ok (.iload 4, 2) := by decide +kernel
theorem d_Book_gatherWords_44 : decode b_Book_gatherWords 44 = .ok (.iload_n 2, 1) := by decide +kernel
theorem d_Book_gatherWords_45 : decode b_Book_gatherWords 45 = .ok (.invokestatic 73, 3) := by decide +kernel
theorem d_Book_gatherWords_48 : decode b_Book_gatherWords 48 = .ok (.istore_n 3, 1) := by decide +kernel
theorem d_Book_gatherWords_49 : decode b_Book_gatherWords 49 = .ok (.iload_n 3, 1) := by decide +kernel
theorem d_Book_gatherWords_50 : decode b_Book_gatherWords 50 = .ok (.iload 4, 2) := by decide +kernel
theorem d_Book_gatherWords_52 : decode b_Book_gatherWords 52 = .ok (.if_icmp .le 23, 3) := by decide +kernel
theorem d_Book_gatherWords_55 : decode b_Book_gatherWords 55 = .ok (.aload_n 0, 1) := by decide +kernel
theorem d_Book_gatherWords_56 : decode b_Book_gatherWords 56 = .ok (.getfield 35, 3) := by decide +kernel
theorem d_Book_gatherWords_59 : decode b_Book_gatherWords 59 = .ok (.aload_n 0, 1) := by decide +kernel
theorem d_Book_gatherWords_60 : decode b_Book_gatherWords 60 = .ok (.getfield 24, 3) := by decide +kernel
theorem d_Book_gatherWords_63 : decode b_Book_gatherWords 63 = .ok (.iload 4, 2) := by decide +kernel
theorem d_Book_gatherWords_65 : decode b_Book_gatherWords 65 = .ok (.iload_n 3, 1) := by decide +kernel
theorem d_Book_gatherWords_66 : decode b_Book_gatherWords 66 = .ok (.invokestatic 79, 3) := by decide +kernel
theorem d_Book_gatherWords_69 : decode b_Book_gatherWords 69 = .ok (.iconst 1, 1) := by decide +kernel
theorem d_Book_gatherWords_70 : decode b_Book_gatherWords 70 = .ok (.iload_n 1, 1) := by decide +kernel
theorem d_Book_gatherWords_71 : decode b_Book_gatherWords 71 = .ok (.ishl, 1) := by decide +kernel
theorem d_Book_gatherWords_72 : decode b_Book_gatherWords 72 = .ok (.invokevirtual 55, 3) := by decide +kernel
theorem d_Book_gatherWords_75 : decode b_Book_gatherWords 75 = .ok (.iload_n 3, 1) := by decide +kernel
theorem d_Book_gatherWords_76 : decode b_Book_gatherWords 76 = .ok (.iconst 1, 1) := by decide +kernel
theorem d_Book_gatherWords_77 : decode b_Book_gatherWords 77 = .ok (.iadd, 1) := by decide +kernel
theorem d_Book_gatherWords_78 : decode b_Book_gatherWords 78 = .ok (.istore 4, 2) := by decide +kernel
theorem d_Book_gatherWords_80 : decode b_Book_gatherWords 80 = .ok (.goto (-48), 3) := by decide +kernel
theorem d_Book_gatherWords_83 : decode b_Book_gatherWords 83 = .ok (.iinc 1 1, 3) := by decide +kernel
theorem d_Book_gatherWords_86 : decode b_Book_gatherWords 86 = .ok (.goto (-77), 3) := by decide +kernel
theorem d_Book_gatherWords_89 : decode b_Book_gatherWords 89 = .ok (.return_, 1) := by decide +kernel
set_option maxHeartbeats 4000000 in
set_option maxRecDepth 100000 in
theorem c_Book_gatherWords (l : Launch) (dC : Nat → ClassId) (dI : Nat → Nat → Nat) (cI cL cZ : ClassId) (bk : Nat) (bkNa : Nat) (bkN : Nat → Int64) (bkSa : Nat) (bkS : Nat → Int32) (bkB : Nat) (bkBEa : Nat) (bkBn : Nat) (bkBE : Nat → Int32) (bkBC : Int32) (bkBO : Bool) (bkK : Nat) (bkKWa : Nat) (bkKn : Nat) (bkKW : Nat → Int64) (bkKTa : Nat) (bkKT : Nat → Int32) (bkKC : Int32) (bkV : Nat) (bkVWa : Nat) (bkVn : Nat) (bkVW : Nat → Int64) (bkVTa : Nat) (bkVT : Nat → Int32) (bkVC : Int32) (bkT : Int32) (bkVW' : Nat → Int64) (bkVT' : Nat → Int32) (bkVC' : Int32) (hd : D_Book_gatherWords bkBn bkVn bkS bkBE bkBC bkVW bkVT bkVC bkT bkVW' bkVT' bkVC') : Ctr l y_Book_gatherWords (Cond.code y_Book_gatherWords b_Book_gatherWords 5 none :: ga) { frames := 2, cells := 0, slots := 0, locals := 50 } (dC, dI) classes (Tys cI cL cZ) [.ref bk] ((sh_Book cI cL cZ bk bkNa bkN bkSa bkS bkB bkBEa bkBn bkBE bkBC bkBO bkK bkKWa bkKn bkKW bkKTa bkKT bkKC bkV bkVWa bkVn bkVW bkVTa bkVT bkVC bkT)) none ((sh_Book cI cL cZ bk bkNa bkN bkSa bkS bkB bkBEa bkBn bkBE bkBC bkBO bkK bkKWa bkKn bkKW bkKTa bkKT bkKC bkV bkVWa bkVn bkVW' bkVTa bkVT' bkVC' bkT)) := by
  refine Ctr.ofW (by decide) (Nat.le_of_ble_eq_true rfl) ?_
  intro p e s m below meth c A ls hx hb hr hml hown hlocks hts hK hN hA hP hD hS hl
  have hown : s.vm.findClass R_Book = some m.cls := hown
  have hl : lv_has ls 5 [(0, .ref bk)] := hl
  have key : ∀ n : Nat, (∀ (x1 : Int32) (bkVW : Nat → Int64) (bkVT : Nat → Int32) (bkVC : Int32) (ls : Array Slot) (H : Heap) (locs : List Loc), lv_has ls 5 [(0, .ref bk), (1, .int x1)] → va_P (dC, dI) classes ((sh_Book cI cL cZ bk bkNa bkN bkSa bkS bkB bkBEa bkBn bkBE bkBC bkBO bkK bkKWa bkKn bkKW bkKTa bkKT bkKC bkV bkVWa bkVn bkVW bkVTa bkVT bkVC bkT)) H → va_D A ((sh_Book cI cL cZ bk bkNa bkN bkSa bkS bkB bkBEa bkBn bkBE bkBC bkBO bkK bkKWa bkKn bkKW bkKTa bkKT bkKC bkV bkVWa bkVn bkVW bkVTa bkVT bkVC bkT)) → va_S A s.heap H locs → T_Book_gatherWords bkBn bkVn bkS bkBE bkBC bkT bkVW' bkVT' bkVC' n 0 x1 0 0 0 bkVW bkVT bkVC → W p l e ({ frames := 2, cells := 0, slots := 0, locals := 50 }) s m ([.ref bk] : List Value).toArray below meth c H locs 0 0 (MQ below (Qs (dC, dI) classes (Tys cI cL cZ) none ((sh_Book cI cL cZ bk bkNa bkN bkSa bkS bkB bkBEa bkBn bkBE bkBC bkBO bkK bkKWa bkKn bkKW bkKTa bkKT bkKC bkV bkVWa bkVn bkVW' bkVTa bkVT' bkVC' bkT)) A) ([.ref bk] : List Value).toArray s 0 0 A) (F0 m 9 ls [])) ∧ (∀ (x1 : Int32) (x2 : Int32) (x4 : Int32) (bkVW : Nat → Int64) (bkVT : Nat → Int32) (bkVC : Int32) (ls : Array Slot) (H : Heap) (locs : List Loc), lv_has ls 5 [(0, .ref bk), (1, .int x1), (2, .int x2), (4, .int x4)] → va_P (dC, dI) classes ((sh_Book cI cL cZ bk bkNa bkN bkSa bkS bkB bkBEa bkBn bkBE bkBC bkBO bkK bkKWa bkKn bkKW bkKTa bkKT bkKC bkV bkVWa bkVn bkVW bkVTa bkVT bkVC bkT)) H → va_D A ((sh_Book cI cL cZ bk bkNa bkN bkSa bkS bkB bkBEa bkBn bkBE bkBC bkBO bkK bkKWa bkKn bkKW bkKTa bkKT bkKC bkV bkVWa bkVn bkVW bkVTa bkVT bkVC bkT)) → va_S A s.heap H locs → T_Book_gatherWords bkBn bkVn bkS bkBE bkBC bkT bkVW' bkVT' bkVC' n 1 x1 x2 0 x4 bkVW bkVT bkVC → W p l e ({ frames := 2, cells := 0, slots := 0, locals := 50 }) s m ([.ref bk] : List Value).toArray below meth c H locs 0 0 (MQ below (Qs (dC, dI) classes (Tys cI cL cZ) none ((sh_Book cI cL cZ bk bkNa bkN bkSa bkS bkB bkBEa bkBn bkBE bkBC bkBO bkK bkKWa bkKn bkKW bkKTa bkKT bkKC bkV bkVWa bkVn bkVW' bkVTa bkVT' bkVC' bkT)) A) ([.ref bk] : List Value).toArray s 0 0 A) (F0 m 32 ls [])) ∧ (∀ (x1 : Int32) (x2 : Int32) (x3 : Int32) (bkVW : Nat → Int64) (bkVT : Nat → Int32) (bkVC : Int32) (ls : Array Slot) (H : Heap) (locs : List Loc), lv_has ls 5 [(0, .ref bk), (1, .int x1), (2, .int x2), (3, .int x3)] → va_P (dC, dI) classes ((sh_Book cI cL cZ bk bkNa bkN bkSa bkS bkB bkBEa bkBn bkBE bkBC bkBO bkK bkKWa bkKn bkKW bkKTa bkKT bkKC bkV bkVWa bkVn bkVW bkVTa bkVT bkVC bkT)) H → va_D A ((sh_Book cI cL cZ bk bkNa bkN bkSa bkS bkB bkBEa bkBn bkBE bkBC bkBO bkK bkKWa bkKn bkKW bkKTa bkKT bkKC bkV bkVWa bkVn bkVW bkVTa bkVT bkVC bkT)) → va_S A s.heap H locs → T_Book_gatherWords bkBn bkVn bkS bkBE bkBC bkT bkVW' bkVT' bkVC' n 2 x1 x2 x3 0 bkVW bkVT bkVC → W p l e ({ frames := 2, cells := 0, slots := 0, locals := 50 }) s m ([.ref bk] : List Value).toArray below meth c H locs 0 0 (MQ below (Qs (dC, dI) classes (Tys cI cL cZ) none ((sh_Book cI cL cZ bk bkNa bkN bkSa bkS bkB bkBEa bkBn bkBE bkBC bkBO bkK bkKWa bkKn bkKW bkKTa bkKT bkKC bkV bkVWa bkVn bkVW' bkVTa bkVT' bkVC' bkT)) A) ([.ref bk] : List Value).toArray s 0 0 A) (F0 m 75 ls [])) := by
    intro n
    induction n with
    | zero =>
      exact ⟨fun _ _ _ _ _ _ _ _ _ _ _ hd => False.elim hd, fun _ _ _ _ _ _ _ _ _ _ _ _ _ hd => False.elim hd, fun _ _ _ _ _ _ _ _ _ _ _ _ _ hd => False.elim hd⟩
    | succ n ih =>
      refine ⟨?_, ?_, ?_⟩
      · intro x1 bkVW bkVT bkVC ls H locs hl hP hD hS hd
        have hd : B_Book_gatherWords_9 bkBn bkVn bkS bkBE bkBC bkT bkVW' bkVT' bkVC' (T_Book_gatherWords bkBn bkVn bkS bkBE bkBC bkT bkVW' bkVT' bkVC' n) x1 bkVW bkVT bkVC := hd
        refine lv_iload_n hx hb d_Book_gatherWords_9 rfl (lv_at hl 1 rfl) ?_
        refine lv_aload_n hx hb d_Book_gatherWords_10 rfl (lv_at hl 0 rfl) ?_
        refine va_get (D := (dC, dI)) (ci := 3) (v := .int bkT) (C := R_Book) (T := F_Book) (N := 6) hx hb hts in_Book hown hK hP 0 rfl rfl 5 (by decide) (hts _ (List.mem_cons_of_mem _ k55_fieldLink)) (fun _ h9 => h9) rfl d_Book_gatherWords_11 ?_
        refine lv_icmp_ge (tgt := 89) hx hb d_Book_gatherWords_14 (by decide) (fun h14 => ?_) (fun h14 => ?_)
        · have hd := hd.1 h14
          obtain ⟨e0, e1, e2⟩ := hd
          subst e0
          subst e1
          subst e2
          exact ct_vret hx hb hr hlocks hK hP hD hS d_Book_gatherWords_89
        · have hd := hd.2 h14
          refine lv_aload_n hx hb d_Book_gatherWords_17 rfl (lv_at hl 0 rfl) ?_
          refine lv_iload_n hx hb d_Book_gatherWords_18 rfl (lv_at hl 1 rfl) ?_
          obtain ⟨r19, c19, hd⟩ := hd
          refine ct_VR (As := [.int x1]) (rest := []) (C := R_Book) (ci := 3) (q := (R_Book, F_Book, 6)) ⟨hx, hb, hml, hown, hts⟩ fm_Book_bodyEnd (c_Book_bodyEnd l dC dI cI cL cZ bk bkNa bkN bkSa bkS bkB bkBEa bkBn bkBE bkBC bkBO bkK bkKWa bkKn bkKW bkKTa bkKT bkKC bkV bkVWa bkVn bkVW bkVTa bkVT bkVC bkT x1 r19 c19) k76_methodLink k77_instanceMethod k78_selects ⟨Nat.le_of_ble_eq_true rfl, Nat.le_of_ble_eq_true rfl⟩ rfl rfl hK hN hP hD [0, 1, 2, 3, 4, 5, 6, 7, 8, 9, 10] rfl rfl (by decide) 0 rfl rfl rfl rfl hl.1 rfl (Nat.le_of_ble_eq_true rfl) d_Book_gatherWords_19 ?_
          refine lv_istore_n (lv' := [(2, .int r19), (0, .ref bk), (1, .int x1)]) hx hb d_Book_gatherWords_22 rfl hl (by decide) rfl (fun ls hl => ?_)
          refine lv_iconst (v := 0) hx hb d_Book_gatherWords_23 (by decide) ?_
          refine lv_istore_n (lv' := [(3, .int 0), (2, .int r19), (0, .ref bk), (1, .int x1)]) hx hb d_Book_gatherWords_24 rfl hl (by decide) rfl (fun ls hl => ?_)
          refine lv_aload_n hx hb d_Book_gatherWords_25 rfl (lv_at hl 2 rfl) ?_
          refine lv_iload_n hx hb d_Book_gatherWords_26 rfl (lv_at hl 3 rfl) ?_
          obtain ⟨r27, c27, hd⟩ := hd
          refine ct_VR (As := [.int x1]) (rest := []) (C := R_Book) (ci := 3) (q := (R_Book, F_Book, 6)) ⟨hx, hb, hml, hown, hts⟩ fm_Book_bodyStart (c_Book_bodyStart l dC dI cI cL cZ bk bkNa bkN bkSa bkS bkB bkBEa bkBn bkBE bkBC bkBO bkK bkKWa bkKn bkKW bkKTa bkKT bkKC bkV bkVWa bkVn bkVW bkVTa bkVT bkVC bkT x1 r27 c27) k79_methodLink k80_instanceMethod k81_selects ⟨Nat.le_of_ble_eq_true rfl, Nat.le_of_ble_eq_true rfl⟩ rfl rfl hK hN hP hD [0, 1, 2, 3, 4, 5, 6, 7, 8, 9, 10] rfl rfl (by decide) 0 rfl rfl rfl rfl hl.1 rfl (Nat.le_of_ble_eq_true rfl) d_Book_gatherWords_27 ?_
          refine lv_istore (lv' := [(4, .int r27), (3, .int 0), (2, .int r19), (0, .ref bk), (1, .int x1)]) hx hb d_Book_gatherWords_30 hl (by decide) rfl (fun ls hl => ?_)
          exact ih.2.1 x1 r19 r27 bkVW bkVT bkVC _ _ _ (lv_sub hl [3, 4, 2, 0] rfl) hP hD hS hd
      · intro x1 x2 x4 bkVW bkVT bkVC ls H locs hl hP hD hS hd
        have hd : B_Book_gatherWords_32 bkBn bkVn bkS bkBE bkBC bkT bkVW' bkVT' bkVC' (T_Book_gatherWords bkBn bkVn bkS bkBE bkBC bkT bkVW' bkVT' bkVC' n) x1 x2 x4 bkVW bkVT bkVC := hd
        refine lv_iload hx hb d_Book_gatherWords_32 (lv_at hl 3 rfl) ?_
        refine lv_iload_n hx hb d_Book_gatherWords_34 rfl (lv_at hl 2 rfl) ?_
        refine lv_icmp_ge (tgt := 83) hx hb d_Book_gatherWords_35 (by decide) (fun h35 => ?_) (fun h35 => ?_)
        · have hd := hd.1 h35
          refine lv_iinc (k := 1) (v := x1 + 1) (lv' := [(1, .int (x1 + 1)), (0, .ref bk), (2, .int x2), (4, .int x4)]) hx hb d_Book_gatherWords_83 hl rfl (congrArg (fun z => x1 + z) (by decide)) (by decide) rfl (fun ls hl => ?_)
          refine lv_goto (tgt := 9) hx hb d_Book_gatherWords_86 (by decide) ?_
          exact ih.1 (x1 + 1) bkVW bkVT bkVC _ _ _ (lv_sub hl [1, 0] rfl) hP hD hS hd
        · have hd := hd.2 h35
          refine lv_aload_n hx hb d_Book_gatherWords_38 rfl (lv_at hl 0 rfl) ?_
          refine va_get (D := (dC, dI)) (ci := 3) (v := .ref bkB) (C := R_Book) (T := F_Book) (N := 6) hx hb hts in_Book hown hK hP 0 rfl rfl 2 (by decide) (hts _ (List.mem_cons_of_mem _ k56_fieldLink)) (fun _ h9 => h9) rfl d_Book_gatherWords_39 ?_
          refine lv_iload hx hb d_Book_gatherWords_42 (lv_at hl 3 rfl) ?_
          refine lv_iload_n hx hb d_Book_gatherWords_44 rfl (lv_at hl 2 rfl) ?_
          obtain ⟨r45, c45, hd⟩ := hd
          refine ct_SR (As := [.ref bkB, .int x4, .int x2]) (rest := []) ⟨hx, hb, hml, hown, hts⟩ fm_Letters_lettersEnd (c_Letters_lettersEnd l dC dI cI cL cZ bkB bkBEa bkBn bkBE bkBC bkBO x4 x2 r45 c45) k83_methodLink k84_static ⟨Nat.le_of_ble_eq_true rfl, Nat.le_of_ble_eq_true rfl⟩ rfl rfl hK hN hP hD [3, 4] rfl rfl (by decide) rfl hl.1 rfl (Nat.le_of_ble_eq_true rfl) d_Book_gatherWords_45 ?_
          refine lv_istore_n (lv' := [(3, .int r45), (0, .ref bk), (1, .int x1), (2, .int x2), (4, .int x4)]) hx hb d_Book_gatherWords_48 rfl hl (by decide) rfl (fun ls hl => ?_)
          refine lv_iload_n hx hb d_Book_gatherWords_49 rfl (lv_at hl 0 rfl) ?_
          refine lv_iload hx hb d_Book_gatherWords_50 (lv_at hl 4 rfl) ?_
          refine lv_icmp_le (tgt := 75) hx hb d_Book_gatherWords_52 (by decide) (fun h52 => ?_) (fun h52 => ?_)
          · have hd := hd.1 h52
            exact ih.2.2 x1 x2 r45 bkVW bkVT bkVC _ _ _ (lv_sub hl [1, 2, 3, 0] rfl) hP hD hS hd
          · have hd := hd.2 h52
            refine lv_aload_n hx hb d_Book_gatherWords_55 rfl (lv_at hl 1 rfl) ?_
            refine va_get (D := (dC, dI)) (ci := 3) (v := .ref bkV) (C := R_Book) (T := F_Book) (N := 6) hx hb hts in_Book hown hK hP 0 rfl rfl 4 (by decide) (hts _ (List.mem_cons_of_mem _ k63_fieldLink)) (fun _ h9 => h9) rfl d_Book_gatherWords_56 ?_
            refine lv_aload_n hx hb d_Book_gatherWords_59 rfl (lv_at hl 1 rfl) ?_
            refine va_get (D := (dC, dI)) (ci := 3) (v := .ref bkB) (C := R_Book) (T := F_Book) (N := 6) hx hb hts in_Book hown hK hP 0 rfl rfl 2 (by decide) (hts _ (List.mem_cons_of_mem _ k56_fieldLink)) (fun _ h9 => h9) rfl d_Book_gatherWords_60 ?_
            refine lv_iload hx hb d_Book_gatherWords_63 (lv_at hl 4 rfl) ?_
            refine lv_iload_n hx hb d_Book_gatherWords_65 rfl (lv_at hl 0 rfl) ?_
            obtain ⟨r66, c66, hd⟩ := hd
            refine ct_SR (As := [.ref bkB, .int x4, .int r45]) (rest := [.ref bkV]) ⟨hx, hb, hml, hown, hts⟩ fm_Letters_word (c_Letters_word l dC dI cI cL cZ bkB bkBEa bkBn bkBE bkBC bkBO x4 r45 r66 c66) k85_methodLink k86_static ⟨Nat.le_of_ble_eq_true rfl, Nat.le_of_ble_eq_true rfl⟩ rfl rfl hK hN hP hD [3, 4] rfl rfl (by decide) rfl hl.1 rfl (Nat.le_of_ble_eq_true rfl) d_Book_gatherWords_66 ?_
            refine lv_iconst (v := 1) hx hb d_Book_gatherWords_69 (by decide) ?_
            refine lv_iload_n hx hb d_Book_gatherWords_70 rfl (lv_at hl 2 rfl) ?_
            refine lv_ishl hx hb d_Book_gatherWords_71 ?_
            obtain ⟨bkVW_72, bkVT_72, bkVC_72, c72, hd⟩ := hd
            refine ct_V (As := [.long r66, .int (1 <<< (x1 &&& 31))]) (rest := []) (C := R_WordList) (ci := 2) (q := (R_WordList, F_WordList, 3)) ⟨hx, hb, hml, hown, hts⟩ fm_WordList_note (c_WordList_note l dC dI cI cL cZ bkV bkVWa bkVn bkVW bkVTa bkVT bkVC r66 (1 <<< (x1 &&& 31)) bkVW_72 bkVT_72 bkVC_72 c72) k70_methodLink k71_instanceMethod k72_selects ⟨Nat.le_of_ble_eq_true rfl, Nat.le_of_ble_eq_true rfl⟩ rfl rfl hK hN hP hD hS hA [8, 9, 10] [0, 1, 2, 3, 4, 5, 6, 7] rfl rfl rfl (by decide) (by decide) (by decide) 8 rfl rfl rfl rfl hl.1 rfl (Nat.le_of_ble_eq_true rfl) d_Book_gatherWords_72 (fun H locs hP hD hS => ?_)
            have hP : va_P (dC, dI) classes ((sh_Book cI cL cZ bk bkNa bkN bkSa bkS bkB bkBEa bkBn bkBE bkBC bkBO bkK bkKWa bkKn bkKW bkKTa bkKT bkKC bkV bkVWa bkVn bkVW_72 bkVTa bkVT_72 bkVC_72 bkT)) H := hP.sub [0, 1, 2, 3, 4, 5, 6, 7, 8, 9, 10] rfl
            have hD : va_D A ((sh_Book cI cL cZ bk bkNa bkN bkSa bkS bkB bkBEa bkBn bkBE bkBC bkBO bkK bkKWa bkKn bkKW bkKTa bkKT bkKC bkV bkVWa bkVn bkVW_72 bkVTa bkVT_72 bkVC_72 bkT)) := hD.sub [0, 1, 2, 3, 4, 5, 6, 7, 8, 9, 10] (by decide) rfl
            exact ih.2.2 x1 x2 r45 bkVW_72 bkVT_72 bkVC_72 _ _ _ (lv_sub hl [1, 2, 3, 0] rfl) hP hD hS hd
      · intro x1 x2 x3 bkVW bkVT bkVC ls H locs hl hP hD hS hd
        have hd : B_Book_gatherWords_75 bkBn bkVn bkS bkBE bkBC bkT bkVW' bkVT' bkVC' (T_Book_gatherWords bkBn bkVn bkS bkBE bkBC bkT bkVW' bkVT' bkVC' n) x1 x2 x3 bkVW bkVT bkVC := hd
        refine lv_iload_n hx hb d_Book_gatherWords_75 rfl (lv_at hl 3 rfl) ?_
        refine lv_iconst (v := 1) hx hb d_Book_gatherWords_76 (by decide) ?_
        refine lv_iadd hx hb d_Book_gatherWords_77 ?_
        refine lv_istore (lv' := [(4, .int (x3 + 1)), (0, .ref bk), (1, .int x1), (2, .int x2), (3, .int x3)]) hx hb d_Book_gatherWords_78 hl (by decide) rfl (fun ls hl => ?_)
        refine lv_goto (tgt := 32) hx hb d_Book_gatherWords_80 (by decide) ?_
        exact ih.2.1 x1 x2 (x3 + 1) bkVW bkVT bkVC _ _ _ (lv_sub hl [1, 2, 3, 0] rfl) hP hD hS hd
  obtain ⟨n, hd⟩ := hd
  refine lv_aload_n hx hb d_Book_gatherWords_0 rfl (lv_at hl 0 rfl) ?_
  refine va_get (D := (dC, dI)) (ci := 3) (v := .ref bkV) (C := R_Book) (T := F_Book) (N := 6) hx hb hts in_Book hown hK hP 0 rfl rfl 4 (by decide) (hts _ (List.mem_cons_of_mem _ k63_fieldLink)) (fun _ h9 => h9) rfl d_Book_gatherWords_1 ?_
  refine ct_V (As := []) (rest := []) (C := R_WordList) (ci := 2) (q := (R_WordList, F_WordList, 3)) ⟨hx, hb, hml, hown, hts⟩ fm_WordList_clear (c_WordList_clear l dC dI cI cL cZ bkV bkVWa bkVn bkVW bkVTa bkVT bkVC 0 rfl) k59_methodLink k60_instanceMethod k61_selects ⟨Nat.le_of_ble_eq_true rfl, Nat.le_of_ble_eq_true rfl⟩ rfl rfl hK hN hP hD hS hA [8, 9, 10] [0, 1, 2, 3, 4, 5, 6, 7] rfl rfl rfl (by decide) (by decide) (by decide) 8 rfl rfl rfl rfl hl.1 rfl (Nat.le_of_ble_eq_true rfl) d_Book_gatherWords_4 (fun H locs hP hD hS => ?_)
  have hP : va_P (dC, dI) classes ((sh_Book cI cL cZ bk bkNa bkN bkSa bkS bkB bkBEa bkBn bkBE bkBC bkBO bkK bkKWa bkKn bkKW bkKTa bkKT bkKC bkV bkVWa bkVn bkVW bkVTa bkVT 0 bkT)) H := hP.sub [0, 1, 2, 3, 4, 5, 6, 7, 8, 9, 10] rfl
  have hD : va_D A ((sh_Book cI cL cZ bk bkNa bkN bkSa bkS bkB bkBEa bkBn bkBE bkBC bkBO bkK bkKWa bkKn bkKW bkKTa bkKT bkKC bkV bkVWa bkVn bkVW bkVTa bkVT 0 bkT)) := hD.sub [0, 1, 2, 3, 4, 5, 6, 7, 8, 9, 10] (by decide) rfl
  refine lv_iconst (v := 0) hx hb d_Book_gatherWords_7 (by decide) ?_
  refine lv_istore_n (lv' := [(1, .int 0), (0, .ref bk)]) hx hb d_Book_gatherWords_8 rfl hl (by decide) rfl (fun ls hl => ?_)
  exact (key n).1 0 bkVW bkVT 0 _ _ _ (lv_sub hl [1, 0] rfl) hP hD hS hd
-- Book.mayFollow
abbrev b_Book_mayFollow : ByteArray := prog_2_method_22_code
def y_Book_mayFollow : MethodName := ⟨"HelpFile$Book", "mayFollow", "(II)Z"⟩
theorem k87_static : Cond.static ⟨"HelpFile", "isTyped", "(I)Z"⟩ ∈ ga := ga_t 617 (by decide +kernel) rfl
set_option maxRecDepth 100000 in
theorem fm_Book_mayFollow : Fm y_Book_mayFollow b_Book_mayFollow 2 (some .boolean) 2 := ⟨ga_t 615 rfl rfl, k62_initialized, by decide, by decide, by decide +kernel⟩
def B_Book_mayFollow_12 (res : Bool) (X : Int32 → Prop) (x0 : Int32) : Prop := ((x0 = 32 → (res = false)) ∧ (¬ (x0 = 32) → ((x0 = 10 → (res = false)) ∧ (¬ (x0 = 10) → (res = true)))))
def S_Book_mayFollow (res : Bool) (X : Int32 → Prop) : Int32 → Prop := fun x0 => B_Book_mayFollow_12 res X x0
def T_Book_mayFollow (res : Bool) : Nat → (Int32 → Prop)
  | 0 => fun _ => False
  | n + 1 => S_Book_mayFollow res (T_Book_mayFollow res n)
def D_Book_mayFollow (k0 : Int32) (k1 : Int32) (res : Bool) : Prop := ∃ n : Nat, ((k1 = 32 → T_Book_mayFollow res n k0) ∧ (¬ (k1 = 32) → ((k1 = 10 → T_Book_mayFollow res n k0) ∧ (¬ (k1 = 10) → (∃ r31 : Bool, D_HelpFile_isTyped k1 r31 ∧ (((bI r31) = 0 → (res = false)) ∧ (¬ ((bI r31) = 0) → ((k1 = 42 → (res = false)) ∧ (¬ (k1 = 42) → ((k1 = 91 → (res = false)) ∧ (¬ (k1 = 91) → ((k1 = 93 → (res = false)) ∧ (¬ (k1 = 93) → (res = true))))))))))))))
theorem d_Book_mayFollow_0 : decode b_Book_mayFollow 0 = .ok (.iload_n 1, 1) := by decide +kernel
theorem d_Book_mayFollow_1 : decode b_Book_mayFollow 1 = .ok (.bipush 32, 2) := by decide +kernel
theorem d_Book_mayFollow_3 : decode b_Book_mayFollow 3 = .ok (.if_icmp .eq 9, 3) := by decide +kernel
theorem d_Book_mayFollow_6 : decode b_Book_mayFollow 6 = .ok (.iload_n 1, 1) := by decide +kernel
theorem d_Book_mayFollow_7 : decode b_Book_mayFollow 7 = .ok (.bipush 10, 2) := by decide +kernel
theorem d_Book_mayFollow_9 : decode b_Book_mayFollow 9 = .ok (.if_icmp .ne 21, 3) := by decide +kernel
theorem d_Book_mayFollow_12 : decode b_Book_mayFollow 12 = .ok (.iload_n 0, 1) := by decide +kernel
theorem d_Book_mayFollow_13 : decode b_Book_mayFollow 13 = .ok (.bipush 32, 2) := by decide +kernel
theorem d_Book_mayFollow_15 : decode b_Book_mayFollow 15 = .ok (.if_icmp .eq 13, 3) := by decide +kernel
theorem d_Book_mayFollow_18 : decode b_Book_mayFollow 18 = .ok (.iload_n 0, 1) := by decide +kernel
theorem d_Book_mayFollow_19 : decode b_Book_mayFollow 19 = .ok (.bipush 10, 2) := by decide +kernel
theorem d_Book_mayFollow_21 : decode b_Book_mayFollow 21 = .ok (.if_icmp .eq 7, 3) := by decide +kernel
theorem d_Book_mayFollow_24 : decode b_Book_mayFollow 24 = .ok (.iconst 1, 1) := by decide +kernel
theorem d_Book_mayFollow_25 : decode b_Book_mayFollow 25 = .ok (.goto 4, 3) := by decide +kernel
theorem d_Book_mayFollow_28 : decode b_Book_mayFollow 28 = .ok (.iconst 0, 1) := by decide +kernel
theorem d_Book_mayFollow_29 : decode b_Book_mayFollow 29 = .ok (.ireturn, 1) := by decide +kernel
theorem d_Book_mayFollow_30 : decode b_Book_mayFollow 30 = .ok (.iload_n 1, 1) := by decide +kernel
theorem d_Book_mayFollow_31 : decode b_Book_mayFollow 31 = .ok (.invokestatic 106, 3) := by decide +kernel
theorem d_Book_mayFollow_34 : decode b_Book_mayFollow 34 = .ok (.ifCond .eq 25, 3) := by decide +kernel
theorem d_Book_mayFollow_37 : decode b_Book_mayFollow 37 = .ok (.iload_n 1, 1) := by decide +kernel
theorem d_Book_mayFollow_38 : decode b_Book_mayFollow 38 = .ok (.bipush 42, 2) := by decide +kernel
theorem d_Book_mayFollow_40 : decode b_Book_mayFollow 40 = .ok (.if_icmp .eq 19, 3) := by decide +kernel
theorem d_Book_mayFollow_43 : decode b_Book_mayFollow 43 = .ok (.iload_n 1, 1) := by decide +kernel
theorem d_Book_mayFollow_44 : decode b_Book_mayFollow 44 = .ok (.bipush 91, 2) := by decide +kernel
theorem d_Book_mayFollow_46 : decode b_Book_mayFollow 46 = .ok (.if_icmp .eq 13, 3) := by decide +kernel
theorem d_Book_mayFollow_49 : decode b_Book_mayFollow 49 = .ok (.iload_n 1, 1) := by decide +kernel
theorem d_Book_mayFollow_50 : decode b_Book_mayFollow 50 = .ok (.bipush 93, 2) := by decide +kernel
theorem d_Book_mayFollow_52 : decode b_Book_mayFollow 52 = .ok (.if_icmp .eq 7, 3) := by decide +kernel
theorem d_Book_mayFollow_55 : decode b_Book_mayFollow 55 = .ok (.iconst 1, 1) := by decide +kernel
theorem d_Book_mayFollow_56 : decode b_Book_mayFollow 56 = .ok (.goto 4, 3) := by decide +kernel
theorem d_Book_mayFollow_59 : decode b_Book_mayFollow 59 = .ok (.iconst 0, 1) := by decide +kernel
theorem d_Book_mayFollow_60 : decode b_Book_mayFollow 60 = .ok (.ireturn, 1) := by decide +kernel
set_option maxHeartbeats 4000000 in
set_option maxRecDepth 100000 in
theorem c_Book_mayFollow (l : Launch) (dC : Nat → ClassId) (dI : Nat → Nat → Nat) (cI cL cZ : ClassId) (k0 : Int32) (k1 : Int32) (res : Bool) (hd : D_Book_mayFollow k0 k1 res) : CtrR l y_Book_mayFollow (Cond.code y_Book_mayFollow b_Book_mayFollow 2 (some .boolean) :: ga) { frames := 1, cells := 0, slots := 0, locals := 20 } (dC, dI) classes (Tys cI cL cZ) [.int k0, .int k1] (([] : va_W)) (some (.int (bI res))) := by
  refine CtrR.ofW (by decide) (Nat.le_of_ble_eq_true rfl) ?_
  intro p e s m below meth c ls hx hb hr hml hown hlocks hts hK hN hP hD hl
  have hown : s.vm.findClass R_Book = some m.cls := hown
  have hl : lv_has ls 2 [(0, .int k0), (1, .int k1)] := hl
  have key : ∀ n : Nat, (∀ (x0 : Int32) (ls : Array Slot), lv_has ls 2 [(0, .int x0)] → T_Book_mayFollow res n x0 → W p l e ({ frames := 1, cells := 0, slots := 0, locals := 20 }) s m ([.int k0, .int k1] : List Value).toArray below meth c s.heap [] 0 0 (MQ below (Qr (some (.int (bI res)))) ([.int k0, .int k1] : List Value).toArray s 0 0 (fun _ => False)) (F0 m 12 ls [])) := by
    intro n
    induction n with
    | zero =>
      exact fun _ _ _ hd => False.elim hd
    | succ n ih =>
      · intro x0 ls hl hd
        have hd : B_Book_mayFollow_12 res (T_Book_mayFollow res n) x0 := hd
        refine lv_iload_n hx hb d_Book_mayFollow_12 rfl (lv_at hl 0 rfl) ?_
        refine lv_bipush (v := 32) hx hb d_Book_mayFollow_13 (by decide) ?_
        refine lv_icmp_eq (tgt := 28) hx hb d_Book_mayFollow_15 (by decide) (fun h15 => ?_) (fun h15 => ?_)
        · have hd := hd.1 h15
          refine lv_iconst (v := 0) hx hb d_Book_mayFollow_28 (by decide) ?_
          have e0 : res = false := hd
          subst e0
          exact ct_zretR (b := false) hx hb hr hlocks d_Book_mayFollow_29
        · have hd := hd.2 h15
          refine lv_iload_n hx hb d_Book_mayFollow_18 rfl (lv_at hl 0 rfl) ?_
          refine lv_bipush (v := 10) hx hb d_Book_mayFollow_19 (by decide) ?_
          refine lv_icmp_eq (tgt := 28) hx hb d_Book_mayFollow_21 (by decide) (fun h21 => ?_) (fun h21 => ?_)
          · have hd := hd.1 h21
            refine lv_iconst (v := 0) hx hb d_Book_mayFollow_28 (by decide) ?_
            have e0 : res = false := hd
            subst e0
            exact ct_zretR (b := false) hx hb hr hlocks d_Book_mayFollow_29
          · have hd := hd.2 h21
            refine lv_iconst (v := 1) hx hb d_Book_mayFollow_24 (by decide) ?_
            refine lv_goto (tgt := 29) hx hb d_Book_mayFollow_25 (by decide) ?_
            have e0 : res = true := hd
            subst e0
            exact ct_zretR (b := true) hx hb hr hlocks d_Book_mayFollow_29
  obtain ⟨n, hd⟩ := hd
  refine lv_iload_n hx hb d_Book_mayFollow_0 rfl (lv_at hl 1 rfl) ?_
  refine lv_bipush (v := 32) hx hb d_Book_mayFollow_1 (by decide) ?_
  refine lv_icmp_eq (tgt := 12) hx hb d_Book_mayFollow_3 (by decide) (fun h3 => ?_) (fun h3 => ?_)
  · have hd := hd.1 h3
    exact (key n) k0 _ (lv_sub hl [0] rfl) hd
  · have hd := hd.2 h3
    refine lv_iload_n hx hb d_Book_mayFollow_6 rfl (lv_at hl 1 rfl) ?_
    refine lv_bipush (v := 10) hx hb d_Book_mayFollow_7 (by decide) ?_
    refine lv_icmp_ne (tgt := 30) hx hb d_Book_mayFollow_9 (by decide) (fun h9 => ?_) (fun h9 => ?_)
    · have hd := hd.2 h9
      refine lv_iload_n hx hb d_Book_mayFollow_30 rfl (lv_at hl 1 rfl) ?_
      obtain ⟨r31, c31, hd⟩ := hd
      refine ct_SNR (As := [.int k1]) (rest := []) ⟨hx, hb, hml, hown, hts⟩ fm_HelpFile_isTyped (c_HelpFile_isTyped l dC dI cI cL cZ k1 r31 c31) hN k87_static ⟨Nat.le_of_ble_eq_true rfl, Nat.le_of_ble_eq_true rfl⟩ rfl rfl hK hN hP hD [] rfl rfl (by decide) rfl hl.1 rfl (Nat.le_of_ble_eq_true rfl) d_Book_mayFollow_31 ?_
      refine lv_if_eq (tgt := 59) hx hb d_Book_mayFollow_34 (by decide) (fun h34 => ?_) (fun h34 => ?_)
      · have hd := hd.1 h34
        refine lv_iconst (v := 0) hx hb d_Book_mayFollow_59 (by decide) ?_
        have e0 : res = false := hd
        subst e0
        exact ct_zretR (b := false) hx hb hr hlocks d_Book_mayFollow_60
      · have hd := hd.2 h34
        refine lv_iload_n hx hb d_Book_mayFollow_37 rfl (lv_at hl 1 rfl) ?_
        refine lv_bipush (v := 42) hx hb d_Book_mayFollow_38 (by decide) ?_
        refine lv_icmp_eq (tgt := 59) hx hb d_Book_mayFollow_40 (by decide) (fun h40 => ?_) (fun h40 => ?_)
        · have hd := hd.1 h40
          refine lv_iconst (v := 0) hx hb d_Book_mayFollow_59 (by decide) ?_
          have e0 : res = false := hd
          subst e0
          exact ct_zretR (b := false) hx hb hr hlocks d_Book_mayFollow_60
        · have hd := hd.2 h40
          refine lv_iload_n hx hb d_Book_mayFollow_43 rfl (lv_at hl 1 rfl) ?_
          refine lv_bipush (v := 91) hx hb d_Book_mayFollow_44 (by decide) ?_
          refine lv_icmp_eq (tgt := 59) hx hb d_Book_mayFollow_46 (by decide) (fun h46 => ?_) (fun h46 => ?_)
          · have hd := hd.1 h46
            refine lv_iconst (v := 0) hx hb d_Book_mayFollow_59 (by decide) ?_
            have e0 : res = false := hd
            subst e0
            exact ct_zretR (b := false) hx hb hr hlocks d_Book_mayFollow_60
          · have hd := hd.2 h46
            refine lv_iload_n hx hb d_Book_mayFollow_49 rfl (lv_at hl 1 rfl) ?_
            refine lv_bipush (v := 93) hx hb d_Book_mayFollow_50 (by decide) ?_
            refine lv_icmp_eq (tgt := 59) hx hb d_Book_mayFollow_52 (by decide) (fun h52 => ?_) (fun h52 => ?_)
            · have hd := hd.1 h52
              refine lv_iconst (v := 0) hx hb d_Book_mayFollow_59 (by decide) ?_
              have e0 : res = false := hd
              subst e0
              exact ct_zretR (b := false) hx hb hr hlocks d_Book_mayFollow_60
            · have hd := hd.2 h52
              refine lv_iconst (v := 1) hx hb d_Book_mayFollow_55 (by decide) ?_
              refine lv_goto (tgt := 60) hx hb d_Book_mayFollow_56 (by decide) ?_
              have e0 : res = true := hd
              subst e0
              exact ct_zretR (b := true) hx hb hr hlocks d_Book_mayFollow_60
    · have hd := hd.1 h9
      exact (key n) k0 _ (lv_sub hl [0] rfl) hd
-- Book.isBody
abbrev b_Book_isBody : ByteArray := prog_2_method_21_code
def y_Book_isBody : MethodName := ⟨"HelpFile$Book", "isBody", "(I)Z"⟩
theorem k88_methodLink : Cond.methodLink "HelpFile$Book" 103 ⟨"HelpFile$Book", "bodyLength", "(I)I"⟩ ∈ ga := ga_t 619 (by decide +kernel) rfl
theorem k89_instanceMethod : Cond.instanceMethod ⟨"HelpFile$Book", "bodyLength", "(I)I"⟩ ∈ ga := ga_t 422 (by decide +kernel) rfl
theorem k90_selects : Cond.selects "HelpFile$Book" ⟨"HelpFile$Book", "bodyLength", "(I)I"⟩ ⟨"HelpFile$Book", "bodyLength", "(I)I"⟩ ∈ ga := ga_t 423 (by decide +kernel) rfl
theorem k91_methodLink : Cond.methodLink "HelpFile$Book" 99 ⟨"HelpFile$Book", "mayFollow", "(II)Z"⟩ ∈ ga := ga_t 613 (by decide +kernel) rfl
theorem k92_static : Cond.static ⟨"HelpFile$Book", "mayFollow", "(II)Z"⟩ ∈ ga := ga_t 614 (by decide +kernel) rfl
set_option maxRecDepth 100000 in
theorem fm_Book_isBody : Fm y_Book_isBody b_Book_isBody 6 (some .boolean) 1 := ⟨ga_t 611 rfl rfl, k62_initialized, by decide, by decide, by decide +kernel⟩
def B_Book_isBody_12 (bkBn : Nat) (bkS : Nat → Int32) (bkBE : Nat → Int32) (bkBC : Int32) (bkT : Int32) (res : Bool) (X : Nat → Int32 → Int32 → Bool → Int32 → Int32 → Prop) (x1 : Int32) (x2 : Int32) (b3 : Bool) (x4 : Int32) : Prop := (∃ r16 : Int32, D_Book_bodyEnd x1 bkS bkT r16 ∧ ((r16 ≤ x4 → ((x2 = 10 → (∃ r128 : Int32, D_Book_bodyLength x1 bkS bkT r128 ∧ ((255 < r128 → (res = false)) ∧ (¬ (255 < r128) → (res = true))))) ∧ (¬ (x2 = 10) → (res = false)))) ∧ (¬ (r16 ≤ x4) → (∃ r28 : Int32, D_Row_element bkBn x4 bkBE bkBC r28 ∧ ((r28 = 1 → (((bI b3) = 0 → X 1 x1 0 true x4 r28) ∧ (¬ ((bI b3) = 0) → X 1 x1 0 false x4 r28))) ∧ (¬ (r28 = 1) → ((r28 = 2 → (∃ r65 : Int32, D_Book_bodyEnd x1 bkS bkT r65 ∧ ((r65 ≤ (x4 + 1) → (res = false)) ∧ (¬ (r65 ≤ (x4 + 1)) → (∃ r77 : Int32, D_Row_element bkBn (x4 + 1) bkBE bkBC r77 ∧ ((r77 < bkT → X 2 x1 0 b3 (x4 + 1) r28) ∧ (¬ (r77 < bkT) → (res = false)))))))) ∧ (¬ (r28 = 2) → (∃ r92 : Bool, D_Book_mayFollow x2 r28 r92 ∧ (((bI r92) = 0 → (res = false)) ∧ (¬ ((bI r92) = 0) → ((r28 = 10 → (((bI b3) = 0 → X 2 x1 0 b3 x4 r28) ∧ (¬ ((bI b3) = 0) → (res = false)))) ∧ (¬ (r28 = 10) → X 2 x1 0 b3 x4 r28)))))))))))))
def B_Book_isBody_49 (bkBn : Nat) (bkS : Nat → Int32) (bkBE : Nat → Int32) (bkBC : Int32) (bkT : Int32) (res : Bool) (X : Nat → Int32 → Int32 → Bool → Int32 → Int32 → Prop) (x1 : Int32) (b3 : Bool) (x4 : Int32) (x5 : Int32) : Prop := X 2 x1 0 b3 x4 x5
def B_Book_isBody_111 (bkBn : Nat) (bkS : Nat → Int32) (bkBE : Nat → Int32) (bkBC : Int32) (bkT : Int32) (res : Bool) (X : Nat → Int32 → Int32 → Bool → Int32 → Int32 → Prop) (x1 : Int32) (b3 : Bool) (x4 : Int32) (x5 : Int32) : Prop := X 0 x1 x5 b3 (x4 + 1) 0
def S_Book_isBody (bkBn : Nat) (bkS : Nat → Int32) (bkBE : Nat → Int32) (bkBC : Int32) (bkT : Int32) (res : Bool) (X : Nat → Int32 → Int32 → Bool → Int32 → Int32 → Prop) : Nat → Int32 → Int32 → Bool → Int32 → Int32 → Prop := fun q_lab x1 x2 b3 x4 x5 => match q_lab with | 0 => B_Book_isBody_12 bkBn bkS bkBE bkBC bkT res X x1 x2 b3 x4 | 1 => B_Book_isBody_49 bkBn bkS bkBE bkBC bkT res X x1 b3 x4 x5 | 2 => B_Book_isBody_111 bkBn bkS bkBE bkBC bkT res X x1 b3 x4 x5 | _ => False
def T_Book_isBody (bkBn : Nat) (bkS : Nat → Int32) (bkBE : Nat → Int32) (bkBC : Int32) (bkT : Int32) (res : Bool) : Nat → (Nat → Int32 → Int32 → Bool → Int32 → Int32 → Prop)
  | 0 => fun _ _ _ _ _ _ => False
  | n + 1 => S_Book_isBody bkBn bkS bkBE bkBC bkT res (T_Book_isBody bkBn bkS bkBE bkBC bkT res n)
def D_Book_isBody (bkBn : Nat) (k0 : Int32) (bkS : Nat → Int32) (bkBE : Nat → Int32) (bkBC : Int32) (bkT : Int32) (res : Bool) : Prop := ∃ n : Nat, (∃ r7 : Int32, D_Book_bodyStart k0 bkS bkT r7 ∧ T_Book_isBody bkBn bkS bkBE bkBC bkT res n 0 k0 10 false r7 0)
theorem d_Book_isBody_0 : decode b_Book_isBody 0 = .ok (.bipush 10, 2) := by decide +kernel
theorem d_Book_isBody_2 : decode b_Book_isBody 2 = .ok (.istore_n 2, 1) := by decide +kernel
theorem d_Book_isBody_3 : decode b_Book_isBody 3 = .ok (.iconst 0, 1) := by decide +kernel
theorem d_Book_isBody_4 : decode b_Book_isBody 4 = .ok (.istore_n 3, 1) := by decide +kernel
theorem d_Book_isBody_5 : decode b_Book_isBody 5 = .ok (.aload_n 0, 1) := by decide +kernel
theorem d_Book_isBody_6 : decode b_Book_isBody 6 = .ok (.iload_n 1, 1) := by decide +kernel
theorem d_Book_isBody_7 : decode b_Book_isBody 7 = .ok (.invokevirtual 67, 3) := by decide +kernel
theorem d_Book_isBody_10 : decode b_Book_isBody 10 = .ok (.istore 4, 2) := by decide +kernel
theorem d_Book_isBody_12 : decode b_Book_isBody 12 = .ok (.iload 4, 2) := by decide +kernel
theorem d_Book_isBody_14 : decode b_Book_isBody 14 = .ok (.aload_n 0, 1) := by decide +kernel
theorem d_Book_isBody_15 : decode b_Book_isBody 15 = .ok (.iload_n 1, 1) := by decide +kernel
theorem d_Book_isBody_16 : decode b_Book_isBody 16 = .ok (.invokevirtual 63, 3) := by decide +kernel
theorem d_Book_isBody_19 : decode b_Book_isBody 19 = .ok (.if_icmp .ge 101, 3) := by decide +kernel
theorem d_Book_isBody_22 : decode b_Book_isBody 22 = .ok (.aload_n 0, 1) := by decide +kernel
theorem d_Book_isBody_23 : decode b_Book_isBody 23 = .ok (.getfield 24, 3) := by decide +kernel
theorem d_Book_isBody_26 : decode b_Book_isBody 26 = .ok (.iload 4, 2) := by decide +kernel
theorem d_Book_isBody_28 : decode b_Book_isBody 28 = .ok (.invokevirtual 70, 3) := by decide +kernel
theorem d_Book_isBody_31 : decode b_Book_isBody 31 = .ok (.istore 5, 2) := by decide +kernel
theorem d_Book_isBody_33 : decode b_Book_isBody 33 = .ok (.iload 5, 2) := by decide +kernel
theorem d_Book_isBody_35 : decode b_Book_isBody 35 = .ok (.iconst 1, 1) := by decide +kernel
theorem d_Book_isBody_36 : decode b_Book_isBody 36 = .ok (.if_icmp .ne 16, 3) := by decide +kernel
theorem d_Book_isBody_39 : decode b_Book_isBody 39 = .ok (.iload_n 3, 1) := by decide +kernel
theorem d_Book_isBody_40 : decode b_Book_isBody 40 = .ok (.ifCond .ne 7, 3) := by decide +kernel
theorem d_Book_isBody_43 : decode b_Book_isBody 43 = .ok (.iconst 1, 1) := by decide +kernel
theorem d_Book_isBody_44 : decode b_Book_isBody 44 = .ok (.goto 4, 3) := by decide +kernel
theorem d_Book_isBody_47 : decode b_Book_isBody 47 = .ok (.iconst 0, 1) := by decide +kernel
theorem d_Book_isBody_48 : decode b_Book_isBody 48 = .ok (.istore_n 3, 1) := by decide +kernel
theorem d_Book_isBody_49 : decode b_Book_isBody 49 = .ok (.goto 62, 3) := by decide +kernel
theorem d_Book_isBody_52 : decode b_Book_isBody 52 = .ok (.iload 5, 2) := by decide +kernel
theorem d_Book_isBody_54 : decode b_Book_isBody 54 = .ok (.iconst 2, 1) := by decide +kernel
theorem d_Book_isBody_55 : decode b_Book_isBody 55 = .ok (.if_icmp .ne 34, 3) := by decide +kernel
theorem d_Book_isBody_58 : decode b_Book_isBody 58 = .ok (.iinc 4 1, 3) := by decide +kernel
theorem d_Book_isBody_61 : decode b_Book_isBody 61 = .ok (.iload 4, 2) := by decide +kernel
theorem d_Book_isBody_63 : decode b_Book_isBody 63 = .ok (.aload_n 0, 1) := by decide +kernel
theorem d_Book_isBody_64 : decode b_Book_isBody 64 = .ok (.iload_n 1, 1) := by decide +kernel
theorem d_Book_isBody_65 : decode b_Book_isBody 65 = .ok (.invokevirtual 63, 3) := by decide +kernel
theorem d_Book_isBody_68 : decode b_Book_isBody 68 = .ok (.if_icmp .ge 19, 3) := by decide +kernel
theorem d_Book_isBody_71 : decode b_Book_isBody 71 = .ok (.aload_n 0, 1) := by decide +kernel
theorem d_Book_isBody_72 : decode b_Book_isBody 72 = .ok (.getfield 24, 3) := by decide +kernel
theorem d_Book_isBody_75 : decode b_Book_isBody 75 = .ok (.iload 4, 2) := by decide +kernel
theorem d_Book_isBody_77 : decode b_Book_isBody 77 = .ok (.invokevirtual 70, 3) := by decide +kernel
theorem d_Book_isBody_80 : decode b_Book_isBody 80 = .ok (.aload_n 0, 1) := by decide +kernel
theorem d_Book_isBody_81 : decode b_Book_isBody 81 = .ok (.getfield 38, 3) := by decide +kernel
theorem d_Book_isBody_84 : decode b_Book_isBody 84 = .ok (.if_icmp .lt 27, 3) := by decide +kernel
theorem d_Book_isBody_87 : decode b_Book_isBody 87 = .ok (.iconst 0, 1) := by decide +kernel
theorem d_Book_isBody_88 : decode b_Book_isBody 88 = .ok (.ireturn, 1) := by decide +kernel
theorem d_Book_isBody_89 : decode b_Book_isBody 89 = .ok (.iload_n 2, 1) := by decide +kernel
theorem d_Book_isBody_90 : decode b_Book_isBody 90 = .ok (.iload 5, 2) := by decide +kernel
theorem d_Book_isBody_92 : decode b_Book_isBody 92 = .ok (.invokestatic 99, 3) := by decide +kernel
theorem d_Book_isBody_95 : decode b_Book_isBody 95 = .ok (.ifCond .eq 14, 3) := by decide +kernel
theorem d_Book_isBody_98 : decode b_Book_isBody 98 = .ok (.iload 5, 2) := by decide +kernel
theorem d_Book_isBody_100 : decode b_Book_isBody 100 = .ok (.bipush 10, 2) := by decide +kernel
theorem d_Book_isBody_102 : decode b_Book_isBody 102 = .ok (.if_icmp .ne 9, 3) := by decide +kernel
theorem d_Book_isBody_105 : decode b_Book_isBody 105 = .ok (.iload_n 3, 1) := by decide +kernel
theorem d_Book_isBody_106 : decode b_Book_isBody 106 = .ok (.ifCond .eq 5, 3) := by decide +kernel
theorem d_Book_isBody_109 : decode b_Book_isBody 109 = .ok (.iconst 0, 1) := by decide +kernel
theorem d_Book_isBody_110 : decode b_Book_isBody 110 = .ok (.ireturn, 1) := by decide +kernel
theorem d_Book_isBody_111 : decode b_Book_isBody 111 = .ok (.iload 5, 2) := by decide +kernel
theorem d_Book_isBody_113 : decode b_Book_isBody 113 = .ok (.istore_n 2, 1) := by decide +kernel
theorem d_Book_isBody_114 : decode b_Book_isBody 114 = .ok (.iinc 4 1, 3) := by decide +kernel
theorem d_Book_isBody_117 : decode b_Book_isBody 117 = .ok (.goto (-105), 3) := by decide +kernel
theorem d_Book_isBody_120 : decode b_Book_isBody 120 = .ok (.iload_n 2, 1) := by decide +kernel
theorem d_Book_isBody_121 : decode b_Book_isBody 121 = .ok (.bipush 10, 2) := by decide +kernel
theorem d_Book_isBody_123 : decode b_Book_isBody 123 = .ok (.if_icmp .ne 18, 3) := by decide +kernel
theorem d_Book_isBody_126 : decode b_Book_isBody 126 = .ok (.aload_n 0, 1) := by decide +kernel
theorem d_Book_isBody_127 : decode b_Book_isBody 127 = .ok (.iload_n 1, 1) := by decide +kernel
theorem d_Book_isBody_128 : decode b_Book_isBody 128 = .ok (.invokevirtual 103, 3) := by decide +kernel
theorem d_Book_isBody_131 : decode b_Book_isBody 131 = .ok (.sipush 255, 3) := by decide +kernel
theorem d_Book_isBody_134 : decode b_Book_isBody 134 = .ok (.if_icmp .gt 7, 3) := by decide +kernel
theorem d_Book_isBody_137 : decode b_Book_isBody 137 = .ok (.iconst 1, 1) := by decide +kernel
theorem d_Book_isBody_138 : decode b_Book_isBody 138 = .ok (.goto 4, 3) := by decide +kernel
theorem d_Book_isBody_141 : decode b_Book_isBody 141 = .ok (.iconst 0, 1) := by decide +kernel
theorem d_Book_isBody_142 : decode b_Book_isBody 142 = .ok (.ireturn, 1) := by decide +kernel
set_option maxHeartbeats 4000000 in
set_option maxRecDepth 100000 in
theorem c_Book_isBody (l : Launch) (dC : Nat → ClassId) (dI : Nat → Nat → Nat) (cI cL cZ : ClassId) (bk : Nat) (bkNa : Nat) (bkN : Nat → Int64) (bkSa : Nat) (bkS : Nat → Int32) (bkB : Nat) (bkBEa : Nat) (bkBn : Nat) (bkBE : Nat → Int32) (bkBC : Int32) (bkBO : Bool) (bkK : Nat) (bkKWa : Nat) (bkKn : Nat) (bkKW : Nat → Int64) (bkKTa : Nat) (bkKT : Nat → Int32) (bkKC : Int32) (bkV : Nat) (bkVWa : Nat) (bkVn : Nat) (bkVW : Nat → Int64) (bkVTa : Nat) (bkVT : Nat → Int32) (bkVC : Int32) (bkT : Int32) (k0 : Int32) (res : Bool) (hd : D_Book_isBody bkBn k0 bkS bkBE bkBC bkT res) : CtrR l y_Book_isBody (Cond.code y_Book_isBody b_Book_isBody 6 (some .boolean) :: ga) { frames := 3, cells := 0, slots := 0, locals := 63 } (dC, dI) classes (Tys cI cL cZ) [.ref bk, .int k0] ((sh_Book cI cL cZ bk bkNa bkN bkSa bkS bkB bkBEa bkBn bkBE bkBC bkBO bkK bkKWa bkKn bkKW bkKTa bkKT bkKC bkV bkVWa bkVn bkVW bkVTa bkVT bkVC bkT)) (some (.int (bI res))) := by
  refine CtrR.ofW (by decide) (Nat.le_of_ble_eq_true rfl) ?_
  intro p e s m below meth c ls hx hb hr hml hown hlocks hts hK hN hP hD hl
  have hown : s.vm.findClass R_Book = some m.cls := hown
  have hl : lv_has ls 6 [(0, .ref bk), (1, .int k0)] := hl
  have key : ∀ n : Nat, (∀ (x1 : Int32) (x2 : Int32) (b3 : Bool) (x4 : Int32) (ls : Array Slot), lv_has ls 6 [(0, .ref bk), (1, .int x1), (2, .int x2), (3, .int (bI b3)), (4, .int x4)] → T_Book_isBody bkBn bkS bkBE bkBC bkT res n 0 x1 x2 b3 x4 0 → W p l e ({ frames := 3, cells := 0, slots := 0, locals := 63 }) s m ([.ref bk, .int k0] : List Value).toArray below meth c s.heap [] 0 0 (MQ below (Qr (some (.int (bI res)))) ([.ref bk, .int k0] : List Value).toArray s 0 0 (fun _ => False)) (F0 m 12 ls [])) ∧ (∀ (x1 : Int32) (b3 : Bool) (x4 : Int32) (x5 : Int32) (ls : Array Slot), lv_has ls 6 [(0, .ref bk), (1, .int x1), (3, .int (bI b3)), (4, .int x4), (5, .int x5)] → T_Book_isBody bkBn bkS bkBE bkBC bkT res n 1 x1 0 b3 x4 x5 → W p l e ({ frames := 3, cells := 0, slots := 0, locals := 63 }) s m ([.ref bk, .int k0] : List Value).toArray below meth c s.heap [] 0 0 (MQ below (Qr (some (.int (bI res)))) ([.ref bk, .int k0] : List Value).toArray s 0 0 (fun _ => False)) (F0 m 49 ls [])) ∧ (∀ (x1 : Int32) (b3 : Bool) (x4 : Int32) (x5 : Int32) (ls : Array Slot), lv_has ls 6 [(0, .ref bk), (1, .int x1), (3, .int (bI b3)), (4, .int x4), (5, .int x5)] → T_Book_isBody bkBn bkS bkBE bkBC bkT res n 2 x1 0 b3 x4 x5 → W p l e ({ frames := 3, cells := 0, slots := 0, locals := 63 }) s m ([.ref bk, .int k0] : List Value).toArray below meth c s.heap [] 0 0 (MQ below (Qr (some (.int (bI res)))) ([.ref bk, .int k0] : List Value).toArray s 0 0 (fun _ => False)) (F0 m 111 ls [])) := by
    intro n
    induction n with
    | zero =>
      exact ⟨fun _ _ _ _ _ _ hd => False.elim hd, fun _ _ _ _ _ _ hd => False.elim hd, fun _ _ _ _ _ _ hd => False.elim hd⟩
    | succ n ih =>
      refine ⟨?_, ?_, ?_⟩
      · intro x1 x2 b3 x4 ls hl hd
        have hd : B_Book_isBody_12 bkBn bkS bkBE bkBC bkT res (T_Book_isBody bkBn bkS bkBE bkBC bkT res n) x1 x2 b3 x4 := hd
        refine lv_iload hx hb d_Book_isBody_12 (lv_at hl 4 rfl) ?_
        refine lv_aload_n hx hb d_Book_isBody_14 rfl (lv_at hl 0 rfl) ?_
        refine lv_iload_n hx hb d_Book_isBody_15 rfl (lv_at hl 1 rfl) ?_
        obtain ⟨r16, c16, hd⟩ := hd
        refine ct_VR (As := [.int x1]) (rest := [.int x4]) (C := R_Book) (ci := 3) (q := (R_Book, F_Book, 6)) ⟨hx, hb, hml, hown, hts⟩ fm_Book_bodyEnd (c_Book_bodyEnd l dC dI cI cL cZ bk bkNa bkN bkSa bkS bkB bkBEa bkBn bkBE bkBC bkBO bkK bkKWa bkKn bkKW bkKTa bkKT bkKC bkV bkVWa bkVn bkVW bkVTa bkVT bkVC bkT x1 r16 c16) k76_methodLink k77_instanceMethod k78_selects ⟨Nat.le_of_ble_eq_true rfl, Nat.le_of_ble_eq_true rfl⟩ rfl rfl hK hN hP hD [0, 1, 2, 3, 4, 5, 6, 7, 8, 9, 10] rfl rfl (by decide) 0 rfl rfl rfl rfl hl.1 rfl (Nat.le_of_ble_eq_true rfl) d_Book_isBody_16 ?_
        refine lv_icmp_ge (tgt := 120) hx hb d_Book_isBody_19 (by decide) (fun h19 => ?_) (fun h19 => ?_)
        · have hd := hd.1 h19
          refine lv_iload_n hx hb d_Book_isBody_120 rfl (lv_at hl 2 rfl) ?_
          refine lv_bipush (v := 10) hx hb d_Book_isBody_121 (by decide) ?_
          refine lv_icmp_ne (tgt := 141) hx hb d_Book_isBody_123 (by decide) (fun h123 => ?_) (fun h123 => ?_)
          · have hd := hd.2 h123
            refine lv_iconst (v := 0) hx hb d_Book_isBody_141 (by decide) ?_
            have e0 : res = false := hd
            subst e0
            exact ct_zretR (b := false) hx hb hr hlocks d_Book_isBody_142
          · have hd := hd.1 h123
            refine lv_aload_n hx hb d_Book_isBody_126 rfl (lv_at hl 0 rfl) ?_
            refine lv_iload_n hx hb d_Book_isBody_127 rfl (lv_at hl 1 rfl) ?_
            obtain ⟨r128, c128, hd⟩ := hd
            refine ct_VR (As := [.int x1]) (rest := []) (C := R_Book) (ci := 3) (q := (R_Book, F_Book, 6)) ⟨hx, hb, hml, hown, hts⟩ fm_Book_bodyLength (c_Book_bodyLength l dC dI cI cL cZ bk bkNa bkN bkSa bkS bkB bkBEa bkBn bkBE bkBC bkBO bkK bkKWa bkKn bkKW bkKTa bkKT bkKC bkV bkVWa bkVn bkVW bkVTa bkVT bkVC bkT x1 r128 c128) k88_methodLink k89_instanceMethod k90_selects ⟨Nat.le_of_ble_eq_true rfl, Nat.le_of_ble_eq_true rfl⟩ rfl rfl hK hN hP hD [0, 1, 2, 3, 4, 5, 6, 7, 8, 9, 10] rfl rfl (by decide) 0 rfl rfl rfl rfl hl.1 rfl (Nat.le_of_ble_eq_true rfl) d_Book_isBody_128 ?_
            refine lv_sipush (v := 255) hx hb d_Book_isBody_131 (by decide) ?_
            refine lv_icmp_gt (tgt := 141) hx hb d_Book_isBody_134 (by decide) (fun h134 => ?_) (fun h134 => ?_)
            · have hd := hd.1 h134
              refine lv_iconst (v := 0) hx hb d_Book_isBody_141 (by decide) ?_
              have e0 : res = false := hd
              subst e0
              exact ct_zretR (b := false) hx hb hr hlocks d_Book_isBody_142
            · have hd := hd.2 h134
              refine lv_iconst (v := 1) hx hb d_Book_isBody_137 (by decide) ?_
              refine lv_goto (tgt := 142) hx hb d_Book_isBody_138 (by decide) ?_
              have e0 : res = true := hd
              subst e0
              exact ct_zretR (b := true) hx hb hr hlocks d_Book_isBody_142
        · have hd := hd.2 h19
          refine lv_aload_n hx hb d_Book_isBody_22 rfl (lv_at hl 0 rfl) ?_
          refine va_get (D := (dC, dI)) (ci := 3) (v := .ref bkB) (C := R_Book) (T := F_Book) (N := 6) hx hb hts in_Book hown hK hP 0 rfl rfl 2 (by decide) (hts _ (List.mem_cons_of_mem _ k56_fieldLink)) (fun _ h9 => h9) rfl d_Book_isBody_23 ?_
          refine lv_iload hx hb d_Book_isBody_26 (lv_at hl 4 rfl) ?_
          obtain ⟨r28, c28, hd⟩ := hd
          refine ct_VR (As := [.int x4]) (rest := []) (C := R_Row) (ci := 1) (q := (R_Row, F_Row, 3)) ⟨hx, hb, hml, hown, hts⟩ fm_Row_element (c_Row_element l dC dI cI cL cZ bkB bkBEa bkBn bkBE bkBC bkBO x4 r28 c28) k82_methodLink k4_instanceMethod k5_selects ⟨Nat.le_of_ble_eq_true rfl, Nat.le_of_ble_eq_true rfl⟩ rfl rfl hK hN hP hD [3, 4] rfl rfl (by decide) 3 rfl rfl rfl rfl hl.1 rfl (Nat.le_of_ble_eq_true rfl) d_Book_isBody_28 ?_
          refine lv_istore (lv' := [(5, .int r28), (0, .ref bk), (1, .int x1), (2, .int x2), (3, .int (bI b3)), (4, .int x4)]) hx hb d_Book_isBody_31 hl (by decide) rfl (fun ls hl => ?_)
          refine lv_iload hx hb d_Book_isBody_33 (lv_at hl 0 rfl) ?_
          refine lv_iconst (v := 1) hx hb d_Book_isBody_35 (by decide) ?_
          refine lv_icmp_ne (tgt := 52) hx hb d_Book_isBody_36 (by decide) (fun h36 => ?_) (fun h36 => ?_)
          · have hd := hd.2 h36
            refine lv_iload hx hb d_Book_isBody_52 (lv_at hl 0 rfl) ?_
            refine lv_iconst (v := 2) hx hb d_Book_isBody_54 (by decide) ?_
            refine lv_icmp_ne (tgt := 89) hx hb d_Book_isBody_55 (by decide) (fun h55 => ?_) (fun h55 => ?_)
            · have hd := hd.2 h55
              refine lv_iload_n hx hb d_Book_isBody_89 rfl (lv_at hl 3 rfl) ?_
              refine lv_iload hx hb d_Book_isBody_90 (lv_at hl 0 rfl) ?_
              obtain ⟨r92, c92, hd⟩ := hd
              refine ct_SR (As := [.int x2, .int r28]) (rest := []) ⟨hx, hb, hml, hown, hts⟩ fm_Book_mayFollow (c_Book_mayFollow l dC dI cI cL cZ x2 r28 r92 c92) k91_methodLink k92_static ⟨Nat.le_of_ble_eq_true rfl, Nat.le_of_ble_eq_true rfl⟩ rfl rfl hK hN hP hD [] rfl rfl (by decide) rfl hl.1 rfl (Nat.le_of_ble_eq_true rfl) d_Book_isBody_92 ?_
              refine lv_if_eq (tgt := 109) hx hb d_Book_isBody_95 (by decide) (fun h95 => ?_) (fun h95 => ?_)
              · have hd := hd.1 h95
                refine lv_iconst (v := 0) hx hb d_Book_isBody_109 (by decide) ?_
                have e0 : res = false := hd
                subst e0
                exact ct_zretR (b := false) hx hb hr hlocks d_Book_isBody_110
              · have hd := hd.2 h95
                refine lv_iload hx hb d_Book_isBody_98 (lv_at hl 0 rfl) ?_
                refine lv_bipush (v := 10) hx hb d_Book_isBody_100 (by decide) ?_
                refine lv_icmp_ne (tgt := 111) hx hb d_Book_isBody_102 (by decide) (fun h102 => ?_) (fun h102 => ?_)
                · have hd := hd.2 h102
                  exact ih.2.2 x1 b3 x4 r28 _ (lv_sub hl [1, 2, 4, 5, 0] rfl) hd
                · have hd := hd.1 h102
                  refine lv_iload_n hx hb d_Book_isBody_105 rfl (lv_at hl 4 rfl) ?_
                  refine lv_if_eq (tgt := 111) hx hb d_Book_isBody_106 (by decide) (fun h106 => ?_) (fun h106 => ?_)
                  · have hd := hd.1 h106
                    exact ih.2.2 x1 b3 x4 r28 _ (lv_sub hl [1, 2, 4, 5, 0] rfl) hd
                  · have hd := hd.2 h106
                    refine lv_iconst (v := 0) hx hb d_Book_isBody_109 (by decide) ?_
                    have e0 : res = false := hd
                    subst e0
                    exact ct_zretR (b := false) hx hb hr hlocks d_Book_isBody_110
            · have hd := hd.1 h55
              refine lv_iinc (k := 5) (v := x4 + 1) (lv' := [(4, .int (x4 + 1)), (5, .int r28), (0, .ref bk), (1, .int x1), (2, .int x2), (3, .int (bI b3))]) hx hb d_Book_isBody_58 hl rfl (congrArg (fun z => x4 + z) (by decide)) (by decide) rfl (fun ls hl => ?_)
              refine lv_iload hx hb d_Book_isBody_61 (lv_at hl 0 rfl) ?_
              refine lv_aload_n hx hb d_Book_isBody_63 rfl (lv_at hl 2 rfl) ?_
              refine lv_iload_n hx hb d_Book_isBody_64 rfl (lv_at hl 3 rfl) ?_
              obtain ⟨r65, c65, hd⟩ := hd
              refine ct_VR (As := [.int x1]) (rest := [.int (x4 + 1)]) (C := R_Book) (ci := 3) (q := (R_Book, F_Book, 6)) ⟨hx, hb, hml, hown, hts⟩ fm_Book_bodyEnd (c_Book_bodyEnd l dC dI cI cL cZ bk bkNa bkN bkSa bkS bkB bkBEa bkBn bkBE bkBC bkBO bkK bkKWa bkKn bkKW bkKTa bkKT bkKC bkV bkVWa bkVn bkVW bkVTa bkVT bkVC bkT x1 r65 c65) k76_methodLink k77_instanceMethod k78_selects ⟨Nat.le_of_ble_eq_true rfl, Nat.le_of_ble_eq_true rfl⟩ rfl rfl hK hN hP hD [0, 1, 2, 3, 4, 5, 6, 7, 8, 9, 10] rfl rfl (by decide) 0 rfl rfl rfl rfl hl.1 rfl (Nat.le_of_ble_eq_true rfl) d_Book_isBody_65 ?_
              refine lv_icmp_ge (tgt := 87) hx hb d_Book_isBody_68 (by decide) (fun h68 => ?_) (fun h68 => ?_)
              · have hd := hd.1 h68
                refine lv_iconst (v := 0) hx hb d_Book_isBody_87 (by decide) ?_
                have e0 : res = false := hd
                subst e0
                exact ct_zretR (b := false) hx hb hr hlocks d_Book_isBody_88
              · have hd := hd.2 h68
                refine lv_aload_n hx hb d_Book_isBody_71 rfl (lv_at hl 2 rfl) ?_
                refine va_get (D := (dC, dI)) (ci := 3) (v := .ref bkB) (C := R_Book) (T := F_Book) (N := 6) hx hb hts in_Book hown hK hP 0 rfl rfl 2 (by decide) (hts _ (List.mem_cons_of_mem _ k56_fieldLink)) (fun _ h9 => h9) rfl d_Book_isBody_72 ?_
                refine lv_iload hx hb d_Book_isBody_75 (lv_at hl 0 rfl) ?_
                obtain ⟨r77, c77, hd⟩ := hd
                refine ct_VR (As := [.int (x4 + 1)]) (rest := []) (C := R_Row) (ci := 1) (q := (R_Row, F_Row, 3)) ⟨hx, hb, hml, hown, hts⟩ fm_Row_element (c_Row_element l dC dI cI cL cZ bkB bkBEa bkBn bkBE bkBC bkBO (x4 + 1) r77 c77) k82_methodLink k4_instanceMethod k5_selects ⟨Nat.le_of_ble_eq_true rfl, Nat.le_of_ble_eq_true rfl⟩ rfl rfl hK hN hP hD [3, 4] rfl rfl (by decide) 3 rfl rfl rfl rfl hl.1 rfl (Nat.le_of_ble_eq_true rfl) d_Book_isBody_77 ?_
                refine lv_aload_n hx hb d_Book_isBody_80 rfl (lv_at hl 2 rfl) ?_
                refine va_get (D := (dC, dI)) (ci := 3) (v := .int bkT) (C := R_Book) (T := F_Book) (N := 6) hx hb hts in_Book hown hK hP 0 rfl rfl 5 (by decide) (hts _ (List.mem_cons_of_mem _ k55_fieldLink)) (fun _ h9 => h9) rfl d_Book_isBody_81 ?_
                refine lv_icmp_lt (tgt := 111) hx hb d_Book_isBody_84 (by decide) (fun h84 => ?_) (fun h84 => ?_)
                · have hd := hd.1 h84
                  exact ih.2.2 x1 b3 (x4 + 1) r28 _ (lv_sub hl [2, 3, 5, 0, 1] rfl) hd
                · have hd := hd.2 h84
                  refine lv_iconst (v := 0) hx hb d_Book_isBody_87 (by decide) ?_
                  have e0 : res = false := hd
                  subst e0
                  exact ct_zretR (b := false) hx hb hr hlocks d_Book_isBody_88
          · have hd := hd.1 h36
            refine lv_iload_n hx hb d_Book_isBody_39 rfl (lv_at hl 4 rfl) ?_
            refine lv_if_ne (tgt := 47) hx hb d_Book_isBody_40 (by decide) (fun h40 => ?_) (fun h40 => ?_)
            · have hd := hd.2 h40
              refine lv_iconst (v := 0) hx hb d_Book_isBody_47 (by decide) ?_
              refine lv_istore_n (lv' := [(3, .int 0), (5, .int r28), (0, .ref bk), (1, .int x1), (2, .int x2), (4, .int x4)]) hx hb d_Book_isBody_48 rfl hl (by decide) rfl (fun ls hl => ?_)
              exact ih.2.1 x1 false x4 r28 _ (lv_sub hl [2, 3, 0, 5, 1] rfl) hd
            · have hd := hd.1 h40
              refine lv_iconst (v := 1) hx hb d_Book_isBody_43 (by decide) ?_
              refine lv_goto (tgt := 48) hx hb d_Book_isBody_44 (by decide) ?_
              refine lv_istore_n (lv' := [(3, .int 1), (5, .int r28), (0, .ref bk), (1, .int x1), (2, .int x2), (4, .int x4)]) hx hb d_Book_isBody_48 rfl hl (by decide) rfl (fun ls hl => ?_)
              exact ih.2.1 x1 true x4 r28 _ (lv_sub hl [2, 3, 0, 5, 1] rfl) hd
      · intro x1 b3 x4 x5 ls hl hd
        have hd : B_Book_isBody_49 bkBn bkS bkBE bkBC bkT res (T_Book_isBody bkBn bkS bkBE bkBC bkT res n) x1 b3 x4 x5 := hd
        refine lv_goto (tgt := 111) hx hb d_Book_isBody_49 (by decide) ?_
        exact ih.2.2 x1 b3 x4 x5 _ (lv_sub hl [0, 1, 2, 3, 4] rfl) hd
      · intro x1 b3 x4 x5 ls hl hd
        have hd : B_Book_isBody_111 bkBn bkS bkBE bkBC bkT res (T_Book_isBody bkBn bkS bkBE bkBC bkT res n) x1 b3 x4 x5 := hd
        refine lv_iload hx hb d_Book_isBody_111 (lv_at hl 4 rfl) ?_
        refine lv_istore_n (lv' := [(2, .int x5), (0, .ref bk), (1, .int x1), (3, .int (bI b3)), (4, .int x4), (5, .int x5)]) hx hb d_Book_isBody_113 rfl hl (by decide) rfl (fun ls hl => ?_)
        refine lv_iinc (k := 4) (v := x4 + 1) (lv' := [(4, .int (x4 + 1)), (2, .int x5), (0, .ref bk), (1, .int x1), (3, .int (bI b3)), (5, .int x5)]) hx hb d_Book_isBody_114 hl rfl (congrArg (fun z => x4 + z) (by decide)) (by decide) rfl (fun ls hl => ?_)
        refine lv_goto (tgt := 12) hx hb d_Book_isBody_117 (by decide) ?_
        exact ih.1 x1 x5 b3 (x4 + 1) _ (lv_sub hl [2, 3, 1, 4, 0] rfl) hd
  obtain ⟨n, hd⟩ := hd
  refine lv_bipush (v := 10) hx hb d_Book_isBody_0 (by decide) ?_
  refine lv_istore_n (lv' := [(2, .int 10), (0, .ref bk), (1, .int k0)]) hx hb d_Book_isBody_2 rfl hl (by decide) rfl (fun ls hl => ?_)
  refine lv_iconst (v := 0) hx hb d_Book_isBody_3 (by decide) ?_
  refine lv_istore_n (lv' := [(3, .int 0), (2, .int 10), (0, .ref bk), (1, .int k0)]) hx hb d_Book_isBody_4 rfl hl (by decide) rfl (fun ls hl => ?_)
  refine lv_aload_n hx hb d_Book_isBody_5 rfl (lv_at hl 2 rfl) ?_
  refine lv_iload_n hx hb d_Book_isBody_6 rfl (lv_at hl 3 rfl) ?_
  obtain ⟨r7, c7, hd⟩ := hd
  refine ct_VR (As := [.int k0]) (rest := []) (C := R_Book) (ci := 3) (q := (R_Book, F_Book, 6)) ⟨hx, hb, hml, hown, hts⟩ fm_Book_bodyStart (c_Book_bodyStart l dC dI cI cL cZ bk bkNa bkN bkSa bkS bkB bkBEa bkBn bkBE bkBC bkBO bkK bkKWa bkKn bkKW bkKTa bkKT bkKC bkV bkVWa bkVn bkVW bkVTa bkVT bkVC bkT k0 r7 c7) k79_methodLink k80_instanceMethod k81_selects ⟨Nat.le_of_ble_eq_true rfl, Nat.le_of_ble_eq_true rfl⟩ rfl rfl hK hN hP hD [0, 1, 2, 3, 4, 5, 6, 7, 8, 9, 10] rfl rfl (by decide) 0 rfl rfl rfl rfl hl.1 rfl (Nat.le_of_ble_eq_true rfl) d_Book_isBody_7 ?_
  refine lv_istore (lv' := [(4, .int r7), (3, .int 0), (2, .int 10), (0, .ref bk), (1, .int k0)]) hx hb d_Book_isBody_10 hl (by decide) rfl (fun ls hl => ?_)
  exact (key n).1 k0 10 false r7 _ (lv_sub hl [3, 4, 2, 1, 0] rfl) hd
-- Book.isOfSource
abbrev b_Book_isOfSource : ByteArray := prog_2_method_20_code
def y_Book_isOfSource : MethodName := ⟨"HelpFile$Book", "isOfSource", "()Z"⟩
theorem k93_methodLink : Cond.methodLink "HelpFile$Book" 83 ⟨"HelpFile$Book", "topicNamed", "(J)I"⟩ ∈ ga := ga_t 607 (by decide +kernel) rfl
theorem k94_instanceMethod : Cond.instanceMethod ⟨"HelpFile$Book", "topicNamed", "(J)I"⟩ ∈ ga := ga_t 351 (by decide +kernel) rfl
theorem k95_selects : Cond.selects "HelpFile$Book" ⟨"HelpFile$Book", "topicNamed", "(J)I"⟩ ⟨"HelpFile$Book", "topicNamed", "(J)I"⟩ ∈ ga := ga_t 352 (by decide +kernel) rfl
theorem k96_methodLink : Cond.methodLink "HelpFile$Book" 87 ⟨"HelpFile$Book", "isBody", "(I)Z"⟩ ∈ ga := ga_t 608 (by decide +kernel) rfl
theorem k97_instanceMethod : Cond.instanceMethod ⟨"HelpFile$Book", "isBody", "(I)Z"⟩ ∈ ga := ga_t 610 (by decide +kernel) rfl
theorem k98_selects : Cond.selects "HelpFile$Book" ⟨"HelpFile$Book", "isBody", "(I)Z"⟩ ⟨"HelpFile$Book", "isBody", "(I)Z"⟩ ∈ ga := ga_s (q := (⟨"HelpFile$Book", "isBody", "(I)Z"⟩, _)) 20 rfl
theorem k99_methodLink : Cond.methodLink "HelpFile$Book" 90 ⟨"HelpFile$WordList", "count", "()I"⟩ ∈ ga := ga_t 620 (by decide +kernel) rfl
theorem k100_methodLink : Cond.methodLink "HelpFile$Book" 91 ⟨"HelpFile$WordList", "topics", "(I)I"⟩ ∈ ga := ga_t 621 (by decide +kernel) rfl
theorem k101_instanceMethod : Cond.instanceMethod ⟨"HelpFile$WordList", "topics", "(I)I"⟩ ∈ ga := ga_t 529 (by decide +kernel) rfl
theorem k102_selects : Cond.selects "HelpFile$WordList" ⟨"HelpFile$WordList", "topics", "(I)I"⟩ ⟨"HelpFile$WordList", "topics", "(I)I"⟩ ∈ ga := ga_t 530 (by decide +kernel) rfl
theorem k103_methodLink : Cond.methodLink "HelpFile$Book" 93 ⟨"HelpFile$WordList", "word", "(I)J"⟩ ∈ ga := ga_t 622 (by decide +kernel) rfl
theorem k104_methodLink : Cond.methodLink "HelpFile$Book" 96 ⟨"HelpFile$Book", "everyTopic", "()I"⟩ ∈ ga := ga_t 623 (by decide +kernel) rfl
theorem k105_instanceMethod : Cond.instanceMethod ⟨"HelpFile$Book", "everyTopic", "()I"⟩ ∈ ga := ga_t 624 (by decide +kernel) rfl
theorem k106_selects : Cond.selects "HelpFile$Book" ⟨"HelpFile$Book", "everyTopic", "()I"⟩ ⟨"HelpFile$Book", "everyTopic", "()I"⟩ ∈ ga := ga_t 625 (by decide +kernel) rfl
set_option maxRecDepth 100000 in
theorem fm_Book_isOfSource : Fm y_Book_isOfSource b_Book_isOfSource 3 (some .boolean) 0 := ⟨ga_t 606 rfl rfl, k62_initialized, by decide, by decide, by decide +kernel⟩
def B_Book_isOfSource_2 (bkBn : Nat) (bkKn : Nat) (bkN : Nat → Int64) (bkS : Nat → Int32) (bkBE : Nat → Int32) (bkBC : Int32) (bkKW : Nat → Int64) (bkKT : Nat → Int32) (bkKC : Int32) (bkT : Int32) (res : Bool) (X : Nat → Int32 → Prop) (x1 : Int32) : Prop := ((bkT ≤ x1 → X 1 0) ∧ (¬ (bkT ≤ x1) → (vp_in x1 10 ∧ (((lg_cmp (bkN (Int32.toNatClampNeg x1)) 0) = 0 → (res = false)) ∧ (¬ ((lg_cmp (bkN (Int32.toNatClampNeg x1)) 0) = 0) → (vp_in x1 10 ∧ (∃ r28 : Int32, D_Book_topicNamed (bkN (Int32.toNatClampNeg x1)) bkN bkT r28 ∧ ((r28 = x1 → (∃ r37 : Bool, D_Book_isBody bkBn x1 bkS bkBE bkBC bkT r37 ∧ (((bI r37) = 0 → (res = false)) ∧ (¬ ((bI r37) = 0) → X 0 (x1 + 1))))) ∧ (¬ (r28 = x1) → (res = false))))))))))
def B_Book_isOfSource_53 (bkBn : Nat) (bkKn : Nat) (bkN : Nat → Int64) (bkS : Nat → Int32) (bkBE : Nat → Int32) (bkBC : Int32) (bkKW : Nat → Int64) (bkKT : Nat → Int32) (bkKC : Int32) (bkT : Int32) (res : Bool) (X : Nat → Int32 → Prop) (x1 : Int32) : Prop := ((bkKC ≤ x1 → ((bkT ≤ 0 → (res = false)) ∧ (¬ (bkT ≤ 0) → ((250 < bkKC → (res = false)) ∧ (¬ (250 < bkKC) → (res = true)))))) ∧ (¬ (bkKC ≤ x1) → (∃ r69 : Int32, D_WordList_topics bkKn x1 bkKT bkKC r69 ∧ (∃ r78 : Int64, D_WordList_word bkKn x1 bkKW bkKC r78 ∧ (((lg_cmp r78 0) = 0 → (res = false)) ∧ (¬ ((lg_cmp r78 0) = 0) → ((r69 = 0 → (res = false)) ∧ (¬ (r69 = 0) → ((r69 ≤ ((1 <<< (bkT &&& 31)) - 1) → X 1 (x1 + 1)) ∧ (¬ (r69 ≤ ((1 <<< (bkT &&& 31)) - 1)) → (res = false)))))))))))
def S_Book_isOfSource (bkBn : Nat) (bkKn : Nat) (bkN : Nat → Int64) (bkS : Nat → Int32) (bkBE : Nat → Int32) (bkBC : Int32) (bkKW : Nat → Int64) (bkKT : Nat → Int32) (bkKC : Int32) (bkT : Int32) (res : Bool) (X : Nat → Int32 → Prop) : Nat → Int32 → Prop := fun q_lab x1 => match q_lab with | 0 => B_Book_isOfSource_2 bkBn bkKn bkN bkS bkBE bkBC bkKW bkKT bkKC bkT res X x1 | 1 => B_Book_isOfSource_53 bkBn bkKn bkN bkS bkBE bkBC bkKW bkKT bkKC bkT res X x1 | _ => False
def T_Book_isOfSource (bkBn : Nat) (bkKn : Nat) (bkN : Nat → Int64) (bkS : Nat → Int32) (bkBE : Nat → Int32) (bkBC : Int32) (bkKW : Nat → Int64) (bkKT : Nat → Int32) (bkKC : Int32) (bkT : Int32) (res : Bool) : Nat → (Nat → Int32 → Prop)
  | 0 => fun _ _ => False
  | n + 1 => S_Book_isOfSource bkBn bkKn bkN bkS bkBE bkBC bkKW bkKT bkKC bkT res (T_Book_isOfSource bkBn bkKn bkN bkS bkBE bkBC bkKW bkKT bkKC bkT res n)
def D_Book_isOfSource (bkBn : Nat) (bkKn : Nat) (bkN : Nat → Int64) (bkS : Nat → Int32) (bkBE : Nat → Int32) (bkBC : Int32) (bkKW : Nat → Int64) (bkKT : Nat → Int32) (bkKC : Int32) (bkT : Int32) (res : Bool) : Prop := ∃ n : Nat, T_Book_isOfSource bkBn bkKn bkN bkS bkBE bkBC bkKW bkKT bkKC bkT res n 0 0
theorem d_Book_isOfSource_0 : decode b_Book_isOfSource 0 = .ok (.iconst 0, 1) := by decide +kernel
theorem d_Book_isOfSource_1 : decode b_Book_isOfSource 1 = .ok (.istore_n 1, 1) := by decide +kernel
theorem d_Book_isOfSource_2 : decode b_Book_isOfSource 2 = .ok (.iload_n 1, 1) := by decide +kernel
theorem d_Book_isOfSource_3 : decode b_Book_isOfSource 3 = .ok (.aload_n 0, 1) := by decide +kernel
theorem d_Book_isOfSource_4 : decode b_Book_isOfSource 4 = .ok (.getfield 38, 3) := by decide +kernel
theorem d_Book_isOfSource_7 : decode b_Book_isOfSource 7 = .ok (.if_icmp .ge 44, 3) := by decide +kernel
theorem d_Book_isOfSource_10 : decode b_Book_isOfSource 10 = .ok (.aload_n 0, 1) := by decide +kernel
theorem d_Book_isOfSource_11 : decode b_Book_isOfSource 11 = .ok (.getfield 9, 3) := by decide +kernel
theorem d_Book_isOfSource_14 : decode b_Book_isOfSource 14 = .ok (.iload_n 1, 1) := by decide +kernel
theorem d_Book_isOfSource_15 : decode b_Book_isOfSource 15 = .ok (.laload, 1) := by decide +kernel
theorem d_Book_isOfSource_16 : decode b_Book_isOfSource 16 = .ok (.lconst 0, 1) := by decide +kernel
theorem d_Book_isOfSource_17 : decode b_Book_isOfSource 17 = .ok (.lcmp, 1) := by decide +kernel
theorem d_Book_isOfSource_18 : decode b_Book_isOfSource 18 = .ok (.ifCond .eq 25, 3) := by decide +kernel
theorem d_Book_isOfSource_21 : decode b_Book_isOfSource 21 = .ok (.aload_n 0, 1) := by decide +kernel
theorem d_Book_isOfSource_22 : decode b_Book_isOfSource 22 = .ok (.aload_n 0, 1) := by decide +kernel
theorem d_Book_isOfSource_23 : decode b_Book_isOfSource 23 = .ok (.getfield 9, 3) := by decide +kernel
theorem d_Book_isOfSource_26 : decode b_Book_isOfSource 26 = .ok (.iload_n 1, 1) := by decide +kernel
theorem d_Book_isOfSource_27 : decode b_Book_isOfSource 27 = .ok (.laload, 1) := by decide +kernel
theorem d_Book_isOfSource_28 : decode b_Book_isOfSource 28 = .ok (.invokevirtual 83, 3) := by decide +kernel
theorem d_Book_isOfSource_31 : decode b_Book_isOfSource 31 = .ok (.iload_n 1, 1) := by decide +kernel
theorem d_Book_isOfSource_32 : decode b_Book_isOfSource 32 = .ok (.if_icmp .ne 11, 3) := by decide +kernel
theorem d_Book_isOfSource_35 : decode b_Book_isOfSource 35 = .ok (.aload_n 0, 1) := by decide +kernel
theorem d_Book_isOfSource_36 : decode b_Book_isOfSource 36 = .ok (.iload_n 1, 1) := by decide +kernel
theorem d_Book_isOfSource_37 : decode b_Book_isOfSource 37 = .ok (.invokevirtual 87, 3) := by decide +kernel
theorem d_Book_isOfSource_40 : decode b_Book_isOfSource 40 = .ok (.ifCond .ne 5, 3) := by decide +kernel
theorem d_Book_isOfSource_43 : decode b_Book_isOfSource 43 = .ok (.iconst 0, 1) := by decide +kernel
theorem d_Book_isOfSource_44 : decode b_Book_isOfSource 44 = .ok (.ireturn, 1) := by decide +kernel
theorem d_Book_isOfSource_45 : decode b_Book_isOfSource 45 = .ok (.iinc 1 1, 3) := by decide +kernel
theorem d_Book_isOfSource_48 : decode b_Book_isOfSource 48 = .ok (.goto (-46), 3) := by decide +kernel
theorem d_Book_isOfSource_51 : decode b_Book_isOfSource 51 = .ok (.iconst 0, 1) := by decide +kernel
theorem d_Book_isOfSource_52 : decode b_Book_isOfSource 52 = .ok (.istore_n 1, 1) := by decide +kernel
theorem d_Book_isOfSource_53 : decode b_Book_isOfSource 53 = .ok (.iload_n 1, 1) := by decide +kernel
theorem d_Book_isOfSource_54 : decode b_Book_isOfSource 54 = .ok (.aload_n 0, 1) := by decide +kernel
theorem d_Book_isOfSource_55 : decode b_Book_isOfSource 55 = .ok (.getfield 31, 3) := by decide +kernel
theorem d_Book_isOfSource_58 : decode b_Book_isOfSource 58 = .ok (.invokevirtual 90, 3) := by decide +kernel
theorem d_Book_isOfSource_61 : decode b_Book_isOfSource 61 = .ok (.if_icmp .ge 45, 3) := by decide +kernel
theorem d_Book_isOfSource_64 : decode b_Book_isOfSource 64 = .ok (.aload_n 0, 1) := by decide +kernel
theorem d_Book_isOfSource_65 : decode b_Book_isOfSource 65 = .ok (.getfield 31, 3) := by decide +kernel
theorem d_Book_isOfSource_68 : decode b_Book_isOfSource 68 = .ok (.iload_n 1, 1) := by decide +kernel
theorem d_Book_isOfSource_69 : decode b_Book_isOfSource 69 = .ok (.invokevirtual 91, 3) := by decide +kernel
theorem d_Book_isOfSource_72 : decode b_Book_isOfSource 72 = .ok (.istore_n 2, 1) := by decide +kernel
theorem d_Book_isOfSource_73 : decode b_Book_isOfSource 73 = .ok (.aload_n 0, 1) := by decide +kernel
theorem d_Book_isOfSource_74 : decode b_Book_isOfSource 74 = .ok (.getfield 31, 3) := by decide +kernel
theorem d_Book_isOfSource_77 : decode b_Book_isOfSource 77 = .ok (.iload_n 1, 1) := by decide +kernel
theorem d_Book_isOfSource_78 : decode b_Book_isOfSource 78 = .ok (.invokevirtual 93, 3) := by decide +kernel
theorem d_Book_isOfSource_81 : decode b_Book_isOfSource 81 = .ok (.lconst 0, 1) := by decide +kernel
theorem d_Book_isOfSource_82 : decode b_Book_isOfSource 82 = .ok (.lcmp, 1) := by decide +kernel
theorem d_Book_isOfSource_83 : decode b_Book_isOfSource 83 = .ok (.ifCond .eq 15, 3) := by decide +kernel
theorem d_Book_isOfSource_86 : decode b_Book_isOfSource 86 = .ok (.iload_n 2, 1) := by decide +kernel
theorem d_Book_isOfSource_87 : decode b_Book_isOfSource 87 = .ok (.ifCond .eq 11, 3) := by decide +kernel
theorem d_Book_isOfSource_90 : decode b_Book_isOfSource 90 = .ok (.iload_n 2, 1) := by decide +kernel
theorem d_Book_isOfSource_91 : decode b_Book_isOfSource 91 = .ok (.aload_n 0, 1) := by decide +kernel
theorem d_Book_isOfSource_92 : decode b_Book_isOfSource 92 = .ok (.invokevirtual 96, 3) := by decide +kernel
theorem d_Book_isOfSource_95 : decode b_Book_isOfSource 95 = .ok (.if_icmp .le 5, 3) := by decide +kernel
theorem d_Book_isOfSource_98 : decode b_Book_isOfSource 98 = .ok (.iconst 0, 1) := by decide +kernel
theorem d_Book_isOfSource_99 : decode b_Book_isOfSource 99 = .ok (.ireturn, 1) := by decide +kernel
theorem d_Book_isOfSource_100 : decode b_Book_isOfSource 100 = .ok (.iinc 1 1, 3) := by decide +kernel
theorem d_Book_isOfSource_103 : decode b_Book_isOfSource 103 = .ok (.goto (-50), 3) := by decide +kernel
theorem d_Book_isOfSource_106 : decode b_Book_isOfSource 106 = .ok (.aload_n 0, 1) := by decide +kernel
theorem d_Book_isOfSource_107 : decode b_Book_isOfSource 107 = .ok (.getfield 38, 3) := by decide +kernel
theorem d_Book_isOfSource_110 : decode b_Book_isOfSource 110 = .ok (.ifCond .le 20, 3) := by decide +kernel
theorem d_Book_isOfSource_113 : decode b_Book_isOfSource 113 = .ok (.aload_n 0, 1) := by decide +kernel
theorem d_Book_isOfSource_114 : decode b_Book_isOfSource 114 = .ok (.getfield 31, 3) := by decide +kernel
theorem d_Book_isOfSource_117 : decode b_Book_isOfSource 117 = .ok (.invokevirtual 90, 3) := by decide +kernel
theorem d_Book_isOfSource_120 : decode b_Book_isOfSource 120 = .ok (.sipush 250, 3) := by decide +kernel
theorem d_Book_isOfSource_123 : decode b_Book_isOfSource 123 = .ok (.if_icmp .gt 7, 3) := by decide +kernel
theorem d_Book_isOfSource_126 : decode b_Book_isOfSource 126 = .ok (.iconst 1, 1) := by decide +kernel
theorem d_Book_isOfSource_127 : decode b_Book_isOfSource 127 = .ok (.goto 4, 3) := by decide +kernel
theorem d_Book_isOfSource_130 : decode b_Book_isOfSource 130 = .ok (.iconst 0, 1) := by decide +kernel
theorem d_Book_isOfSource_131 : decode b_Book_isOfSource 131 = .ok (.ireturn, 1) := by decide +kernel
set_option maxHeartbeats 4000000 in
set_option maxRecDepth 100000 in
theorem c_Book_isOfSource (l : Launch) (dC : Nat → ClassId) (dI : Nat → Nat → Nat) (cI cL cZ : ClassId) (bk : Nat) (bkNa : Nat) (bkN : Nat → Int64) (bkSa : Nat) (bkS : Nat → Int32) (bkB : Nat) (bkBEa : Nat) (bkBn : Nat) (bkBE : Nat → Int32) (bkBC : Int32) (bkBO : Bool) (bkK : Nat) (bkKWa : Nat) (bkKn : Nat) (bkKW : Nat → Int64) (bkKTa : Nat) (bkKT : Nat → Int32) (bkKC : Int32) (bkV : Nat) (bkVWa : Nat) (bkVn : Nat) (bkVW : Nat → Int64) (bkVTa : Nat) (bkVT : Nat → Int32) (bkVC : Int32) (bkT : Int32) (res : Bool) (hd : D_Book_isOfSource bkBn bkKn bkN bkS bkBE bkBC bkKW bkKT bkKC bkT res) : CtrR l y_Book_isOfSource (Cond.code y_Book_isOfSource b_Book_isOfSource 3 (some .boolean) :: ga) { frames := 4, cells := 0, slots := 0, locals := 88 } (dC, dI) classes (Tys cI cL cZ) [.ref bk] ((sh_Book cI cL cZ bk bkNa bkN bkSa bkS bkB bkBEa bkBn bkBE bkBC bkBO bkK bkKWa bkKn bkKW bkKTa bkKT bkKC bkV bkVWa bkVn bkVW bkVTa bkVT bkVC bkT)) (some (.int (bI res))) := by
  refine CtrR.ofW (by decide) (Nat.le_of_ble_eq_true rfl) ?_
  intro p e s m below meth c ls hx hb hr hml hown hlocks hts hK hN hP hD hl
  have hown : s.vm.findClass R_Book = some m.cls := hown
  have hl : lv_has ls 3 [(0, .ref bk)] := hl
  have key : ∀ n : Nat, (∀ (x1 : Int32) (ls : Array Slot), lv_has ls 3 [(0, .ref bk), (1, .int x1)] → T_Book_isOfSource bkBn bkKn bkN bkS bkBE bkBC bkKW bkKT bkKC bkT res n 0 x1 → W p l e ({ frames := 4, cells := 0, slots := 0, locals := 88 }) s m ([.ref bk] : List Value).toArray below meth c s.heap [] 0 0 (MQ below (Qr (some (.int (bI res)))) ([.ref bk] : List Value).toArray s 0 0 (fun _ => False)) (F0 m 2 ls [])) ∧ (∀ (x1 : Int32) (ls : Array Slot), lv_has ls 3 [(0, .ref bk), (1, .int x1)] → T_Book_isOfSource bkBn bkKn bkN bkS bkBE bkBC bkKW bkKT bkKC bkT res n 1 x1 → W p l e ({ frames := 4, cells := 0, slots := 0, locals := 88 }) s m ([.ref bk] : List Value).toArray below meth c s.heap [] 0 0 (MQ below (Qr (some (.int (bI res)))) ([.ref bk] : List Value).toArray s 0 0 (fun _ => False)) (F0 m 53 ls [])) := by
    intro n
    induction n with
    | zero =>
      exact ⟨fun _ _ _ hd => False.elim hd, fun _ _ _ hd => False.elim hd⟩
    | succ n ih =>
      refine ⟨?_, ?_⟩
      · intro x1 ls hl hd
        have hd : B_Book_isOfSource_2 bkBn bkKn bkN bkS bkBE bkBC bkKW bkKT bkKC bkT res (T_Book_isOfSource bkBn bkKn bkN bkS bkBE bkBC bkKW bkKT bkKC bkT res n) x1 := hd
        refine lv_iload_n hx hb d_Book_isOfSource_2 rfl (lv_at hl 1 rfl) ?_
        refine lv_aload_n hx hb d_Book_isOfSource_3 rfl (lv_at hl 0 rfl) ?_
        refine va_get (D := (dC, dI)) (ci := 3) (v := .int bkT) (C := R_Book) (T := F_Book) (N := 6) hx hb hts in_Book hown hK hP 0 rfl rfl 5 (by decide) (hts _ (List.mem_cons_of_mem _ k55_fieldLink)) (fun _ h9 => h9) rfl d_Book_isOfSource_4 ?_
        refine lv_icmp_ge (tgt := 51) hx hb d_Book_isOfSource_7 (by decide) (fun h7 => ?_) (fun h7 => ?_)
        · have hd := hd.1 h7
          refine lv_iconst (v := 0) hx hb d_Book_isOfSource_51 (by decide) ?_
          refine lv_istore_n (lv' := [(1, .int 0), (0, .ref bk)]) hx hb d_Book_isOfSource_52 rfl hl (by decide) rfl (fun ls hl => ?_)
          exact ih.2 0 _ (lv_sub hl [1, 0] rfl) hd
        · have hd := hd.2 h7
          refine lv_aload_n hx hb d_Book_isOfSource_10 rfl (lv_at hl 0 rfl) ?_
          refine va_get (D := (dC, dI)) (ci := 3) (v := .ref bkNa) (C := R_Book) (T := F_Book) (N := 6) hx hb hts in_Book hown hK hP 0 rfl rfl 0 (by decide) (hts _ (List.mem_cons_of_mem _ k64_fieldLink)) (fun _ h9 => h9) rfl d_Book_isOfSource_11 ?_
          refine lv_iload_n hx hb d_Book_isOfSource_14 rfl (lv_at hl 1 rfl) ?_
          obtain ⟨h15, hd⟩ := hd
          refine va_lald hx hb hK hP 1 1 rfl rfl h15 d_Book_isOfSource_15 ?_
          refine lv_lconst (v := 0) hx hb d_Book_isOfSource_16 (by decide) ?_
          refine W.lcmp hx hb d_Book_isOfSource_17 ?_
          refine lv_if_eq (tgt := 43) hx hb d_Book_isOfSource_18 (by decide) (fun h18 => ?_) (fun h18 => ?_)
          · have hd := hd.1 h18
            refine lv_iconst (v := 0) hx hb d_Book_isOfSource_43 (by decide) ?_
            have e0 : res = false := hd
            subst e0
            exact ct_zretR (b := false) hx hb hr hlocks d_Book_isOfSource_44
          · have hd := hd.2 h18
            refine lv_aload_n hx hb d_Book_isOfSource_21 rfl (lv_at hl 0 rfl) ?_
            refine lv_aload_n hx hb d_Book_isOfSource_22 rfl (lv_at hl 0 rfl) ?_
            refine va_get (D := (dC, dI)) (ci := 3) (v := .ref bkNa) (C := R_Book) (T := F_Book) (N := 6) hx hb hts in_Book hown hK hP 0 rfl rfl 0 (by decide) (hts _ (List.mem_cons_of_mem _ k64_fieldLink)) (fun _ h9 => h9) rfl d_Book_isOfSource_23 ?_
            refine lv_iload_n hx hb d_Book_isOfSource_26 rfl (lv_at hl 1 rfl) ?_
            obtain ⟨h27, hd⟩ := hd
            refine va_lald hx hb hK hP 1 1 rfl rfl h27 d_Book_isOfSource_27 ?_
            obtain ⟨r28, c28, hd⟩ := hd
            refine ct_VR (As := [.long (bkN (Int32.toNatClampNeg x1))]) (rest := []) (C := R_Book) (ci := 3) (q := (R_Book, F_Book, 6)) ⟨hx, hb, hml, hown, hts⟩ fm_Book_topicNamed (c_Book_topicNamed l dC dI cI cL cZ bk bkNa bkN bkSa bkS bkB bkBEa bkBn bkBE bkBC bkBO bkK bkKWa bkKn bkKW bkKTa bkKT bkKC bkV bkVWa bkVn bkVW bkVTa bkVT bkVC bkT (bkN (Int32.toNatClampNeg x1)) r28 c28) k93_methodLink k94_instanceMethod k95_selects ⟨Nat.le_of_ble_eq_true rfl, Nat.le_of_ble_eq_true rfl⟩ rfl rfl hK hN hP hD [0, 1, 2, 3, 4, 5, 6, 7, 8, 9, 10] rfl rfl (by decide) 0 rfl rfl rfl rfl hl.1 rfl (Nat.le_of_ble_eq_true rfl) d_Book_isOfSource_28 ?_
            refine lv_iload_n hx hb d_Book_isOfSource_31 rfl (lv_at hl 1 rfl) ?_
            refine lv_icmp_ne (tgt := 43) hx hb d_Book_isOfSource_32 (by decide) (fun h32 => ?_) (fun h32 => ?_)
            · have hd := hd.2 h32
              refine lv_iconst (v := 0) hx hb d_Book_isOfSource_43 (by decide) ?_
              have e0 : res = false := hd
              subst e0
              exact ct_zretR (b := false) hx hb hr hlocks d_Book_isOfSource_44
            · have hd := hd.1 h32
              refine lv_aload_n hx hb d_Book_isOfSource_35 rfl (lv_at hl 0 rfl) ?_
              refine lv_iload_n hx hb d_Book_isOfSource_36 rfl (lv_at hl 1 rfl) ?_
              obtain ⟨r37, c37, hd⟩ := hd
              refine ct_VR (As := [.int x1]) (rest := []) (C := R_Book) (ci := 3) (q := (R_Book, F_Book, 6)) ⟨hx, hb, hml, hown, hts⟩ fm_Book_isBody (c_Book_isBody l dC dI cI cL cZ bk bkNa bkN bkSa bkS bkB bkBEa bkBn bkBE bkBC bkBO bkK bkKWa bkKn bkKW bkKTa bkKT bkKC bkV bkVWa bkVn bkVW bkVTa bkVT bkVC bkT x1 r37 c37) k96_methodLink k97_instanceMethod k98_selects ⟨Nat.le_of_ble_eq_true rfl, Nat.le_of_ble_eq_true rfl⟩ rfl rfl hK hN hP hD [0, 1, 2, 3, 4, 5, 6, 7, 8, 9, 10] rfl rfl (by decide) 0 rfl rfl rfl rfl hl.1 rfl (Nat.le_of_ble_eq_true rfl) d_Book_isOfSource_37 ?_
              refine lv_if_ne (tgt := 45) hx hb d_Book_isOfSource_40 (by decide) (fun h40 => ?_) (fun h40 => ?_)
              · have hd := hd.2 h40
                refine lv_iinc (k := 1) (v := x1 + 1) (lv' := [(1, .int (x1 + 1)), (0, .ref bk)]) hx hb d_Book_isOfSource_45 hl rfl (congrArg (fun z => x1 + z) (by decide)) (by decide) rfl (fun ls hl => ?_)
                refine lv_goto (tgt := 2) hx hb d_Book_isOfSource_48 (by decide) ?_
                exact ih.1 (x1 + 1) _ (lv_sub hl [1, 0] rfl) hd
              · have hd := hd.1 h40
                refine lv_iconst (v := 0) hx hb d_Book_isOfSource_43 (by decide) ?_
                have e0 : res = false := hd
                subst e0
                exact ct_zretR (b := false) hx hb hr hlocks d_Book_isOfSource_44
      · intro x1 ls hl hd
        have hd : B_Book_isOfSource_53 bkBn bkKn bkN bkS bkBE bkBC bkKW bkKT bkKC bkT res (T_Book_isOfSource bkBn bkKn bkN bkS bkBE bkBC bkKW bkKT bkKC bkT res n) x1 := hd
        refine lv_iload_n hx hb d_Book_isOfSource_53 rfl (lv_at hl 1 rfl) ?_
        refine lv_aload_n hx hb d_Book_isOfSource_54 rfl (lv_at hl 0 rfl) ?_
        refine va_get (D := (dC, dI)) (ci := 3) (v := .ref bkK) (C := R_Book) (T := F_Book) (N := 6) hx hb hts in_Book hown hK hP 0 rfl rfl 3 (by decide) (hts _ (List.mem_cons_of_mem _ k58_fieldLink)) (fun _ h9 => h9) rfl d_Book_isOfSource_55 ?_
        refine ct_VR (As := []) (rest := [.int x1]) (C := R_WordList) (ci := 2) (q := (R_WordList, F_WordList, 3)) ⟨hx, hb, hml, hown, hts⟩ fm_WordList_count (c_WordList_count l dC dI cI cL cZ bkK bkKWa bkKn bkKW bkKTa bkKT bkKC bkKC rfl) k99_methodLink k47_instanceMethod k48_selects ⟨Nat.le_of_ble_eq_true rfl, Nat.le_of_ble_eq_true rfl⟩ rfl rfl hK hN hP hD [5, 6, 7] rfl rfl (by decide) 5 rfl rfl rfl rfl hl.1 rfl (Nat.le_of_ble_eq_true rfl) d_Book_isOfSource_58 ?_
        refine lv_icmp_ge (tgt := 106) hx hb d_Book_isOfSource_61 (by decide) (fun h61 => ?_) (fun h61 => ?_)
        · have hd := hd.1 h61
          refine lv_aload_n hx hb d_Book_isOfSource_106 rfl (lv_at hl 0 rfl) ?_
          refine va_get (D := (dC, dI)) (ci := 3) (v := .int bkT) (C := R_Book) (T := F_Book) (N := 6) hx hb hts in_Book hown hK hP 0 rfl rfl 5 (by decide) (hts _ (List.mem_cons_of_mem _ k55_fieldLink)) (fun _ h9 => h9) rfl d_Book_isOfSource_107 ?_
          refine lv_if_le (tgt := 130) hx hb d_Book_isOfSource_110 (by decide) (fun h110 => ?_) (fun h110 => ?_)
          · have hd := hd.1 h110
            refine lv_iconst (v := 0) hx hb d_Book_isOfSource_130 (by decide) ?_
            have e0 : res = false := hd
            subst e0
            exact ct_zretR (b := false) hx hb hr hlocks d_Book_isOfSource_131
          · have hd := hd.2 h110
            refine lv_aload_n hx hb d_Book_isOfSource_113 rfl (lv_at hl 0 rfl) ?_
            refine va_get (D := (dC, dI)) (ci := 3) (v := .ref bkK) (C := R_Book) (T := F_Book) (N := 6) hx hb hts in_Book hown hK hP 0 rfl rfl 3 (by decide) (hts _ (List.mem_cons_of_mem _ k58_fieldLink)) (fun _ h9 => h9) rfl d_Book_isOfSource_114 ?_
            refine ct_VR (As := []) (rest := []) (C := R_WordList) (ci := 2) (q := (R_WordList, F_WordList, 3)) ⟨hx, hb, hml, hown, hts⟩ fm_WordList_count (c_WordList_count l dC dI cI cL cZ bkK bkKWa bkKn bkKW bkKTa bkKT bkKC bkKC rfl) k99_methodLink k47_instanceMethod k48_selects ⟨Nat.le_of_ble_eq_true rfl, Nat.le_of_ble_eq_true rfl⟩ rfl rfl hK hN hP hD [5, 6, 7] rfl rfl (by decide) 5 rfl rfl rfl rfl hl.1 rfl (Nat.le_of_ble_eq_true rfl) d_Book_isOfSource_117 ?_
            refine lv_sipush (v := 250) hx hb d_Book_isOfSource_120 (by decide) ?_
            refine lv_icmp_gt (tgt := 130) hx hb d_Book_isOfSource_123 (by decide) (fun h123 => ?_) (fun h123 => ?_)
            · have hd := hd.1 h123
              refine lv_iconst (v := 0) hx hb d_Book_isOfSource_130 (by decide) ?_
              have e0 : res = false := hd
              subst e0
              exact ct_zretR (b := false) hx hb hr hlocks d_Book_isOfSource_131
            · have hd := hd.2 h123
              refine lv_iconst (v := 1) hx hb d_Book_isOfSource_126 (by decide) ?_
              refine lv_goto (tgt := 131) hx hb d_Book_isOfSource_127 (by decide) ?_
              have e0 : res = true := hd
              subst e0
              exact ct_zretR (b := true) hx hb hr hlocks d_Book_isOfSource_131
        · have hd := hd.2 h61
          refine lv_aload_n hx hb d_Book_isOfSource_64 rfl (lv_at hl 0 rfl) ?_
          refine va_get (D := (dC, dI)) (ci := 3) (v := .ref bkK) (C := R_Book) (T := F_Book) (N := 6) hx hb hts in_Book hown hK hP 0 rfl rfl 3 (by decide) (hts _ (List.mem_cons_of_mem _ k58_fieldLink)) (fun _ h9 => h9) rfl d_Book_isOfSource_65 ?_
          refine lv_iload_n hx hb d_Book_isOfSource_68 rfl (lv_at hl 1 rfl) ?_
          obtain ⟨r69, c69, hd⟩ := hd
          refine ct_VR (As := [.int x1]) (rest := []) (C := R_WordList) (ci := 2) (q := (R_WordList, F_WordList, 3)) ⟨hx, hb, hml, hown, hts⟩ fm_WordList_topics (c_WordList_topics l dC dI cI cL cZ bkK bkKWa bkKn bkKW bkKTa bkKT bkKC x1 r69 c69) k100_methodLink k101_instanceMethod k102_selects ⟨Nat.le_of_ble_eq_true rfl, Nat.le_of_ble_eq_true rfl⟩ rfl rfl hK hN hP hD [5, 6, 7] rfl rfl (by decide) 5 rfl rfl rfl rfl hl.1 rfl (Nat.le_of_ble_eq_true rfl) d_Book_isOfSource_69 ?_
          refine lv_istore_n (lv' := [(2, .int r69), (0, .ref bk), (1, .int x1)]) hx hb d_Book_isOfSource_72 rfl hl (by decide) rfl (fun ls hl => ?_)
          refine lv_aload_n hx hb d_Book_isOfSource_73 rfl (lv_at hl 1 rfl) ?_
          refine va_get (D := (dC, dI)) (ci := 3) (v := .ref bkK) (C := R_Book) (T := F_Book) (N := 6) hx hb hts in_Book hown hK hP 0 rfl rfl 3 (by decide) (hts _ (List.mem_cons_of_mem _ k58_fieldLink)) (fun _ h9 => h9) rfl d_Book_isOfSource_74 ?_
          refine lv_iload_n hx hb d_Book_isOfSource_77 rfl (lv_at hl 2 rfl) ?_
          obtain ⟨r78, c78, hd⟩ := hd
          refine ct_VR (As := [.int x1]) (rest := []) (C := R_WordList) (ci := 2) (q := (R_WordList, F_WordList, 3)) ⟨hx, hb, hml, hown, hts⟩ fm_WordList_word (c_WordList_word l dC dI cI cL cZ bkK bkKWa bkKn bkKW bkKTa bkKT bkKC x1 r78 c78) k103_methodLink k50_instanceMethod k51_selects ⟨Nat.le_of_ble_eq_true rfl, Nat.le_of_ble_eq_true rfl⟩ rfl rfl hK hN hP hD [5, 6, 7] rfl rfl (by decide) 5 rfl rfl rfl rfl hl.1 rfl (Nat.le_of_ble_eq_true rfl) d_Book_isOfSource_78 ?_
          refine lv_lconst (v := 0) hx hb d_Book_isOfSource_81 (by decide) ?_
          refine W.lcmp hx hb d_Book_isOfSource_82 ?_
          refine lv_if_eq (tgt := 98) hx hb d_Book_isOfSource_83 (by decide) (fun h83 => ?_) (fun h83 => ?_)
          · have hd := hd.1 h83
            refine lv_iconst (v := 0) hx hb d_Book_isOfSource_98 (by decide) ?_
            have e0 : res = false := hd
            subst e0
            exact ct_zretR (b := false) hx hb hr hlocks d_Book_isOfSource_99
          · have hd := hd.2 h83
            refine lv_iload_n hx hb d_Book_isOfSource_86 rfl (lv_at hl 0 rfl) ?_
            refine lv_if_eq (tgt := 98) hx hb d_Book_isOfSource_87 (by decide) (fun h87 => ?_) (fun h87 => ?_)
            · have hd := hd.1 h87
              refine lv_iconst (v := 0) hx hb d_Book_isOfSource_98 (by decide) ?_
              have e0 : res = false := hd
              subst e0
              exact ct_zretR (b := false) hx hb hr hlocks d_Book_isOfSource_99
            · have hd := hd.2 h87
              refine lv_iload_n hx hb d_Book_isOfSource_90 rfl (lv_at hl 0 rfl) ?_
              refine lv_aload_n hx hb d_Book_isOfSource_91 rfl (lv_at hl 1 rfl) ?_
              refine ct_VR (As := []) (rest := [.int r69]) (C := R_Book) (ci := 3) (q := (R_Book, F_Book, 6)) ⟨hx, hb, hml, hown, hts⟩ fm_Book_everyTopic (c_Book_everyTopic l dC dI cI cL cZ bk bkNa bkN bkSa bkS bkB bkBEa bkBn bkBE bkBC bkBO bkK bkKWa bkKn bkKW bkKTa bkKT bkKC bkV bkVWa bkVn bkVW bkVTa bkVT bkVC bkT ((1 <<< (bkT &&& 31)) - 1) rfl) k104_methodLink k105_instanceMethod k106_selects ⟨Nat.le_of_ble_eq_true rfl, Nat.le_of_ble_eq_true rfl⟩ rfl rfl hK hN hP hD [0, 1, 2, 3, 4, 5, 6, 7, 8, 9, 10] rfl rfl (by decide) 0 rfl rfl rfl rfl hl.1 rfl (Nat.le_of_ble_eq_true rfl) d_Book_isOfSource_92 ?_
              refine lv_icmp_le (tgt := 100) hx hb d_Book_isOfSource_95 (by decide) (fun h95 => ?_) (fun h95 => ?_)
              · have hd := hd.1 h95
                refine lv_iinc (k := 2) (v := x1 + 1) (lv' := [(1, .int (x1 + 1)), (2, .int r69), (0, .ref bk)]) hx hb d_Book_isOfSource_100 hl rfl (congrArg (fun z => x1 + z) (by decide)) (by decide) rfl (fun ls hl => ?_)
                refine lv_goto (tgt := 53) hx hb d_Book_isOfSource_103 (by decide) ?_
                exact ih.2 (x1 + 1) _ (lv_sub hl [2, 0] rfl) hd
              · have hd := hd.2 h95
                refine lv_iconst (v := 0) hx hb d_Book_isOfSource_98 (by decide) ?_
                have e0 : res = false := hd
                subst e0
                exact ct_zretR (b := false) hx hb hr hlocks d_Book_isOfSource_99
  obtain ⟨n, hd⟩ := hd
  refine lv_iconst (v := 0) hx hb d_Book_isOfSource_0 (by decide) ?_
  refine lv_istore_n (lv' := [(1, .int 0), (0, .ref bk)]) hx hb d_Book_isOfSource_1 rfl hl (by decide) rfl (fun ls hl => ?_)
  exact (key n).1 0 _ (lv_sub hl [1, 0] rfl) hd
