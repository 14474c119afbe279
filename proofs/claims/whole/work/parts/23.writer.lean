/-! 23.writer: what each method does, read off its bytecode (D_..), and its contract (c_..); written by a program of mine. -/
-- ImageWriter.pack
abbrev b_ImageWriter_pack : ByteArray := prog_5_method_5_code
def y_ImageWriter_pack : MethodName := ⟨"HelpFile$ImageWriter", "pack", "(LHelpFile$Book;ILHelpFile$Row;)V"⟩
theorem k206_methodLink : Cond.methodLink "HelpFile$ImageWriter" 79 ⟨"HelpFile$Book", "bodies", "()LHelpFile$Row;"⟩ ∈ ga := ga_t 473 (by decide +kernel) rfl
theorem k207_methodLink : Cond.methodLink "HelpFile$ImageWriter" 83 ⟨"HelpFile$Book", "bodyStart", "(I)I"⟩ ∈ ga := ga_t 474 (by decide +kernel) rfl
theorem k208_methodLink : Cond.methodLink "HelpFile$ImageWriter" 86 ⟨"HelpFile$Book", "bodyEnd", "(I)I"⟩ ∈ ga := ga_t 475 (by decide +kernel) rfl
theorem k209_methodLink : Cond.methodLink "HelpFile$ImageWriter" 89 ⟨"HelpFile$ImageWriter", "bestDistance", "(LHelpFile$Row;III)I"⟩ ∈ ga := ga_t 476 (by decide +kernel) rfl
theorem k210_static : Cond.static ⟨"HelpFile$ImageWriter", "bestDistance", "(LHelpFile$Row;III)I"⟩ ∈ ga := ga_t 477 (by decide +kernel) rfl
theorem k211_methodLink : Cond.methodLink "HelpFile$ImageWriter" 96 ⟨"HelpFile$ImageWriter", "appendPlain", "(IILHelpFile$Row;)I"⟩ ∈ ga := ga_t 483 (by decide +kernel) rfl
theorem k212_static : Cond.static ⟨"HelpFile$ImageWriter", "appendPlain", "(IILHelpFile$Row;)I"⟩ ∈ ga := ga_t 484 (by decide +kernel) rfl
set_option maxRecDepth 100000 in
theorem fm_ImageWriter_pack : Fm y_ImageWriter_pack b_ImageWriter_pack 10 none 3 := ⟨ga_t 472 rfl rfl, k198_initialized, by decide, by decide, by decide +kernel⟩
def B_ImageWriter_pack_26 (bkBn : Nat) (otn : Nat) (bkS : Nat → Int32) (bkBE : Nat → Int32) (bkBC : Int32) (bkT : Int32) (otE' : Nat → Int32) (otC' : Int32) (otO' : Bool) (X : Int32 → Int32 → Int32 → Int32 → (Nat → Int32) → Int32 → Bool → Prop) (x4 : Int32) (x5 : Int32) (x6 : Int32) (x7 : Int32) (otE : Nat → Int32) (otC : Int32) (otO : Bool) : Prop := ((x5 ≤ x7 → (otE' = otE ∧ otC' = otC ∧ otO' = otO)) ∧ (¬ (x5 ≤ x7) → (∃ r40 : Int32, D_ImageWriter_bestDistance bkBn x4 x7 x5 bkBE bkBC r40 ∧ ((r40 = (-1) → (∃ r54 : Int32, D_Row_element bkBn x7 bkBE bkBC r54 ∧ (∃ r60 : Int32, ∃ otE_60 : Nat → Int32, ∃ otC_60 : Int32, ∃ otO_60 : Bool, D_ImageWriter_appendPlain otn r54 x6 otE otC otO r60 otE_60 otC_60 otO_60 ∧ X x4 x5 r60 (x7 + 1) otE_60 otC_60 otO_60))) ∧ (¬ (r40 = (-1)) → (∃ r78 : Int32, D_ImageWriter_alike bkBn x7 r40 x5 bkBE bkBC r78 ∧ (∃ otE_92 : Nat → Int32, ∃ otC_92 : Int32, ∃ otO_92 : Bool, D_Row_append otn ((128 + r78) - 3) otE otC otO otE_92 otC_92 otO_92 ∧ (∃ otE_98 : Nat → Int32, ∃ otC_98 : Int32, ∃ otO_98 : Bool, D_Row_append otn r40 otE_92 otC_92 otO_92 otE_98 otC_98 otO_98 ∧ X x4 x5 (-1) (x7 + r78) otE_98 otC_98 otO_98))))))))
def S_ImageWriter_pack (bkBn : Nat) (otn : Nat) (bkS : Nat → Int32) (bkBE : Nat → Int32) (bkBC : Int32) (bkT : Int32) (otE' : Nat → Int32) (otC' : Int32) (otO' : Bool) (X : Int32 → Int32 → Int32 → Int32 → (Nat → Int32) → Int32 → Bool → Prop) : Int32 → Int32 → Int32 → Int32 → (Nat → Int32) → Int32 → Bool → Prop := fun x4 x5 x6 x7 otE otC otO => B_ImageWriter_pack_26 bkBn otn bkS bkBE bkBC bkT otE' otC' otO' X x4 x5 x6 x7 otE otC otO
def T_ImageWriter_pack (bkBn : Nat) (otn : Nat) (bkS : Nat → Int32) (bkBE : Nat → Int32) (bkBC : Int32) (bkT : Int32) (otE' : Nat → Int32) (otC' : Int32) (otO' : Bool) : Nat → (Int32 → Int32 → Int32 → Int32 → (Nat → Int32) → Int32 → Bool → Prop)
  | 0 => fun _ _ _ _ _ _ _ => False
  | n + 1 => S_ImageWriter_pack bkBn otn bkS bkBE bkBC bkT otE' otC' otO' (T_ImageWriter_pack bkBn otn bkS bkBE bkBC bkT otE' otC' otO' n)
def D_ImageWriter_pack (bkBn : Nat) (otn : Nat) (k0 : Int32) (bkS : Nat → Int32) (bkBE : Nat → Int32) (bkBC : Int32) (bkT : Int32) (otE : Nat → Int32) (otC : Int32) (otO : Bool) (otE' : Nat → Int32) (otC' : Int32) (otO' : Bool) : Prop := ∃ n : Nat, (∃ r7 : Int32, D_Book_bodyStart k0 bkS bkT r7 ∧ (∃ r14 : Int32, D_Book_bodyEnd k0 bkS bkT r14 ∧ T_ImageWriter_pack bkBn otn bkS bkBE bkBC bkT otE' otC' otO' n r7 r14 (-1) r7 otE otC otO))
theorem d_ImageWriter_pack_0 : decode b_ImageWriter_pack 0 = .ok (.aload_n 0, 1) := by decide +kernel
theorem d_ImageWriter_pack_1 : decode b_ImageWriter_pack 1 = .ok (.invokevirtual 79, 3) := by decide +kernel
theorem d_ImageWriter_pack_4 : decode b_ImageWriter_pack 4 = .ok (.astore_n 3, 1) := by decide +kernel
theorem d_ImageWriter_pack_5 : decode b_ImageWriter_pack 5 = .ok (.aload_n 0, 1) := by decide +kernel
theorem d_ImageWriter_pack_6 : decode b_ImageWriter_pack 6 = .ok (.iload_n 1, 1) := by decide +kernel
theorem d_ImageWriter_pack_7 : decode b_ImageWriter_pack 7 = .ok (.invokevirtual 83, 3) := by decide +kernel
theorem d_ImageWriter_pack_10 : decode b_ImageWriter_pack 10 = .ok (.istore 4, 2) := by decide +kernel
theorem d_ImageWriter_pack_12 : decode b_ImageWriter_pack 12 = .ok (.aload_n 0, 1) := by decide +kernel
theorem d_ImageWriter_pack_13 : decode b_ImageWriter_pack 13 = .ok (.iload_n 1, 1) := by decide +kernel
theorem d_ImageWriter_pack_14 : decode b_ImageWriter_pack 14 = .ok (.invokevirtual 86, 3) := by decide +kernel
theorem d_ImageWriter_pack_17 : decode b_ImageWriter_pack 17 = .ok (.istore 5, 2) := by decide +kernel
theorem d_ImageWriter_pack_19 : decode b_ImageWriter_pack 19 = .ok (.iconst (-1), 1) := by decide +kernel
theorem d_ImageWriter_pack_20 : decode b_ImageWriter_pack 20 = .ok (.istore 6, 2) := by decide +kernel
theorem d_ImageWriter_pack_22 : decode b_ImageWriter_pack 22 = .ok (.iload 4, 2) := by decide +kernel
theorem d_ImageWriter_pack_24 : decode b_ImageWriter_pack 24 = .ok (.istore 7, 2) := by decide +kernel
theorem d_ImageWriter_pack_26 : decode b_ImageWriter_pack 26 = .ok (.iload 7, 2) := by decide +kernel
theorem d_ImageWriter_pack_28 : decode b_ImageWriter_pack 28 = .ok (.iload 5, 2) := by decide +kernel
theorem d_ImageWriter_pack_30 : decode b_ImageWriter_pack 30 = .ok (.if_icmp .ge 84, 3) := by decide +kernel
theorem d_ImageWriter_pack_33 : decode b_ImageWriter_pack 33 = .ok (.aload_n 3, 1) := by decide +kernel
theorem d_ImageWriter_pack_34 : decode b_ImageWriter_pack 34 = .ok (.iload 4, 2) := by decide +kernel
theorem d_ImageWriter_pack_36 : decode b_ImageWriter_pack 36 = .ok (.iload 7, 2) := by decide +kernel
theorem d_ImageWriter_pack_38 : decode b_ImageWriter_pack 38 = .ok (.iload 5, 2) := by decide +kernel
theorem d_ImageWriter_pack_40 : decode b_ImageWriter_pack 40 = .ok (.invokestatic 89, 3) := by decide +kernel
theorem d_ImageWriter_pack_43 : decode b_ImageWriter_pack 43 = .ok (.istore 8, 2) := by decide +kernel
theorem d_ImageWriter_pack_45 : decode b_ImageWriter_pack 45 = .ok (.iload 8, 2) := by decide +kernel
theorem d_ImageWriter_pack_47 : decode b_ImageWriter_pack 47 = .ok (.iconst (-1), 1) := by decide +kernel
theorem d_ImageWriter_pack_48 : decode b_ImageWriter_pack 48 = .ok (.if_icmp .ne 23, 3) := by decide +kernel
theorem d_ImageWriter_pack_51 : decode b_ImageWriter_pack 51 = .ok (.aload_n 3, 1) := by decide +kernel
theorem d_ImageWriter_pack_52 : decode b_ImageWriter_pack 52 = .ok (.iload 7, 2) := by decide +kernel
theorem d_ImageWriter_pack_54 : decode b_ImageWriter_pack 54 = .ok (.invokevirtual 93, 3) := by decide +kernel
theorem d_ImageWriter_pack_57 : decode b_ImageWriter_pack 57 = .ok (.iload 6, 2) := by decide +kernel
theorem d_ImageWriter_pack_59 : decode b_ImageWriter_pack 59 = .ok (.aload_n 2, 1) := by decide +kernel
theorem d_ImageWriter_pack_60 : decode b_ImageWriter_pack 60 = .ok (.invokestatic 96, 3) := by decide +kernel
theorem d_ImageWriter_pack_63 : decode b_ImageWriter_pack 63 = .ok (.istore 6, 2) := by decide +kernel
theorem d_ImageWriter_pack_65 : decode b_ImageWriter_pack 65 = .ok (.iinc 7 1, 3) := by decide +kernel
theorem d_ImageWriter_pack_68 : decode b_ImageWriter_pack 68 = .ok (.goto 43, 3) := by decide +kernel
theorem d_ImageWriter_pack_71 : decode b_ImageWriter_pack 71 = .ok (.aload_n 3, 1) := by decide +kernel
theorem d_ImageWriter_pack_72 : decode b_ImageWriter_pack 72 = .ok (.iload 7, 2) := by decide +kernel
theorem d_ImageWriter_pack_74 : decode b_ImageWriter_pack 74 = .ok (.iload 8, 2) := by decide +kernel
theorem d_ImageWriter_pack_76 : decode b_ImageWriter_pack 76 = .ok (.iload 5, 2) := by decide +kernel
theorem d_ImageWriter_pack_78 : decode b_ImageWriter_pack 78 = .ok (.invokestatic 100, 3) := by decide +kernel
theorem d_ImageWriter_pack_81 : decode b_ImageWriter_pack 81 = .ok (.istore 9, 2) := by decide +kernel
theorem d_ImageWriter_pack_83 : decode b_ImageWriter_pack 83 = .ok (.aload_n 2, 1) := by decide +kernel
theorem d_ImageWriter_pack_84 : decode b_ImageWriter_pack 84 = .ok (.sipush 128, 3) := by decide +kernel
theorem d_ImageWriter_pack_87 : decode b_ImageWriter_pack 87 = .ok (.iload 9, 2) := by decide +kernel
theorem d_ImageWriter_pack_89 : decode b_ImageWriter_pack 89 = .ok (.iadd, 1) := by decide +kernel
theorem d_ImageWriter_pack_90 : decode b_ImageWriter_pack 90 = .ok (.iconst 3, 1) := by decide +kernel
theorem d_ImageWriter_pack_91 : decode b_ImageWriter_pack 91 = .ok (.isub, 1) := by decide +kernel
theorem d_ImageWriter_pack_92 : decode b_ImageWriter_pack 92 = .ok (.invokevirtual 15, 3) := by decide +kernel
theorem d_ImageWriter_pack_95 : decode b_ImageWriter_pack 95 = .ok (.aload_n 2, 1) := by decide +kernel
theorem d_ImageWriter_pack_96 : decode b_ImageWriter_pack 96 = .ok (.iload 8, 2) := by decide +kernel
theorem d_ImageWriter_pack_98 : decode b_ImageWriter_pack 98 = .ok (.invokevirtual 15, 3) := by decide +kernel
theorem d_ImageWriter_pack_101 : decode b_ImageWriter_pack 101 = .ok (.iconst (-1), 1) := by decide +kernel
theorem d_ImageWriter_pack_102 : decode b_ImageWriter_pack 102 = .ok (.istore 6, 2) := by decide +kernel
theorem d_ImageWriter_pack_104 : decode b_ImageWriter_pack 104 = .ok (.iload 7, 2) := by decide +kernel
theorem d_ImageWriter_pack_106 : decode b_ImageWriter_pack 106 = .ok (.iload 9, 2) := by decide +kernel
theorem d_ImageWriter_pack_108 : decode b_ImageWriter_pack 108 = .ok (.iadd, 1) := by decide +kernel
theorem d_ImageWriter_pack_109 : decode b_ImageWriter_pack 109 = .ok (.istore 7, 2) := by decide +kernel
theorem d_ImageWriter_pack_111 : decode b_ImageWriter_pack 111 = .ok (.goto (-85), 3) := by decide +kernel
theorem d_ImageWriter_pack_114 : decode b_ImageWriter_pack 114 = .ok (.return_, 1) := by decide +kernel
set_option maxHeartbeats 4000000 in
set_option maxRecDepth 100000 in
theorem c_ImageWriter_pack (l : Launch) (dC : Nat → ClassId) (dI : Nat → Nat → Nat) (cI cL cZ : ClassId) (bk : Nat) (bkNa : Nat) (bkN : Nat → Int64) (bkSa : Nat) (bkS : Nat → Int32) (bkB : Nat) (bkBEa : Nat) (bkBn : Nat) (bkBE : Nat → Int32) (bkBC : Int32) (bkBO : Bool) (bkK : Nat) (bkKWa : Nat) (bkKn : Nat) (bkKW : Nat → Int64) (bkKTa : Nat) (bkKT : Nat → Int32) (bkKC : Int32) (bkV : Nat) (bkVWa : Nat) (bkVn : Nat) (bkVW : Nat → Int64) (bkVTa : Nat) (bkVT : Nat → Int32) (bkVC : Int32) (bkT : Int32) (ot : Nat) (otEa : Nat) (otn : Nat) (otE : Nat → Int32) (otC : Int32) (otO : Bool) (k0 : Int32) (otE' : Nat → Int32) (otC' : Int32) (otO' : Bool) (hd : D_ImageWriter_pack bkBn otn k0 bkS bkBE bkBC bkT otE otC otO otE' otC' otO') : Ctr l y_ImageWriter_pack (Cond.code y_ImageWriter_pack b_ImageWriter_pack 10 none :: ga) { frames := 3, cells := 0, slots := 0, locals := 72 } (dC, dI) classes (Tys cI cL cZ) [.ref bk, .int k0, .ref ot] ((sh_Book cI cL cZ bk bkNa bkN bkSa bkS bkB bkBEa bkBn bkBE bkBC bkBO bkK bkKWa bkKn bkKW bkKTa bkKT bkKC bkV bkVWa bkVn bkVW bkVTa bkVT bkVC bkT) ++ ((sh_Row cI cL cZ ot otEa otn otE otC otO))) none ((sh_Book cI cL cZ bk bkNa bkN bkSa bkS bkB bkBEa bkBn bkBE bkBC bkBO bkK bkKWa bkKn bkKW bkKTa bkKT bkKC bkV bkVWa bkVn bkVW bkVTa bkVT bkVC bkT) ++ ((sh_Row cI cL cZ ot otEa otn otE' otC' otO'))) := by
  refine Ctr.ofW (by decide) (Nat.le_of_ble_eq_true rfl) ?_
  intro p e s m below meth c A ls hx hb hr hml hown hlocks hts hK hN hA hP hD hS hl
  have hown : s.vm.findClass R_ImageWriter = some m.cls := hown
  have hl : lv_has ls 10 [(0, .ref bk), (1, .int k0), (2, .ref ot)] := hl
  have key : ∀ n : Nat, (∀ (x4 : Int32) (x5 : Int32) (x6 : Int32) (x7 : Int32) (otE : Nat → Int32) (otC : Int32) (otO : Bool) (ls : Array Slot) (H : Heap) (locs : List Loc), lv_has ls 10 [(2, .ref ot), (3, .ref bkB), (4, .int x4), (5, .int x5), (6, .int x6), (7, .int x7)] → va_P (dC, dI) classes ((sh_Book cI cL cZ bk bkNa bkN bkSa bkS bkB bkBEa bkBn bkBE bkBC bkBO bkK bkKWa bkKn bkKW bkKTa bkKT bkKC bkV bkVWa bkVn bkVW bkVTa bkVT bkVC bkT) ++ ((sh_Row cI cL cZ ot otEa otn otE otC otO))) H → va_D A ((sh_Book cI cL cZ bk bkNa bkN bkSa bkS bkB bkBEa bkBn bkBE bkBC bkBO bkK bkKWa bkKn bkKW bkKTa bkKT bkKC bkV bkVWa bkVn bkVW bkVTa bkVT bkVC bkT) ++ ((sh_Row cI cL cZ ot otEa otn otE otC otO))) → va_S A s.heap H locs → T_ImageWriter_pack bkBn otn bkS bkBE bkBC bkT otE' otC' otO' n x4 x5 x6 x7 otE otC otO → W p l e ({ frames := 3, cells := 0, slots := 0, locals := 72 }) s m ([.ref bk, .int k0, .ref ot] : List Value).toArray below meth c H locs 0 0 (MQ below (Qs (dC, dI) classes (Tys cI cL cZ) none ((sh_Book cI cL cZ bk bkNa bkN bkSa bkS bkB bkBEa bkBn bkBE bkBC bkBO bkK bkKWa bkKn bkKW bkKTa bkKT bkKC bkV bkVWa bkVn bkVW bkVTa bkVT bkVC bkT) ++ ((sh_Row cI cL cZ ot otEa otn otE' otC' otO'))) A) ([.ref bk, .int k0, .ref ot] : List Value).toArray s 0 0 A) (F0 m 26 ls [])) := by
    intro n
    induction n with
    | zero =>
      exact fun _ _ _ _ _ _ _ _ _ _ _ _ _ _ hd => False.elim hd
    | succ n ih =>
      · intro x4 x5 x6 x7 otE otC otO ls H locs hl hP hD hS hd
        have hd : B_ImageWriter_pack_26 bkBn otn bkS bkBE bkBC bkT otE' otC' otO' (T_ImageWriter_pack bkBn otn bkS bkBE bkBC bkT otE' otC' otO' n) x4 x5 x6 x7 otE otC otO := hd
        refine lv_iload hx hb d_ImageWriter_pack_26 (lv_at hl 5 rfl) ?_
        refine lv_iload hx hb d_ImageWriter_pack_28 (lv_at hl 3 rfl) ?_
        refine lv_icmp_ge (tgt := 114) hx hb d_ImageWriter_pack_30 (by decide) (fun h30 => ?_) (fun h30 => ?_)
        · have hd := hd.1 h30
          obtain ⟨e0, e1, e2⟩ := hd
          subst e0
          subst e1
          subst e2
          exact ct_vret hx hb hr hlocks hK hP hD hS d_ImageWriter_pack_114
        · have hd := hd.2 h30
          refine lv_aload_n hx hb d_ImageWriter_pack_33 rfl (lv_at hl 1 rfl) ?_
          refine lv_iload hx hb d_ImageWriter_pack_34 (lv_at hl 2 rfl) ?_
          refine lv_iload hx hb d_ImageWriter_pack_36 (lv_at hl 5 rfl) ?_
          refine lv_iload hx hb d_ImageWriter_pack_38 (lv_at hl 3 rfl) ?_
          obtain ⟨r40, c40, hd⟩ := hd
          refine ct_SR (As := [.ref bkB, .int x4, .int x7, .int x5]) (rest := []) ⟨hx, hb, hml, hown, hts⟩ fm_ImageWriter_bestDistance (c_ImageWriter_bestDistance l dC dI cI cL cZ bkB bkBEa bkBn bkBE bkBC bkBO x4 x7 x5 r40 c40) k209_methodLink k210_static ⟨Nat.le_of_ble_eq_true rfl, Nat.le_of_ble_eq_true rfl⟩ rfl rfl hK hN hP hD [3, 4] rfl rfl (by decide) rfl hl.1 rfl (Nat.le_of_ble_eq_true rfl) d_ImageWriter_pack_40 ?_
          refine lv_istore (lv' := [(8, .int r40), (2, .ref ot), (3, .ref bkB), (4, .int x4), (5, .int x5), (6, .int x6), (7, .int x7)]) hx hb d_ImageWriter_pack_43 hl (by decide) rfl (fun ls hl => ?_)
          refine lv_iload hx hb d_ImageWriter_pack_45 (lv_at hl 0 rfl) ?_
          refine lv_iconst (v := (-1)) hx hb d_ImageWriter_pack_47 (by decide) ?_
          refine lv_icmp_ne (tgt := 71) hx hb d_ImageWriter_pack_48 (by decide) (fun h48 => ?_) (fun h48 => ?_)
          · have hd := hd.2 h48
            refine lv_aload_n hx hb d_ImageWriter_pack_71 rfl (lv_at hl 2 rfl) ?_
            refine lv_iload hx hb d_ImageWriter_pack_72 (lv_at hl 6 rfl) ?_
            refine lv_iload hx hb d_ImageWriter_pack_74 (lv_at hl 0 rfl) ?_
            refine lv_iload hx hb d_ImageWriter_pack_76 (lv_at hl 4 rfl) ?_
            obtain ⟨r78, c78, hd⟩ := hd
            refine ct_SR (As := [.ref bkB, .int x7, .int r40, .int x5]) (rest := []) ⟨hx, hb, hml, hown, hts⟩ fm_ImageWriter_alike (c_ImageWriter_alike l dC dI cI cL cZ bkB bkBEa bkBn bkBE bkBC bkBO x7 r40 x5 r78 c78) k204_methodLink k205_static ⟨Nat.le_of_ble_eq_true rfl, Nat.le_of_ble_eq_true rfl⟩ rfl rfl hK hN hP hD [3, 4] rfl rfl (by decide) rfl hl.1 rfl (Nat.le_of_ble_eq_true rfl) d_ImageWriter_pack_78 ?_
            refine lv_istore (lv' := [(9, .int r78), (8, .int r40), (2, .ref ot), (3, .ref bkB), (4, .int x4), (5, .int x5), (6, .int x6), (7, .int x7)]) hx hb d_ImageWriter_pack_81 hl (by decide) rfl (fun ls hl => ?_)
            refine lv_aload_n hx hb d_ImageWriter_pack_83 rfl (lv_at hl 2 rfl) ?_
            refine lv_sipush (v := 128) hx hb d_ImageWriter_pack_84 (by decide) ?_
            refine lv_iload hx hb d_ImageWriter_pack_87 (lv_at hl 0 rfl) ?_
            refine lv_iadd hx hb d_ImageWriter_pack_89 ?_
            refine lv_iconst (v := 3) hx hb d_ImageWriter_pack_90 (by decide) ?_
            refine lv_isub hx hb d_ImageWriter_pack_91 ?_
            obtain ⟨otE_92, otC_92, otO_92, c92, hd⟩ := hd
            refine ct_V (As := [.int ((128 + r78) - 3)]) (rest := []) (C := R_Row) (ci := 1) (q := (R_Row, F_Row, 3)) ⟨hx, hb, hml, hown, hts⟩ fm_Row_append (c_Row_append l dC dI cI cL cZ ot otEa otn otE otC otO ((128 + r78) - 3) otE_92 otC_92 otO_92 c92) k197_methodLink k8_instanceMethod k9_selects ⟨Nat.le_of_ble_eq_true rfl, Nat.le_of_ble_eq_true rfl⟩ rfl rfl hK hN hP hD hS hA [11, 12] [0, 1, 2, 3, 4, 5, 6, 7, 8, 9, 10] rfl rfl rfl (by decide) (by decide) (by decide) 11 rfl rfl rfl rfl hl.1 rfl (Nat.le_of_ble_eq_true rfl) d_ImageWriter_pack_92 (fun H locs hP hD hS => ?_)
            have hP : va_P (dC, dI) classes ((sh_Book cI cL cZ bk bkNa bkN bkSa bkS bkB bkBEa bkBn bkBE bkBC bkBO bkK bkKWa bkKn bkKW bkKTa bkKT bkKC bkV bkVWa bkVn bkVW bkVTa bkVT bkVC bkT) ++ ((sh_Row cI cL cZ ot otEa otn otE_92 otC_92 otO_92))) H := hP.sub [0, 1, 2, 3, 4, 5, 6, 7, 8, 9, 10, 11, 12] rfl
            have hD : va_D A ((sh_Book cI cL cZ bk bkNa bkN bkSa bkS bkB bkBEa bkBn bkBE bkBC bkBO bkK bkKWa bkKn bkKW bkKTa bkKT bkKC bkV bkVWa bkVn bkVW bkVTa bkVT bkVC bkT) ++ ((sh_Row cI cL cZ ot otEa otn otE_92 otC_92 otO_92))) := hD.sub [0, 1, 2, 3, 4, 5, 6, 7, 8, 9, 10, 11, 12] (by decide) rfl
            refine lv_aload_n hx hb d_ImageWriter_pack_95 rfl (lv_at hl 2 rfl) ?_
            refine lv_iload hx hb d_ImageWriter_pack_96 (lv_at hl 1 rfl) ?_
            obtain ⟨otE_98, otC_98, otO_98, c98, hd⟩ := hd
            refine ct_V (As := [.int r40]) (rest := []) (C := R_Row) (ci := 1) (q := (R_Row, F_Row, 3)) ⟨hx, hb, hml, hown, hts⟩ fm_Row_append (c_Row_append l dC dI cI cL cZ ot otEa otn otE_92 otC_92 otO_92 r40 otE_98 otC_98 otO_98 c98) k197_methodLink k8_instanceMethod k9_selects ⟨Nat.le_of_ble_eq_true rfl, Nat.le_of_ble_eq_true rfl⟩ rfl rfl hK hN hP hD hS hA [11, 12] [0, 1, 2, 3, 4, 5, 6, 7, 8, 9, 10] rfl rfl rfl (by decide) (by decide) (by decide) 11 rfl rfl rfl rfl hl.1 rfl (Nat.le_of_ble_eq_true rfl) d_ImageWriter_pack_98 (fun H locs hP hD hS => ?_)
            have hP : va_P (dC, dI) classes ((sh_Book cI cL cZ bk bkNa bkN bkSa bkS bkB bkBEa bkBn bkBE bkBC bkBO bkK bkKWa bkKn bkKW bkKTa bkKT bkKC bkV bkVWa bkVn bkVW bkVTa bkVT bkVC bkT) ++ ((sh_Row cI cL cZ ot otEa otn otE_98 otC_98 otO_98))) H := hP.sub [0, 1, 2, 3, 4, 5, 6, 7, 8, 9, 10, 11, 12] rfl
            have hD : va_D A ((sh_Book cI cL cZ bk bkNa bkN bkSa bkS bkB bkBEa bkBn bkBE bkBC bkBO bkK bkKWa bkKn bkKW bkKTa bkKT bkKC bkV bkVWa bkVn bkVW bkVTa bkVT bkVC bkT) ++ ((sh_Row cI cL cZ ot otEa otn otE_98 otC_98 otO_98))) := hD.sub [0, 1, 2, 3, 4, 5, 6, 7, 8, 9, 10, 11, 12] (by decide) rfl
            refine lv_iconst (v := (-1)) hx hb d_ImageWriter_pack_101 (by decide) ?_
            refine lv_istore (lv' := [(6, .int (-1)), (9, .int r78), (8, .int r40), (2, .ref ot), (3, .ref bkB), (4, .int x4), (5, .int x5), (7, .int x7)]) hx hb d_ImageWriter_pack_102 hl (by decide) rfl (fun ls hl => ?_)
            refine lv_iload hx hb d_ImageWriter_pack_104 (lv_at hl 7 rfl) ?_
            refine lv_iload hx hb d_ImageWriter_pack_106 (lv_at hl 1 rfl) ?_
            refine lv_iadd hx hb d_ImageWriter_pack_108 ?_
            refine lv_istore (lv' := [(7, .int (x7 + r78)), (6, .int (-1)), (9, .int r78), (8, .int r40), (2, .ref ot), (3, .ref bkB), (4, .int x4), (5, .int x5)]) hx hb d_ImageWriter_pack_109 hl (by decide) rfl (fun ls hl => ?_)
            refine lv_goto (tgt := 26) hx hb d_ImageWriter_pack_111 (by decide) ?_
            exact ih x4 x5 (-1) (x7 + r78) otE_98 otC_98 otO_98 _ _ _ (lv_sub hl [4, 5, 6, 7, 1, 0] rfl) hP hD hS hd
          · have hd := hd.1 h48
            refine lv_aload_n hx hb d_ImageWriter_pack_51 rfl (lv_at hl 2 rfl) ?_
            refine lv_iload hx hb d_ImageWriter_pack_52 (lv_at hl 6 rfl) ?_
            obtain ⟨r54, c54, hd⟩ := hd
            refine ct_VR (As := [.int x7]) (rest := []) (C := R_Row) (ci := 1) (q := (R_Row, F_Row, 3)) ⟨hx, hb, hml, hown, hts⟩ fm_Row_element (c_Row_element l dC dI cI cL cZ bkB bkBEa bkBn bkBE bkBC bkBO x7 r54 c54) k201_methodLink k4_instanceMethod k5_selects ⟨Nat.le_of_ble_eq_true rfl, Nat.le_of_ble_eq_true rfl⟩ rfl rfl hK hN hP hD [3, 4] rfl rfl (by decide) 3 rfl rfl rfl rfl hl.1 rfl (Nat.le_of_ble_eq_true rfl) d_ImageWriter_pack_54 ?_
            refine lv_iload hx hb d_ImageWriter_pack_57 (lv_at hl 5 rfl) ?_
            refine lv_aload_n hx hb d_ImageWriter_pack_59 rfl (lv_at hl 1 rfl) ?_
            obtain ⟨r60, otE_60, otC_60, otO_60, c60, hd⟩ := hd
            refine ct_S (As := [.int r54, .int x6, .ref ot]) (rest := []) ⟨hx, hb, hml, hown, hts⟩ fm_ImageWriter_appendPlain (c_ImageWriter_appendPlain l dC dI cI cL cZ ot otEa otn otE otC otO r54 x6 r60 otE_60 otC_60 otO_60 c60) k211_methodLink k212_static ⟨Nat.le_of_ble_eq_true rfl, Nat.le_of_ble_eq_true rfl⟩ rfl rfl hK hN hP hD hS hA [11, 12] [0, 1, 2, 3, 4, 5, 6, 7, 8, 9, 10] rfl rfl rfl (by decide) (by decide) (by decide) rfl hl.1 rfl (Nat.le_of_ble_eq_true rfl) d_ImageWriter_pack_60 (fun H locs hP hD hS => ?_)
            have hP : va_P (dC, dI) classes ((sh_Book cI cL cZ bk bkNa bkN bkSa bkS bkB bkBEa bkBn bkBE bkBC bkBO bkK bkKWa bkKn bkKW bkKTa bkKT bkKC bkV bkVWa bkVn bkVW bkVTa bkVT bkVC bkT) ++ ((sh_Row cI cL cZ ot otEa otn otE_60 otC_60 otO_60))) H := hP.sub [0, 1, 2, 3, 4, 5, 6, 7, 8, 9, 10, 11, 12] rfl
            have hD : va_D A ((sh_Book cI cL cZ bk bkNa bkN bkSa bkS bkB bkBEa bkBn bkBE bkBC bkBO bkK bkKWa bkKn bkKW bkKTa bkKT bkKC bkV bkVWa bkVn bkVW bkVTa bkVT bkVC bkT) ++ ((sh_Row cI cL cZ ot otEa otn otE_60 otC_60 otO_60))) := hD.sub [0, 1, 2, 3, 4, 5, 6, 7, 8, 9, 10, 11, 12] (by decide) rfl
            refine lv_istore (lv' := [(6, .int r60), (8, .int r40), (2, .ref ot), (3, .ref bkB), (4, .int x4), (5, .int x5), (7, .int x7)]) hx hb d_ImageWriter_pack_63 hl (by decide) rfl (fun ls hl => ?_)
            refine lv_iinc (k := 6) (v := x7 + 1) (lv' := [(7, .int (x7 + 1)), (6, .int r60), (8, .int r40), (2, .ref ot), (3, .ref bkB), (4, .int x4), (5, .int x5)]) hx hb d_ImageWriter_pack_65 hl rfl (congrArg (fun z => x7 + z) (by decide)) (by decide) rfl (fun ls hl => ?_)
            refine lv_goto (tgt := 111) hx hb d_ImageWriter_pack_68 (by decide) ?_
            refine lv_goto (tgt := 26) hx hb d_ImageWriter_pack_111 (by decide) ?_
            exact ih x4 x5 r60 (x7 + 1) otE_60 otC_60 otO_60 _ _ _ (lv_sub hl [3, 4, 5, 6, 1, 0] rfl) hP hD hS hd
  obtain ⟨n, hd⟩ := hd
  refine lv_aload_n hx hb d_ImageWriter_pack_0 rfl (lv_at hl 0 rfl) ?_
  refine ct_VR (As := []) (rest := []) (C := R_Book) (ci := 3) (q := (R_Book, F_Book, 6)) ⟨hx, hb, hml, hown, hts⟩ fm_Book_bodies (c_Book_bodies l dC dI cI cL cZ bk bkNa bkN bkSa bkS bkB bkBEa bkBn bkBE bkBC bkBO bkK bkKWa bkKn bkKW bkKTa bkKT bkKC bkV bkVWa bkVn bkVW bkVTa bkVT bkVC bkT trivial) k206_methodLink k148_instanceMethod k149_selects ⟨Nat.le_of_ble_eq_true rfl, Nat.le_of_ble_eq_true rfl⟩ rfl rfl hK hN hP hD [0, 1, 2, 3, 4, 5, 6, 7, 8, 9, 10] rfl rfl (by decide) 0 rfl rfl rfl rfl hl.1 rfl (Nat.le_of_ble_eq_true rfl) d_ImageWriter_pack_1 ?_
  refine lv_astore_n (lv' := [(3, .ref bkB), (0, .ref bk), (1, .int k0), (2, .ref ot)]) hx hb d_ImageWriter_pack_4 rfl hl (by decide) rfl (fun ls hl => ?_)
  refine lv_aload_n hx hb d_ImageWriter_pack_5 rfl (lv_at hl 1 rfl) ?_
  refine lv_iload_n hx hb d_ImageWriter_pack_6 rfl (lv_at hl 2 rfl) ?_
  obtain ⟨r7, c7, hd⟩ := hd
  refine ct_VR (As := [.int k0]) (rest := []) (C := R_Book) (ci := 3) (q := (R_Book, F_Book, 6)) ⟨hx, hb, hml, hown, hts⟩ fm_Book_bodyStart (c_Book_bodyStart l dC dI cI cL cZ bk bkNa bkN bkSa bkS bkB bkBEa bkBn bkBE bkBC bkBO bkK bkKWa bkKn bkKW bkKTa bkKT bkKC bkV bkVWa bkVn bkVW bkVTa bkVT bkVC bkT k0 r7 c7) k207_methodLink k80_instanceMethod k81_selects ⟨Nat.le_of_ble_eq_true rfl, Nat.le_of_ble_eq_true rfl⟩ rfl rfl hK hN hP hD [0, 1, 2, 3, 4, 5, 6, 7, 8, 9, 10] rfl rfl (by decide) 0 rfl rfl rfl rfl hl.1 rfl (Nat.le_of_ble_eq_true rfl) d_ImageWriter_pack_7 ?_
  refine lv_istore (lv' := [(4, .int r7), (3, .ref bkB), (0, .ref bk), (1, .int k0), (2, .ref ot)]) hx hb d_ImageWriter_pack_10 hl (by decide) rfl (fun ls hl => ?_)
  refine lv_aload_n hx hb d_ImageWriter_pack_12 rfl (lv_at hl 2 rfl) ?_
  refine lv_iload_n hx hb d_ImageWriter_pack_13 rfl (lv_at hl 3 rfl) ?_
  obtain ⟨r14, c14, hd⟩ := hd
  refine ct_VR (As := [.int k0]) (rest := []) (C := R_Book) (ci := 3) (q := (R_Book, F_Book, 6)) ⟨hx, hb, hml, hown, hts⟩ fm_Book_bodyEnd (c_Book_bodyEnd l dC dI cI cL cZ bk bkNa bkN bkSa bkS bkB bkBEa bkBn bkBE bkBC bkBO bkK bkKWa bkKn bkKW bkKTa bkKT bkKC bkV bkVWa bkVn bkVW bkVTa bkVT bkVC bkT k0 r14 c14) k208_methodLink k77_instanceMethod k78_selects ⟨Nat.le_of_ble_eq_true rfl, Nat.le_of_ble_eq_true rfl⟩ rfl rfl hK hN hP hD [0, 1, 2, 3, 4, 5, 6, 7, 8, 9, 10] rfl rfl (by decide) 0 rfl rfl rfl rfl hl.1 rfl (Nat.le_of_ble_eq_true rfl) d_ImageWriter_pack_14 ?_
  refine lv_istore (lv' := [(5, .int r14), (4, .int r7), (3, .ref bkB), (0, .ref bk), (1, .int k0), (2, .ref ot)]) hx hb d_ImageWriter_pack_17 hl (by decide) rfl (fun ls hl => ?_)
  refine lv_iconst (v := (-1)) hx hb d_ImageWriter_pack_19 (by decide) ?_
  refine lv_istore (lv' := [(6, .int (-1)), (5, .int r14), (4, .int r7), (3, .ref bkB), (0, .ref bk), (1, .int k0), (2, .ref ot)]) hx hb d_ImageWriter_pack_20 hl (by decide) rfl (fun ls hl => ?_)
  refine lv_iload hx hb d_ImageWriter_pack_22 (lv_at hl 2 rfl) ?_
  refine lv_istore (lv' := [(7, .int r7), (6, .int (-1)), (5, .int r14), (4, .int r7), (3, .ref bkB), (0, .ref bk), (1, .int k0), (2, .ref ot)]) hx hb d_ImageWriter_pack_24 hl (by decide) rfl (fun ls hl => ?_)
  exact (key n) r7 r14 (-1) r7 otE otC otO _ _ _ (lv_sub hl [7, 4, 3, 2, 1, 0] rfl) hP hD hS hd
-- ImageWriter.writeLeaf
abbrev b_ImageWriter_writeLeaf : ByteArray := prog_5_method_10_code
def y_ImageWriter_writeLeaf : MethodName := ⟨"HelpFile$ImageWriter", "writeLeaf", "(LHelpFile$WordList;ILHelpFile$Row;)V"⟩
theorem k213_methodLink : Cond.methodLink "HelpFile$ImageWriter" 106 ⟨"HelpFile$WordList", "count", "()I"⟩ ∈ ga := ga_t 499 (by decide +kernel) rfl
theorem k214_methodLink : Cond.methodLink "HelpFile$ImageWriter" 126 ⟨"java/lang/Math", "min", "(II)I"⟩ ∈ ga := ga_t 515 (by decide +kernel) rfl
theorem k215_static : Cond.static ⟨"java/lang/Math", "min", "(II)I"⟩ ∈ ga := ga_t 516 (by decide +kernel) rfl
set_option maxRecDepth 100000 in
theorem k216_code : (Jvm.Cond.code ({ cls := "java/lang/Math", name := "min", desc := "(II)I" } : Jvm.MethodName) prog_20_method_69_code (2 : Nat) (Option.some Jvm.ClassFile.FieldType.int)) ∈ ga := ga_t 517 rfl rfl
theorem k217_methodLink : Cond.methodLink "HelpFile$ImageWriter" 131 ⟨"HelpFile$WordList", "word", "(I)J"⟩ ∈ ga := ga_t 518 (by decide +kernel) rfl
theorem k218_methodLink : Cond.methodLink "HelpFile$ImageWriter" 134 ⟨"HelpFile$ImageWriter", "writeWord", "(JLHelpFile$Row;)V"⟩ ∈ ga := ga_t 522 (by decide +kernel) rfl
theorem k219_static : Cond.static ⟨"HelpFile$ImageWriter", "writeWord", "(JLHelpFile$Row;)V"⟩ ∈ ga := ga_t 523 (by decide +kernel) rfl
theorem k220_methodLink : Cond.methodLink "HelpFile$ImageWriter" 137 ⟨"HelpFile$WordList", "topics", "(I)I"⟩ ∈ ga := ga_t 528 (by decide +kernel) rfl
theorem k221_methodLink : Cond.methodLink "HelpFile$ImageWriter" 38 ⟨"HelpFile$Row", "appendPair", "(I)V"⟩ ∈ ga := ga_t 464 (by decide +kernel) rfl
theorem k222_instanceMethod : Cond.instanceMethod ⟨"HelpFile$Row", "appendPair", "(I)V"⟩ ∈ ga := ga_t 465 (by decide +kernel) rfl
theorem k223_selects : Cond.selects "HelpFile$Row" ⟨"HelpFile$Row", "appendPair", "(I)V"⟩ ⟨"HelpFile$Row", "appendPair", "(I)V"⟩ ∈ ga := ga_t 466 (by decide +kernel) rfl
set_option maxRecDepth 100000 in
theorem fm_ImageWriter_writeLeaf : Fm y_ImageWriter_writeLeaf b_ImageWriter_writeLeaf 5 none 3 := ⟨ga_t 514 rfl rfl, k198_initialized, by decide, by decide, by decide +kernel⟩
def B_ImageWriter_writeLeaf_19 (wln : Nat) (otn : Nat) (wlW : Nat → Int64) (wlT : Nat → Int32) (wlC : Int32) (otE' : Nat → Int32) (otC' : Int32) (otO' : Bool) (X : Int32 → Int32 → Int32 → (Nat → Int32) → Int32 → Bool → Prop) (x1 : Int32) (x3 : Int32) (x4 : Int32) (otE : Nat → Int32) (otC : Int32) (otO : Bool) : Prop := (((x1 + x3) ≤ x4 → (otE' = otE ∧ otC' = otC ∧ otO' = otO)) ∧ (¬ ((x1 + x3) ≤ x4) → (∃ r30 : Int64, D_WordList_word wln x4 wlW wlC r30 ∧ (∃ otE_34 : Nat → Int32, ∃ otC_34 : Int32, ∃ otO_34 : Bool, D_ImageWriter_writeWord otn r30 otE otC otO otE_34 otC_34 otO_34 ∧ (∃ r41 : Int32, D_WordList_topics wln x4 wlT wlC r41 ∧ (∃ otE_44 : Nat → Int32, ∃ otC_44 : Int32, ∃ otO_44 : Bool, D_Row_appendPair otn r41 otE_34 otC_34 otO_34 otE_44 otC_44 otO_44 ∧ X x1 x3 (x4 + 1) otE_44 otC_44 otO_44))))))
def S_ImageWriter_writeLeaf (wln : Nat) (otn : Nat) (wlW : Nat → Int64) (wlT : Nat → Int32) (wlC : Int32) (otE' : Nat → Int32) (otC' : Int32) (otO' : Bool) (X : Int32 → Int32 → Int32 → (Nat → Int32) → Int32 → Bool → Prop) : Int32 → Int32 → Int32 → (Nat → Int32) → Int32 → Bool → Prop := fun x1 x3 x4 otE otC otO => B_ImageWriter_writeLeaf_19 wln otn wlW wlT wlC otE' otC' otO' X x1 x3 x4 otE otC otO
def T_ImageWriter_writeLeaf (wln : Nat) (otn : Nat) (wlW : Nat → Int64) (wlT : Nat → Int32) (wlC : Int32) (otE' : Nat → Int32) (otC' : Int32) (otO' : Bool) : Nat → (Int32 → Int32 → Int32 → (Nat → Int32) → Int32 → Bool → Prop)
  | 0 => fun _ _ _ _ _ _ => False
  | n + 1 => S_ImageWriter_writeLeaf wln otn wlW wlT wlC otE' otC' otO' (T_ImageWriter_writeLeaf wln otn wlW wlT wlC otE' otC' otO' n)
def D_ImageWriter_writeLeaf (wln : Nat) (otn : Nat) (k0 : Int32) (wlW : Nat → Int64) (wlT : Nat → Int32) (wlC : Int32) (otE : Nat → Int32) (otC : Int32) (otO : Bool) (otE' : Nat → Int32) (otC' : Int32) (otO' : Bool) : Prop := ∃ n : Nat, (∃ otE_13 : Nat → Int32, ∃ otC_13 : Int32, ∃ otO_13 : Bool, D_Row_append otn (if (wlC - k0) < 4 then (wlC - k0) else 4) otE otC otO otE_13 otC_13 otO_13 ∧ T_ImageWriter_writeLeaf wln otn wlW wlT wlC otE' otC' otO' n k0 (if (wlC - k0) < 4 then (wlC - k0) else 4) k0 otE_13 otC_13 otO_13)
theorem d_ImageWriter_writeLeaf_0 : decode b_ImageWriter_writeLeaf 0 = .ok (.iconst 4, 1) := by decide +kernel
theorem d_ImageWriter_writeLeaf_1 : decode b_ImageWriter_writeLeaf 1 = .ok (.aload_n 0, 1) := by decide +kernel
theorem d_ImageWriter_writeLeaf_2 : decode b_ImageWriter_writeLeaf 2 = .ok (.invokevirtual 106, 3) := by decide +kernel
theorem d_ImageWriter_writeLeaf_5 : decode b_ImageWriter_writeLeaf 5 = .ok (.iload_n 1, 1) := by decide +kernel
theorem d_ImageWriter_writeLeaf_6 : decode b_ImageWriter_writeLeaf 6 = .ok (.isub, 1) := by decide +kernel
theorem d_ImageWriter_writeLeaf_7 : decode b_ImageWriter_writeLeaf 7 = .ok (.invokestatic 126, 3) := by decide +kernel
theorem d_ImageWriter_writeLeaf_10 : decode b_ImageWriter_writeLeaf 10 = .ok (.istore_n 3, 1) := by decide +kernel
theorem d_ImageWriter_writeLeaf_11 : decode b_ImageWriter_writeLeaf 11 = .ok (.aload_n 2, 1) := by decide +kernel
theorem d_ImageWriter_writeLeaf_12 : decode b_ImageWriter_writeLeaf 12 = .ok (.iload_n 3, 1) := by decide +kernel
theorem d_ImageWriter_writeLeaf_13 : decode b_ImageWriter_writeLeaf 13 = .ok (.invokevirtual 15, 3) := by decide +kernel
theorem d_ImageWriter_writeLeaf_16 : decode b_ImageWriter_writeLeaf 16 = .ok (.iload_n 1, 1) := by decide +kernel
theorem d_ImageWriter_writeLeaf_17 : decode b_ImageWriter_writeLeaf 17 = .ok (.istore 4, 2) := by decide +kernel
theorem d_ImageWriter_writeLeaf_19 : decode b_ImageWriter_writeLeaf 19 = .ok (.iload 4, 2) := by decide +kernel
theorem d_ImageWriter_writeLeaf_21 : decode b_ImageWriter_writeLeaf 21 = .ok (.iload_n 1, 1) := by decide +kernel
theorem d_ImageWriter_writeLeaf_22 : decode b_ImageWriter_writeLeaf 22 = .ok (.iload_n 3, 1) := by decide +kernel
theorem d_ImageWriter_writeLeaf_23 : decode b_ImageWriter_writeLeaf 23 = .ok (.iadd, 1) := by decide +kernel
theorem d_ImageWriter_writeLeaf_24 : decode b_ImageWriter_writeLeaf 24 = .ok (.if_icmp .ge 29, 3) := by decide +kernel
theorem d_ImageWriter_writeLeaf_27 : decode b_ImageWriter_writeLeaf 27 = .ok (.aload_n 0, 1) := by decide +kernel
theorem d_ImageWriter_writeLeaf_28 : decode b_ImageWriter_writeLeaf 28 = .ok (.iload 4, 2) := by decide +kernel
theorem d_ImageWriter_writeLeaf_30 : decode b_ImageWriter_writeLeaf 30 = .ok (.invokevirtual 131, 3) := by decide +kernel
theorem d_ImageWriter_writeLeaf_33 : decode b_ImageWriter_writeLeaf 33 = .ok (.aload_n 2, 1) := by decide +kernel
theorem d_ImageWriter_writeLeaf_34 : decode b_ImageWriter_writeLeaf 34 = .ok (.invokestatic 134, 3) := by decide +kernel
theorem d_ImageWriter_writeLeaf_37 : decode b_ImageWriter_writeLeaf 37 = .ok (.aload_n 2, 1) := by decide +kernel
theorem d_ImageWriter_writeLeaf_38 : decode b_ImageWriter_writeLeaf 38 = .ok (.aload_n 0, 1) := by decide +kernel
theorem d_ImageWriter_writeLeaf_39 : decode b_ImageWriter_writeLeaf 39 = .ok (.iload 4, 2) := by decide +kernel
theorem d_ImageWriter_writeLeaf_41 : decode b_ImageWriter_writeLeaf 41 = .ok (.invokevirtual 137, 3) := by decide +kernel
theorem d_ImageWriter_writeLeaf_44 : decode b_ImageWriter_writeLeaf 44 = .ok (.invokevirtual 38, 3) := by decide +kernel
theorem d_ImageWriter_writeLeaf_47 : decode b_ImageWriter_writeLeaf 47 = .ok (.iinc 4 1, 3) := by decide +kernel
theorem d_ImageWriter_writeLeaf_50 : decode b_ImageWriter_writeLeaf 50 = .ok (.goto (-31), 3) := by decide +kernel
theorem d_ImageWriter_writeLeaf_53 : decode b_ImageWriter_writeLeaf 53 = .ok (.return_, 1) := by decide +kernel
set_option maxHeartbeats 4000000 in
set_option maxRecDepth 100000 in
theorem c_ImageWriter_writeLeaf (l : Launch) (dC : Nat → ClassId) (dI : Nat → Nat → Nat) (cI cL cZ : ClassId) (wl : Nat) (wlWa : Nat) (wln : Nat) (wlW : Nat → Int64) (wlTa : Nat) (wlT : Nat → Int32) (wlC : Int32) (ot : Nat) (otEa : Nat) (otn : Nat) (otE : Nat → Int32) (otC : Int32) (otO : Bool) (k0 : Int32) (otE' : Nat → Int32) (otC' : Int32) (otO' : Bool) (hd : D_ImageWriter_writeLeaf wln otn k0 wlW wlT wlC otE otC otO otE' otC' otO') : Ctr l y_ImageWriter_writeLeaf (Cond.code y_ImageWriter_writeLeaf b_ImageWriter_writeLeaf 5 none :: ga) { frames := 2, cells := 0, slots := 0, locals := 47 } (dC, dI) classes (Tys cI cL cZ) [.ref wl, .int k0, .ref ot] ((sh_WordList cI cL cZ wl wlWa wln wlW wlTa wlT wlC) ++ ((sh_Row cI cL cZ ot otEa otn otE otC otO))) none ((sh_WordList cI cL cZ wl wlWa wln wlW wlTa wlT wlC) ++ ((sh_Row cI cL cZ ot otEa otn otE' otC' otO'))) := by
  refine Ctr.ofW (by decide) (Nat.le_of_ble_eq_true rfl) ?_
  intro p e s m below meth c A ls hx hb hr hml hown hlocks hts hK hN hA hP hD hS hl
  have hown : s.vm.findClass R_ImageWriter = some m.cls := hown
  have hl : lv_has ls 5 [(0, .ref wl), (1, .int k0), (2, .ref ot)] := hl
  have key : ∀ n : Nat, (∀ (x1 : Int32) (x3 : Int32) (x4 : Int32) (otE : Nat → Int32) (otC : Int32) (otO : Bool) (ls : Array Slot) (H : Heap) (locs : List Loc), lv_has ls 5 [(0, .ref wl), (1, .int x1), (2, .ref ot), (3, .int x3), (4, .int x4)] → va_P (dC, dI) classes ((sh_WordList cI cL cZ wl wlWa wln wlW wlTa wlT wlC) ++ ((sh_Row cI cL cZ ot otEa otn otE otC otO))) H → va_D A ((sh_WordList cI cL cZ wl wlWa wln wlW wlTa wlT wlC) ++ ((sh_Row cI cL cZ ot otEa otn otE otC otO))) → va_S A s.heap H locs → T_ImageWriter_writeLeaf wln otn wlW wlT wlC otE' otC' otO' n x1 x3 x4 otE otC otO → W p l e ({ frames := 2, cells := 0, slots := 0, locals := 47 }) s m ([.ref wl, .int k0, .ref ot] : List Value).toArray below meth c H locs 0 0 (MQ below (Qs (dC, dI) classes (Tys cI cL cZ) none ((sh_WordList cI cL cZ wl wlWa wln wlW wlTa wlT wlC) ++ ((sh_Row cI cL cZ ot otEa otn otE' otC' otO'))) A) ([.ref wl, .int k0, .ref ot] : List Value).toArray s 0 0 A) (F0 m 19 ls [])) := by
    intro n
    induction n with
    | zero =>
      exact fun _ _ _ _ _ _ _ _ _ _ _ _ _ hd => False.elim hd
    | succ n ih =>
      · intro x1 x3 x4 otE otC otO ls H locs hl hP hD hS hd
        have hd : B_ImageWriter_writeLeaf_19 wln otn wlW wlT wlC otE' otC' otO' (T_ImageWriter_writeLeaf wln otn wlW wlT wlC otE' otC' otO' n) x1 x3 x4 otE otC otO := hd
        refine lv_iload hx hb d_ImageWriter_writeLeaf_19 (lv_at hl 4 rfl) ?_
        refine lv_iload_n hx hb d_ImageWriter_writeLeaf_21 rfl (lv_at hl 1 rfl) ?_
        refine lv_iload_n hx hb d_ImageWriter_writeLeaf_22 rfl (lv_at hl 3 rfl) ?_
        refine lv_iadd hx hb d_ImageWriter_writeLeaf_23 ?_
        refine lv_icmp_ge (tgt := 53) hx hb d_ImageWriter_writeLeaf_24 (by decide) (fun h24 => ?_) (fun h24 => ?_)
        · have hd := hd.1 h24
          obtain ⟨e0, e1, e2⟩ := hd
          subst e0
          subst e1
          subst e2
          exact ct_vret hx hb hr hlocks hK hP hD hS d_ImageWriter_writeLeaf_53
        · have hd := hd.2 h24
          refine lv_aload_n hx hb d_ImageWriter_writeLeaf_27 rfl (lv_at hl 0 rfl) ?_
          refine lv_iload hx hb d_ImageWriter_writeLeaf_28 (lv_at hl 4 rfl) ?_
          obtain ⟨r30, c30, hd⟩ := hd
          refine ct_VR (As := [.int x4]) (rest := []) (C := R_WordList) (ci := 2) (q := (R_WordList, F_WordList, 3)) ⟨hx, hb, hml, hown, hts⟩ fm_WordList_word (c_WordList_word l dC dI cI cL cZ wl wlWa wln wlW wlTa wlT wlC x4 r30 c30) k217_methodLink k50_instanceMethod k51_selects ⟨Nat.le_of_ble_eq_true rfl, Nat.le_of_ble_eq_true rfl⟩ rfl rfl hK hN hP hD [0, 1, 2] rfl rfl (by decide) 0 rfl rfl rfl rfl hl.1 rfl (Nat.le_of_ble_eq_true rfl) d_ImageWriter_writeLeaf_30 ?_
          refine lv_aload_n hx hb d_ImageWriter_writeLeaf_33 rfl (lv_at hl 2 rfl) ?_
          obtain ⟨otE_34, otC_34, otO_34, c34, hd⟩ := hd
          refine ct_S (As := [.long r30, .ref ot]) (rest := []) ⟨hx, hb, hml, hown, hts⟩ fm_ImageWriter_writeWord (c_ImageWriter_writeWord l dC dI cI cL cZ ot otEa otn otE otC otO r30 otE_34 otC_34 otO_34 c34) k218_methodLink k219_static ⟨Nat.le_of_ble_eq_true rfl, Nat.le_of_ble_eq_true rfl⟩ rfl rfl hK hN hP hD hS hA [3, 4] [0, 1, 2] rfl rfl rfl (by decide) (by decide) (by decide) rfl hl.1 rfl (Nat.le_of_ble_eq_true rfl) d_ImageWriter_writeLeaf_34 (fun H locs hP hD hS => ?_)
          have hP : va_P (dC, dI) classes ((sh_WordList cI cL cZ wl wlWa wln wlW wlTa wlT wlC) ++ ((sh_Row cI cL cZ ot otEa otn otE_34 otC_34 otO_34))) H := hP.sub [0, 1, 2, 3, 4] rfl
          have hD : va_D A ((sh_WordList cI cL cZ wl wlWa wln wlW wlTa wlT wlC) ++ ((sh_Row cI cL cZ ot otEa otn otE_34 otC_34 otO_34))) := hD.sub [0, 1, 2, 3, 4] (by decide) rfl
          refine lv_aload_n hx hb d_ImageWriter_writeLeaf_37 rfl (lv_at hl 2 rfl) ?_
          refine lv_aload_n hx hb d_ImageWriter_writeLeaf_38 rfl (lv_at hl 0 rfl) ?_
          refine lv_iload hx hb d_ImageWriter_writeLeaf_39 (lv_at hl 4 rfl) ?_
          obtain ⟨r41, c41, hd⟩ := hd
          refine ct_VR (As := [.int x4]) (rest := [.ref ot]) (C := R_WordList) (ci := 2) (q := (R_WordList, F_WordList, 3)) ⟨hx, hb, hml, hown, hts⟩ fm_WordList_topics (c_WordList_topics l dC dI cI cL cZ wl wlWa wln wlW wlTa wlT wlC x4 r41 c41) k220_methodLink k101_instanceMethod k102_selects ⟨Nat.le_of_ble_eq_true rfl, Nat.le_of_ble_eq_true rfl⟩ rfl rfl hK hN hP hD [0, 1, 2] rfl rfl (by decide) 0 rfl rfl rfl rfl hl.1 rfl (Nat.le_of_ble_eq_true rfl) d_ImageWriter_writeLeaf_41 ?_
          obtain ⟨otE_44, otC_44, otO_44, c44, hd⟩ := hd
          refine ct_V (As := [.int r41]) (rest := []) (C := R_Row) (ci := 1) (q := (R_Row, F_Row, 3)) ⟨hx, hb, hml, hown, hts⟩ fm_Row_appendPair (c_Row_appendPair l dC dI cI cL cZ ot otEa otn otE_34 otC_34 otO_34 r41 otE_44 otC_44 otO_44 c44) k221_methodLink k222_instanceMethod k223_selects ⟨Nat.le_of_ble_eq_true rfl, Nat.le_of_ble_eq_true rfl⟩ rfl rfl hK hN hP hD hS hA [3, 4] [0, 1, 2] rfl rfl rfl (by decide) (by decide) (by decide) 3 rfl rfl rfl rfl hl.1 rfl (Nat.le_of_ble_eq_true rfl) d_ImageWriter_writeLeaf_44 (fun H locs hP hD hS => ?_)
          have hP : va_P (dC, dI) classes ((sh_WordList cI cL cZ wl wlWa wln wlW wlTa wlT wlC) ++ ((sh_Row cI cL cZ ot otEa otn otE_44 otC_44 otO_44))) H := hP.sub [0, 1, 2, 3, 4] rfl
          have hD : va_D A ((sh_WordList cI cL cZ wl wlWa wln wlW wlTa wlT wlC) ++ ((sh_Row cI cL cZ ot otEa otn otE_44 otC_44 otO_44))) := hD.sub [0, 1, 2, 3, 4] (by decide) rfl
          refine lv_iinc (k := 4) (v := x4 + 1) (lv' := [(4, .int (x4 + 1)), (0, .ref wl), (1, .int x1), (2, .ref ot), (3, .int x3)]) hx hb d_ImageWriter_writeLeaf_47 hl rfl (congrArg (fun z => x4 + z) (by decide)) (by decide) rfl (fun ls hl => ?_)
          refine lv_goto (tgt := 19) hx hb d_ImageWriter_writeLeaf_50 (by decide) ?_
          exact ih x1 x3 (x4 + 1) otE_44 otC_44 otO_44 _ _ _ (lv_sub hl [1, 2, 3, 4, 0] rfl) hP hD hS hd
  obtain ⟨n, hd⟩ := hd
  refine lv_iconst (v := 4) hx hb d_ImageWriter_writeLeaf_0 (by decide) ?_
  refine lv_aload_n hx hb d_ImageWriter_writeLeaf_1 rfl (lv_at hl 0 rfl) ?_
  refine ct_VR (As := []) (rest := [.int 4]) (C := R_WordList) (ci := 2) (q := (R_WordList, F_WordList, 3)) ⟨hx, hb, hml, hown, hts⟩ fm_WordList_count (c_WordList_count l dC dI cI cL cZ wl wlWa wln wlW wlTa wlT wlC wlC rfl) k213_methodLink k47_instanceMethod k48_selects ⟨Nat.le_of_ble_eq_true rfl, Nat.le_of_ble_eq_true rfl⟩ rfl rfl hK hN hP hD [0, 1, 2] rfl rfl (by decide) 0 rfl rfl rfl rfl hl.1 rfl (Nat.le_of_ble_eq_true rfl) d_ImageWriter_writeLeaf_2 ?_
  refine lv_iload_n hx hb d_ImageWriter_writeLeaf_5 rfl (lv_at hl 1 rfl) ?_
  refine lv_isub hx hb d_ImageWriter_writeLeaf_6 ?_
  refine va_mmin hx hb (by rw [hml]; exact hl.1.symm) hown (hts _ (List.mem_cons_of_mem _ k214_methodLink)) (hts _ (List.mem_cons_of_mem _ k215_static)) (hts _ (List.mem_cons_of_mem _ k39_initialized)) (hts _ (List.mem_cons_of_mem _ k216_code)) (Nat.le_of_ble_eq_true rfl) (Nat.le_of_ble_eq_true rfl) (Nat.zero_le _) (Nat.zero_le _) d_ImageWriter_writeLeaf_7 ?_
  refine lv_istore_n (lv' := [(3, .int (if (wlC - k0) < 4 then (wlC - k0) else 4)), (0, .ref wl), (1, .int k0), (2, .ref ot)]) hx hb d_ImageWriter_writeLeaf_10 rfl hl (by decide) rfl (fun ls hl => ?_)
  refine lv_aload_n hx hb d_ImageWriter_writeLeaf_11 rfl (lv_at hl 3 rfl) ?_
  refine lv_iload_n hx hb d_ImageWriter_writeLeaf_12 rfl (lv_at hl 0 rfl) ?_
  obtain ⟨otE_13, otC_13, otO_13, c13, hd⟩ := hd
  refine ct_V (As := [.int (if (wlC - k0) < 4 then (wlC - k0) else 4)]) (rest := []) (C := R_Row) (ci := 1) (q := (R_Row, F_Row, 3)) ⟨hx, hb, hml, hown, hts⟩ fm_Row_append (c_Row_append l dC dI cI cL cZ ot otEa otn otE otC otO (if (wlC - k0) < 4 then (wlC - k0) else 4) otE_13 otC_13 otO_13 c13) k197_methodLink k8_instanceMethod k9_selects ⟨Nat.le_of_ble_eq_true rfl, Nat.le_of_ble_eq_true rfl⟩ rfl rfl hK hN hP hD hS hA [3, 4] [0, 1, 2] rfl rfl rfl (by decide) (by decide) (by decide) 3 rfl rfl rfl rfl hl.1 rfl (Nat.le_of_ble_eq_true rfl) d_ImageWriter_writeLeaf_13 (fun H locs hP hD hS => ?_)
  have hP : va_P (dC, dI) classes ((sh_WordList cI cL cZ wl wlWa wln wlW wlTa wlT wlC) ++ ((sh_Row cI cL cZ ot otEa otn otE_13 otC_13 otO_13))) H := hP.sub [0, 1, 2, 3, 4] rfl
  have hD : va_D A ((sh_WordList cI cL cZ wl wlWa wln wlW wlTa wlT wlC) ++ ((sh_Row cI cL cZ ot otEa otn otE_13 otC_13 otO_13))) := hD.sub [0, 1, 2, 3, 4] (by decide) rfl
  refine lv_iload_n hx hb d_ImageWriter_writeLeaf_16 rfl (lv_at hl 2 rfl) ?_
  refine lv_istore (lv' := [(4, .int k0), (3, .int (if (wlC - k0) < 4 then (wlC - k0) else 4)), (0, .ref wl), (1, .int k0), (2, .ref ot)]) hx hb d_ImageWriter_writeLeaf_17 hl (by decide) rfl (fun ls hl => ?_)
  exact (key n) k0 (if (wlC - k0) < 4 then (wlC - k0) else 4) k0 otE_13 otC_13 otO_13 _ _ _ (lv_sub hl [2, 3, 4, 1, 0] rfl) hP hD hS hd
-- ImageWriter.writeRowAbove
abbrev b_ImageWriter_writeRowAbove : ByteArray := prog_5_method_11_code
def y_ImageWriter_writeRowAbove : MethodName := ⟨"HelpFile$ImageWriter", "writeRowAbove", "(LHelpFile$WordList;IILHelpFile$Row;)V"⟩
theorem k224_methodLink : Cond.methodLink "HelpFile$ImageWriter" 122 ⟨"HelpFile$Tree", "rowNodes", "(II)I"⟩ ∈ ga := ga_t 535 (by decide +kernel) rfl
set_option maxRecDepth 100000 in
theorem fm_ImageWriter_writeRowAbove : Fm y_ImageWriter_writeRowAbove b_ImageWriter_writeRowAbove 6 none 4 := ⟨ga_t 534 rfl rfl, k198_initialized, by decide, by decide, by decide +kernel⟩
def B_ImageWriter_writeRowAbove_13 (wln : Nat) (otn : Nat) (wlW : Nat → Int64) (wlC : Int32) (otE' : Nat → Int32) (otC' : Int32) (otO' : Bool) (X : Nat → Int32 → Int32 → Int32 → Int32 → (Nat → Int32) → Int32 → Bool → Prop) (x1 : Int32) (x2 : Int32) (x4 : Int32) (x5 : Int32) (otE : Nat → Int32) (otC : Int32) (otO : Bool) : Prop := ((x4 ≤ x5 → (otE' = otE ∧ otC' = otC ∧ otO' = otO)) ∧ (¬ (x4 ≤ x5) → (((x5 - x5 / 4 * 4) = 0 → (∃ otE_37 : Nat → Int32, ∃ otC_37 : Int32, ∃ otO_37 : Bool, D_Row_append otn (if (x4 - x5) < 4 then (x4 - x5) else 4) otE otC otO otE_37 otC_37 otO_37 ∧ X 1 x1 x2 x4 x5 otE_37 otC_37 otO_37)) ∧ (¬ ((x5 - x5 / 4 * 4) = 0) → X 1 x1 x2 x4 x5 otE otC otO))))
def B_ImageWriter_writeRowAbove_40 (wln : Nat) (otn : Nat) (wlW : Nat → Int64) (wlC : Int32) (otE' : Nat → Int32) (otC' : Int32) (otO' : Bool) (X : Nat → Int32 → Int32 → Int32 → Int32 → (Nat → Int32) → Int32 → Bool → Prop) (x1 : Int32) (x2 : Int32) (x4 : Int32) (x5 : Int32) (otE : Nat → Int32) (otC : Int32) (otO : Bool) : Prop := (∃ otE_45 : Nat → Int32, ∃ otC_45 : Int32, ∃ otO_45 : Bool, D_Row_append otn (x1 + x5) otE otC otO otE_45 otC_45 otO_45 ∧ (∃ r53 : Int64, D_WordList_word wln (x5 * x2) wlW wlC r53 ∧ (∃ otE_57 : Nat → Int32, ∃ otC_57 : Int32, ∃ otO_57 : Bool, D_ImageWriter_writeWord otn r53 otE_45 otC_45 otO_45 otE_57 otC_57 otO_57 ∧ X 0 x1 x2 x4 (x5 + 1) otE_57 otC_57 otO_57)))
def S_ImageWriter_writeRowAbove (wln : Nat) (otn : Nat) (wlW : Nat → Int64) (wlC : Int32) (otE' : Nat → Int32) (otC' : Int32) (otO' : Bool) (X : Nat → Int32 → Int32 → Int32 → Int32 → (Nat → Int32) → Int32 → Bool → Prop) : Nat → Int32 → Int32 → Int32 → Int32 → (Nat → Int32) → Int32 → Bool → Prop := fun q_lab x1 x2 x4 x5 otE otC otO => match q_lab with | 0 => B_ImageWriter_writeRowAbove_13 wln otn wlW wlC otE' otC' otO' X x1 x2 x4 x5 otE otC otO | 1 => B_ImageWriter_writeRowAbove_40 wln otn wlW wlC otE' otC' otO' X x1 x2 x4 x5 otE otC otO | _ => False
def T_ImageWriter_writeRowAbove (wln : Nat) (otn : Nat) (wlW : Nat → Int64) (wlC : Int32) (otE' : Nat → Int32) (otC' : Int32) (otO' : Bool) : Nat → (Nat → Int32 → Int32 → Int32 → Int32 → (Nat → Int32) → Int32 → Bool → Prop)
  | 0 => fun _ _ _ _ _ _ _ _ => False
  | n + 1 => S_ImageWriter_writeRowAbove wln otn wlW wlC otE' otC' otO' (T_ImageWriter_writeRowAbove wln otn wlW wlC otE' otC' otO' n)
def D_ImageWriter_writeRowAbove (wln : Nat) (otn : Nat) (k0 : Int32) (k1 : Int32) (wlW : Nat → Int64) (wlC : Int32) (otE : Nat → Int32) (otC : Int32) (otO : Bool) (otE' : Nat → Int32) (otC' : Int32) (otO' : Bool) : Prop := ∃ n : Nat, (∃ r5 : Int32, D_Tree_rowNodes wlC k1 r5 ∧ T_ImageWriter_writeRowAbove wln otn wlW wlC otE' otC' otO' n 0 k0 k1 r5 0 otE otC otO)
theorem d_ImageWriter_writeRowAbove_0 : decode b_ImageWriter_writeRowAbove 0 = .ok (.aload_n 0, 1) := by decide +kernel
theorem d_ImageWriter_writeRowAbove_1 : decode b_ImageWriter_writeRowAbove 1 = .ok (.invokevirtual 106, 3) := by decide +kernel
theorem d_ImageWriter_writeRowAbove_4 : decode b_ImageWriter_writeRowAbove 4 = .ok (.iload_n 2, 1) := by decide +kernel
theorem d_ImageWriter_writeRowAbove_5 : decode b_ImageWriter_writeRowAbove 5 = .ok (.invokestatic 122, 3) := by decide +kernel
theorem d_ImageWriter_writeRowAbove_8 : decode b_ImageWriter_writeRowAbove 8 = .ok (.istore 4, 2) := by decide +kernel
theorem d_ImageWriter_writeRowAbove_10 : decode b_ImageWriter_writeRowAbove 10 = .ok (.iconst 0, 1) := by decide +kernel
theorem d_ImageWriter_writeRowAbove_11 : decode b_ImageWriter_writeRowAbove 11 = .ok (.istore 5, 2) := by decide +kernel
theorem d_ImageWriter_writeRowAbove_13 : decode b_ImageWriter_writeRowAbove 13 = .ok (.iload 5, 2) := by decide +kernel
theorem d_ImageWriter_writeRowAbove_15 : decode b_ImageWriter_writeRowAbove 15 = .ok (.iload 4, 2) := by decide +kernel
theorem d_ImageWriter_writeRowAbove_17 : decode b_ImageWriter_writeRowAbove 17 = .ok (.if_icmp .ge 49, 3) := by decide +kernel
theorem d_ImageWriter_writeRowAbove_20 : decode b_ImageWriter_writeRowAbove 20 = .ok (.iload 5, 2) := by decide +kernel
theorem d_ImageWriter_writeRowAbove_22 : decode b_ImageWriter_writeRowAbove 22 = .ok (.iconst 4, 1) := by decide +kernel
theorem d_ImageWriter_writeRowAbove_23 : decode b_ImageWriter_writeRowAbove 23 = .ok (.irem, 1) := by decide +kernel
theorem d_ImageWriter_writeRowAbove_24 : decode b_ImageWriter_writeRowAbove 24 = .ok (.ifCond .ne 16, 3) := by decide +kernel
theorem d_ImageWriter_writeRowAbove_27 : decode b_ImageWriter_writeRowAbove 27 = .ok (.aload_n 3, 1) := by decide +kernel
theorem d_ImageWriter_writeRowAbove_28 : decode b_ImageWriter_writeRowAbove 28 = .ok (.iconst 4, 1) := by decide +kernel
theorem d_ImageWriter_writeRowAbove_29 : decode b_ImageWriter_writeRowAbove 29 = .ok (.iload 4, 2) := by decide +kernel
theorem d_ImageWriter_writeRowAbove_31 : decode b_ImageWriter_writeRowAbove 31 = .ok (.iload 5, 2) := by decide +kernel
theorem d_ImageWriter_writeRowAbove_33 : decode b_ImageWriter_writeRowAbove 33 = .ok (.isub, 1) := by decide +kernel
theorem d_ImageWriter_writeRowAbove_34 : decode b_ImageWriter_writeRowAbove 34 = .ok (.invokestatic 126, 3) := by decide +kernel
theorem d_ImageWriter_writeRowAbove_37 : decode b_ImageWriter_writeRowAbove 37 = .ok (.invokevirtual 15, 3) := by decide +kernel
theorem d_ImageWriter_writeRowAbove_40 : decode b_ImageWriter_writeRowAbove 40 = .ok (.aload_n 3, 1) := by decide +kernel
theorem d_ImageWriter_writeRowAbove_41 : decode b_ImageWriter_writeRowAbove 41 = .ok (.iload_n 1, 1) := by decide +kernel
theorem d_ImageWriter_writeRowAbove_42 : decode b_ImageWriter_writeRowAbove 42 = .ok (.iload 5, 2) := by decide +kernel
theorem d_ImageWriter_writeRowAbove_44 : decode b_ImageWriter_writeRowAbove 44 = .ok (.iadd, 1) := by decide +kernel
theorem d_ImageWriter_writeRowAbove_45 : decode b_ImageWriter_writeRowAbove 45 = .ok (.invokevirtual 15, 3) := by decide +kernel
theorem d_ImageWriter_writeRowAbove_48 : decode b_ImageWriter_writeRowAbove 48 = .ok (.aload_n 0, 1) := by decide +kernel
theorem d_ImageWriter_writeRowAbove_49 : decode b_ImageWriter_writeRowAbove 49 = .ok (.iload 5, 2) := by decide +kernel
theorem d_ImageWriter_writeRowAbove_51 : decode b_ImageWriter_writeRowAbove 51 = .ok (.iload_n 2, 1) := by decide +kernel
theorem d_ImageWriter_writeRowAbove_52 : decode b_ImageWriter_writeRowAbove 52 = .ok (.imul, 1) := by decide +kernel
theorem d_ImageWriter_writeRowAbove_53 : decode b_ImageWriter_writeRowAbove 53 = .ok (.invokevirtual 131, 3) := by decide +kernel
theorem d_ImageWriter_writeRowAbove_56 : decode b_ImageWriter_writeRowAbove 56 = .ok (.aload_n 3, 1) := by decide +kernel
theorem d_ImageWriter_writeRowAbove_57 : decode b_ImageWriter_writeRowAbove 57 = .ok (.invokestatic 134, 3) := by decide +kernel
theorem d_ImageWriter_writeRowAbove_60 : decode b_ImageWriter_writeRowAbove 60 = .ok (.iinc 5 1, 3) := by decide +kernel
theorem d_ImageWriter_writeRowAbove_63 : decode b_ImageWriter_writeRowAbove 63 = .ok (.goto (-50), 3) := by decide +kernel
theorem d_ImageWriter_writeRowAbove_66 : decode b_ImageWriter_writeRowAbove 66 = .ok (.return_, 1) := by decide +kernel
set_option maxHeartbeats 4000000 in
set_option maxRecDepth 100000 in
theorem c_ImageWriter_writeRowAbove (l : Launch) (dC : Nat → ClassId) (dI : Nat → Nat → Nat) (cI cL cZ : ClassId) (wl : Nat) (wlWa : Nat) (wln : Nat) (wlW : Nat → Int64) (wlTa : Nat) (wlT : Nat → Int32) (wlC : Int32) (ot : Nat) (otEa : Nat) (otn : Nat) (otE : Nat → Int32) (otC : Int32) (otO : Bool) (k0 : Int32) (k1 : Int32) (otE' : Nat → Int32) (otC' : Int32) (otO' : Bool) (hd : D_ImageWriter_writeRowAbove wln otn k0 k1 wlW wlC otE otC otO otE' otC' otO') : Ctr l y_ImageWriter_writeRowAbove (Cond.code y_ImageWriter_writeRowAbove b_ImageWriter_writeRowAbove 6 none :: ga) { frames := 2, cells := 0, slots := 0, locals := 47 } (dC, dI) classes (Tys cI cL cZ) [.ref wl, .int k0, .int k1, .ref ot] ((sh_WordList cI cL cZ wl wlWa wln wlW wlTa wlT wlC) ++ ((sh_Row cI cL cZ ot otEa otn otE otC otO))) none ((sh_WordList cI cL cZ wl wlWa wln wlW wlTa wlT wlC) ++ ((sh_Row cI cL cZ ot otEa otn otE' otC' otO'))) := by
  refine Ctr.ofW (by decide) (Nat.le_of_ble_eq_true rfl) ?_
  intro p e s m below meth c A ls hx hb hr hml hown hlocks hts hK hN hA hP hD hS hl
  have hown : s.vm.findClass R_ImageWriter = some m.cls := hown
  have hl : lv_has ls 6 [(0, .ref wl), (1, .int k0), (2, .int k1), (3, .ref ot)] := hl
  have key : ∀ n : Nat, (∀ (x1 : Int32) (x2 : Int32) (x4 : Int32) (x5 : Int32) (otE : Nat → Int32) (otC : Int32) (otO : Bool) (ls : Array Slot) (H : Heap) (locs : List Loc), lv_has ls 6 [(0, .ref wl), (1, .int x1), (2, .int x2), (3, .ref ot), (4, .int x4), (5, .int x5)] → va_P (dC, dI) classes ((sh_WordList cI cL cZ wl wlWa wln wlW wlTa wlT wlC) ++ ((sh_Row cI cL cZ ot otEa otn otE otC otO))) H → va_D A ((sh_WordList cI cL cZ wl wlWa wln wlW wlTa wlT wlC) ++ ((sh_Row cI cL cZ ot otEa otn otE otC otO))) → va_S A s.heap H locs → T_ImageWriter_writeRowAbove wln otn wlW wlC otE' otC' otO' n 0 x1 x2 x4 x5 otE otC otO → W p l e ({ frames := 2, cells := 0, slots := 0, locals := 47 }) s m ([.ref wl, .int k0, .int k1, .ref ot] : List Value).toArray below meth c H locs 0 0 (MQ below (Qs (dC, dI) classes (Tys cI cL cZ) none ((sh_WordList cI cL cZ wl wlWa wln wlW wlTa wlT wlC) ++ ((sh_Row cI cL cZ ot otEa otn otE' otC' otO'))) A) ([.ref wl, .int k0, .int k1, .ref ot] : List Value).toArray s 0 0 A) (F0 m 13 ls [])) ∧ (∀ (x1 : Int32) (x2 : Int32) (x4 : Int32) (x5 : Int32) (otE : Nat → Int32) (otC : Int32) (otO : Bool) (ls : Array Slot) (H : Heap) (locs : List Loc), lv_has ls 6 [(0, .ref wl), (1, .int x1), (2, .int x2), (3, .ref ot), (4, .int x4), (5, .int x5)] → va_P (dC, dI) classes ((sh_WordList cI cL cZ wl wlWa wln wlW wlTa wlT wlC) ++ ((sh_Row cI cL cZ ot otEa otn otE otC otO))) H → va_D A ((sh_WordList cI cL cZ wl wlWa wln wlW wlTa wlT wlC) ++ ((sh_Row cI cL cZ ot otEa otn otE otC otO))) → va_S A s.heap H locs → T_ImageWriter_writeRowAbove wln otn wlW wlC otE' otC' otO' n 1 x1 x2 x4 x5 otE otC otO → W p l e ({ frames := 2, cells := 0, slots := 0, locals := 47 }) s m ([.ref wl, .int k0, .int k1, .ref ot] : List Value).toArray below meth c H locs 0 0 (MQ below (Qs (dC, dI) classes (Tys cI cL cZ) none ((sh_WordList cI cL cZ wl wlWa wln wlW wlTa wlT wlC) ++ ((sh_Row cI cL cZ ot otEa otn otE' otC' otO'))) A) ([.ref wl, .int k0, .int k1, .ref ot] : List Value).toArray s 0 0 A) (F0 m 40 ls [])) := by
    intro n
    induction n with
    | zero =>
      exact ⟨fun _ _ _ _ _ _ _ _ _ _ _ _ _ _ hd => False.elim hd, fun _ _ _ _ _ _ _ _ _ _ _ _ _ _ hd => False.elim hd⟩
    | succ n ih =>
      refine ⟨?_, ?_⟩
      · intro x1 x2 x4 x5 otE otC otO ls H locs hl hP hD hS hd
        have hd : B_ImageWriter_writeRowAbove_13 wln otn wlW wlC otE' otC' otO' (T_ImageWriter_writeRowAbove wln otn wlW wlC otE' otC' otO' n) x1 x2 x4 x5 otE otC otO := hd
        refine lv_iload hx hb d_ImageWriter_writeRowAbove_13 (lv_at hl 5 rfl) ?_
        refine lv_iload hx hb d_ImageWriter_writeRowAbove_15 (lv_at hl 4 rfl) ?_
        refine lv_icmp_ge (tgt := 66) hx hb d_ImageWriter_writeRowAbove_17 (by decide) (fun h17 => ?_) (fun h17 => ?_)
        · have hd := hd.1 h17
          obtain ⟨e0, e1, e2⟩ := hd
          subst e0
          subst e1
          subst e2
          exact ct_vret hx hb hr hlocks hK hP hD hS d_ImageWriter_writeRowAbove_66
        · have hd := hd.2 h17
          refine lv_iload hx hb d_ImageWriter_writeRowAbove_20 (lv_at hl 5 rfl) ?_
          refine lv_iconst (v := 4) hx hb d_ImageWriter_writeRowAbove_22 (by decide) ?_
          refine lv_irem hx hb d_ImageWriter_writeRowAbove_23 (by decide) ?_
          refine lv_if_ne (tgt := 40) hx hb d_ImageWriter_writeRowAbove_24 (by decide) (fun h24 => ?_) (fun h24 => ?_)
          · have hd := hd.2 h24
            exact ih.2 x1 x2 x4 x5 otE otC otO _ _ _ (lv_sub hl [0, 1, 2, 3, 4, 5] rfl) hP hD hS hd
          · have hd := hd.1 h24
            refine lv_aload_n hx hb d_ImageWriter_writeRowAbove_27 rfl (lv_at hl 3 rfl) ?_
            refine lv_iconst (v := 4) hx hb d_ImageWriter_writeRowAbove_28 (by decide) ?_
            refine lv_iload hx hb d_ImageWriter_writeRowAbove_29 (lv_at hl 4 rfl) ?_
            refine lv_iload hx hb d_ImageWriter_writeRowAbove_31 (lv_at hl 5 rfl) ?_
            refine lv_isub hx hb d_ImageWriter_writeRowAbove_33 ?_
            refine va_mmin hx hb (by rw [hml]; exact hl.1.symm) hown (hts _ (List.mem_cons_of_mem _ k214_methodLink)) (hts _ (List.mem_cons_of_mem _ k215_static)) (hts _ (List.mem_cons_of_mem _ k39_initialized)) (hts _ (List.mem_cons_of_mem _ k216_code)) (Nat.le_of_ble_eq_true rfl) (Nat.le_of_ble_eq_true rfl) (Nat.zero_le _) (Nat.zero_le _) d_ImageWriter_writeRowAbove_34 ?_
            obtain ⟨otE_37, otC_37, otO_37, c37, hd⟩ := hd
            refine ct_V (As := [.int (if (x4 - x5) < 4 then (x4 - x5) else 4)]) (rest := []) (C := R_Row) (ci := 1) (q := (R_Row, F_Row, 3)) ⟨hx, hb, hml, hown, hts⟩ fm_Row_append (c_Row_append l dC dI cI cL cZ ot otEa otn otE otC otO (if (x4 - x5) < 4 then (x4 - x5) else 4) otE_37 otC_37 otO_37 c37) k197_methodLink k8_instanceMethod k9_selects ⟨Nat.le_of_ble_eq_true rfl, Nat.le_of_ble_eq_true rfl⟩ rfl rfl hK hN hP hD hS hA [3, 4] [0, 1, 2] rfl rfl rfl (by decide) (by decide) (by decide) 3 rfl rfl rfl rfl hl.1 rfl (Nat.le_of_ble_eq_true rfl) d_ImageWriter_writeRowAbove_37 (fun H locs hP hD hS => ?_)
            have hP : va_P (dC, dI) classes ((sh_WordList cI cL cZ wl wlWa wln wlW wlTa wlT wlC) ++ ((sh_Row cI cL cZ ot otEa otn otE_37 otC_37 otO_37))) H := hP.sub [0, 1, 2, 3, 4] rfl
            have hD : va_D A ((sh_WordList cI cL cZ wl wlWa wln wlW wlTa wlT wlC) ++ ((sh_Row cI cL cZ ot otEa otn otE_37 otC_37 otO_37))) := hD.sub [0, 1, 2, 3, 4] (by decide) rfl
            exact ih.2 x1 x2 x4 x5 otE_37 otC_37 otO_37 _ _ _ (lv_sub hl [0, 1, 2, 3, 4, 5] rfl) hP hD hS hd
      · intro x1 x2 x4 x5 otE otC otO ls H locs hl hP hD hS hd
        have hd : B_ImageWriter_writeRowAbove_40 wln otn wlW wlC otE' otC' otO' (T_ImageWriter_writeRowAbove wln otn wlW wlC otE' otC' otO' n) x1 x2 x4 x5 otE otC otO := hd
        refine lv_aload_n hx hb d_ImageWriter_writeRowAbove_40 rfl (lv_at hl 3 rfl) ?_
        refine lv_iload_n hx hb d_ImageWriter_writeRowAbove_41 rfl (lv_at hl 1 rfl) ?_
        refine lv_iload hx hb d_ImageWriter_writeRowAbove_42 (lv_at hl 5 rfl) ?_
        refine lv_iadd hx hb d_ImageWriter_writeRowAbove_44 ?_
        obtain ⟨otE_45, otC_45, otO_45, c45, hd⟩ := hd
        refine ct_V (As := [.int (x1 + x5)]) (rest := []) (C := R_Row) (ci := 1) (q := (R_Row, F_Row, 3)) ⟨hx, hb, hml, hown, hts⟩ fm_Row_append (c_Row_append l dC dI cI cL cZ ot otEa otn otE otC otO (x1 + x5) otE_45 otC_45 otO_45 c45) k197_methodLink k8_instanceMethod k9_selects ⟨Nat.le_of_ble_eq_true rfl, Nat.le_of_ble_eq_true rfl⟩ rfl rfl hK hN hP hD hS hA [3, 4] [0, 1, 2] rfl rfl rfl (by decide) (by decide) (by decide) 3 rfl rfl rfl rfl hl.1 rfl (Nat.le_of_ble_eq_true rfl) d_ImageWriter_writeRowAbove_45 (fun H locs hP hD hS => ?_)
        have hP : va_P (dC, dI) classes ((sh_WordList cI cL cZ wl wlWa wln wlW wlTa wlT wlC) ++ ((sh_Row cI cL cZ ot otEa otn otE_45 otC_45 otO_45))) H := hP.sub [0, 1, 2, 3, 4] rfl
        have hD : va_D A ((sh_WordList cI cL cZ wl wlWa wln wlW wlTa wlT wlC) ++ ((sh_Row cI cL cZ ot otEa otn otE_45 otC_45 otO_45))) := hD.sub [0, 1, 2, 3, 4] (by decide) rfl
        refine lv_aload_n hx hb d_ImageWriter_writeRowAbove_48 rfl (lv_at hl 0 rfl) ?_
        refine lv_iload hx hb d_ImageWriter_writeRowAbove_49 (lv_at hl 5 rfl) ?_
        refine lv_iload_n hx hb d_ImageWriter_writeRowAbove_51 rfl (lv_at hl 2 rfl) ?_
        refine lv_imul hx hb d_ImageWriter_writeRowAbove_52 ?_
        obtain ⟨r53, c53, hd⟩ := hd
        refine ct_VR (As := [.int (x5 * x2)]) (rest := []) (C := R_WordList) (ci := 2) (q := (R_WordList, F_WordList, 3)) ⟨hx, hb, hml, hown, hts⟩ fm_WordList_word (c_WordList_word l dC dI cI cL cZ wl wlWa wln wlW wlTa wlT wlC (x5 * x2) r53 c53) k217_methodLink k50_instanceMethod k51_selects ⟨Nat.le_of_ble_eq_true rfl, Nat.le_of_ble_eq_true rfl⟩ rfl rfl hK hN hP hD [0, 1, 2] rfl rfl (by decide) 0 rfl rfl rfl rfl hl.1 rfl (Nat.le_of_ble_eq_true rfl) d_ImageWriter_writeRowAbove_53 ?_
        refine lv_aload_n hx hb d_ImageWriter_writeRowAbove_56 rfl (lv_at hl 3 rfl) ?_
        obtain ⟨otE_57, otC_57, otO_57, c57, hd⟩ := hd
        refine ct_S (As := [.long r53, .ref ot]) (rest := []) ⟨hx, hb, hml, hown, hts⟩ fm_ImageWriter_writeWord (c_ImageWriter_writeWord l dC dI cI cL cZ ot otEa otn otE_45 otC_45 otO_45 r53 otE_57 otC_57 otO_57 c57) k218_methodLink k219_static ⟨Nat.le_of_ble_eq_true rfl, Nat.le_of_ble_eq_true rfl⟩ rfl rfl hK hN hP hD hS hA [3, 4] [0, 1, 2] rfl rfl rfl (by decide) (by decide) (by decide) rfl hl.1 rfl (Nat.le_of_ble_eq_true rfl) d_ImageWriter_writeRowAbove_57 (fun H locs hP hD hS => ?_)
        have hP : va_P (dC, dI) classes ((sh_WordList cI cL cZ wl wlWa wln wlW wlTa wlT wlC) ++ ((sh_Row cI cL cZ ot otEa otn otE_57 otC_57 otO_57))) H := hP.sub [0, 1, 2, 3, 4] rfl
        have hD : va_D A ((sh_WordList cI cL cZ wl wlWa wln wlW wlTa wlT wlC) ++ ((sh_Row cI cL cZ ot otEa otn otE_57 otC_57 otO_57))) := hD.sub [0, 1, 2, 3, 4] (by decide) rfl
        refine lv_iinc (k := 5) (v := x5 + 1) (lv' := [(5, .int (x5 + 1)), (0, .ref wl), (1, .int x1), (2, .int x2), (3, .ref ot), (4, .int x4)]) hx hb d_ImageWriter_writeRowAbove_60 hl rfl (congrArg (fun z => x5 + z) (by decide)) (by decide) rfl (fun ls hl => ?_)
        refine lv_goto (tgt := 13) hx hb d_ImageWriter_writeRowAbove_63 (by decide) ?_
        exact ih.1 x1 x2 x4 (x5 + 1) otE_57 otC_57 otO_57 _ _ _ (lv_sub hl [1, 2, 3, 4, 5, 0] rfl) hP hD hS hd
  obtain ⟨n, hd⟩ := hd
  refine lv_aload_n hx hb d_ImageWriter_writeRowAbove_0 rfl (lv_at hl 0 rfl) ?_
  refine ct_VR (As := []) (rest := []) (C := R_WordList) (ci := 2) (q := (R_WordList, F_WordList, 3)) ⟨hx, hb, hml, hown, hts⟩ fm_WordList_count (c_WordList_count l dC dI cI cL cZ wl wlWa wln wlW wlTa wlT wlC wlC rfl) k213_methodLink k47_instanceMethod k48_selects ⟨Nat.le_of_ble_eq_true rfl, Nat.le_of_ble_eq_true rfl⟩ rfl rfl hK hN hP hD [0, 1, 2] rfl rfl (by decide) 0 rfl rfl rfl rfl hl.1 rfl (Nat.le_of_ble_eq_true rfl) d_ImageWriter_writeRowAbove_1 ?_
  refine lv_iload_n hx hb d_ImageWriter_writeRowAbove_4 rfl (lv_at hl 2 rfl) ?_
  obtain ⟨r5, c5, hd⟩ := hd
  refine ct_SR (As := [.int wlC, .int k1]) (rest := []) ⟨hx, hb, hml, hown, hts⟩ fm_Tree_rowNodes (c_Tree_rowNodes l dC dI cI cL cZ wlC k1 r5 c5) k224_methodLink k43_static ⟨Nat.le_of_ble_eq_true rfl, Nat.le_of_ble_eq_true rfl⟩ rfl rfl hK hN hP hD [] rfl rfl (by decide) rfl hl.1 rfl (Nat.le_of_ble_eq_true rfl) d_ImageWriter_writeRowAbove_5 ?_
  refine lv_istore (lv' := [(4, .int r5), (0, .ref wl), (1, .int k0), (2, .int k1), (3, .ref ot)]) hx hb d_ImageWriter_writeRowAbove_8 hl (by decide) rfl (fun ls hl => ?_)
  refine lv_iconst (v := 0) hx hb d_ImageWriter_writeRowAbove_10 (by decide) ?_
  refine lv_istore (lv' := [(5, .int 0), (4, .int r5), (0, .ref wl), (1, .int k0), (2, .int k1), (3, .ref ot)]) hx hb d_ImageWriter_writeRowAbove_11 hl (by decide) rfl (fun ls hl => ?_)
  exact (key n).1 k0 k1 r5 0 otE otC otO _ _ _ (lv_sub hl [2, 3, 4, 5, 1, 0] rfl) hP hD hS hd
-- ImageWriter.writeTree
abbrev b_ImageWriter_writeTree : ByteArray := prog_5_method_9_code
def y_ImageWriter_writeTree : MethodName := ⟨"HelpFile$ImageWriter", "writeTree", "(LHelpFile$WordList;LHelpFile$Row;)V"⟩
theorem k225_methodLink : Cond.methodLink "HelpFile$ImageWriter" 109 ⟨"HelpFile$Tree", "nodes", "(I)I"⟩ ∈ ga := ga_t 503 (by decide +kernel) rfl
theorem k226_methodLink : Cond.methodLink "HelpFile$ImageWriter" 114 ⟨"HelpFile$ImageWriter", "writeLeaf", "(LHelpFile$WordList;ILHelpFile$Row;)V"⟩ ∈ ga := ga_t 512 (by decide +kernel) rfl
theorem k227_static : Cond.static ⟨"HelpFile$ImageWriter", "writeLeaf", "(LHelpFile$WordList;ILHelpFile$Row;)V"⟩ ∈ ga := ga_t 513 (by decide +kernel) rfl
theorem k228_methodLink : Cond.methodLink "HelpFile$ImageWriter" 118 ⟨"HelpFile$ImageWriter", "writeRowAbove", "(LHelpFile$WordList;IILHelpFile$Row;)V"⟩ ∈ ga := ga_t 532 (by decide +kernel) rfl
theorem k229_static : Cond.static ⟨"HelpFile$ImageWriter", "writeRowAbove", "(LHelpFile$WordList;IILHelpFile$Row;)V"⟩ ∈ ga := ga_t 533 (by decide +kernel) rfl
set_option maxRecDepth 100000 in
theorem fm_ImageWriter_writeTree : Fm y_ImageWriter_writeTree b_ImageWriter_writeTree 5 none 2 := ⟨ga_t 498 rfl rfl, k198_initialized, by decide, by decide, by decide +kernel⟩
def B_ImageWriter_writeTree_15 (wln : Nat) (otn : Nat) (wlW : Nat → Int64) (wlT : Nat → Int32) (wlC : Int32) (otE' : Nat → Int32) (otC' : Int32) (otO' : Bool) (X : Nat → Int32 → Int32 → Int32 → (Nat → Int32) → Int32 → Bool → Prop) (x2 : Int32) (x3 : Int32) (otE : Nat → Int32) (otC : Int32) (otO : Bool) : Prop := ((x2 ≤ x3 → X 1 x2 0 4 otE otC otO) ∧ (¬ (x2 ≤ x3) → (∃ otE_23 : Nat → Int32, ∃ otC_23 : Int32, ∃ otO_23 : Bool, D_ImageWriter_writeLeaf wln otn x3 wlW wlT wlC otE otC otO otE_23 otC_23 otO_23 ∧ X 0 x2 (x3 + 4) 0 otE_23 otC_23 otO_23)))
def B_ImageWriter_writeTree_37 (wln : Nat) (otn : Nat) (wlW : Nat → Int64) (wlT : Nat → Int32) (wlC : Int32) (otE' : Nat → Int32) (otC' : Int32) (otO' : Bool) (X : Nat → Int32 → Int32 → Int32 → (Nat → Int32) → Int32 → Bool → Prop) (x2 : Int32) (x3 : Int32) (x4 : Int32) (otE : Nat → Int32) (otC : Int32) (otO : Bool) : Prop := ((x2 ≤ x4 → (otE' = otE ∧ otC' = otC ∧ otO' = otO)) ∧ (¬ (x2 ≤ x4) → (∃ otE_48 : Nat → Int32, ∃ otC_48 : Int32, ∃ otO_48 : Bool, D_ImageWriter_writeRowAbove wln otn x3 x4 wlW wlC otE otC otO otE_48 otC_48 otO_48 ∧ (∃ r55 : Int32, D_Tree_rowNodes x2 x4 r55 ∧ X 1 x2 (x3 + r55) (x4 * 4) otE_48 otC_48 otO_48))))
def S_ImageWriter_writeTree (wln : Nat) (otn : Nat) (wlW : Nat → Int64) (wlT : Nat → Int32) (wlC : Int32) (otE' : Nat → Int32) (otC' : Int32) (otO' : Bool) (X : Nat → Int32 → Int32 → Int32 → (Nat → Int32) → Int32 → Bool → Prop) : Nat → Int32 → Int32 → Int32 → (Nat → Int32) → Int32 → Bool → Prop := fun q_lab x2 x3 x4 otE otC otO => match q_lab with | 0 => B_ImageWriter_writeTree_15 wln otn wlW wlT wlC otE' otC' otO' X x2 x3 otE otC otO | 1 => B_ImageWriter_writeTree_37 wln otn wlW wlT wlC otE' otC' otO' X x2 x3 x4 otE otC otO | _ => False
def T_ImageWriter_writeTree (wln : Nat) (otn : Nat) (wlW : Nat → Int64) (wlT : Nat → Int32) (wlC : Int32) (otE' : Nat → Int32) (otC' : Int32) (otO' : Bool) : Nat → (Nat → Int32 → Int32 → Int32 → (Nat → Int32) → Int32 → Bool → Prop)
  | 0 => fun _ _ _ _ _ _ _ => False
  | n + 1 => S_ImageWriter_writeTree wln otn wlW wlT wlC otE' otC' otO' (T_ImageWriter_writeTree wln otn wlW wlT wlC otE' otC' otO' n)
def D_ImageWriter_writeTree (wln : Nat) (otn : Nat) (wlW : Nat → Int64) (wlT : Nat → Int32) (wlC : Int32) (otE : Nat → Int32) (otC : Int32) (otO : Bool) (otE' : Nat → Int32) (otC' : Int32) (otO' : Bool) : Prop := ∃ n : Nat, (∃ r7 : Int32, D_Tree_nodes wlC r7 ∧ (∃ otE_10 : Nat → Int32, ∃ otC_10 : Int32, ∃ otO_10 : Bool, D_Row_append otn r7 otE otC otO otE_10 otC_10 otO_10 ∧ T_ImageWriter_writeTree wln otn wlW wlT wlC otE' otC' otO' n 0 wlC 0 0 otE_10 otC_10 otO_10))
theorem d_ImageWriter_writeTree_0 : decode b_ImageWriter_writeTree 0 = .ok (.aload_n 0, 1) := by decide +kernel
theorem d_ImageWriter_writeTree_1 : decode b_ImageWriter_writeTree 1 = .ok (.invokevirtual 106, 3) := by decide +kernel
theorem d_ImageWriter_writeTree_4 : decode b_ImageWriter_writeTree 4 = .ok (.istore_n 2, 1) := by decide +kernel
theorem d_ImageWriter_writeTree_5 : decode b_ImageWriter_writeTree 5 = .ok (.aload_n 1, 1) := by decide +kernel
theorem d_ImageWriter_writeTree_6 : decode b_ImageWriter_writeTree 6 = .ok (.iload_n 2, 1) := by decide +kernel
theorem d_ImageWriter_writeTree_7 : decode b_ImageWriter_writeTree 7 = .ok (.invokestatic 109, 3) := by decide +kernel
theorem d_ImageWriter_writeTree_10 : decode b_ImageWriter_writeTree 10 = .ok (.invokevirtual 15, 3) := by decide +kernel
theorem d_ImageWriter_writeTree_13 : decode b_ImageWriter_writeTree 13 = .ok (.iconst 0, 1) := by decide +kernel
theorem d_ImageWriter_writeTree_14 : decode b_ImageWriter_writeTree 14 = .ok (.istore_n 3, 1) := by decide +kernel
theorem d_ImageWriter_writeTree_15 : decode b_ImageWriter_writeTree 15 = .ok (.iload_n 3, 1) := by decide +kernel
theorem d_ImageWriter_writeTree_16 : decode b_ImageWriter_writeTree 16 = .ok (.iload_n 2, 1) := by decide +kernel
theorem d_ImageWriter_writeTree_17 : decode b_ImageWriter_writeTree 17 = .ok (.if_icmp .ge 15, 3) := by decide +kernel
theorem d_ImageWriter_writeTree_20 : decode b_ImageWriter_writeTree 20 = .ok (.aload_n 0, 1) := by decide +kernel
theorem d_ImageWriter_writeTree_21 : decode b_ImageWriter_writeTree 21 = .ok (.iload_n 3, 1) := by decide +kernel
theorem d_ImageWriter_writeTree_22 : decode b_ImageWriter_writeTree 22 = .ok (.aload_n 1, 1) := by decide +kernel
theorem d_ImageWriter_writeTree_23 : decode b_ImageWriter_writeTree 23 = .ok (.invokestatic 114, 3) := by decide +kernel
theorem d_ImageWriter_writeTree_26 : decode b_ImageWriter_writeTree 26 = .ok (.iinc 3 4, 3) := by decide +kernel
theorem d_ImageWriter_writeTree_29 : decode b_ImageWriter_writeTree 29 = .ok (.goto (-14), 3) := by decide +kernel
theorem d_ImageWriter_writeTree_32 : decode b_ImageWriter_writeTree 32 = .ok (.iconst 0, 1) := by decide +kernel
theorem d_ImageWriter_writeTree_33 : decode b_ImageWriter_writeTree 33 = .ok (.istore_n 3, 1) := by decide +kernel
theorem d_ImageWriter_writeTree_34 : decode b_ImageWriter_writeTree 34 = .ok (.iconst 4, 1) := by decide +kernel
theorem d_ImageWriter_writeTree_35 : decode b_ImageWriter_writeTree 35 = .ok (.istore 4, 2) := by decide +kernel
theorem d_ImageWriter_writeTree_37 : decode b_ImageWriter_writeTree 37 = .ok (.iload 4, 2) := by decide +kernel
theorem d_ImageWriter_writeTree_39 : decode b_ImageWriter_writeTree 39 = .ok (.iload_n 2, 1) := by decide +kernel
theorem d_ImageWriter_writeTree_40 : decode b_ImageWriter_writeTree 40 = .ok (.if_icmp .ge 29, 3) := by decide +kernel
theorem d_ImageWriter_writeTree_43 : decode b_ImageWriter_writeTree 43 = .ok (.aload_n 0, 1) := by decide +kernel
theorem d_ImageWriter_writeTree_44 : decode b_ImageWriter_writeTree 44 = .ok (.iload_n 3, 1) := by decide +kernel
theorem d_ImageWriter_writeTree_45 : decode b_ImageWriter_writeTree 45 = .ok (.iload 4, 2) := by decide +kernel
theorem d_ImageWriter_writeTree_47 : decode b_ImageWriter_writeTree 47 = .ok (.aload_n 1, 1) := by decide +kernel
theorem d_ImageWriter_writeTree_48 : decode b_ImageWriter_writeTree 48 = .ok (.invokestatic 118, 3) := by decide +kernel
theorem d_ImageWriter_writeTree_51 : decode b_ImageWriter_writeTree 51 = .ok (.iload_n 3, 1) := by decide +kernel
theorem d_ImageWriter_writeTree_52 : decode b_ImageWriter_writeTree 52 = .ok (.iload_n 2, 1) := by decide +kernel
theorem d_ImageWriter_writeTree_53 : decode b_ImageWriter_writeTree 53 = .ok (.iload 4, 2) := by decide +kernel
theorem d_ImageWriter_writeTree_55 : decode b_ImageWriter_writeTree 55 = .ok (.invokestatic 122, 3) := by decide +kernel
theorem d_ImageWriter_writeTree_58 : decode b_ImageWriter_writeTree 58 = .ok (.iadd, 1) := by decide +kernel
theorem d_ImageWriter_writeTree_59 : decode b_ImageWriter_writeTree 59 = .ok (.istore_n 3, 1) := by decide +kernel
theorem d_ImageWriter_writeTree_60 : decode b_ImageWriter_writeTree 60 = .ok (.iload 4, 2) := by decide +kernel
theorem d_ImageWriter_writeTree_62 : decode b_ImageWriter_writeTree 62 = .ok (.iconst 4, 1) := by decide +kernel
theorem d_ImageWriter_writeTree_63 : decode b_ImageWriter_writeTree 63 = .ok (.imul, 1) := by decide +kernel
theorem d_ImageWriter_writeTree_64 : decode b_ImageWriter_writeTree 64 = .ok (.istore 4, 2) := by decide +kernel
theorem d_ImageWriter_writeTree_66 : decode b_ImageWriter_writeTree 66 = .ok (.goto (-29), 3) := by decide +kernel
theorem d_ImageWriter_writeTree_69 : decode b_ImageWriter_writeTree 69 = .ok (.return_, 1) := by decide +kernel
set_option maxHeartbeats 4000000 in
set_option maxRecDepth 100000 in
theorem c_ImageWriter_writeTree (l : Launch) (dC : Nat → ClassId) (dI : Nat → Nat → Nat) (cI cL cZ : ClassId) (wl : Nat) (wlWa : Nat) (wln : Nat) (wlW : Nat → Int64) (wlTa : Nat) (wlT : Nat → Int32) (wlC : Int32) (ot : Nat) (otEa : Nat) (otn : Nat) (otE : Nat → Int32) (otC : Int32) (otO : Bool) (otE' : Nat → Int32) (otC' : Int32) (otO' : Bool) (hd : D_ImageWriter_writeTree wln otn wlW wlT wlC otE otC otO otE' otC' otO') : Ctr l y_ImageWriter_writeTree (Cond.code y_ImageWriter_writeTree b_ImageWriter_writeTree 5 none :: ga) { frames := 3, cells := 0, slots := 0, locals := 72 } (dC, dI) classes (Tys cI cL cZ) [.ref wl, .ref ot] ((sh_WordList cI cL cZ wl wlWa wln wlW wlTa wlT wlC) ++ ((sh_Row cI cL cZ ot otEa otn otE otC otO))) none ((sh_WordList cI cL cZ wl wlWa wln wlW wlTa wlT wlC) ++ ((sh_Row cI cL cZ ot otEa otn otE' otC' otO'))) := by
  refine Ctr.ofW (by decide) (Nat.le_of_ble_eq_true rfl) ?_
  intro p e s m below meth c A ls hx hb hr hml hown hlocks hts hK hN hA hP hD hS hl
  have hown : s.vm.findClass R_ImageWriter = some m.cls := hown
  have hl : lv_has ls 5 [(0, .ref wl), (1, .ref ot)] := hl
  have key : ∀ n : Nat, (∀ (x2 : Int32) (x3 : Int32) (otE : Nat → Int32) (otC : Int32) (otO : Bool) (ls : Array Slot) (H : Heap) (locs : List Loc), lv_has ls 5 [(0, .ref wl), (1, .ref ot), (2, .int x2), (3, .int x3)] → va_P (dC, dI) classes ((sh_WordList cI cL cZ wl wlWa wln wlW wlTa wlT wlC) ++ ((sh_Row cI cL cZ ot otEa otn otE otC otO))) H → va_D A ((sh_WordList cI cL cZ wl wlWa wln wlW wlTa wlT wlC) ++ ((sh_Row cI cL cZ ot otEa otn otE otC otO))) → va_S A s.heap H locs → T_ImageWriter_writeTree wln otn wlW wlT wlC otE' otC' otO' n 0 x2 x3 0 otE otC otO → W p l e ({ frames := 3, cells := 0, slots := 0, locals := 72 }) s m ([.ref wl, .ref ot] : List Value).toArray below meth c H locs 0 0 (MQ below (Qs (dC, dI) classes (Tys cI cL cZ) none ((sh_WordList cI cL cZ wl wlWa wln wlW wlTa wlT wlC) ++ ((sh_Row cI cL cZ ot otEa otn otE' otC' otO'))) A) ([.ref wl, .ref ot] : List Value).toArray s 0 0 A) (F0 m 15 ls [])) ∧ (∀ (x2 : Int32) (x3 : Int32) (x4 : Int32) (otE : Nat → Int32) (otC : Int32) (otO : Bool) (ls : Array Slot) (H : Heap) (locs : List Loc), lv_has ls 5 [(0, .ref wl), (1, .ref ot), (2, .int x2), (3, .int x3), (4, .int x4)] → va_P (dC, dI) classes ((sh_WordList cI cL cZ wl wlWa wln wlW wlTa wlT wlC) ++ ((sh_Row cI cL cZ ot otEa otn otE otC otO))) H → va_D A ((sh_WordList cI cL cZ wl wlWa wln wlW wlTa wlT wlC) ++ ((sh_Row cI cL cZ ot otEa otn otE otC otO))) → va_S A s.heap H locs → T_ImageWriter_writeTree wln otn wlW wlT wlC otE' otC' otO' n 1 x2 x3 x4 otE otC otO → W p l e ({ frames := 3, cells := 0, slots := 0, locals := 72 }) s m ([.ref wl, .ref ot] : List Value).toArray below meth c H locs 0 0 (MQ below (Qs (dC, dI) classes (Tys cI cL cZ) none ((sh_WordList cI cL cZ wl wlWa wln wlW wlTa wlT wlC) ++ ((sh_Row cI cL cZ ot otEa otn otE' otC' otO'))) A) ([.ref wl, .ref ot] : List Value).toArray s 0 0 A) (F0 m 37 ls [])) := by
    intro n
    induction n with
    | zero =>
      exact ⟨fun _ _ _ _ _ _ _ _ _ _ _ _ hd => False.elim hd, fun _ _ _ _ _ _ _ _ _ _ _ _ _ hd => False.elim hd⟩
    | succ n ih =>
      refine ⟨?_, ?_⟩
      · intro x2 x3 otE otC otO ls H locs hl hP hD hS hd
        have hd : B_ImageWriter_writeTree_15 wln otn wlW wlT wlC otE' otC' otO' (T_ImageWriter_writeTree wln otn wlW wlT wlC otE' otC' otO' n) x2 x3 otE otC otO := hd
        refine lv_iload_n hx hb d_ImageWriter_writeTree_15 rfl (lv_at hl 3 rfl) ?_
        refine lv_iload_n hx hb d_ImageWriter_writeTree_16 rfl (lv_at hl 2 rfl) ?_
        refine lv_icmp_ge (tgt := 32) hx hb d_ImageWriter_writeTree_17 (by decide) (fun h17 => ?_) (fun h17 => ?_)
        · have hd := hd.1 h17
          refine lv_iconst (v := 0) hx hb d_ImageWriter_writeTree_32 (by decide) ?_
          refine lv_istore_n (lv' := [(3, .int 0), (0, .ref wl), (1, .ref ot), (2, .int x2)]) hx hb d_ImageWriter_writeTree_33 rfl hl (by decide) rfl (fun ls hl => ?_)
          refine lv_iconst (v := 4) hx hb d_ImageWriter_writeTree_34 (by decide) ?_
          refine lv_istore (lv' := [(4, .int 4), (3, .int 0), (0, .ref wl), (1, .ref ot), (2, .int x2)]) hx hb d_ImageWriter_writeTree_35 hl (by decide) rfl (fun ls hl => ?_)
          exact ih.2 x2 0 4 otE otC otO _ _ _ (lv_sub hl [2, 3, 4, 1, 0] rfl) hP hD hS hd
        · have hd := hd.2 h17
          refine lv_aload_n hx hb d_ImageWriter_writeTree_20 rfl (lv_at hl 0 rfl) ?_
          refine lv_iload_n hx hb d_ImageWriter_writeTree_21 rfl (lv_at hl 3 rfl) ?_
          refine lv_aload_n hx hb d_ImageWriter_writeTree_22 rfl (lv_at hl 1 rfl) ?_
          obtain ⟨otE_23, otC_23, otO_23, c23, hd⟩ := hd
          refine ct_S (As := [.ref wl, .int x3, .ref ot]) (rest := []) ⟨hx, hb, hml, hown, hts⟩ fm_ImageWriter_writeLeaf (c_ImageWriter_writeLeaf l dC dI cI cL cZ wl wlWa wln wlW wlTa wlT wlC ot otEa otn otE otC otO x3 otE_23 otC_23 otO_23 c23) k226_methodLink k227_static ⟨Nat.le_of_ble_eq_true rfl, Nat.le_of_ble_eq_true rfl⟩ rfl rfl hK hN hP hD hS hA [0, 1, 2, 3, 4] [] rfl rfl rfl (by decide) (by decide) (by decide) rfl hl.1 rfl (Nat.le_of_ble_eq_true rfl) d_ImageWriter_writeTree_23 (fun H locs hP hD hS => ?_)
          have hP : va_P (dC, dI) classes ((sh_WordList cI cL cZ wl wlWa wln wlW wlTa wlT wlC) ++ ((sh_Row cI cL cZ ot otEa otn otE_23 otC_23 otO_23))) H := hP.sub [0, 1, 2, 3, 4] rfl
          have hD : va_D A ((sh_WordList cI cL cZ wl wlWa wln wlW wlTa wlT wlC) ++ ((sh_Row cI cL cZ ot otEa otn otE_23 otC_23 otO_23))) := hD.sub [0, 1, 2, 3, 4] (by decide) rfl
          refine lv_iinc (k := 3) (v := x3 + 4) (lv' := [(3, .int (x3 + 4)), (0, .ref wl), (1, .ref ot), (2, .int x2)]) hx hb d_ImageWriter_writeTree_26 hl rfl (congrArg (fun z => x3 + z) (by decide)) (by decide) rfl (fun ls hl => ?_)
          refine lv_goto (tgt := 15) hx hb d_ImageWriter_writeTree_29 (by decide) ?_
          exact ih.1 x2 (x3 + 4) otE_23 otC_23 otO_23 _ _ _ (lv_sub hl [1, 2, 3, 0] rfl) hP hD hS hd
      · intro x2 x3 x4 otE otC otO ls H locs hl hP hD hS hd
        have hd : B_ImageWriter_writeTree_37 wln otn wlW wlT wlC otE' otC' otO' (T_ImageWriter_writeTree wln otn wlW wlT wlC otE' otC' otO' n) x2 x3 x4 otE otC otO := hd
        refine lv_iload hx hb d_ImageWriter_writeTree_37 (lv_at hl 4 rfl) ?_
        refine lv_iload_n hx hb d_ImageWriter_writeTree_39 rfl (lv_at hl 2 rfl) ?_
        refine lv_icmp_ge (tgt := 69) hx hb d_ImageWriter_writeTree_40 (by decide) (fun h40 => ?_) (fun h40 => ?_)
        · have hd := hd.1 h40
          obtain ⟨e0, e1, e2⟩ := hd
          subst e0
          subst e1
          subst e2
          exact ct_vret hx hb hr hlocks hK hP hD hS d_ImageWriter_writeTree_69
        · have hd := hd.2 h40
          refine lv_aload_n hx hb d_ImageWriter_writeTree_43 rfl (lv_at hl 0 rfl) ?_
          refine lv_iload_n hx hb d_ImageWriter_writeTree_44 rfl (lv_at hl 3 rfl) ?_
          refine lv_iload hx hb d_ImageWriter_writeTree_45 (lv_at hl 4 rfl) ?_
          refine lv_aload_n hx hb d_ImageWriter_writeTree_47 rfl (lv_at hl 1 rfl) ?_
          obtain ⟨otE_48, otC_48, otO_48, c48, hd⟩ := hd
          refine ct_S (As := [.ref wl, .int x3, .int x4, .ref ot]) (rest := []) ⟨hx, hb, hml, hown, hts⟩ fm_ImageWriter_writeRowAbove (c_ImageWriter_writeRowAbove l dC dI cI cL cZ wl wlWa wln wlW wlTa wlT wlC ot otEa otn otE otC otO x3 x4 otE_48 otC_48 otO_48 c48) k228_methodLink k229_static ⟨Nat.le_of_ble_eq_true rfl, Nat.le_of_ble_eq_true rfl⟩ rfl rfl hK hN hP hD hS hA [0, 1, 2, 3, 4] [] rfl rfl rfl (by decide) (by decide) (by decide) rfl hl.1 rfl (Nat.le_of_ble_eq_true rfl) d_ImageWriter_writeTree_48 (fun H locs hP hD hS => ?_)
          have hP : va_P (dC, dI) classes ((sh_WordList cI cL cZ wl wlWa wln wlW wlTa wlT wlC) ++ ((sh_Row cI cL cZ ot otEa otn otE_48 otC_48 otO_48))) H := hP.sub [0, 1, 2, 3, 4] rfl
          have hD : va_D A ((sh_WordList cI cL cZ wl wlWa wln wlW wlTa wlT wlC) ++ ((sh_Row cI cL cZ ot otEa otn otE_48 otC_48 otO_48))) := hD.sub [0, 1, 2, 3, 4] (by decide) rfl
          refine lv_iload_n hx hb d_ImageWriter_writeTree_51 rfl (lv_at hl 3 rfl) ?_
          refine lv_iload_n hx hb d_ImageWriter_writeTree_52 rfl (lv_at hl 2 rfl) ?_
          refine lv_iload hx hb d_ImageWriter_writeTree_53 (lv_at hl 4 rfl) ?_
          obtain ⟨r55, c55, hd⟩ := hd
          refine ct_SR (As := [.int x2, .int x4]) (rest := [.int x3]) ⟨hx, hb, hml, hown, hts⟩ fm_Tree_rowNodes (c_Tree_rowNodes l dC dI cI cL cZ x2 x4 r55 c55) k224_methodLink k43_static ⟨Nat.le_of_ble_eq_true rfl, Nat.le_of_ble_eq_true rfl⟩ rfl rfl hK hN hP hD [] rfl rfl (by decide) rfl hl.1 rfl (Nat.le_of_ble_eq_true rfl) d_ImageWriter_writeTree_55 ?_
          refine lv_iadd hx hb d_ImageWriter_writeTree_58 ?_
          refine lv_istore_n (lv' := [(3, .int (x3 + r55)), (0, .ref wl), (1, .ref ot), (2, .int x2), (4, .int x4)]) hx hb d_ImageWriter_writeTree_59 rfl hl (by decide) rfl (fun ls hl => ?_)
          refine lv_iload hx hb d_ImageWriter_writeTree_60 (lv_at hl 4 rfl) ?_
          refine lv_iconst (v := 4) hx hb d_ImageWriter_writeTree_62 (by decide) ?_
          refine lv_imul hx hb d_ImageWriter_writeTree_63 ?_
          refine lv_istore (lv' := [(4, .int (x4 * 4)), (3, .int (x3 + r55)), (0, .ref wl), (1, .ref ot), (2, .int x2)]) hx hb d_ImageWriter_writeTree_64 hl (by decide) rfl (fun ls hl => ?_)
          refine lv_goto (tgt := 37) hx hb d_ImageWriter_writeTree_66 (by decide) ?_
          exact ih.2 x2 (x3 + r55) (x4 * 4) otE_48 otC_48 otO_48 _ _ _ (lv_sub hl [2, 3, 4, 1, 0] rfl) hP hD hS hd
  obtain ⟨n, hd⟩ := hd
  refine lv_aload_n hx hb d_ImageWriter_writeTree_0 rfl (lv_at hl 0 rfl) ?_
  refine ct_VR (As := []) (rest := []) (C := R_WordList) (ci := 2) (q := (R_WordList, F_WordList, 3)) ⟨hx, hb, hml, hown, hts⟩ fm_WordList_count (c_WordList_count l dC dI cI cL cZ wl wlWa wln wlW wlTa wlT wlC wlC rfl) k213_methodLink k47_instanceMethod k48_selects ⟨Nat.le_of_ble_eq_true rfl, Nat.le_of_ble_eq_true rfl⟩ rfl rfl hK hN hP hD [0, 1, 2] rfl rfl (by decide) 0 rfl rfl rfl rfl hl.1 rfl (Nat.le_of_ble_eq_true rfl) d_ImageWriter_writeTree_1 ?_
  refine lv_istore_n (lv' := [(2, .int wlC), (0, .ref wl), (1, .ref ot)]) hx hb d_ImageWriter_writeTree_4 rfl hl (by decide) rfl (fun ls hl => ?_)
  refine lv_aload_n hx hb d_ImageWriter_writeTree_5 rfl (lv_at hl 2 rfl) ?_
  refine lv_iload_n hx hb d_ImageWriter_writeTree_6 rfl (lv_at hl 0 rfl) ?_
  obtain ⟨r7, c7, hd⟩ := hd
  refine ct_SR (As := [.int wlC]) (rest := [.ref ot]) ⟨hx, hb, hml, hown, hts⟩ fm_Tree_nodes (c_Tree_nodes l dC dI cI cL cZ wlC r7 c7) k225_methodLink k45_static ⟨Nat.le_of_ble_eq_true rfl, Nat.le_of_ble_eq_true rfl⟩ rfl rfl hK hN hP hD [] rfl rfl (by decide) rfl hl.1 rfl (Nat.le_of_ble_eq_true rfl) d_ImageWriter_writeTree_7 ?_
  obtain ⟨otE_10, otC_10, otO_10, c10, hd⟩ := hd
  refine ct_V (As := [.int r7]) (rest := []) (C := R_Row) (ci := 1) (q := (R_Row, F_Row, 3)) ⟨hx, hb, hml, hown, hts⟩ fm_Row_append (c_Row_append l dC dI cI cL cZ ot otEa otn otE otC otO r7 otE_10 otC_10 otO_10 c10) k197_methodLink k8_instanceMethod k9_selects ⟨Nat.le_of_ble_eq_true rfl, Nat.le_of_ble_eq_true rfl⟩ rfl rfl hK hN hP hD hS hA [3, 4] [0, 1, 2] rfl rfl rfl (by decide) (by decide) (by decide) 3 rfl rfl rfl rfl hl.1 rfl (Nat.le_of_ble_eq_true rfl) d_ImageWriter_writeTree_10 (fun H locs hP hD hS => ?_)
  have hP : va_P (dC, dI) classes ((sh_WordList cI cL cZ wl wlWa wln wlW wlTa wlT wlC) ++ ((sh_Row cI cL cZ ot otEa otn otE_10 otC_10 otO_10))) H := hP.sub [0, 1, 2, 3, 4] rfl
  have hD : va_D A ((sh_WordList cI cL cZ wl wlWa wln wlW wlTa wlT wlC) ++ ((sh_Row cI cL cZ ot otEa otn otE_10 otC_10 otO_10))) := hD.sub [0, 1, 2, 3, 4] (by decide) rfl
  refine lv_iconst (v := 0) hx hb d_ImageWriter_writeTree_13 (by decide) ?_
  refine lv_istore_n (lv' := [(3, .int 0), (2, .int wlC), (0, .ref wl), (1, .ref ot)]) hx hb d_ImageWriter_writeTree_14 rfl hl (by decide) rfl (fun ls hl => ?_)
  exact (key n).1 wlC 0 otE_10 otC_10 otO_10 _ _ _ (lv_sub hl [2, 3, 1, 0] rfl) hP hD hS hd
-- ImageWriter.writeTopics
abbrev b_ImageWriter_writeTopics : ByteArray := prog_5_method_13_code
def y_ImageWriter_writeTopics : MethodName := ⟨"HelpFile$ImageWriter", "writeTopics", "(ILHelpFile$Row;)V"⟩
theorem k230_methodLink : Cond.methodLink "HelpFile$ImageWriter" 143 ⟨"java/lang/Integer", "bitCount", "(I)I"⟩ ∈ ga := ga_t 546 (by decide +kernel) rfl
theorem k231_static : Cond.static ⟨"java/lang/Integer", "bitCount", "(I)I"⟩ ∈ ga := ga_t 547 (by decide +kernel) rfl
set_option maxRecDepth 100000 in
theorem fm_ImageWriter_writeTopics : Fm y_ImageWriter_writeTopics b_ImageWriter_writeTopics 4 none 2 := ⟨ga_t 545 rfl rfl, k198_initialized, by decide, by decide, by decide +kernel⟩
def B_ImageWriter_writeTopics_12 (otn : Nat) (otE' : Nat → Int32) (otC' : Int32) (otO' : Bool) (X : Int32 → Int32 → Int32 → (Nat → Int32) → Int32 → Bool → Prop) (x0 : Int32) (x2 : Int32) (x3 : Int32) (otE : Nat → Int32) (otC : Int32) (otO : Bool) : Prop := ((10 ≤ x3 → (otE' = otE ∧ otC' = otC ∧ otO' = otO)) ∧ (¬ (10 ≤ x3) → ((((x0 >>> (x3 &&& 31)) &&& 1) = 1 → (∃ otE_31 : Nat → Int32, ∃ otC_31 : Int32, ∃ otO_31 : Bool, D_Row_append otn (x3 - x2) otE otC otO otE_31 otC_31 otO_31 ∧ X x0 x3 (x3 + 1) otE_31 otC_31 otO_31)) ∧ (¬ (((x0 >>> (x3 &&& 31)) &&& 1) = 1) → X x0 x2 (x3 + 1) otE otC otO))))
def S_ImageWriter_writeTopics (otn : Nat) (otE' : Nat → Int32) (otC' : Int32) (otO' : Bool) (X : Int32 → Int32 → Int32 → (Nat → Int32) → Int32 → Bool → Prop) : Int32 → Int32 → Int32 → (Nat → Int32) → Int32 → Bool → Prop := fun x0 x2 x3 otE otC otO => B_ImageWriter_writeTopics_12 otn otE' otC' otO' X x0 x2 x3 otE otC otO
def T_ImageWriter_writeTopics (otn : Nat) (otE' : Nat → Int32) (otC' : Int32) (otO' : Bool) : Nat → (Int32 → Int32 → Int32 → (Nat → Int32) → Int32 → Bool → Prop)
  | 0 => fun _ _ _ _ _ _ => False
  | n + 1 => S_ImageWriter_writeTopics otn otE' otC' otO' (T_ImageWriter_writeTopics otn otE' otC' otO' n)
def D_ImageWriter_writeTopics (otn : Nat) (k0 : Int32) (otE : Nat → Int32) (otC : Int32) (otO : Bool) (otE' : Nat → Int32) (otC' : Int32) (otO' : Bool) : Prop := ∃ n : Nat, (∃ otE_5 : Nat → Int32, ∃ otC_5 : Int32, ∃ otO_5 : Bool, D_Row_append otn ((((((((k0 - (((Int32.toUInt32 k0 >>> (Int32.toUInt32 1 &&& Int32.toUInt32 31)).toInt32) &&& 1431655765)) &&& 858993459) + (((Int32.toUInt32 (k0 - (((Int32.toUInt32 k0 >>> (Int32.toUInt32 1 &&& Int32.toUInt32 31)).toInt32) &&& 1431655765)) >>> (Int32.toUInt32 2 &&& Int32.toUInt32 31)).toInt32) &&& 858993459)) + ((Int32.toUInt32 (((k0 - (((Int32.toUInt32 k0 >>> (Int32.toUInt32 1 &&& Int32.toUInt32 31)).toInt32) &&& 1431655765)) &&& 858993459) + (((Int32.toUInt32 (k0 - (((Int32.toUInt32 k0 >>> (Int32.toUInt32 1 &&& Int32.toUInt32 31)).toInt32) &&& 1431655765)) >>> (Int32.toUInt32 2 &&& Int32.toUInt32 31)).toInt32) &&& 858993459)) >>> (Int32.toUInt32 4 &&& Int32.toUInt32 31)).toInt32)) &&& 252645135) + ((Int32.toUInt32 (((((k0 - (((Int32.toUInt32 k0 >>> (Int32.toUInt32 1 &&& Int32.toUInt32 31)).toInt32) &&& 1431655765)) &&& 858993459) + (((Int32.toUInt32 (k0 - (((Int32.toUInt32 k0 >>> (Int32.toUInt32 1 &&& Int32.toUInt32 31)).toInt32) &&& 1431655765)) >>> (Int32.toUInt32 2 &&& Int32.toUInt32 31)).toInt32) &&& 858993459)) + ((Int32.toUInt32 (((k0 - (((Int32.toUInt32 k0 >>> (Int32.toUInt32 1 &&& Int32.toUInt32 31)).toInt32) &&& 1431655765)) &&& 858993459) + (((Int32.toUInt32 (k0 - (((Int32.toUInt32 k0 >>> (Int32.toUInt32 1 &&& Int32.toUInt32 31)).toInt32) &&& 1431655765)) >>> (Int32.toUInt32 2 &&& Int32.toUInt32 31)).toInt32) &&& 858993459)) >>> (Int32.toUInt32 4 &&& Int32.toUInt32 31)).toInt32)) &&& 252645135) >>> (Int32.toUInt32 8 &&& Int32.toUInt32 31)).toInt32)) + ((Int32.toUInt32 ((((((k0 - (((Int32.toUInt32 k0 >>> (Int32.toUInt32 1 &&& Int32.toUInt32 31)).toInt32) &&& 1431655765)) &&& 858993459) + (((Int32.toUInt32 (k0 - (((Int32.toUInt32 k0 >>> (Int32.toUInt32 1 &&& Int32.toUInt32 31)).toInt32) &&& 1431655765)) >>> (Int32.toUInt32 2 &&& Int32.toUInt32 31)).toInt32) &&& 858993459)) + ((Int32.toUInt32 (((k0 - (((Int32.toUInt32 k0 >>> (Int32.toUInt32 1 &&& Int32.toUInt32 31)).toInt32) &&& 1431655765)) &&& 858993459) + (((Int32.toUInt32 (k0 - (((Int32.toUInt32 k0 >>> (Int32.toUInt32 1 &&& Int32.toUInt32 31)).toInt32) &&& 1431655765)) >>> (Int32.toUInt32 2 &&& Int32.toUInt32 31)).toInt32) &&& 858993459)) >>> (Int32.toUInt32 4 &&& Int32.toUInt32 31)).toInt32)) &&& 252645135) + ((Int32.toUInt32 (((((k0 - (((Int32.toUInt32 k0 >>> (Int32.toUInt32 1 &&& Int32.toUInt32 31)).toInt32) &&& 1431655765)) &&& 858993459) + (((Int32.toUInt32 (k0 - (((Int32.toUInt32 k0 >>> (Int32.toUInt32 1 &&& Int32.toUInt32 31)).toInt32) &&& 1431655765)) >>> (Int32.toUInt32 2 &&& Int32.toUInt32 31)).toInt32) &&& 858993459)) + ((Int32.toUInt32 (((k0 - (((Int32.toUInt32 k0 >>> (Int32.toUInt32 1 &&& Int32.toUInt32 31)).toInt32) &&& 1431655765)) &&& 858993459) + (((Int32.toUInt32 (k0 - (((Int32.toUInt32 k0 >>> (Int32.toUInt32 1 &&& Int32.toUInt32 31)).toInt32) &&& 1431655765)) >>> (Int32.toUInt32 2 &&& Int32.toUInt32 31)).toInt32) &&& 858993459)) >>> (Int32.toUInt32 4 &&& Int32.toUInt32 31)).toInt32)) &&& 252645135) >>> (Int32.toUInt32 8 &&& Int32.toUInt32 31)).toInt32)) >>> (Int32.toUInt32 16 &&& Int32.toUInt32 31)).toInt32)) &&& 63) otE otC otO otE_5 otC_5 otO_5 ∧ T_ImageWriter_writeTopics otn otE' otC' otO' n k0 0 0 otE_5 otC_5 otO_5)
theorem d_ImageWriter_writeTopics_0 : decode b_ImageWriter_writeTopics 0 = .ok (.aload_n 1, 1) := by decide +kernel
theorem d_ImageWriter_writeTopics_1 : decode b_ImageWriter_writeTopics 1 = .ok (.iload_n 0, 1) := by decide +kernel
theorem d_ImageWriter_writeTopics_2 : decode b_ImageWriter_writeTopics 2 = .ok (.invokestatic 143, 3) := by decide +kernel
theorem d_ImageWriter_writeTopics_5 : decode b_ImageWriter_writeTopics 5 = .ok (.invokevirtual 15, 3) := by decide +kernel
theorem d_ImageWriter_writeTopics_8 : decode b_ImageWriter_writeTopics 8 = .ok (.iconst 0, 1) := by decide +kernel
theorem d_ImageWriter_writeTopics_9 : decode b_ImageWriter_writeTopics 9 = .ok (.istore_n 2, 1) := by decide +kernel
theorem d_ImageWriter_writeTopics_10 : decode b_ImageWriter_writeTopics 10 = .ok (.iconst 0, 1) := by decide +kernel
theorem d_ImageWriter_writeTopics_11 : decode b_ImageWriter_writeTopics 11 = .ok (.istore_n 3, 1) := by decide +kernel
theorem d_ImageWriter_writeTopics_12 : decode b_ImageWriter_writeTopics 12 = .ok (.iload_n 3, 1) := by decide +kernel
theorem d_ImageWriter_writeTopics_13 : decode b_ImageWriter_writeTopics 13 = .ok (.bipush 10, 2) := by decide +kernel
theorem d_ImageWriter_writeTopics_15 : decode b_ImageWriter_writeTopics 15 = .ok (.if_icmp .ge 27, 3) := by decide +kernel
theorem d_ImageWriter_writeTopics_18 : decode b_ImageWriter_writeTopics 18 = .ok (.iload_n 0, 1) := by decide +kernel
theorem d_ImageWriter_writeTopics_19 : decode b_ImageWriter_writeTopics 19 = .ok (.iload_n 3, 1) := by decide +kernel
theorem d_ImageWriter_writeTopics_20 : decode b_ImageWriter_writeTopics 20 = .ok (.ishr, 1) := by decide +kernel
theorem d_ImageWriter_writeTopics_21 : decode b_ImageWriter_writeTopics 21 = .ok (.iconst 1, 1) := by decide +kernel
theorem d_ImageWriter_writeTopics_22 : decode b_ImageWriter_writeTopics 22 = .ok (.iand, 1) := by decide +kernel
theorem d_ImageWriter_writeTopics_23 : decode b_ImageWriter_writeTopics 23 = .ok (.iconst 1, 1) := by decide +kernel
theorem d_ImageWriter_writeTopics_24 : decode b_ImageWriter_writeTopics 24 = .ok (.if_icmp .ne 12, 3) := by decide +kernel
theorem d_ImageWriter_writeTopics_27 : decode b_ImageWriter_writeTopics 27 = .ok (.aload_n 1, 1) := by decide +kernel
theorem d_ImageWriter_writeTopics_28 : decode b_ImageWriter_writeTopics 28 = .ok (.iload_n 3, 1) := by decide +kernel
theorem d_ImageWriter_writeTopics_29 : decode b_ImageWriter_writeTopics 29 = .ok (.iload_n 2, 1) := by decide +kernel
theorem d_ImageWriter_writeTopics_30 : decode b_ImageWriter_writeTopics 30 = .ok (.isub, 1) := by decide +kernel
theorem d_ImageWriter_writeTopics_31 : decode b_ImageWriter_writeTopics 31 = .ok (.invokevirtual 15, 3) := by decide +kernel
theorem d_ImageWriter_writeTopics_34 : decode b_ImageWriter_writeTopics 34 = .ok (.iload_n 3, 1) := by decide +kernel
theorem d_ImageWriter_writeTopics_35 : decode b_ImageWriter_writeTopics 35 = .ok (.istore_n 2, 1) := by decide +kernel
theorem d_ImageWriter_writeTopics_36 : decode b_ImageWriter_writeTopics 36 = .ok (.iinc 3 1, 3) := by decide +kernel
theorem d_ImageWriter_writeTopics_39 : decode b_ImageWriter_writeTopics 39 = .ok (.goto (-27), 3) := by decide +kernel
theorem d_ImageWriter_writeTopics_42 : decode b_ImageWriter_writeTopics 42 = .ok (.return_, 1) := by decide +kernel
set_option maxHeartbeats 4000000 in
set_option maxRecDepth 100000 in
theorem c_ImageWriter_writeTopics (l : Launch) (dC : Nat → ClassId) (dI : Nat → Nat → Nat) (cI cL cZ : ClassId) (ot : Nat) (otEa : Nat) (otn : Nat) (otE : Nat → Int32) (otC : Int32) (otO : Bool) (k0 : Int32) (otE' : Nat → Int32) (otC' : Int32) (otO' : Bool) (hd : D_ImageWriter_writeTopics otn k0 otE otC otO otE' otC' otO') : Ctr l y_ImageWriter_writeTopics (Cond.code y_ImageWriter_writeTopics b_ImageWriter_writeTopics 4 none :: ga) { frames := 1, cells := 0, slots := 0, locals := 21 } (dC, dI) classes (Tys cI cL cZ) [.int k0, .ref ot] ((sh_Row cI cL cZ ot otEa otn otE otC otO)) none ((sh_Row cI cL cZ ot otEa otn otE' otC' otO')) := by
  refine Ctr.ofW (by decide) (Nat.le_of_ble_eq_true rfl) ?_
  intro p e s m below meth c A ls hx hb hr hml hown hlocks hts hK hN hA hP hD hS hl
  have hown : s.vm.findClass R_ImageWriter = some m.cls := hown
  have hl : lv_has ls 4 [(0, .int k0), (1, .ref ot)] := hl
  have key : ∀ n : Nat, (∀ (x0 : Int32) (x2 : Int32) (x3 : Int32) (otE : Nat → Int32) (otC : Int32) (otO : Bool) (ls : Array Slot) (H : Heap) (locs : List Loc), lv_has ls 4 [(0, .int x0), (1, .ref ot), (2, .int x2), (3, .int x3)] → va_P (dC, dI) classes ((sh_Row cI cL cZ ot otEa otn otE otC otO)) H → va_D A ((sh_Row cI cL cZ ot otEa otn otE otC otO)) → va_S A s.heap H locs → T_ImageWriter_writeTopics otn otE' otC' otO' n x0 x2 x3 otE otC otO → W p l e ({ frames := 1, cells := 0, slots := 0, locals := 21 }) s m ([.int k0, .ref ot] : List Value).toArray below meth c H locs 0 0 (MQ below (Qs (dC, dI) classes (Tys cI cL cZ) none ((sh_Row cI cL cZ ot otEa otn otE' otC' otO')) A) ([.int k0, .ref ot] : List Value).toArray s 0 0 A) (F0 m 12 ls [])) := by
    intro n
    induction n with
    | zero =>
      exact fun _ _ _ _ _ _ _ _ _ _ _ _ _ hd => False.elim hd
    | succ n ih =>
      · intro x0 x2 x3 otE otC otO ls H locs hl hP hD hS hd
        have hd : B_ImageWriter_writeTopics_12 otn otE' otC' otO' (T_ImageWriter_writeTopics otn otE' otC' otO' n) x0 x2 x3 otE otC otO := hd
        refine lv_iload_n hx hb d_ImageWriter_writeTopics_12 rfl (lv_at hl 3 rfl) ?_
        refine lv_bipush (v := 10) hx hb d_ImageWriter_writeTopics_13 (by decide) ?_
        refine lv_icmp_ge (tgt := 42) hx hb d_ImageWriter_writeTopics_15 (by decide) (fun h15 => ?_) (fun h15 => ?_)
        · have hd := hd.1 h15
          obtain ⟨e0, e1, e2⟩ := hd
          subst e0
          subst e1
          subst e2
          exact ct_vret hx hb hr hlocks hK hP hD hS d_ImageWriter_writeTopics_42
        · have hd := hd.2 h15
          refine lv_iload_n hx hb d_ImageWriter_writeTopics_18 rfl (lv_at hl 0 rfl) ?_
          refine lv_iload_n hx hb d_ImageWriter_writeTopics_19 rfl (lv_at hl 3 rfl) ?_
          refine lv_ishr hx hb d_ImageWriter_writeTopics_20 ?_
          refine lv_iconst (v := 1) hx hb d_ImageWriter_writeTopics_21 (by decide) ?_
          refine lv_iand hx hb d_ImageWriter_writeTopics_22 ?_
          refine lv_iconst (v := 1) hx hb d_ImageWriter_writeTopics_23 (by decide) ?_
          refine lv_icmp_ne (tgt := 36) hx hb d_ImageWriter_writeTopics_24 (by decide) (fun h24 => ?_) (fun h24 => ?_)
          · have hd := hd.2 h24
            refine lv_iinc (k := 3) (v := x3 + 1) (lv' := [(3, .int (x3 + 1)), (0, .int x0), (1, .ref ot), (2, .int x2)]) hx hb d_ImageWriter_writeTopics_36 hl rfl (congrArg (fun z => x3 + z) (by decide)) (by decide) rfl (fun ls hl => ?_)
            refine lv_goto (tgt := 12) hx hb d_ImageWriter_writeTopics_39 (by decide) ?_
            exact ih x0 x2 (x3 + 1) otE otC otO _ _ _ (lv_sub hl [1, 2, 3, 0] rfl) hP hD hS hd
          · have hd := hd.1 h24
            refine lv_aload_n hx hb d_ImageWriter_writeTopics_27 rfl (lv_at hl 1 rfl) ?_
            refine lv_iload_n hx hb d_ImageWriter_writeTopics_28 rfl (lv_at hl 3 rfl) ?_
            refine lv_iload_n hx hb d_ImageWriter_writeTopics_29 rfl (lv_at hl 2 rfl) ?_
            refine lv_isub hx hb d_ImageWriter_writeTopics_30 ?_
            obtain ⟨otE_31, otC_31, otO_31, c31, hd⟩ := hd
            refine ct_V (As := [.int (x3 - x2)]) (rest := []) (C := R_Row) (ci := 1) (q := (R_Row, F_Row, 3)) ⟨hx, hb, hml, hown, hts⟩ fm_Row_append (c_Row_append l dC dI cI cL cZ ot otEa otn otE otC otO (x3 - x2) otE_31 otC_31 otO_31 c31) k197_methodLink k8_instanceMethod k9_selects ⟨Nat.le_of_ble_eq_true rfl, Nat.le_of_ble_eq_true rfl⟩ rfl rfl hK hN hP hD hS hA [0, 1] [] rfl rfl rfl (by decide) (by decide) (by decide) 0 rfl rfl rfl rfl hl.1 rfl (Nat.le_of_ble_eq_true rfl) d_ImageWriter_writeTopics_31 (fun H locs hP hD hS => ?_)
            have hP : va_P (dC, dI) classes ((sh_Row cI cL cZ ot otEa otn otE_31 otC_31 otO_31)) H := hP.sub [0, 1] rfl
            have hD : va_D A ((sh_Row cI cL cZ ot otEa otn otE_31 otC_31 otO_31)) := hD.sub [0, 1] (by decide) rfl
            refine lv_iload_n hx hb d_ImageWriter_writeTopics_34 rfl (lv_at hl 3 rfl) ?_
            refine lv_istore_n (lv' := [(2, .int x3), (0, .int x0), (1, .ref ot), (3, .int x3)]) hx hb d_ImageWriter_writeTopics_35 rfl hl (by decide) rfl (fun ls hl => ?_)
            refine lv_iinc (k := 3) (v := x3 + 1) (lv' := [(3, .int (x3 + 1)), (2, .int x3), (0, .int x0), (1, .ref ot)]) hx hb d_ImageWriter_writeTopics_36 hl rfl (congrArg (fun z => x3 + z) (by decide)) (by decide) rfl (fun ls hl => ?_)
            refine lv_goto (tgt := 12) hx hb d_ImageWriter_writeTopics_39 (by decide) ?_
            exact ih x0 x3 (x3 + 1) otE_31 otC_31 otO_31 _ _ _ (lv_sub hl [2, 3, 1, 0] rfl) hP hD hS hd
  obtain ⟨n, hd⟩ := hd
  refine lv_aload_n hx hb d_ImageWriter_writeTopics_0 rfl (lv_at hl 1 rfl) ?_
  refine lv_iload_n hx hb d_ImageWriter_writeTopics_1 rfl (lv_at hl 0 rfl) ?_
  refine ct_SR (As := [.int k0]) (rest := [.ref ot]) ⟨hx, hb, hml, hown, hts⟩ fm_Integer_bitCount (c_Integer_bitCount l dC dI cI cL cZ k0 ((((((((k0 - (((Int32.toUInt32 k0 >>> (Int32.toUInt32 1 &&& Int32.toUInt32 31)).toInt32) &&& 1431655765)) &&& 858993459) + (((Int32.toUInt32 (k0 - (((Int32.toUInt32 k0 >>> (Int32.toUInt32 1 &&& Int32.toUInt32 31)).toInt32) &&& 1431655765)) >>> (Int32.toUInt32 2 &&& Int32.toUInt32 31)).toInt32) &&& 858993459)) + ((Int32.toUInt32 (((k0 - (((Int32.toUInt32 k0 >>> (Int32.toUInt32 1 &&& Int32.toUInt32 31)).toInt32) &&& 1431655765)) &&& 858993459) + (((Int32.toUInt32 (k0 - (((Int32.toUInt32 k0 >>> (Int32.toUInt32 1 &&& Int32.toUInt32 31)).toInt32) &&& 1431655765)) >>> (Int32.toUInt32 2 &&& Int32.toUInt32 31)).toInt32) &&& 858993459)) >>> (Int32.toUInt32 4 &&& Int32.toUInt32 31)).toInt32)) &&& 252645135) + ((Int32.toUInt32 (((((k0 - (((Int32.toUInt32 k0 >>> (Int32.toUInt32 1 &&& Int32.toUInt32 31)).toInt32) &&& 1431655765)) &&& 858993459) + (((Int32.toUInt32 (k0 - (((Int32.toUInt32 k0 >>> (Int32.toUInt32 1 &&& Int32.toUInt32 31)).toInt32) &&& 1431655765)) >>> (Int32.toUInt32 2 &&& Int32.toUInt32 31)).toInt32) &&& 858993459)) + ((Int32.toUInt32 (((k0 - (((Int32.toUInt32 k0 >>> (Int32.toUInt32 1 &&& Int32.toUInt32 31)).toInt32) &&& 1431655765)) &&& 858993459) + (((Int32.toUInt32 (k0 - (((Int32.toUInt32 k0 >>> (Int32.toUInt32 1 &&& Int32.toUInt32 31)).toInt32) &&& 1431655765)) >>> (Int32.toUInt32 2 &&& Int32.toUInt32 31)).toInt32) &&& 858993459)) >>> (Int32.toUInt32 4 &&& Int32.toUInt32 31)).toInt32)) &&& 252645135) >>> (Int32.toUInt32 8 &&& Int32.toUInt32 31)).toInt32)) + ((Int32.toUInt32 ((((((k0 - (((Int32.toUInt32 k0 >>> (Int32.toUInt32 1 &&& Int32.toUInt32 31)).toInt32) &&& 1431655765)) &&& 858993459) + (((Int32.toUInt32 (k0 - (((Int32.toUInt32 k0 >>> (Int32.toUInt32 1 &&& Int32.toUInt32 31)).toInt32) &&& 1431655765)) >>> (Int32.toUInt32 2 &&& Int32.toUInt32 31)).toInt32) &&& 858993459)) + ((Int32.toUInt32 (((k0 - (((Int32.toUInt32 k0 >>> (Int32.toUInt32 1 &&& Int32.toUInt32 31)).toInt32) &&& 1431655765)) &&& 858993459) + (((Int32.toUInt32 (k0 - (((Int32.toUInt32 k0 >>> (Int32.toUInt32 1 &&& Int32.toUInt32 31)).toInt32) &&& 1431655765)) >>> (Int32.toUInt32 2 &&& Int32.toUInt32 31)).toInt32) &&& 858993459)) >>> (Int32.toUInt32 4 &&& Int32.toUInt32 31)).toInt32)) &&& 252645135) + ((Int32.toUInt32 (((((k0 - (((Int32.toUInt32 k0 >>> (Int32.toUInt32 1 &&& Int32.toUInt32 31)).toInt32) &&& 1431655765)) &&& 858993459) + (((Int32.toUInt32 (k0 - (((Int32.toUInt32 k0 >>> (Int32.toUInt32 1 &&& Int32.toUInt32 31)).toInt32) &&& 1431655765)) >>> (Int32.toUInt32 2 &&& Int32.toUInt32 31)).toInt32) &&& 858993459)) + ((Int32.toUInt32 (((k0 - (((Int32.toUInt32 k0 >>> (Int32.toUInt32 1 &&& Int32.toUInt32 31)).toInt32) &&& 1431655765)) &&& 858993459) + (((Int32.toUInt32 (k0 - (((Int32.toUInt32 k0 >>> (Int32.toUInt32 1 &&& Int32.toUInt32 31)).toInt32) &&& 1431655765)) >>> (Int32.toUInt32 2 &&& Int32.toUInt32 31)).toInt32) &&& 858993459)) >>> (Int32.toUInt32 4 &&& Int32.toUInt32 31)).toInt32)) &&& 252645135) >>> (Int32.toUInt32 8 &&& Int32.toUInt32 31)).toInt32)) >>> (Int32.toUInt32 16 &&& Int32.toUInt32 31)).toInt32)) &&& 63) rfl) k230_methodLink k231_static ⟨Nat.le_of_ble_eq_true rfl, Nat.le_of_ble_eq_true rfl⟩ rfl rfl hK hN hP hD [] rfl rfl (by decide) rfl hl.1 rfl (Nat.le_of_ble_eq_true rfl) d_ImageWriter_writeTopics_2 ?_
  obtain ⟨otE_5, otC_5, otO_5, c5, hd⟩ := hd
  refine ct_V (As := [.int ((((((((k0 - (((Int32.toUInt32 k0 >>> (Int32.toUInt32 1 &&& Int32.toUInt32 31)).toInt32) &&& 1431655765)) &&& 858993459) + (((Int32.toUInt32 (k0 - (((Int32.toUInt32 k0 >>> (Int32.toUInt32 1 &&& Int32.toUInt32 31)).toInt32) &&& 1431655765)) >>> (Int32.toUInt32 2 &&& Int32.toUInt32 31)).toInt32) &&& 858993459)) + ((Int32.toUInt32 (((k0 - (((Int32.toUInt32 k0 >>> (Int32.toUInt32 1 &&& Int32.toUInt32 31)).toInt32) &&& 1431655765)) &&& 858993459) + (((Int32.toUInt32 (k0 - (((Int32.toUInt32 k0 >>> (Int32.toUInt32 1 &&& Int32.toUInt32 31)).toInt32) &&& 1431655765)) >>> (Int32.toUInt32 2 &&& Int32.toUInt32 31)).toInt32) &&& 858993459)) >>> (Int32.toUInt32 4 &&& Int32.toUInt32 31)).toInt32)) &&& 252645135) + ((Int32.toUInt32 (((((k0 - (((Int32.toUInt32 k0 >>> (Int32.toUInt32 1 &&& Int32.toUInt32 31)).toInt32) &&& 1431655765)) &&& 858993459) + (((Int32.toUInt32 (k0 - (((Int32.toUInt32 k0 >>> (Int32.toUInt32 1 &&& Int32.toUInt32 31)).toInt32) &&& 1431655765)) >>> (Int32.toUInt32 2 &&& Int32.toUInt32 31)).toInt32) &&& 858993459)) + ((Int32.toUInt32 (((k0 - (((Int32.toUInt32 k0 >>> (Int32.toUInt32 1 &&& Int32.toUInt32 31)).toInt32) &&& 1431655765)) &&& 858993459) + (((Int32.toUInt32 (k0 - (((Int32.toUInt32 k0 >>> (Int32.toUInt32 1 &&& Int32.toUInt32 31)).toInt32) &&& 1431655765)) >>> (Int32.toUInt32 2 &&& Int32.toUInt32 31)).toInt32) &&& 858993459)) >>> (Int32.toUInt32 4 &&& Int32.toUInt32 31)).toInt32)) &&& 252645135) >>> (Int32.toUInt32 8 &&& Int32.toUInt32 31)).toInt32)) + ((Int32.toUInt32 ((((((k0 - (((Int32.toUInt32 k0 >>> (Int32.toUInt32 1 &&& Int32.toUInt32 31)).toInt32) &&& 1431655765)) &&& 858993459) + (((Int32.toUInt32 (k0 - (((Int32.toUInt32 k0 >>> (Int32.toUInt32 1 &&& Int32.toUInt32 31)).toInt32) &&& 1431655765)) >>> (Int32.toUInt32 2 &&& Int32.toUInt32 31)).toInt32) &&& 858993459)) + ((Int32.toUInt32 (((k0 - (((Int32.toUInt32 k0 >>> (Int32.toUInt32 1 &&& Int32.toUInt32 31)).toInt32) &&& 1431655765)) &&& 858993459) + (((Int32.toUInt32 (k0 - (((Int32.toUInt32 k0 >>> (Int32.toUInt32 1 &&& Int32.toUInt32 31)).toInt32) &&& 1431655765)) >>> (Int32.toUInt32 2 &&& Int32.toUInt32 31)).toInt32) &&& 858993459)) >>> (Int32.toUInt32 4 &&& Int32.toUInt32 31)).toInt32)) &&& 252645135) + ((Int32.toUInt32 (((((k0 - (((Int32.toUInt32 k0 >>> (Int32.toUInt32 1 &&& Int32.toUInt32 31)).toInt32) &&& 1431655765)) &&& 858993459) + (((Int32.toUInt32 (k0 - (((Int32.toUInt32 k0 >>> (Int32.toUInt32 1 &&& Int32.toUInt32 31)).toInt32) &&& 1431655765)) >>> (Int32.toUInt32 2 &&& Int32.toUInt32 31)).toInt32) &&& 858993459)) + ((Int32.toUInt32 (((k0 - (((Int32.toUInt32 k0 >>> (Int32.toUInt32 1 &&& Int32.toUInt32 31)).toInt32) &&& 1431655765)) &&& 858993459) + (((Int32.toUInt32 (k0 - (((Int32.toUInt32 k0 >>> (Int32.toUInt32 1 &&& Int32.toUInt32 31)).toInt32) &&& 1431655765)) >>> (Int32.toUInt32 2 &&& Int32.toUInt32 31)).toInt32) &&& 858993459)) >>> (Int32.toUInt32 4 &&& Int32.toUInt32 31)).toInt32)) &&& 252645135) >>> (Int32.toUInt32 8 &&& Int32.toUInt32 31)).toInt32)) >>> (Int32.toUInt32 16 &&& Int32.toUInt32 31)).toInt32)) &&& 63)]) (rest := []) (C := R_Row) (ci := 1) (q := (R_Row, F_Row, 3)) ⟨hx, hb, hml, hown, hts⟩ fm_Row_append (c_Row_append l dC dI cI cL cZ ot otEa otn otE otC otO ((((((((k0 - (((Int32.toUInt32 k0 >>> (Int32.toUInt32 1 &&& Int32.toUInt32 31)).toInt32) &&& 1431655765)) &&& 858993459) + (((Int32.toUInt32 (k0 - (((Int32.toUInt32 k0 >>> (Int32.toUInt32 1 &&& Int32.toUInt32 31)).toInt32) &&& 1431655765)) >>> (Int32.toUInt32 2 &&& Int32.toUInt32 31)).toInt32) &&& 858993459)) + ((Int32.toUInt32 (((k0 - (((Int32.toUInt32 k0 >>> (Int32.toUInt32 1 &&& Int32.toUInt32 31)).toInt32) &&& 1431655765)) &&& 858993459) + (((Int32.toUInt32 (k0 - (((Int32.toUInt32 k0 >>> (Int32.toUInt32 1 &&& Int32.toUInt32 31)).toInt32) &&& 1431655765)) >>> (Int32.toUInt32 2 &&& Int32.toUInt32 31)).toInt32) &&& 858993459)) >>> (Int32.toUInt32 4 &&& Int32.toUInt32 31)).toInt32)) &&& 252645135) + ((Int32.toUInt32 (((((k0 - (((Int32.toUInt32 k0 >>> (Int32.toUInt32 1 &&& Int32.toUInt32 31)).toInt32) &&& 1431655765)) &&& 858993459) + (((Int32.toUInt32 (k0 - (((Int32.toUInt32 k0 >>> (Int32.toUInt32 1 &&& Int32.toUInt32 31)).toInt32) &&& 1431655765)) >>> (Int32.toUInt32 2 &&& Int32.toUInt32 31)).toInt32) &&& 858993459)) + ((Int32.toUInt32 (((k0 - (((Int32.toUInt32 k0 >>> (Int32.toUInt32 1 &&& Int32.toUInt32 31)).toInt32) &&& 1431655765)) &&& 858993459) + (((Int32.toUInt32 (k0 - (((Int32.toUInt32 k0 >>> (Int32.toUInt32 1 &&& Int32.toUInt32 31)).toInt32) &&& 1431655765)) >>> (Int32.toUInt32 2 &&& Int32.toUInt32 31)).toInt32) &&& 858993459)) >>> (Int32.toUInt32 4 &&& Int32.toUInt32 31)).toInt32)) &&& 252645135) >>> (Int32.toUInt32 8 &&& Int32.toUInt32 31)).toInt32)) + ((Int32.toUInt32 ((((((k0 - (((Int32.toUInt32 k0 >>> (Int32.toUInt32 1 &&& Int32.toUInt32 31)).toInt32) &&& 1431655765)) &&& 858993459) + (((Int32.toUInt32 (k0 - (((Int32.toUInt32 k0 >>> (Int32.toUInt32 1 &&& Int32.toUInt32 31)).toInt32) &&& 1431655765)) >>> (Int32.toUInt32 2 &&& Int32.toUInt32 31)).toInt32) &&& 858993459)) + ((Int32.toUInt32 (((k0 - (((Int32.toUInt32 k0 >>> (Int32.toUInt32 1 &&& Int32.toUInt32 31)).toInt32) &&& 1431655765)) &&& 858993459) + (((Int32.toUInt32 (k0 - (((Int32.toUInt32 k0 >>> (Int32.toUInt32 1 &&& Int32.toUInt32 31)).toInt32) &&& 1431655765)) >>> (Int32.toUInt32 2 &&& Int32.toUInt32 31)).toInt32) &&& 858993459)) >>> (Int32.toUInt32 4 &&& Int32.toUInt32 31)).toInt32)) &&& 252645135) + ((Int32.toUInt32 (((((k0 - (((Int32.toUInt32 k0 >>> (Int32.toUInt32 1 &&& Int32.toUInt32 31)).toInt32) &&& 1431655765)) &&& 858993459) + (((Int32.toUInt32 (k0 - (((Int32.toUInt32 k0 >>> (Int32.toUInt32 1 &&& Int32.toUInt32 31)).toInt32) &&& 1431655765)) >>> (Int32.toUInt32 2 &&& Int32.toUInt32 31)).toInt32) &&& 858993459)) + ((Int32.toUInt32 (((k0 - (((Int32.toUInt32 k0 >>> (Int32.toUInt32 1 &&& Int32.toUInt32 31)).toInt32) &&& 1431655765)) &&& 858993459) + (((Int32.toUInt32 (k0 - (((Int32.toUInt32 k0 >>> (Int32.toUInt32 1 &&& Int32.toUInt32 31)).toInt32) &&& 1431655765)) >>> (Int32.toUInt32 2 &&& Int32.toUInt32 31)).toInt32) &&& 858993459)) >>> (Int32.toUInt32 4 &&& Int32.toUInt32 31)).toInt32)) &&& 252645135) >>> (Int32.toUInt32 8 &&& Int32.toUInt32 31)).toInt32)) >>> (Int32.toUInt32 16 &&& Int32.toUInt32 31)).toInt32)) &&& 63) otE_5 otC_5 otO_5 c5) k197_methodLink k8_instanceMethod k9_selects ⟨Nat.le_of_ble_eq_true rfl, Nat.le_of_ble_eq_true rfl⟩ rfl rfl hK hN hP hD hS hA [0, 1] [] rfl rfl rfl (by decide) (by decide) (by decide) 0 rfl rfl rfl rfl hl.1 rfl (Nat.le_of_ble_eq_true rfl) d_ImageWriter_writeTopics_5 (fun H locs hP hD hS => ?_)
  have hP : va_P (dC, dI) classes ((sh_Row cI cL cZ ot otEa otn otE_5 otC_5 otO_5)) H := hP.sub [0, 1] rfl
  have hD : va_D A ((sh_Row cI cL cZ ot otEa otn otE_5 otC_5 otO_5)) := hD.sub [0, 1] (by decide) rfl
  refine lv_iconst (v := 0) hx hb d_ImageWriter_writeTopics_8 (by decide) ?_
  refine lv_istore_n (lv' := [(2, .int 0), (0, .int k0), (1, .ref ot)]) hx hb d_ImageWriter_writeTopics_9 rfl hl (by decide) rfl (fun ls hl => ?_)
  refine lv_iconst (v := 0) hx hb d_ImageWriter_writeTopics_10 (by decide) ?_
  refine lv_istore_n (lv' := [(3, .int 0), (2, .int 0), (0, .int k0), (1, .ref ot)]) hx hb d_ImageWriter_writeTopics_11 rfl hl (by decide) rfl (fun ls hl => ?_)
  exact (key n) k0 0 0 otE_5 otC_5 otO_5 _ _ _ (lv_sub hl [2, 3, 1, 0] rfl) hP hD hS hd
-- ImageWriter.writeIndex
abbrev b_ImageWriter_writeIndex : ByteArray := prog_5_method_12_code
def y_ImageWriter_writeIndex : MethodName := ⟨"HelpFile$ImageWriter", "writeIndex", "(LHelpFile$WordList;LHelpFile$Row;)V"⟩
theorem k232_methodLink : Cond.methodLink "HelpFile$ImageWriter" 139 ⟨"HelpFile$ImageWriter", "writeTopics", "(ILHelpFile$Row;)V"⟩ ∈ ga := ga_t 543 (by decide +kernel) rfl
theorem k233_static : Cond.static ⟨"HelpFile$ImageWriter", "writeTopics", "(ILHelpFile$Row;)V"⟩ ∈ ga := ga_t 544 (by decide +kernel) rfl
set_option maxRecDepth 100000 in
theorem fm_ImageWriter_writeIndex : Fm y_ImageWriter_writeIndex b_ImageWriter_writeIndex 3 none 2 := ⟨ga_t 542 rfl rfl, k198_initialized, by decide, by decide, by decide +kernel⟩
def B_ImageWriter_writeIndex_10 (wln : Nat) (otn : Nat) (wlW : Nat → Int64) (wlT : Nat → Int32) (wlC : Int32) (otE' : Nat → Int32) (otC' : Int32) (otO' : Bool) (X : Int32 → (Nat → Int32) → Int32 → Bool → Prop) (x2 : Int32) (otE : Nat → Int32) (otC : Int32) (otO : Bool) : Prop := ((wlC ≤ x2 → (otE' = otE ∧ otC' = otC ∧ otO' = otO)) ∧ (¬ (wlC ≤ x2) → (∃ r20 : Int64, D_WordList_word wln x2 wlW wlC r20 ∧ (∃ otE_24 : Nat → Int32, ∃ otC_24 : Int32, ∃ otO_24 : Bool, D_ImageWriter_writeWord otn r20 otE otC otO otE_24 otC_24 otO_24 ∧ (∃ r29 : Int32, D_WordList_topics wln x2 wlT wlC r29 ∧ (∃ otE_33 : Nat → Int32, ∃ otC_33 : Int32, ∃ otO_33 : Bool, D_ImageWriter_writeTopics otn r29 otE_24 otC_24 otO_24 otE_33 otC_33 otO_33 ∧ X (x2 + 1) otE_33 otC_33 otO_33))))))
def S_ImageWriter_writeIndex (wln : Nat) (otn : Nat) (wlW : Nat → Int64) (wlT : Nat → Int32) (wlC : Int32) (otE' : Nat → Int32) (otC' : Int32) (otO' : Bool) (X : Int32 → (Nat → Int32) → Int32 → Bool → Prop) : Int32 → (Nat → Int32) → Int32 → Bool → Prop := fun x2 otE otC otO => B_ImageWriter_writeIndex_10 wln otn wlW wlT wlC otE' otC' otO' X x2 otE otC otO
def T_ImageWriter_writeIndex (wln : Nat) (otn : Nat) (wlW : Nat → Int64) (wlT : Nat → Int32) (wlC : Int32) (otE' : Nat → Int32) (otC' : Int32) (otO' : Bool) : Nat → (Int32 → (Nat → Int32) → Int32 → Bool → Prop)
  | 0 => fun _ _ _ _ => False
  | n + 1 => S_ImageWriter_writeIndex wln otn wlW wlT wlC otE' otC' otO' (T_ImageWriter_writeIndex wln otn wlW wlT wlC otE' otC' otO' n)
def D_ImageWriter_writeIndex (wln : Nat) (otn : Nat) (wlW : Nat → Int64) (wlT : Nat → Int32) (wlC : Int32) (otE : Nat → Int32) (otC : Int32) (otO : Bool) (otE' : Nat → Int32) (otC' : Int32) (otO' : Bool) : Prop := ∃ n : Nat, (∃ otE_5 : Nat → Int32, ∃ otC_5 : Int32, ∃ otO_5 : Bool, D_Row_appendPair otn wlC otE otC otO otE_5 otC_5 otO_5 ∧ T_ImageWriter_writeIndex wln otn wlW wlT wlC otE' otC' otO' n 0 otE_5 otC_5 otO_5)
theorem d_ImageWriter_writeIndex_0 : decode b_ImageWriter_writeIndex 0 = .ok (.aload_n 1, 1) := by decide +kernel
theorem d_ImageWriter_writeIndex_1 : decode b_ImageWriter_writeIndex 1 = .ok (.aload_n 0, 1) := by decide +kernel
theorem d_ImageWriter_writeIndex_2 : decode b_ImageWriter_writeIndex 2 = .ok (.invokevirtual 106, 3) := by decide +kernel
theorem d_ImageWriter_writeIndex_5 : decode b_ImageWriter_writeIndex 5 = .ok (.invokevirtual 38, 3) := by decide +kernel
theorem d_ImageWriter_writeIndex_8 : decode b_ImageWriter_writeIndex 8 = .ok (.iconst 0, 1) := by decide +kernel
theorem d_ImageWriter_writeIndex_9 : decode b_ImageWriter_writeIndex 9 = .ok (.istore_n 2, 1) := by decide +kernel
theorem d_ImageWriter_writeIndex_10 : decode b_ImageWriter_writeIndex 10 = .ok (.iload_n 2, 1) := by decide +kernel
theorem d_ImageWriter_writeIndex_11 : decode b_ImageWriter_writeIndex 11 = .ok (.aload_n 0, 1) := by decide +kernel
theorem d_ImageWriter_writeIndex_12 : decode b_ImageWriter_writeIndex 12 = .ok (.invokevirtual 106, 3) := by decide +kernel
theorem d_ImageWriter_writeIndex_15 : decode b_ImageWriter_writeIndex 15 = .ok (.if_icmp .ge 27, 3) := by decide +kernel
theorem d_ImageWriter_writeIndex_18 : decode b_ImageWriter_writeIndex 18 = .ok (.aload_n 0, 1) := by decide +kernel
theorem d_ImageWriter_writeIndex_19 : decode b_ImageWriter_writeIndex 19 = .ok (.iload_n 2, 1) := by decide +kernel
theorem d_ImageWriter_writeIndex_20 : decode b_ImageWriter_writeIndex 20 = .ok (.invokevirtual 131, 3) := by decide +kernel
theorem d_ImageWriter_writeIndex_23 : decode b_ImageWriter_writeIndex 23 = .ok (.aload_n 1, 1) := by decide +kernel
theorem d_ImageWriter_writeIndex_24 : decode b_ImageWriter_writeIndex 24 = .ok (.invokestatic 134, 3) := by decide +kernel
theorem d_ImageWriter_writeIndex_27 : decode b_ImageWriter_writeIndex 27 = .ok (.aload_n 0, 1) := by decide +kernel
theorem d_ImageWriter_writeIndex_28 : decode b_ImageWriter_writeIndex 28 = .ok (.iload_n 2, 1) := by decide +kernel
theorem d_ImageWriter_writeIndex_29 : decode b_ImageWriter_writeIndex 29 = .ok (.invokevirtual 137, 3) := by decide +kernel
theorem d_ImageWriter_writeIndex_32 : decode b_ImageWriter_writeIndex 32 = .ok (.aload_n 1, 1) := by decide +kernel
theorem d_ImageWriter_writeIndex_33 : decode b_ImageWriter_writeIndex 33 = .ok (.invokestatic 139, 3) := by decide +kernel
theorem d_ImageWriter_writeIndex_36 : decode b_ImageWriter_writeIndex 36 = .ok (.iinc 2 1, 3) := by decide +kernel
theorem d_ImageWriter_writeIndex_39 : decode b_ImageWriter_writeIndex 39 = .ok (.goto (-29), 3) := by decide +kernel
theorem d_ImageWriter_writeIndex_42 : decode b_ImageWriter_writeIndex 42 = .ok (.return_, 1) := by decide +kernel
set_option maxHeartbeats 4000000 in
set_option maxRecDepth 100000 in
theorem c_ImageWriter_writeIndex (l : Launch) (dC : Nat → ClassId) (dI : Nat → Nat → Nat) (cI cL cZ : ClassId) (wl : Nat) (wlWa : Nat) (wln : Nat) (wlW : Nat → Int64) (wlTa : Nat) (wlT : Nat → Int32) (wlC : Int32) (ot : Nat) (otEa : Nat) (otn : Nat) (otE : Nat → Int32) (otC : Int32) (otO : Bool) (otE' : Nat → Int32) (otC' : Int32) (otO' : Bool) (hd : D_ImageWriter_writeIndex wln otn wlW wlT wlC otE otC otO otE' otC' otO') : Ctr l y_ImageWriter_writeIndex (Cond.code y_ImageWriter_writeIndex b_ImageWriter_writeIndex 3 none :: ga) { frames := 2, cells := 0, slots := 0, locals := 47 } (dC, dI) classes (Tys cI cL cZ) [.ref wl, .ref ot] ((sh_WordList cI cL cZ wl wlWa wln wlW wlTa wlT wlC) ++ ((sh_Row cI cL cZ ot otEa otn otE otC otO))) none ((sh_WordList cI cL cZ wl wlWa wln wlW wlTa wlT wlC) ++ ((sh_Row cI cL cZ ot otEa otn otE' otC' otO'))) := by
  refine Ctr.ofW (by decide) (Nat.le_of_ble_eq_true rfl) ?_
  intro p e s m below meth c A ls hx hb hr hml hown hlocks hts hK hN hA hP hD hS hl
  have hown : s.vm.findClass R_ImageWriter = some m.cls := hown
  have hl : lv_has ls 3 [(0, .ref wl), (1, .ref ot)] := hl
  have key : ∀ n : Nat, (∀ (x2 : Int32) (otE : Nat → Int32) (otC : Int32) (otO : Bool) (ls : Array Slot) (H : Heap) (locs : List Loc), lv_has ls 3 [(0, .ref wl), (1, .ref ot), (2, .int x2)] → va_P (dC, dI) classes ((sh_WordList cI cL cZ wl wlWa wln wlW wlTa wlT wlC) ++ ((sh_Row cI cL cZ ot otEa otn otE otC otO))) H → va_D A ((sh_WordList cI cL cZ wl wlWa wln wlW wlTa wlT wlC) ++ ((sh_Row cI cL cZ ot otEa otn otE otC otO))) → va_S A s.heap H locs → T_ImageWriter_writeIndex wln otn wlW wlT wlC otE' otC' otO' n x2 otE otC otO → W p l e ({ frames := 2, cells := 0, slots := 0, locals := 47 }) s m ([.ref wl, .ref ot] : List Value).toArray below meth c H locs 0 0 (MQ below (Qs (dC, dI) classes (Tys cI cL cZ) none ((sh_WordList cI cL cZ wl wlWa wln wlW wlTa wlT wlC) ++ ((sh_Row cI cL cZ ot otEa otn otE' otC' otO'))) A) ([.ref wl, .ref ot] : List Value).toArray s 0 0 A) (F0 m 10 ls [])) := by
    intro n
    induction n with
    | zero =>
      exact fun _ _ _ _ _ _ _ _ _ _ _ hd => False.elim hd
    | succ n ih =>
      · intro x2 otE otC otO ls H locs hl hP hD hS hd
        have hd : B_ImageWriter_writeIndex_10 wln otn wlW wlT wlC otE' otC' otO' (T_ImageWriter_writeIndex wln otn wlW wlT wlC otE' otC' otO' n) x2 otE otC otO := hd
        refine lv_iload_n hx hb d_ImageWriter_writeIndex_10 rfl (lv_at hl 2 rfl) ?_
        refine lv_aload_n hx hb d_ImageWriter_writeIndex_11 rfl (lv_at hl 0 rfl) ?_
        refine ct_VR (As := []) (rest := [.int x2]) (C := R_WordList) (ci := 2) (q := (R_WordList, F_WordList, 3)) ⟨hx, hb, hml, hown, hts⟩ fm_WordList_count (c_WordList_count l dC dI cI cL cZ wl wlWa wln wlW wlTa wlT wlC wlC rfl) k213_methodLink k47_instanceMethod k48_selects ⟨Nat.le_of_ble_eq_true rfl, Nat.le_of_ble_eq_true rfl⟩ rfl rfl hK hN hP hD [0, 1, 2] rfl rfl (by decide) 0 rfl rfl rfl rfl hl.1 rfl (Nat.le_of_ble_eq_true rfl) d_ImageWriter_writeIndex_12 ?_
        refine lv_icmp_ge (tgt := 42) hx hb d_ImageWriter_writeIndex_15 (by decide) (fun h15 => ?_) (fun h15 => ?_)
        · have hd := hd.1 h15
          obtain ⟨e0, e1, e2⟩ := hd
          subst e0
          subst e1
          subst e2
          exact ct_vret hx hb hr hlocks hK hP hD hS d_ImageWriter_writeIndex_42
        · have hd := hd.2 h15
          refine lv_aload_n hx hb d_ImageWriter_writeIndex_18 rfl (lv_at hl 0 rfl) ?_
          refine lv_iload_n hx hb d_ImageWriter_writeIndex_19 rfl (lv_at hl 2 rfl) ?_
          obtain ⟨r20, c20, hd⟩ := hd
          refine ct_VR (As := [.int x2]) (rest := []) (C := R_WordList) (ci := 2) (q := (R_WordList, F_WordList, 3)) ⟨hx, hb, hml, hown, hts⟩ fm_WordList_word (c_WordList_word l dC dI cI cL cZ wl wlWa wln wlW wlTa wlT wlC x2 r20 c20) k217_methodLink k50_instanceMethod k51_selects ⟨Nat.le_of_ble_eq_true rfl, Nat.le_of_ble_eq_true rfl⟩ rfl rfl hK hN hP hD [0, 1, 2] rfl rfl (by decide) 0 rfl rfl rfl rfl hl.1 rfl (Nat.le_of_ble_eq_true rfl) d_ImageWriter_writeIndex_20 ?_
          refine lv_aload_n hx hb d_ImageWriter_writeIndex_23 rfl (lv_at hl 1 rfl) ?_
          obtain ⟨otE_24, otC_24, otO_24, c24, hd⟩ := hd
          refine ct_S (As := [.long r20, .ref ot]) (rest := []) ⟨hx, hb, hml, hown, hts⟩ fm_ImageWriter_writeWord (c_ImageWriter_writeWord l dC dI cI cL cZ ot otEa otn otE otC otO r20 otE_24 otC_24 otO_24 c24) k218_methodLink k219_static ⟨Nat.le_of_ble_eq_true rfl, Nat.le_of_ble_eq_true rfl⟩ rfl rfl hK hN hP hD hS hA [3, 4] [0, 1, 2] rfl rfl rfl (by decide) (by decide) (by decide) rfl hl.1 rfl (Nat.le_of_ble_eq_true rfl) d_ImageWriter_writeIndex_24 (fun H locs hP hD hS => ?_)
          have hP : va_P (dC, dI) classes ((sh_WordList cI cL cZ wl wlWa wln wlW wlTa wlT wlC) ++ ((sh_Row cI cL cZ ot otEa otn otE_24 otC_24 otO_24))) H := hP.sub [0, 1, 2, 3, 4] rfl
          have hD : va_D A ((sh_WordList cI cL cZ wl wlWa wln wlW wlTa wlT wlC) ++ ((sh_Row cI cL cZ ot otEa otn otE_24 otC_24 otO_24))) := hD.sub [0, 1, 2, 3, 4] (by decide) rfl
          refine lv_aload_n hx hb d_ImageWriter_writeIndex_27 rfl (lv_at hl 0 rfl) ?_
          refine lv_iload_n hx hb d_ImageWriter_writeIndex_28 rfl (lv_at hl 2 rfl) ?_
          obtain ⟨r29, c29, hd⟩ := hd
          refine ct_VR (As := [.int x2]) (rest := []) (C := R_WordList) (ci := 2) (q := (R_WordList, F_WordList, 3)) ⟨hx, hb, hml, hown, hts⟩ fm_WordList_topics (c_WordList_topics l dC dI cI cL cZ wl wlWa wln wlW wlTa wlT wlC x2 r29 c29) k220_methodLink k101_instanceMethod k102_selects ⟨Nat.le_of_ble_eq_true rfl, Nat.le_of_ble_eq_true rfl⟩ rfl rfl hK hN hP hD [0, 1, 2] rfl rfl (by decide) 0 rfl rfl rfl rfl hl.1 rfl (Nat.le_of_ble_eq_true rfl) d_ImageWriter_writeIndex_29 ?_
          refine lv_aload_n hx hb d_ImageWriter_writeIndex_32 rfl (lv_at hl 1 rfl) ?_
          obtain ⟨otE_33, otC_33, otO_33, c33, hd⟩ := hd
          refine ct_S (As := [.int r29, .ref ot]) (rest := []) ⟨hx, hb, hml, hown, hts⟩ fm_ImageWriter_writeTopics (c_ImageWriter_writeTopics l dC dI cI cL cZ ot otEa otn otE_24 otC_24 otO_24 r29 otE_33 otC_33 otO_33 c33) k232_methodLink k233_static ⟨Nat.le_of_ble_eq_true rfl, Nat.le_of_ble_eq_true rfl⟩ rfl rfl hK hN hP hD hS hA [3, 4] [0, 1, 2] rfl rfl rfl (by decide) (by decide) (by decide) rfl hl.1 rfl (Nat.le_of_ble_eq_true rfl) d_ImageWriter_writeIndex_33 (fun H locs hP hD hS => ?_)
          have hP : va_P (dC, dI) classes ((sh_WordList cI cL cZ wl wlWa wln wlW wlTa wlT wlC) ++ ((sh_Row cI cL cZ ot otEa otn otE_33 otC_33 otO_33))) H := hP.sub [0, 1, 2, 3, 4] rfl
          have hD : va_D A ((sh_WordList cI cL cZ wl wlWa wln wlW wlTa wlT wlC) ++ ((sh_Row cI cL cZ ot otEa otn otE_33 otC_33 otO_33))) := hD.sub [0, 1, 2, 3, 4] (by decide) rfl
          refine lv_iinc (k := 2) (v := x2 + 1) (lv' := [(2, .int (x2 + 1)), (0, .ref wl), (1, .ref ot)]) hx hb d_ImageWriter_writeIndex_36 hl rfl (congrArg (fun z => x2 + z) (by decide)) (by decide) rfl (fun ls hl => ?_)
          refine lv_goto (tgt := 10) hx hb d_ImageWriter_writeIndex_39 (by decide) ?_
          exact ih (x2 + 1) otE_33 otC_33 otO_33 _ _ _ (lv_sub hl [1, 2, 0] rfl) hP hD hS hd
  obtain ⟨n, hd⟩ := hd
  refine lv_aload_n hx hb d_ImageWriter_writeIndex_0 rfl (lv_at hl 1 rfl) ?_
  refine lv_aload_n hx hb d_ImageWriter_writeIndex_1 rfl (lv_at hl 0 rfl) ?_
  refine ct_VR (As := []) (rest := [.ref ot]) (C := R_WordList) (ci := 2) (q := (R_WordList, F_WordList, 3)) ⟨hx, hb, hml, hown, hts⟩ fm_WordList_count (c_WordList_count l dC dI cI cL cZ wl wlWa wln wlW wlTa wlT wlC wlC rfl) k213_methodLink k47_instanceMethod k48_selects ⟨Nat.le_of_ble_eq_true rfl, Nat.le_of_ble_eq_true rfl⟩ rfl rfl hK hN hP hD [0, 1, 2] rfl rfl (by decide) 0 rfl rfl rfl rfl hl.1 rfl (Nat.le_of_ble_eq_true rfl) d_ImageWriter_writeIndex_2 ?_
  obtain ⟨otE_5, otC_5, otO_5, c5, hd⟩ := hd
  refine ct_V (As := [.int wlC]) (rest := []) (C := R_Row) (ci := 1) (q := (R_Row, F_Row, 3)) ⟨hx, hb, hml, hown, hts⟩ fm_Row_appendPair (c_Row_appendPair l dC dI cI cL cZ ot otEa otn otE otC otO wlC otE_5 otC_5 otO_5 c5) k221_methodLink k222_instanceMethod k223_selects ⟨Nat.le_of_ble_eq_true rfl, Nat.le_of_ble_eq_true rfl⟩ rfl rfl hK hN hP hD hS hA [3, 4] [0, 1, 2] rfl rfl rfl (by decide) (by decide) (by decide) 3 rfl rfl rfl rfl hl.1 rfl (Nat.le_of_ble_eq_true rfl) d_ImageWriter_writeIndex_5 (fun H locs hP hD hS => ?_)
  have hP : va_P (dC, dI) classes ((sh_WordList cI cL cZ wl wlWa wln wlW wlTa wlT wlC) ++ ((sh_Row cI cL cZ ot otEa otn otE_5 otC_5 otO_5))) H := hP.sub [0, 1, 2, 3, 4] rfl
  have hD : va_D A ((sh_WordList cI cL cZ wl wlWa wln wlW wlTa wlT wlC) ++ ((sh_Row cI cL cZ ot otEa otn otE_5 otC_5 otO_5))) := hD.sub [0, 1, 2, 3, 4] (by decide) rfl
  refine lv_iconst (v := 0) hx hb d_ImageWriter_writeIndex_8 (by decide) ?_
  refine lv_istore_n (lv' := [(2, .int 0), (0, .ref wl), (1, .ref ot)]) hx hb d_ImageWriter_writeIndex_9 rfl hl (by decide) rfl (fun ls hl => ?_)
  exact (key n) 0 otE_5 otC_5 otO_5 _ _ _ (lv_sub hl [1, 2, 0] rfl) hP hD hS hd
-- ImageWriter.write
abbrev b_ImageWriter_write : ByteArray := prog_5_method_2_code
def y_ImageWriter_write : MethodName := ⟨"HelpFile$ImageWriter", "write", "(LHelpFile$Book;LHelpFile$Row;)V"⟩
theorem k234_methodLink : Cond.methodLink "HelpFile$ImageWriter" 9 ⟨"HelpFile$Row", "shorten", "(I)V"⟩ ∈ ga := ga_t 450 (by decide +kernel) rfl
theorem k235_methodLink : Cond.methodLink "HelpFile$ImageWriter" 18 ⟨"HelpFile$Book", "topics", "()I"⟩ ∈ ga := ga_t 452 (by decide +kernel) rfl
theorem k236_methodLink : Cond.methodLink "HelpFile$ImageWriter" 24 ⟨"HelpFile$Book", "name", "(I)J"⟩ ∈ ga := ga_t 453 (by decide +kernel) rfl
theorem k237_instanceMethod : Cond.instanceMethod ⟨"HelpFile$Book", "name", "(I)J"⟩ ∈ ga := ga_t 454 (by decide +kernel) rfl
theorem k238_selects : Cond.selects "HelpFile$Book" ⟨"HelpFile$Book", "name", "(I)J"⟩ ⟨"HelpFile$Book", "name", "(I)J"⟩ ∈ ga := ga_t 455 (by decide +kernel) rfl
theorem k239_methodLink : Cond.methodLink "HelpFile$ImageWriter" 28 ⟨"HelpFile$ImageWriter", "writeName", "(JLHelpFile$Row;)V"⟩ ∈ ga := ga_t 457 (by decide +kernel) rfl
theorem k240_static : Cond.static ⟨"HelpFile$ImageWriter", "writeName", "(JLHelpFile$Row;)V"⟩ ∈ ga := ga_t 458 (by decide +kernel) rfl
theorem k241_methodLink : Cond.methodLink "HelpFile$ImageWriter" 34 ⟨"HelpFile$Book", "bodyLength", "(I)I"⟩ ∈ ga := ga_t 463 (by decide +kernel) rfl
theorem k242_methodLink : Cond.methodLink "HelpFile$ImageWriter" 52 ⟨"HelpFile$Book", "keywords", "()LHelpFile$WordList;"⟩ ∈ ga := ga_t 492 (by decide +kernel) rfl
theorem k243_instanceMethod : Cond.instanceMethod ⟨"HelpFile$Book", "keywords", "()LHelpFile$WordList;"⟩ ∈ ga := ga_t 493 (by decide +kernel) rfl
theorem k244_selects : Cond.selects "HelpFile$Book" ⟨"HelpFile$Book", "keywords", "()LHelpFile$WordList;"⟩ ⟨"HelpFile$Book", "keywords", "()LHelpFile$WordList;"⟩ ∈ ga := ga_t 494 (by decide +kernel) rfl
theorem k245_methodLink : Cond.methodLink "HelpFile$ImageWriter" 56 ⟨"HelpFile$ImageWriter", "writeTree", "(LHelpFile$WordList;LHelpFile$Row;)V"⟩ ∈ ga := ga_t 496 (by decide +kernel) rfl
theorem k246_static : Cond.static ⟨"HelpFile$ImageWriter", "writeTree", "(LHelpFile$WordList;LHelpFile$Row;)V"⟩ ∈ ga := ga_t 497 (by decide +kernel) rfl
theorem k247_methodLink : Cond.methodLink "HelpFile$ImageWriter" 60 ⟨"HelpFile$Book", "words", "()LHelpFile$WordList;"⟩ ∈ ga := ga_t 536 (by decide +kernel) rfl
theorem k248_instanceMethod : Cond.instanceMethod ⟨"HelpFile$Book", "words", "()LHelpFile$WordList;"⟩ ∈ ga := ga_t 537 (by decide +kernel) rfl
theorem k249_selects : Cond.selects "HelpFile$Book" ⟨"HelpFile$Book", "words", "()LHelpFile$WordList;"⟩ ⟨"HelpFile$Book", "words", "()LHelpFile$WordList;"⟩ ∈ ga := ga_t 538 (by decide +kernel) rfl
theorem k250_methodLink : Cond.methodLink "HelpFile$ImageWriter" 63 ⟨"HelpFile$ImageWriter", "writeIndex", "(LHelpFile$WordList;LHelpFile$Row;)V"⟩ ∈ ga := ga_t 540 (by decide +kernel) rfl
theorem k251_static : Cond.static ⟨"HelpFile$ImageWriter", "writeIndex", "(LHelpFile$WordList;LHelpFile$Row;)V"⟩ ∈ ga := ga_t 541 (by decide +kernel) rfl
theorem k252_methodLink : Cond.methodLink "HelpFile$ImageWriter" 66 ⟨"HelpFile$Row", "sum", "()I"⟩ ∈ ga := ga_t 552 (by decide +kernel) rfl
theorem k253_instanceMethod : Cond.instanceMethod ⟨"HelpFile$Row", "sum", "()I"⟩ ∈ ga := ga_t 553 (by decide +kernel) rfl
theorem k254_selects : Cond.selects "HelpFile$Row" ⟨"HelpFile$Row", "sum", "()I"⟩ ⟨"HelpFile$Row", "sum", "()I"⟩ ∈ ga := ga_t 554 (by decide +kernel) rfl
theorem k255_methodLink : Cond.methodLink "HelpFile$ImageWriter" 44 ⟨"HelpFile$ImageWriter", "pack", "(LHelpFile$Book;ILHelpFile$Row;)V"⟩ ∈ ga := ga_t 470 (by decide +kernel) rfl
theorem k256_static : Cond.static ⟨"HelpFile$ImageWriter", "pack", "(LHelpFile$Book;ILHelpFile$Row;)V"⟩ ∈ ga := ga_t 471 (by decide +kernel) rfl
theorem k257_methodLink : Cond.methodLink "HelpFile$ImageWriter" 48 ⟨"HelpFile$Row", "replacePair", "(II)V"⟩ ∈ ga := ga_t 487 (by decide +kernel) rfl
theorem k258_instanceMethod : Cond.instanceMethod ⟨"HelpFile$Row", "replacePair", "(II)V"⟩ ∈ ga := ga_t 488 (by decide +kernel) rfl
theorem k259_selects : Cond.selects "HelpFile$Row" ⟨"HelpFile$Row", "replacePair", "(II)V"⟩ ⟨"HelpFile$Row", "replacePair", "(II)V"⟩ ∈ ga := ga_t 489 (by decide +kernel) rfl
set_option maxRecDepth 100000 in
theorem fm_ImageWriter_write : Fm y_ImageWriter_write b_ImageWriter_write 5 none 2 := ⟨ga_t 449 rfl rfl, k198_initialized, by decide, by decide, by decide +kernel⟩
def B_ImageWriter_write_21 (bkBn : Nat) (bkKn : Nat) (bkVn : Nat) (otn : Nat) (bkN : Nat → Int64) (bkS : Nat → Int32) (bkBE : Nat → Int32) (bkBC : Int32) (bkKW : Nat → Int64) (bkKT : Nat → Int32) (bkKC : Int32) (bkVW : Nat → Int64) (bkVT : Nat → Int32) (bkVC : Int32) (bkT : Int32) (otE' : Nat → Int32) (otC' : Int32) (otO' : Bool) (X : Nat → Int32 → (Nat → Int32) → Int32 → Bool → Prop) (x2 : Int32) (otE : Nat → Int32) (otC : Int32) (otO : Bool) : Prop := ((bkT ≤ x2 → X 1 0 otE otC otO) ∧ (¬ (bkT ≤ x2) → (∃ r31 : Int64, D_Book_name x2 bkN bkT r31 ∧ (∃ otE_35 : Nat → Int32, ∃ otC_35 : Int32, ∃ otO_35 : Bool, D_ImageWriter_writeName otn r31 otE otC otO otE_35 otC_35 otO_35 ∧ (∃ r41 : Int32, D_Book_bodyLength x2 bkS bkT r41 ∧ (∃ otE_44 : Nat → Int32, ∃ otC_44 : Int32, ∃ otO_44 : Bool, D_Row_appendPair otn r41 otE_35 otC_35 otO_35 otE_44 otC_44 otO_44 ∧ (∃ otE_49 : Nat → Int32, ∃ otC_49 : Int32, ∃ otO_49 : Bool, D_Row_appendPair otn 0 otE_44 otC_44 otO_44 otE_49 otC_49 otO_49 ∧ X 0 (x2 + 1) otE_49 otC_49 otO_49)))))))
def B_ImageWriter_write_60 (bkBn : Nat) (bkKn : Nat) (bkVn : Nat) (otn : Nat) (bkN : Nat → Int64) (bkS : Nat → Int32) (bkBE : Nat → Int32) (bkBC : Int32) (bkKW : Nat → Int64) (bkKT : Nat → Int32) (bkKC : Int32) (bkVW : Nat → Int64) (bkVT : Nat → Int32) (bkVC : Int32) (bkT : Int32) (otE' : Nat → Int32) (otC' : Int32) (otO' : Bool) (X : Nat → Int32 → (Nat → Int32) → Int32 → Bool → Prop) (x2 : Int32) (otE : Nat → Int32) (otC : Int32) (otO : Bool) : Prop := ((bkT ≤ x2 → (∃ otE_113 : Nat → Int32, ∃ otC_113 : Int32, ∃ otO_113 : Bool, D_ImageWriter_writeTree bkKn otn bkKW bkKT bkKC otE otC otO otE_113 otC_113 otO_113 ∧ (∃ otE_121 : Nat → Int32, ∃ otC_121 : Int32, ∃ otO_121 : Bool, D_ImageWriter_writeIndex bkVn otn bkVW bkVT bkVC otE_113 otC_113 otO_113 otE_121 otC_121 otO_121 ∧ (∃ r126 : Int32, D_Row_sum otn otE_121 otC_121 r126 ∧ (∃ otE_129 : Nat → Int32, ∃ otC_129 : Int32, ∃ otO_129 : Bool, D_Row_appendPair otn r126 otE_121 otC_121 otO_121 otE_129 otC_129 otO_129 ∧ (otE' = otE_129 ∧ otC' = otC_129 ∧ otO' = otO_129)))))) ∧ (¬ (bkT ≤ x2) → (∃ otE_76 : Nat → Int32, ∃ otC_76 : Int32, ∃ otO_76 : Bool, D_ImageWriter_pack bkBn otn x2 bkS bkBE bkBC bkT otE otC otO otE_76 otC_76 otO_76 ∧ (∃ otE_99 : Nat → Int32, D_Row_replacePair otn ((2 + (10 * x2)) + 8) (otC_76 - otC) otE_76 otC_76 otE_99 ∧ X 1 (x2 + 1) otE_99 otC_76 otO_76))))
def S_ImageWriter_write (bkBn : Nat) (bkKn : Nat) (bkVn : Nat) (otn : Nat) (bkN : Nat → Int64) (bkS : Nat → Int32) (bkBE : Nat → Int32) (bkBC : Int32) (bkKW : Nat → Int64) (bkKT : Nat → Int32) (bkKC : Int32) (bkVW : Nat → Int64) (bkVT : Nat → Int32) (bkVC : Int32) (bkT : Int32) (otE' : Nat → Int32) (otC' : Int32) (otO' : Bool) (X : Nat → Int32 → (Nat → Int32) → Int32 → Bool → Prop) : Nat → Int32 → (Nat → Int32) → Int32 → Bool → Prop := fun q_lab x2 otE otC otO => match q_lab with | 0 => B_ImageWriter_write_21 bkBn bkKn bkVn otn bkN bkS bkBE bkBC bkKW bkKT bkKC bkVW bkVT bkVC bkT otE' otC' otO' X x2 otE otC otO | 1 => B_ImageWriter_write_60 bkBn bkKn bkVn otn bkN bkS bkBE bkBC bkKW bkKT bkKC bkVW bkVT bkVC bkT otE' otC' otO' X x2 otE otC otO | _ => False
def T_ImageWriter_write (bkBn : Nat) (bkKn : Nat) (bkVn : Nat) (otn : Nat) (bkN : Nat → Int64) (bkS : Nat → Int32) (bkBE : Nat → Int32) (bkBC : Int32) (bkKW : Nat → Int64) (bkKT : Nat → Int32) (bkKC : Int32) (bkVW : Nat → Int64) (bkVT : Nat → Int32) (bkVC : Int32) (bkT : Int32) (otE' : Nat → Int32) (otC' : Int32) (otO' : Bool) : Nat → (Nat → Int32 → (Nat → Int32) → Int32 → Bool → Prop)
  | 0 => fun _ _ _ _ _ => False
  | n + 1 => S_ImageWriter_write bkBn bkKn bkVn otn bkN bkS bkBE bkBC bkKW bkKT bkKC bkVW bkVT bkVC bkT otE' otC' otO' (T_ImageWriter_write bkBn bkKn bkVn otn bkN bkS bkBE bkBC bkKW bkKT bkKC bkVW bkVT bkVC bkT otE' otC' otO' n)
def D_ImageWriter_write (bkBn : Nat) (bkKn : Nat) (bkVn : Nat) (otn : Nat) (bkN : Nat → Int64) (bkS : Nat → Int32) (bkBE : Nat → Int32) (bkBC : Int32) (bkKW : Nat → Int64) (bkKT : Nat → Int32) (bkKC : Int32) (bkVW : Nat → Int64) (bkVT : Nat → Int32) (bkVC : Int32) (bkT : Int32) (otE : Nat → Int32) (otC : Int32) (otO : Bool) (otE' : Nat → Int32) (otC' : Int32) (otO' : Bool) : Prop := ∃ n : Nat, (∃ otC_2 : Int32, ∃ otO_2 : Bool, D_Row_shorten 0 otC otO otC_2 otO_2 ∧ (∃ otE_8 : Nat → Int32, ∃ otC_8 : Int32, ∃ otO_8 : Bool, D_Row_append otn 72 otE otC_2 otO_2 otE_8 otC_8 otO_8 ∧ (∃ otE_16 : Nat → Int32, ∃ otC_16 : Int32, ∃ otO_16 : Bool, D_Row_append otn bkT otE_8 otC_8 otO_8 otE_16 otC_16 otO_16 ∧ T_ImageWriter_write bkBn bkKn bkVn otn bkN bkS bkBE bkBC bkKW bkKT bkKC bkVW bkVT bkVC bkT otE' otC' otO' n 0 0 otE_16 otC_16 otO_16)))
theorem d_ImageWriter_write_0 : decode b_ImageWriter_write 0 = .ok (.aload_n 1, 1) := by decide +kernel
theorem d_ImageWriter_write_1 : decode b_ImageWriter_write 1 = .ok (.iconst 0, 1) := by decide +kernel
theorem d_ImageWriter_write_2 : decode b_ImageWriter_write 2 = .ok (.invokevirtual 9, 3) := by decide +kernel
theorem d_ImageWriter_write_5 : decode b_ImageWriter_write 5 = .ok (.aload_n 1, 1) := by decide +kernel
theorem d_ImageWriter_write_6 : decode b_ImageWriter_write 6 = .ok (.bipush 72, 2) := by decide +kernel
theorem d_ImageWriter_write_8 : decode b_ImageWriter_write 8 = .ok (.invokevirtual 15, 3) := by decide +kernel
theorem d_ImageWriter_write_11 : decode b_ImageWriter_write 11 = .ok (.aload_n 1, 1) := by decide +kernel
theorem d_ImageWriter_write_12 : decode b_ImageWriter_write 12 = .ok (.aload_n 0, 1) := by decide +kernel
theorem d_ImageWriter_write_13 : decode b_ImageWriter_write 13 = .ok (.invokevirtual 18, 3) := by decide +kernel
theorem d_ImageWriter_write_16 : decode b_ImageWriter_write 16 = .ok (.invokevirtual 15, 3) := by decide +kernel
theorem d_ImageWriter_write_19 : decode b_ImageWriter_write 19 = .ok (.iconst 0, 1) := by decide +kernel
theorem d_ImageWriter_write_20 : decode b_ImageWriter_write 20 = .ok (.istore_n 2, 1) := by decide +kernel
theorem d_ImageWriter_write_21 : decode b_ImageWriter_write 21 = .ok (.iload_n 2, 1) := by decide +kernel
theorem d_ImageWriter_write_22 : decode b_ImageWriter_write 22 = .ok (.aload_n 0, 1) := by decide +kernel
theorem d_ImageWriter_write_23 : decode b_ImageWriter_write 23 = .ok (.invokevirtual 18, 3) := by decide +kernel
theorem d_ImageWriter_write_26 : decode b_ImageWriter_write 26 = .ok (.if_icmp .ge 32, 3) := by decide +kernel
theorem d_ImageWriter_write_29 : decode b_ImageWriter_write 29 = .ok (.aload_n 0, 1) := by decide +kernel
theorem d_ImageWriter_write_30 : decode b_ImageWriter_write 30 = .ok (.iload_n 2, 1) := by decide +kernel
theorem d_ImageWriter_write_31 : decode b_ImageWriter_write 31 = .ok (.invokevirtual 24, 3) := by decide +kernel
theorem d_ImageWriter_write_34 : decode b_ImageWriter_write 34 = .ok (.aload_n 1, 1) := by decide +kernel
theorem d_ImageWriter_write_35 : decode b_ImageWriter_write 35 = .ok (.invokestatic 28, 3) := by decide +kernel
theorem d_ImageWriter_write_38 : decode b_ImageWriter_write 38 = .ok (.aload_n 1, 1) := by decide +kernel
theorem d_ImageWriter_write_39 : decode b_ImageWriter_write 39 = .ok (.aload_n 0, 1) := by decide +kernel
theorem d_ImageWriter_write_40 : decode b_ImageWriter_write 40 = .ok (.iload_n 2, 1) := by decide +kernel
theorem d_ImageWriter_write_41 : decode b_ImageWriter_write 41 = .ok (.invokevirtual 34, 3) := by decide +kernel
theorem d_ImageWriter_write_44 : decode b_ImageWriter_write 44 = .ok (.invokevirtual 38, 3) := by decide +kernel
theorem d_ImageWriter_write_47 : decode b_ImageWriter_write 47 = .ok (.aload_n 1, 1) := by decide +kernel
theorem d_ImageWriter_write_48 : decode b_ImageWriter_write 48 = .ok (.iconst 0, 1) := by decide +kernel
theorem d_ImageWriter_write_49 : decode b_ImageWriter_write 49 = .ok (.invokevirtual 38, 3) := by decide +kernel
theorem d_ImageWriter_write_52 : decode b_ImageWriter_write 52 = .ok (.iinc 2 1, 3) := by decide +kernel
theorem d_ImageWriter_write_55 : decode b_ImageWriter_write 55 = .ok (.goto (-34), 3) := by decide +kernel
theorem d_ImageWriter_write_58 : decode b_ImageWriter_write 58 = .ok (.iconst 0, 1) := by decide +kernel
theorem d_ImageWriter_write_59 : decode b_ImageWriter_write 59 = .ok (.istore_n 2, 1) := by decide +kernel
theorem d_ImageWriter_write_60 : decode b_ImageWriter_write 60 = .ok (.iload_n 2, 1) := by decide +kernel
theorem d_ImageWriter_write_61 : decode b_ImageWriter_write 61 = .ok (.aload_n 0, 1) := by decide +kernel
theorem d_ImageWriter_write_62 : decode b_ImageWriter_write 62 = .ok (.invokevirtual 18, 3) := by decide +kernel
theorem d_ImageWriter_write_65 : decode b_ImageWriter_write 65 = .ok (.if_icmp .ge 43, 3) := by decide +kernel
theorem d_ImageWriter_write_68 : decode b_ImageWriter_write 68 = .ok (.aload_n 1, 1) := by decide +kernel
theorem d_ImageWriter_write_69 : decode b_ImageWriter_write 69 = .ok (.invokevirtual 41, 3) := by decide +kernel
theorem d_ImageWriter_write_72 : decode b_ImageWriter_write 72 = .ok (.istore_n 3, 1) := by decide +kernel
theorem d_ImageWriter_write_73 : decode b_ImageWriter_write 73 = .ok (.aload_n 0, 1) := by decide +kernel
theorem d_ImageWriter_write_74 : decode b_ImageWriter_write 74 = .ok (.iload_n 2, 1) := by decide +kernel
theorem d_ImageWriter_write_75 : decode b_ImageWriter_write 75 = .ok (.aload_n 1, 1) := by decide +kernel
theorem d_ImageWriter_write_76 : decode b_ImageWriter_write 76 = .ok (.invokestatic 44, 3) := by decide +kernel
theorem d_ImageWriter_write_79 : decode b_ImageWriter_write 79 = .ok (.iconst 2, 1) := by decide +kernel
theorem d_ImageWriter_write_80 : decode b_ImageWriter_write 80 = .ok (.bipush 10, 2) := by decide +kernel
theorem d_ImageWriter_write_82 : decode b_ImageWriter_write 82 = .ok (.iload_n 2, 1) := by decide +kernel
theorem d_ImageWriter_write_83 : decode b_ImageWriter_write 83 = .ok (.imul, 1) := by decide +kernel
theorem d_ImageWriter_write_84 : decode b_ImageWriter_write 84 = .ok (.iadd, 1) := by decide +kernel
theorem d_ImageWriter_write_85 : decode b_ImageWriter_write 85 = .ok (.bipush 8, 2) := by decide +kernel
theorem d_ImageWriter_write_87 : decode b_ImageWriter_write 87 = .ok (.iadd, 1) := by decide +kernel
theorem d_ImageWriter_write_88 : decode b_ImageWriter_write 88 = .ok (.istore 4, 2) := by decide +kernel
theorem d_ImageWriter_write_90 : decode b_ImageWriter_write 90 = .ok (.aload_n 1, 1) := by decide +kernel
theorem d_ImageWriter_write_91 : decode b_ImageWriter_write 91 = .ok (.iload 4, 2) := by decide +kernel
theorem d_ImageWriter_write_93 : decode b_ImageWriter_write 93 = .ok (.aload_n 1, 1) := by decide +kernel
theorem d_ImageWriter_write_94 : decode b_ImageWriter_write 94 = .ok (.invokevirtual 41, 3) := by decide +kernel
theorem d_ImageWriter_write_97 : decode b_ImageWriter_write 97 = .ok (.iload_n 3, 1) := by decide +kernel
theorem d_ImageWriter_write_98 : decode b_ImageWriter_write 98 = .ok (.isub, 1) := by decide +kernel
theorem d_ImageWriter_write_99 : decode b_ImageWriter_write 99 = .ok (.invokevirtual 48, 3) := by decide +kernel
theorem d_ImageWriter_write_102 : decode b_ImageWriter_write 102 = .ok (.iinc 2 1, 3) := by decide +kernel
theorem d_ImageWriter_write_105 : decode b_ImageWriter_write 105 = .ok (.goto (-45), 3) := by decide +kernel
theorem d_ImageWriter_write_108 : decode b_ImageWriter_write 108 = .ok (.aload_n 0, 1) := by decide +kernel
theorem d_ImageWriter_write_109 : decode b_ImageWriter_write 109 = .ok (.invokevirtual 52, 3) := by decide +kernel
theorem d_ImageWriter_write_112 : decode b_ImageWriter_write 112 = .ok (.aload_n 1, 1) := by decide +kernel
theorem d_ImageWriter_write_113 : decode b_ImageWriter_write 113 = .ok (.invokestatic 56, 3) := by decide +kernel
theorem d_ImageWriter_write_116 : decode b_ImageWriter_write 116 = .ok (.aload_n 0, 1) := by decide +kernel
theorem d_ImageWriter_write_117 : decode b_ImageWriter_write 117 = .ok (.invokevirtual 60, 3) := by decide +kernel
theorem d_ImageWriter_write_120 : decode b_ImageWriter_write 120 = .ok (.aload_n 1, 1) := by decide +kernel
theorem d_ImageWriter_write_121 : decode b_ImageWriter_write 121 = .ok (.invokestatic 63, 3) := by decide +kernel
theorem d_ImageWriter_write_124 : decode b_ImageWriter_write 124 = .ok (.aload_n 1, 1) := by decide +kernel
theorem d_ImageWriter_write_125 : decode b_ImageWriter_write 125 = .ok (.aload_n 1, 1) := by decide +kernel
theorem d_ImageWriter_write_126 : decode b_ImageWriter_write 126 = .ok (.invokevirtual 66, 3) := by decide +kernel
theorem d_ImageWriter_write_129 : decode b_ImageWriter_write 129 = .ok (.invokevirtual 38, 3) := by decide +kernel
theorem d_ImageWriter_write_132 : decode b_ImageWriter_write 132 = .ok (.return_, 1) := by decide +kernel
set_option maxHeartbeats 4000000 in
set_option maxRecDepth 100000 in
theorem c_ImageWriter_write (l : Launch) (dC : Nat → ClassId) (dI : Nat → Nat → Nat) (cI cL cZ : ClassId) (bk : Nat) (bkNa : Nat) (bkN : Nat → Int64) (bkSa : Nat) (bkS : Nat → Int32) (bkB : Nat) (bkBEa : Nat) (bkBn : Nat) (bkBE : Nat → Int32) (bkBC : Int32) (bkBO : Bool) (bkK : Nat) (bkKWa : Nat) (bkKn : Nat) (bkKW : Nat → Int64) (bkKTa : Nat) (bkKT : Nat → Int32) (bkKC : Int32) (bkV : Nat) (bkVWa : Nat) (bkVn : Nat) (bkVW : Nat → Int64) (bkVTa : Nat) (bkVT : Nat → Int32) (bkVC : Int32) (bkT : Int32) (ot : Nat) (otEa : Nat) (otn : Nat) (otE : Nat → Int32) (otC : Int32) (otO : Bool) (otE' : Nat → Int32) (otC' : Int32) (otO' : Bool) (hd : D_ImageWriter_write bkBn bkKn bkVn otn bkN bkS bkBE bkBC bkKW bkKT bkKC bkVW bkVT bkVC bkT otE otC otO otE' otC' otO') : Ctr l y_ImageWriter_write (Cond.code y_ImageWriter_write b_ImageWriter_write 5 none :: ga) { frames := 4, cells := 0, slots := 0, locals := 101 } (dC, dI) classes (Tys cI cL cZ) [.ref bk, .ref ot] ((sh_Book cI cL cZ bk bkNa bkN bkSa bkS bkB bkBEa bkBn bkBE bkBC bkBO bkK bkKWa bkKn bkKW bkKTa bkKT bkKC bkV bkVWa bkVn bkVW bkVTa bkVT bkVC bkT) ++ ((sh_Row cI cL cZ ot otEa otn otE otC otO))) none ((sh_Book cI cL cZ bk bkNa bkN bkSa bkS bkB bkBEa bkBn bkBE bkBC bkBO bkK bkKWa bkKn bkKW bkKTa bkKT bkKC bkV bkVWa bkVn bkVW bkVTa bkVT bkVC bkT) ++ ((sh_Row cI cL cZ ot otEa otn otE' otC' otO'))) := by
  refine Ctr.ofW (by decide) (Nat.le_of_ble_eq_true rfl) ?_
  intro p e s m below meth c A ls hx hb hr hml hown hlocks hts hK hN hA hP hD hS hl
  have hown : s.vm.findClass R_ImageWriter = some m.cls := hown
  have hl : lv_has ls 5 [(0, .ref bk), (1, .ref ot)] := hl
  have key : ∀ n : Nat, (∀ (x2 : Int32) (otE : Nat → Int32) (otC : Int32) (otO : Bool) (ls : Array Slot) (H : Heap) (locs : List Loc), lv_has ls 5 [(0, .ref bk), (1, .ref ot), (2, .int x2)] → va_P (dC, dI) classes ((sh_Book cI cL cZ bk bkNa bkN bkSa bkS bkB bkBEa bkBn bkBE bkBC bkBO bkK bkKWa bkKn bkKW bkKTa bkKT bkKC bkV bkVWa bkVn bkVW bkVTa bkVT bkVC bkT) ++ ((sh_Row cI cL cZ ot otEa otn otE otC otO))) H → va_D A ((sh_Book cI cL cZ bk bkNa bkN bkSa bkS bkB bkBEa bkBn bkBE bkBC bkBO bkK bkKWa bkKn bkKW bkKTa bkKT bkKC bkV bkVWa bkVn bkVW bkVTa bkVT bkVC bkT) ++ ((sh_Row cI cL cZ ot otEa otn otE otC otO))) → va_S A s.heap H locs → T_ImageWriter_write bkBn bkKn bkVn otn bkN bkS bkBE bkBC bkKW bkKT bkKC bkVW bkVT bkVC bkT otE' otC' otO' n 0 x2 otE otC otO → W p l e ({ frames := 4, cells := 0, slots := 0, locals := 101 }) s m ([.ref bk, .ref ot] : List Value).toArray below meth c H locs 0 0 (MQ below (Qs (dC, dI) classes (Tys cI cL cZ) none ((sh_Book cI cL cZ bk bkNa bkN bkSa bkS bkB bkBEa bkBn bkBE bkBC bkBO bkK bkKWa bkKn bkKW bkKTa bkKT bkKC bkV bkVWa bkVn bkVW bkVTa bkVT bkVC bkT) ++ ((sh_Row cI cL cZ ot otEa otn otE' otC' otO'))) A) ([.ref bk, .ref ot] : List Value).toArray s 0 0 A) (F0 m 21 ls [])) ∧ (∀ (x2 : Int32) (otE : Nat → Int32) (otC : Int32) (otO : Bool) (ls : Array Slot) (H : Heap) (locs : List Loc), lv_has ls 5 [(0, .ref bk), (1, .ref ot), (2, .int x2)] → va_P (dC, dI) classes ((sh_Book cI cL cZ bk bkNa bkN bkSa bkS bkB bkBEa bkBn bkBE bkBC bkBO bkK bkKWa bkKn bkKW bkKTa bkKT bkKC bkV bkVWa bkVn bkVW bkVTa bkVT bkVC bkT) ++ ((sh_Row cI cL cZ ot otEa otn otE otC otO))) H → va_D A ((sh_Book cI cL cZ bk bkNa bkN bkSa bkS bkB bkBEa bkBn bkBE bkBC bkBO bkK bkKWa bkKn bkKW bkKTa bkKT bkKC bkV bkVWa bkVn bkVW bkVTa bkVT bkVC bkT) ++ ((sh_Row cI cL cZ ot otEa otn otE otC otO))) → va_S A s.heap H locs → T_ImageWriter_write bkBn bkKn bkVn otn bkN bkS bkBE bkBC bkKW bkKT bkKC bkVW bkVT bkVC bkT otE' otC' otO' n 1 x2 otE otC otO → W p l e ({ frames := 4, cells := 0, slots := 0, locals := 101 }) s m ([.ref bk, .ref ot] : List Value).toArray below meth c H locs 0 0 (MQ below (Qs (dC, dI) classes (Tys cI cL cZ) none ((sh_Book cI cL cZ bk bkNa bkN bkSa bkS bkB bkBEa bkBn bkBE bkBC bkBO bkK bkKWa bkKn bkKW bkKTa bkKT bkKC bkV bkVWa bkVn bkVW bkVTa bkVT bkVC bkT) ++ ((sh_Row cI cL cZ ot otEa otn otE' otC' otO'))) A) ([.ref bk, .ref ot] : List Value).toArray s 0 0 A) (F0 m 60 ls [])) := by
    intro n
    induction n with
    | zero =>
      exact ⟨fun _ _ _ _ _ _ _ _ _ _ _ hd => False.elim hd, fun _ _ _ _ _ _ _ _ _ _ _ hd => False.elim hd⟩
    | succ n ih =>
      refine ⟨?_, ?_⟩
      · intro x2 otE otC otO ls H locs hl hP hD hS hd
        have hd : B_ImageWriter_write_21 bkBn bkKn bkVn otn bkN bkS bkBE bkBC bkKW bkKT bkKC bkVW bkVT bkVC bkT otE' otC' otO' (T_ImageWriter_write bkBn bkKn bkVn otn bkN bkS bkBE bkBC bkKW bkKT bkKC bkVW bkVT bkVC bkT otE' otC' otO' n) x2 otE otC otO := hd
        refine lv_iload_n hx hb d_ImageWriter_write_21 rfl (lv_at hl 2 rfl) ?_
        refine lv_aload_n hx hb d_ImageWriter_write_22 rfl (lv_at hl 0 rfl) ?_
        refine ct_VR (As := []) (rest := [.int x2]) (C := R_Book) (ci := 3) (q := (R_Book, F_Book, 6)) ⟨hx, hb, hml, hown, hts⟩ fm_Book_topics (c_Book_topics l dC dI cI cL cZ bk bkNa bkN bkSa bkS bkB bkBEa bkBn bkBE bkBC bkBO bkK bkKWa bkKn bkKW bkKTa bkKT bkKC bkV bkVWa bkVn bkVW bkVTa bkVT bkVC bkT bkT rfl) k235_methodLink k128_instanceMethod k129_selects ⟨Nat.le_of_ble_eq_true rfl, Nat.le_of_ble_eq_true rfl⟩ rfl rfl hK hN hP hD [0, 1, 2, 3, 4, 5, 6, 7, 8, 9, 10] rfl rfl (by decide) 0 rfl rfl rfl rfl hl.1 rfl (Nat.le_of_ble_eq_true rfl) d_ImageWriter_write_23 ?_
        refine lv_icmp_ge (tgt := 58) hx hb d_ImageWriter_write_26 (by decide) (fun h26 => ?_) (fun h26 => ?_)
        · have hd := hd.1 h26
          refine lv_iconst (v := 0) hx hb d_ImageWriter_write_58 (by decide) ?_
          refine lv_istore_n (lv' := [(2, .int 0), (0, .ref bk), (1, .ref ot)]) hx hb d_ImageWriter_write_59 rfl hl (by decide) rfl (fun ls hl => ?_)
          exact ih.2 0 otE otC otO _ _ _ (lv_sub hl [1, 2, 0] rfl) hP hD hS hd
        · have hd := hd.2 h26
          refine lv_aload_n hx hb d_ImageWriter_write_29 rfl (lv_at hl 0 rfl) ?_
          refine lv_iload_n hx hb d_ImageWriter_write_30 rfl (lv_at hl 2 rfl) ?_
          obtain ⟨r31, c31, hd⟩ := hd
          refine ct_VR (As := [.int x2]) (rest := []) (C := R_Book) (ci := 3) (q := (R_Book, F_Book, 6)) ⟨hx, hb, hml, hown, hts⟩ fm_Book_name (c_Book_name l dC dI cI cL cZ bk bkNa bkN bkSa bkS bkB bkBEa bkBn bkBE bkBC bkBO bkK bkKWa bkKn bkKW bkKTa bkKT bkKC bkV bkVWa bkVn bkVW bkVTa bkVT bkVC bkT x2 r31 c31) k236_methodLink k237_instanceMethod k238_selects ⟨Nat.le_of_ble_eq_true rfl, Nat.le_of_ble_eq_true rfl⟩ rfl rfl hK hN hP hD [0, 1, 2, 3, 4, 5, 6, 7, 8, 9, 10] rfl rfl (by decide) 0 rfl rfl rfl rfl hl.1 rfl (Nat.le_of_ble_eq_true rfl) d_ImageWriter_write_31 ?_
          refine lv_aload_n hx hb d_ImageWriter_write_34 rfl (lv_at hl 1 rfl) ?_
          obtain ⟨otE_35, otC_35, otO_35, c35, hd⟩ := hd
          refine ct_S (As := [.long r31, .ref ot]) (rest := []) ⟨hx, hb, hml, hown, hts⟩ fm_ImageWriter_writeName (c_ImageWriter_writeName l dC dI cI cL cZ ot otEa otn otE otC otO r31 otE_35 otC_35 otO_35 c35) k239_methodLink k240_static ⟨Nat.le_of_ble_eq_true rfl, Nat.le_of_ble_eq_true rfl⟩ rfl rfl hK hN hP hD hS hA [11, 12] [0, 1, 2, 3, 4, 5, 6, 7, 8, 9, 10] rfl rfl rfl (by decide) (by decide) (by decide) rfl hl.1 rfl (Nat.le_of_ble_eq_true rfl) d_ImageWriter_write_35 (fun H locs hP hD hS => ?_)
          have hP : va_P (dC, dI) classes ((sh_Book cI cL cZ bk bkNa bkN bkSa bkS bkB bkBEa bkBn bkBE bkBC bkBO bkK bkKWa bkKn bkKW bkKTa bkKT bkKC bkV bkVWa bkVn bkVW bkVTa bkVT bkVC bkT) ++ ((sh_Row cI cL cZ ot otEa otn otE_35 otC_35 otO_35))) H := hP.sub [0, 1, 2, 3, 4, 5, 6, 7, 8, 9, 10, 11, 12] rfl
          have hD : va_D A ((sh_Book cI cL cZ bk bkNa bkN bkSa bkS bkB bkBEa bkBn bkBE bkBC bkBO bkK bkKWa bkKn bkKW bkKTa bkKT bkKC bkV bkVWa bkVn bkVW bkVTa bkVT bkVC bkT) ++ ((sh_Row cI cL cZ ot otEa otn otE_35 otC_35 otO_35))) := hD.sub [0, 1, 2, 3, 4, 5, 6, 7, 8, 9, 10, 11, 12] (by decide) rfl
          refine lv_aload_n hx hb d_ImageWriter_write_38 rfl (lv_at hl 1 rfl) ?_
          refine lv_aload_n hx hb d_ImageWriter_write_39 rfl (lv_at hl 0 rfl) ?_
          refine lv_iload_n hx hb d_ImageWriter_write_40 rfl (lv_at hl 2 rfl) ?_
          obtain ⟨r41, c41, hd⟩ := hd
          refine ct_VR (As := [.int x2]) (rest := [.ref ot]) (C := R_Book) (ci := 3) (q := (R_Book, F_Book, 6)) ⟨hx, hb, hml, hown, hts⟩ fm_Book_bodyLength (c_Book_bodyLength l dC dI cI cL cZ bk bkNa bkN bkSa bkS bkB bkBEa bkBn bkBE bkBC bkBO bkK bkKWa bkKn bkKW bkKTa bkKT bkKC bkV bkVWa bkVn bkVW bkVTa bkVT bkVC bkT x2 r41 c41) k241_methodLink k89_instanceMethod k90_selects ⟨Nat.le_of_ble_eq_true rfl, Nat.le_of_ble_eq_true rfl⟩ rfl rfl hK hN hP hD [0, 1, 2, 3, 4, 5, 6, 7, 8, 9, 10] rfl rfl (by decide) 0 rfl rfl rfl rfl hl.1 rfl (Nat.le_of_ble_eq_true rfl) d_ImageWriter_write_41 ?_
          obtain ⟨otE_44, otC_44, otO_44, c44, hd⟩ := hd
          refine ct_V (As := [.int r41]) (rest := []) (C := R_Row) (ci := 1) (q := (R_Row, F_Row, 3)) ⟨hx, hb, hml, hown, hts⟩ fm_Row_appendPair (c_Row_appendPair l dC dI cI cL cZ ot otEa otn otE_35 otC_35 otO_35 r41 otE_44 otC_44 otO_44 c44) k221_methodLink k222_instanceMethod k223_selects ⟨Nat.le_of_ble_eq_true rfl, Nat.le_of_ble_eq_true rfl⟩ rfl rfl hK hN hP hD hS hA [11, 12] [0, 1, 2, 3, 4, 5, 6, 7, 8, 9, 10] rfl rfl rfl (by decide) (by decide) (by decide) 11 rfl rfl rfl rfl hl.1 rfl (Nat.le_of_ble_eq_true rfl) d_ImageWriter_write_44 (fun H locs hP hD hS => ?_)
          have hP : va_P (dC, dI) classes ((sh_Book cI cL cZ bk bkNa bkN bkSa bkS bkB bkBEa bkBn bkBE bkBC bkBO bkK bkKWa bkKn bkKW bkKTa bkKT bkKC bkV bkVWa bkVn bkVW bkVTa bkVT bkVC bkT) ++ ((sh_Row cI cL cZ ot otEa otn otE_44 otC_44 otO_44))) H := hP.sub [0, 1, 2, 3, 4, 5, 6, 7, 8, 9, 10, 11, 12] rfl
          have hD : va_D A ((sh_Book cI cL cZ bk bkNa bkN bkSa bkS bkB bkBEa bkBn bkBE bkBC bkBO bkK bkKWa bkKn bkKW bkKTa bkKT bkKC bkV bkVWa bkVn bkVW bkVTa bkVT bkVC bkT) ++ ((sh_Row cI cL cZ ot otEa otn otE_44 otC_44 otO_44))) := hD.sub [0, 1, 2, 3, 4, 5, 6, 7, 8, 9, 10, 11, 12] (by decide) rfl
          refine lv_aload_n hx hb d_ImageWriter_write_47 rfl (lv_at hl 1 rfl) ?_
          refine lv_iconst (v := 0) hx hb d_ImageWriter_write_48 (by decide) ?_
          obtain ⟨otE_49, otC_49, otO_49, c49, hd⟩ := hd
          refine ct_V (As := [.int 0]) (rest := []) (C := R_Row) (ci := 1) (q := (R_Row, F_Row, 3)) ⟨hx, hb, hml, hown, hts⟩ fm_Row_appendPair (c_Row_appendPair l dC dI cI cL cZ ot otEa otn otE_44 otC_44 otO_44 0 otE_49 otC_49 otO_49 c49) k221_methodLink k222_instanceMethod k223_selects ⟨Nat.le_of_ble_eq_true rfl, Nat.le_of_ble_eq_true rfl⟩ rfl rfl hK hN hP hD hS hA [11, 12] [0, 1, 2, 3, 4, 5, 6, 7, 8, 9, 10] rfl rfl rfl (by decide) (by decide) (by decide) 11 rfl rfl rfl rfl hl.1 rfl (Nat.le_of_ble_eq_true rfl) d_ImageWriter_write_49 (fun H locs hP hD hS => ?_)
          have hP : va_P (dC, dI) classes ((sh_Book cI cL cZ bk bkNa bkN bkSa bkS bkB bkBEa bkBn bkBE bkBC bkBO bkK bkKWa bkKn bkKW bkKTa bkKT bkKC bkV bkVWa bkVn bkVW bkVTa bkVT bkVC bkT) ++ ((sh_Row cI cL cZ ot otEa otn otE_49 otC_49 otO_49))) H := hP.sub [0, 1, 2, 3, 4, 5, 6, 7, 8, 9, 10, 11, 12] rfl
          have hD : va_D A ((sh_Book cI cL cZ bk bkNa bkN bkSa bkS bkB bkBEa bkBn bkBE bkBC bkBO bkK bkKWa bkKn bkKW bkKTa bkKT bkKC bkV bkVWa bkVn bkVW bkVTa bkVT bkVC bkT) ++ ((sh_Row cI cL cZ ot otEa otn otE_49 otC_49 otO_49))) := hD.sub [0, 1, 2, 3, 4, 5, 6, 7, 8, 9, 10, 11, 12] (by decide) rfl
          refine lv_iinc (k := 2) (v := x2 + 1) (lv' := [(2, .int (x2 + 1)), (0, .ref bk), (1, .ref ot)]) hx hb d_ImageWriter_write_52 hl rfl (congrArg (fun z => x2 + z) (by decide)) (by decide) rfl (fun ls hl => ?_)
          refine lv_goto (tgt := 21) hx hb d_ImageWriter_write_55 (by decide) ?_
          exact ih.1 (x2 + 1) otE_49 otC_49 otO_49 _ _ _ (lv_sub hl [1, 2, 0] rfl) hP hD hS hd
      · intro x2 otE otC otO ls H locs hl hP hD hS hd
        have hd : B_ImageWriter_write_60 bkBn bkKn bkVn otn bkN bkS bkBE bkBC bkKW bkKT bkKC bkVW bkVT bkVC bkT otE' otC' otO' (T_ImageWriter_write bkBn bkKn bkVn otn bkN bkS bkBE bkBC bkKW bkKT bkKC bkVW bkVT bkVC bkT otE' otC' otO' n) x2 otE otC otO := hd
        refine lv_iload_n hx hb d_ImageWriter_write_60 rfl (lv_at hl 2 rfl) ?_
        refine lv_aload_n hx hb d_ImageWriter_write_61 rfl (lv_at hl 0 rfl) ?_
        refine ct_VR (As := []) (rest := [.int x2]) (C := R_Book) (ci := 3) (q := (R_Book, F_Book, 6)) ⟨hx, hb, hml, hown, hts⟩ fm_Book_topics (c_Book_topics l dC dI cI cL cZ bk bkNa bkN bkSa bkS bkB bkBEa bkBn bkBE bkBC bkBO bkK bkKWa bkKn bkKW bkKTa bkKT bkKC bkV bkVWa bkVn bkVW bkVTa bkVT bkVC bkT bkT rfl) k235_methodLink k128_instanceMethod k129_selects ⟨Nat.le_of_ble_eq_true rfl, Nat.le_of_ble_eq_true rfl⟩ rfl rfl hK hN hP hD [0, 1, 2, 3, 4, 5, 6, 7, 8, 9, 10] rfl rfl (by decide) 0 rfl rfl rfl rfl hl.1 rfl (Nat.le_of_ble_eq_true rfl) d_ImageWriter_write_62 ?_
        refine lv_icmp_ge (tgt := 108) hx hb d_ImageWriter_write_65 (by decide) (fun h65 => ?_) (fun h65 => ?_)
        · have hd := hd.1 h65
          refine lv_aload_n hx hb d_ImageWriter_write_108 rfl (lv_at hl 0 rfl) ?_
          refine ct_VR (As := []) (rest := []) (C := R_Book) (ci := 3) (q := (R_Book, F_Book, 6)) ⟨hx, hb, hml, hown, hts⟩ fm_Book_keywords (c_Book_keywords l dC dI cI cL cZ bk bkNa bkN bkSa bkS bkB bkBEa bkBn bkBE bkBC bkBO bkK bkKWa bkKn bkKW bkKTa bkKT bkKC bkV bkVWa bkVn bkVW bkVTa bkVT bkVC bkT trivial) k242_methodLink k243_instanceMethod k244_selects ⟨Nat.le_of_ble_eq_true rfl, Nat.le_of_ble_eq_true rfl⟩ rfl rfl hK hN hP hD [0, 1, 2, 3, 4, 5, 6, 7, 8, 9, 10] rfl rfl (by decide) 0 rfl rfl rfl rfl hl.1 rfl (Nat.le_of_ble_eq_true rfl) d_ImageWriter_write_109 ?_
          refine lv_aload_n hx hb d_ImageWriter_write_112 rfl (lv_at hl 1 rfl) ?_
          obtain ⟨otE_113, otC_113, otO_113, c113, hd⟩ := hd
          refine ct_S (As := [.ref bkK, .ref ot]) (rest := []) ⟨hx, hb, hml, hown, hts⟩ fm_ImageWriter_writeTree (c_ImageWriter_writeTree l dC dI cI cL cZ bkK bkKWa bkKn bkKW bkKTa bkKT bkKC ot otEa otn otE otC otO otE_113 otC_113 otO_113 c113) k245_methodLink k246_static ⟨Nat.le_of_ble_eq_true rfl, Nat.le_of_ble_eq_true rfl⟩ rfl rfl hK hN hP hD hS hA [5, 6, 7, 11, 12] [0, 1, 2, 3, 4, 8, 9, 10] rfl rfl rfl (by decide) (by decide) (by decide) rfl hl.1 rfl (Nat.le_of_ble_eq_true rfl) d_ImageWriter_write_113 (fun H locs hP hD hS => ?_)
          have hP : va_P (dC, dI) classes ((sh_Book cI cL cZ bk bkNa bkN bkSa bkS bkB bkBEa bkBn bkBE bkBC bkBO bkK bkKWa bkKn bkKW bkKTa bkKT bkKC bkV bkVWa bkVn bkVW bkVTa bkVT bkVC bkT) ++ ((sh_Row cI cL cZ ot otEa otn otE_113 otC_113 otO_113))) H := hP.sub [0, 1, 2, 3, 4, 8, 9, 10, 5, 6, 7, 11, 12] rfl
          have hD : va_D A ((sh_Book cI cL cZ bk bkNa bkN bkSa bkS bkB bkBEa bkBn bkBE bkBC bkBO bkK bkKWa bkKn bkKW bkKTa bkKT bkKC bkV bkVWa bkVn bkVW bkVTa bkVT bkVC bkT) ++ ((sh_Row cI cL cZ ot otEa otn otE_113 otC_113 otO_113))) := hD.sub [0, 1, 2, 3, 4, 8, 9, 10, 5, 6, 7, 11, 12] (by decide) rfl
          refine lv_aload_n hx hb d_ImageWriter_write_116 rfl (lv_at hl 0 rfl) ?_
          refine ct_VR (As := []) (rest := []) (C := R_Book) (ci := 3) (q := (R_Book, F_Book, 6)) ⟨hx, hb, hml, hown, hts⟩ fm_Book_words (c_Book_words l dC dI cI cL cZ bk bkNa bkN bkSa bkS bkB bkBEa bkBn bkBE bkBC bkBO bkK bkKWa bkKn bkKW bkKTa bkKT bkKC bkV bkVWa bkVn bkVW bkVTa bkVT bkVC bkT trivial) k247_methodLink k248_instanceMethod k249_selects ⟨Nat.le_of_ble_eq_true rfl, Nat.le_of_ble_eq_true rfl⟩ rfl rfl hK hN hP hD [0, 1, 2, 3, 4, 5, 6, 7, 8, 9, 10] rfl rfl (by decide) 0 rfl rfl rfl rfl hl.1 rfl (Nat.le_of_ble_eq_true rfl) d_ImageWriter_write_117 ?_
          refine lv_aload_n hx hb d_ImageWriter_write_120 rfl (lv_at hl 1 rfl) ?_
          obtain ⟨otE_121, otC_121, otO_121, c121, hd⟩ := hd
          refine ct_S (As := [.ref bkV, .ref ot]) (rest := []) ⟨hx, hb, hml, hown, hts⟩ fm_ImageWriter_writeIndex (c_ImageWriter_writeIndex l dC dI cI cL cZ bkV bkVWa bkVn bkVW bkVTa bkVT bkVC ot otEa otn otE_113 otC_113 otO_113 otE_121 otC_121 otO_121 c121) k250_methodLink k251_static ⟨Nat.le_of_ble_eq_true rfl, Nat.le_of_ble_eq_true rfl⟩ rfl rfl hK hN hP hD hS hA [8, 9, 10, 11, 12] [0, 1, 2, 3, 4, 5, 6, 7] rfl rfl rfl (by decide) (by decide) (by decide) rfl hl.1 rfl (Nat.le_of_ble_eq_true rfl) d_ImageWriter_write_121 (fun H locs hP hD hS => ?_)
          have hP : va_P (dC, dI) classes ((sh_Book cI cL cZ bk bkNa bkN bkSa bkS bkB bkBEa bkBn bkBE bkBC bkBO bkK bkKWa bkKn bkKW bkKTa bkKT bkKC bkV bkVWa bkVn bkVW bkVTa bkVT bkVC bkT) ++ ((sh_Row cI cL cZ ot otEa otn otE_121 otC_121 otO_121))) H := hP.sub [0, 1, 2, 3, 4, 5, 6, 7, 8, 9, 10, 11, 12] rfl
          have hD : va_D A ((sh_Book cI cL cZ bk bkNa bkN bkSa bkS bkB bkBEa bkBn bkBE bkBC bkBO bkK bkKWa bkKn bkKW bkKTa bkKT bkKC bkV bkVWa bkVn bkVW bkVTa bkVT bkVC bkT) ++ ((sh_Row cI cL cZ ot otEa otn otE_121 otC_121 otO_121))) := hD.sub [0, 1, 2, 3, 4, 5, 6, 7, 8, 9, 10, 11, 12] (by decide) rfl
          refine lv_aload_n hx hb d_ImageWriter_write_124 rfl (lv_at hl 1 rfl) ?_
          refine lv_aload_n hx hb d_ImageWriter_write_125 rfl (lv_at hl 1 rfl) ?_
          obtain ⟨r126, c126, hd⟩ := hd
          refine ct_VR (As := []) (rest := [.ref ot]) (C := R_Row) (ci := 1) (q := (R_Row, F_Row, 3)) ⟨hx, hb, hml, hown, hts⟩ fm_Row_sum (c_Row_sum l dC dI cI cL cZ ot otEa otn otE_121 otC_121 otO_121 r126 c126) k252_methodLink k253_instanceMethod k254_selects ⟨Nat.le_of_ble_eq_true rfl, Nat.le_of_ble_eq_true rfl⟩ rfl rfl hK hN hP hD [11, 12] rfl rfl (by decide) 11 rfl rfl rfl rfl hl.1 rfl (Nat.le_of_ble_eq_true rfl) d_ImageWriter_write_126 ?_
          obtain ⟨otE_129, otC_129, otO_129, c129, hd⟩ := hd
          refine ct_V (As := [.int r126]) (rest := []) (C := R_Row) (ci := 1) (q := (R_Row, F_Row, 3)) ⟨hx, hb, hml, hown, hts⟩ fm_Row_appendPair (c_Row_appendPair l dC dI cI cL cZ ot otEa otn otE_121 otC_121 otO_121 r126 otE_129 otC_129 otO_129 c129) k221_methodLink k222_instanceMethod k223_selects ⟨Nat.le_of_ble_eq_true rfl, Nat.le_of_ble_eq_true rfl⟩ rfl rfl hK hN hP hD hS hA [11, 12] [0, 1, 2, 3, 4, 5, 6, 7, 8, 9, 10] rfl rfl rfl (by decide) (by decide) (by decide) 11 rfl rfl rfl rfl hl.1 rfl (Nat.le_of_ble_eq_true rfl) d_ImageWriter_write_129 (fun H locs hP hD hS => ?_)
          have hP : va_P (dC, dI) classes ((sh_Book cI cL cZ bk bkNa bkN bkSa bkS bkB bkBEa bkBn bkBE bkBC bkBO bkK bkKWa bkKn bkKW bkKTa bkKT bkKC bkV bkVWa bkVn bkVW bkVTa bkVT bkVC bkT) ++ ((sh_Row cI cL cZ ot otEa otn otE_129 otC_129 otO_129))) H := hP.sub [0, 1, 2, 3, 4, 5, 6, 7, 8, 9, 10, 11, 12] rfl
          have hD : va_D A ((sh_Book cI cL cZ bk bkNa bkN bkSa bkS bkB bkBEa bkBn bkBE bkBC bkBO bkK bkKWa bkKn bkKW bkKTa bkKT bkKC bkV bkVWa bkVn bkVW bkVTa bkVT bkVC bkT) ++ ((sh_Row cI cL cZ ot otEa otn otE_129 otC_129 otO_129))) := hD.sub [0, 1, 2, 3, 4, 5, 6, 7, 8, 9, 10, 11, 12] (by decide) rfl
          obtain ⟨e0, e1, e2⟩ := hd
          subst e0
          subst e1
          subst e2
          exact ct_vret hx hb hr hlocks hK hP hD hS d_ImageWriter_write_132
        · have hd := hd.2 h65
          refine lv_aload_n hx hb d_ImageWriter_write_68 rfl (lv_at hl 1 rfl) ?_
          refine ct_VR (As := []) (rest := []) (C := R_Row) (ci := 1) (q := (R_Row, F_Row, 3)) ⟨hx, hb, hml, hown, hts⟩ fm_Row_count (c_Row_count l dC dI cI cL cZ ot otEa otn otE otC otO otC rfl) k203_methodLink k67_instanceMethod k68_selects ⟨Nat.le_of_ble_eq_true rfl, Nat.le_of_ble_eq_true rfl⟩ rfl rfl hK hN hP hD [11, 12] rfl rfl (by decide) 11 rfl rfl rfl rfl hl.1 rfl (Nat.le_of_ble_eq_true rfl) d_ImageWriter_write_69 ?_
          refine lv_istore_n (lv' := [(3, .int otC), (0, .ref bk), (1, .ref ot), (2, .int x2)]) hx hb d_ImageWriter_write_72 rfl hl (by decide) rfl (fun ls hl => ?_)
          refine lv_aload_n hx hb d_ImageWriter_write_73 rfl (lv_at hl 1 rfl) ?_
          refine lv_iload_n hx hb d_ImageWriter_write_74 rfl (lv_at hl 3 rfl) ?_
          refine lv_aload_n hx hb d_ImageWriter_write_75 rfl (lv_at hl 2 rfl) ?_
          obtain ⟨otE_76, otC_76, otO_76, c76, hd⟩ := hd
          refine ct_S (As := [.ref bk, .int x2, .ref ot]) (rest := []) ⟨hx, hb, hml, hown, hts⟩ fm_ImageWriter_pack (c_ImageWriter_pack l dC dI cI cL cZ bk bkNa bkN bkSa bkS bkB bkBEa bkBn bkBE bkBC bkBO bkK bkKWa bkKn bkKW bkKTa bkKT bkKC bkV bkVWa bkVn bkVW bkVTa bkVT bkVC bkT ot otEa otn otE otC otO x2 otE_76 otC_76 otO_76 c76) k255_methodLink k256_static ⟨Nat.le_of_ble_eq_true rfl, Nat.le_of_ble_eq_true rfl⟩ rfl rfl hK hN hP hD hS hA [0, 1, 2, 3, 4, 5, 6, 7, 8, 9, 10, 11, 12] [] rfl rfl rfl (by decide) (by decide) (by decide) rfl hl.1 rfl (Nat.le_of_ble_eq_true rfl) d_ImageWriter_write_76 (fun H locs hP hD hS => ?_)
          have hP : va_P (dC, dI) classes ((sh_Book cI cL cZ bk bkNa bkN bkSa bkS bkB bkBEa bkBn bkBE bkBC bkBO bkK bkKWa bkKn bkKW bkKTa bkKT bkKC bkV bkVWa bkVn bkVW bkVTa bkVT bkVC bkT) ++ ((sh_Row cI cL cZ ot otEa otn otE_76 otC_76 otO_76))) H := hP.sub [0, 1, 2, 3, 4, 5, 6, 7, 8, 9, 10, 11, 12] rfl
          have hD : va_D A ((sh_Book cI cL cZ bk bkNa bkN bkSa bkS bkB bkBEa bkBn bkBE bkBC bkBO bkK bkKWa bkKn bkKW bkKTa bkKT bkKC bkV bkVWa bkVn bkVW bkVTa bkVT bkVC bkT) ++ ((sh_Row cI cL cZ ot otEa otn otE_76 otC_76 otO_76))) := hD.sub [0, 1, 2, 3, 4, 5, 6, 7, 8, 9, 10, 11, 12] (by decide) rfl
          refine lv_iconst (v := 2) hx hb d_ImageWriter_write_79 (by decide) ?_
          refine lv_bipush (v := 10) hx hb d_ImageWriter_write_80 (by decide) ?_
          refine lv_iload_n hx hb d_ImageWriter_write_82 rfl (lv_at hl 3 rfl) ?_
          refine lv_imul hx hb d_ImageWriter_write_83 ?_
          refine lv_iadd hx hb d_ImageWriter_write_84 ?_
          refine lv_bipush (v := 8) hx hb d_ImageWriter_write_85 (by decide) ?_
          refine lv_iadd hx hb d_ImageWriter_write_87 ?_
          refine lv_istore (lv' := [(4, .int ((2 + (10 * x2)) + 8)), (3, .int otC), (0, .ref bk), (1, .ref ot), (2, .int x2)]) hx hb d_ImageWriter_write_88 hl (by decide) rfl (fun ls hl => ?_)
          refine lv_aload_n hx hb d_ImageWriter_write_90 rfl (lv_at hl 3 rfl) ?_
          refine lv_iload hx hb d_ImageWriter_write_91 (lv_at hl 0 rfl) ?_
          refine lv_aload_n hx hb d_ImageWriter_write_93 rfl (lv_at hl 3 rfl) ?_
          refine ct_VR (As := []) (rest := [.int ((2 + (10 * x2)) + 8), .ref ot]) (C := R_Row) (ci := 1) (q := (R_Row, F_Row, 3)) ⟨hx, hb, hml, hown, hts⟩ fm_Row_count (c_Row_count l dC dI cI cL cZ ot otEa otn otE_76 otC_76 otO_76 otC_76 rfl) k203_methodLink k67_instanceMethod k68_selects ⟨Nat.le_of_ble_eq_true rfl, Nat.le_of_ble_eq_true rfl⟩ rfl rfl hK hN hP hD [11, 12] rfl rfl (by decide) 11 rfl rfl rfl rfl hl.1 rfl (Nat.le_of_ble_eq_true rfl) d_ImageWriter_write_94 ?_
          refine lv_iload_n hx hb d_ImageWriter_write_97 rfl (lv_at hl 1 rfl) ?_
          refine lv_isub hx hb d_ImageWriter_write_98 ?_
          obtain ⟨otE_99, c99, hd⟩ := hd
          refine ct_V (As := [.int ((2 + (10 * x2)) + 8), .int (otC_76 - otC)]) (rest := []) (C := R_Row) (ci := 1) (q := (R_Row, F_Row, 3)) ⟨hx, hb, hml, hown, hts⟩ fm_Row_replacePair (c_Row_replacePair l dC dI cI cL cZ ot otEa otn otE_76 otC_76 otO_76 ((2 + (10 * x2)) + 8) (otC_76 - otC) otE_99 c99) k257_methodLink k258_instanceMethod k259_selects ⟨Nat.le_of_ble_eq_true rfl, Nat.le_of_ble_eq_true rfl⟩ rfl rfl hK hN hP hD hS hA [11, 12] [0, 1, 2, 3, 4, 5, 6, 7, 8, 9, 10] rfl rfl rfl (by decide) (by decide) (by decide) 11 rfl rfl rfl rfl hl.1 rfl (Nat.le_of_ble_eq_true rfl) d_ImageWriter_write_99 (fun H locs hP hD hS => ?_)
          have hP : va_P (dC, dI) classes ((sh_Book cI cL cZ bk bkNa bkN bkSa bkS bkB bkBEa bkBn bkBE bkBC bkBO bkK bkKWa bkKn bkKW bkKTa bkKT bkKC bkV bkVWa bkVn bkVW bkVTa bkVT bkVC bkT) ++ ((sh_Row cI cL cZ ot otEa otn otE_99 otC_76 otO_76))) H := hP.sub [0, 1, 2, 3, 4, 5, 6, 7, 8, 9, 10, 11, 12] rfl
          have hD : va_D A ((sh_Book cI cL cZ bk bkNa bkN bkSa bkS bkB bkBEa bkBn bkBE bkBC bkBO bkK bkKWa bkKn bkKW bkKTa bkKT bkKC bkV bkVWa bkVn bkVW bkVTa bkVT bkVC bkT) ++ ((sh_Row cI cL cZ ot otEa otn otE_99 otC_76 otO_76))) := hD.sub [0, 1, 2, 3, 4, 5, 6, 7, 8, 9, 10, 11, 12] (by decide) rfl
          refine lv_iinc (k := 4) (v := x2 + 1) (lv' := [(2, .int (x2 + 1)), (4, .int ((2 + (10 * x2)) + 8)), (3, .int otC), (0, .ref bk), (1, .ref ot)]) hx hb d_ImageWriter_write_102 hl rfl (congrArg (fun z => x2 + z) (by decide)) (by decide) rfl (fun ls hl => ?_)
          refine lv_goto (tgt := 60) hx hb d_ImageWriter_write_105 (by decide) ?_
          exact ih.2 (x2 + 1) otE_99 otC_76 otO_76 _ _ _ (lv_sub hl [3, 4, 0] rfl) hP hD hS hd
  obtain ⟨n, hd⟩ := hd
  refine lv_aload_n hx hb d_ImageWriter_write_0 rfl (lv_at hl 1 rfl) ?_
  refine lv_iconst (v := 0) hx hb d_ImageWriter_write_1 (by decide) ?_
  obtain ⟨otC_2, otO_2, c2, hd⟩ := hd
  refine ct_V (As := [.int 0]) (rest := []) (C := R_Row) (ci := 1) (q := (R_Row, F_Row, 3)) ⟨hx, hb, hml, hown, hts⟩ fm_Row_shorten (c_Row_shorten l dC dI cI cL cZ ot otEa otn otE otC otO 0 otC_2 otO_2 c2) k234_methodLink k17_instanceMethod k18_selects ⟨Nat.le_of_ble_eq_true rfl, Nat.le_of_ble_eq_true rfl⟩ rfl rfl hK hN hP hD hS hA [11, 12] [0, 1, 2, 3, 4, 5, 6, 7, 8, 9, 10] rfl rfl rfl (by decide) (by decide) (by decide) 11 rfl rfl rfl rfl hl.1 rfl (Nat.le_of_ble_eq_true rfl) d_ImageWriter_write_2 (fun H locs hP hD hS => ?_)
  have hP : va_P (dC, dI) classes ((sh_Book cI cL cZ bk bkNa bkN bkSa bkS bkB bkBEa bkBn bkBE bkBC bkBO bkK bkKWa bkKn bkKW bkKTa bkKT bkKC bkV bkVWa bkVn bkVW bkVTa bkVT bkVC bkT) ++ ((sh_Row cI cL cZ ot otEa otn otE otC_2 otO_2))) H := hP.sub [0, 1, 2, 3, 4, 5, 6, 7, 8, 9, 10, 11, 12] rfl
  have hD : va_D A ((sh_Book cI cL cZ bk bkNa bkN bkSa bkS bkB bkBEa bkBn bkBE bkBC bkBO bkK bkKWa bkKn bkKW bkKTa bkKT bkKC bkV bkVWa bkVn bkVW bkVTa bkVT bkVC bkT) ++ ((sh_Row cI cL cZ ot otEa otn otE otC_2 otO_2))) := hD.sub [0, 1, 2, 3, 4, 5, 6, 7, 8, 9, 10, 11, 12] (by decide) rfl
  refine lv_aload_n hx hb d_ImageWriter_write_5 rfl (lv_at hl 1 rfl) ?_
  refine lv_bipush (v := 72) hx hb d_ImageWriter_write_6 (by decide) ?_
  obtain ⟨otE_8, otC_8, otO_8, c8, hd⟩ := hd
  refine ct_V (As := [.int 72]) (rest := []) (C := R_Row) (ci := 1) (q := (R_Row, F_Row, 3)) ⟨hx, hb, hml, hown, hts⟩ fm_Row_append (c_Row_append l dC dI cI cL cZ ot otEa otn otE otC_2 otO_2 72 otE_8 otC_8 otO_8 c8) k197_methodLink k8_instanceMethod k9_selects ⟨Nat.le_of_ble_eq_true rfl, Nat.le_of_ble_eq_true rfl⟩ rfl rfl hK hN hP hD hS hA [11, 12] [0, 1, 2, 3, 4, 5, 6, 7, 8, 9, 10] rfl rfl rfl (by decide) (by decide) (by decide) 11 rfl rfl rfl rfl hl.1 rfl (Nat.le_of_ble_eq_true rfl) d_ImageWriter_write_8 (fun H locs hP hD hS => ?_)
  have hP : va_P (dC, dI) classes ((sh_Book cI cL cZ bk bkNa bkN bkSa bkS bkB bkBEa bkBn bkBE bkBC bkBO bkK bkKWa bkKn bkKW bkKTa bkKT bkKC bkV bkVWa bkVn bkVW bkVTa bkVT bkVC bkT) ++ ((sh_Row cI cL cZ ot otEa otn otE_8 otC_8 otO_8))) H := hP.sub [0, 1, 2, 3, 4, 5, 6, 7, 8, 9, 10, 11, 12] rfl
  have hD : va_D A ((sh_Book cI cL cZ bk bkNa bkN bkSa bkS bkB bkBEa bkBn bkBE bkBC bkBO bkK bkKWa bkKn bkKW bkKTa bkKT bkKC bkV bkVWa bkVn bkVW bkVTa bkVT bkVC bkT) ++ ((sh_Row cI cL cZ ot otEa otn otE_8 otC_8 otO_8))) := hD.sub [0, 1, 2, 3, 4, 5, 6, 7, 8, 9, 10, 11, 12] (by decide) rfl
  refine lv_aload_n hx hb d_ImageWriter_write_11 rfl (lv_at hl 1 rfl) ?_
  refine lv_aload_n hx hb d_ImageWriter_write_12 rfl (lv_at hl 0 rfl) ?_
  refine ct_VR (As := []) (rest := [.ref ot]) (C := R_Book) (ci := 3) (q := (R_Book, F_Book, 6)) ⟨hx, hb, hml, hown, hts⟩ fm_Book_topics (c_Book_topics l dC dI cI cL cZ bk bkNa bkN bkSa bkS bkB bkBEa bkBn bkBE bkBC bkBO bkK bkKWa bkKn bkKW bkKTa bkKT bkKC bkV bkVWa bkVn bkVW bkVTa bkVT bkVC bkT bkT rfl) k235_methodLink k128_instanceMethod k129_selects ⟨Nat.le_of_ble_eq_true rfl, Nat.le_of_ble_eq_true rfl⟩ rfl rfl hK hN hP hD [0, 1, 2, 3, 4, 5, 6, 7, 8, 9, 10] rfl rfl (by decide) 0 rfl rfl rfl rfl hl.1 rfl (Nat.le_of_ble_eq_true rfl) d_ImageWriter_write_13 ?_
  obtain ⟨otE_16, otC_16, otO_16, c16, hd⟩ := hd
  refine ct_V (As := [.int bkT]) (rest := []) (C := R_Row) (ci := 1) (q := (R_Row, F_Row, 3)) ⟨hx, hb, hml, hown, hts⟩ fm_Row_append (c_Row_append l dC dI cI cL cZ ot otEa otn otE_8 otC_8 otO_8 bkT otE_16 otC_16 otO_16 c16) k197_methodLink k8_instanceMethod k9_selects ⟨Nat.le_of_ble_eq_true rfl, Nat.le_of_ble_eq_true rfl⟩ rfl rfl hK hN hP hD hS hA [11, 12] [0, 1, 2, 3, 4, 5, 6, 7, 8, 9, 10] rfl rfl rfl (by decide) (by decide) (by decide) 11 rfl rfl rfl rfl hl.1 rfl (Nat.le_of_ble_eq_true rfl) d_ImageWriter_write_16 (fun H locs hP hD hS => ?_)
  have hP : va_P (dC, dI) classes ((sh_Book cI cL cZ bk bkNa bkN bkSa bkS bkB bkBEa bkBn bkBE bkBC bkBO bkK bkKWa bkKn bkKW bkKTa bkKT bkKC bkV bkVWa bkVn bkVW bkVTa bkVT bkVC bkT) ++ ((sh_Row cI cL cZ ot otEa otn otE_16 otC_16 otO_16))) H := hP.sub [0, 1, 2, 3, 4, 5, 6, 7, 8, 9, 10, 11, 12] rfl
  have hD : va_D A ((sh_Book cI cL cZ bk bkNa bkN bkSa bkS bkB bkBEa bkBn bkBE bkBC bkBO bkK bkKWa bkKn bkKW bkKTa bkKT bkKC bkV bkVWa bkVn bkVW bkVTa bkVT bkVC bkT) ++ ((sh_Row cI cL cZ ot otEa otn otE_16 otC_16 otO_16))) := hD.sub [0, 1, 2, 3, 4, 5, 6, 7, 8, 9, 10, 11, 12] (by decide) rfl
  refine lv_iconst (v := 0) hx hb d_ImageWriter_write_19 (by decide) ?_
  refine lv_istore_n (lv' := [(2, .int 0), (0, .ref bk), (1, .ref ot)]) hx hb d_ImageWriter_write_20 rfl hl (by decide) rfl (fun ls hl => ?_)
  exact (key n).1 0 otE_16 otC_16 otO_16 _ _ _ (lv_sub hl [1, 2, 0] rfl) hP hD hS hd
