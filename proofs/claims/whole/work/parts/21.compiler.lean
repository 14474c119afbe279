/-! 21.compiler: what each method does, read off its bytecode (D_..), and its contract (c_..); written by a program of mine. -/
-- Compiler.readLink
abbrev b_Compiler_readLink : ByteArray := prog_3_method_14_code
def y_Compiler_readLink : MethodName := ⟨"HelpFile$Compiler", "readLink", "(II)I"⟩
theorem k143_methodLink : Cond.methodLink "HelpFile$Compiler" 147 ⟨"HelpFile$Letters", "lettersEnd", "(LHelpFile$Row;II)I"⟩ ∈ ga := ga_t 394 (by decide +kernel) rfl
theorem k144_fieldLink : Cond.fieldLink "HelpFile$Compiler" 15 "HelpFile$Compiler" "linkNames" "[J" ∈ ga := ga_t 56 (by decide +kernel) rfl
theorem k145_fieldLink : Cond.fieldLink "HelpFile$Compiler" 19 "HelpFile$Compiler" "linkLines" "[I" ∈ ga := ga_t 57 (by decide +kernel) rfl
theorem k146_fieldLink : Cond.fieldLink "HelpFile$Compiler" 22 "HelpFile$Compiler" "linkPlaces" "[I" ∈ ga := ga_t 58 (by decide +kernel) rfl
theorem k147_methodLink : Cond.methodLink "HelpFile$Compiler" 151 ⟨"HelpFile$Book", "bodies", "()LHelpFile$Row;"⟩ ∈ ga := ga_t 397 (by decide +kernel) rfl
theorem k148_instanceMethod : Cond.instanceMethod ⟨"HelpFile$Book", "bodies", "()LHelpFile$Row;"⟩ ∈ ga := ga_t 398 (by decide +kernel) rfl
theorem k149_selects : Cond.selects "HelpFile$Book" ⟨"HelpFile$Book", "bodies", "()LHelpFile$Row;"⟩ ⟨"HelpFile$Book", "bodies", "()LHelpFile$Row;"⟩ ∈ ga := ga_t 399 (by decide +kernel) rfl
set_option maxRecDepth 100000 in
theorem fm_Compiler_readLink : Fm y_Compiler_readLink b_Compiler_readLink 5 (some .int) 2 := ⟨ga_t 393 rfl rfl, k108_initialized, by decide, by decide, by decide +kernel⟩
def B_Compiler_readLink_50 (srn : Nat) (bkBn : Nat) (coW : Int32) (srE : Nat → Int32) (srC : Int32) (bkT : Int32) (res : Int32) (coN' : Nat → Int64) (coL' : Nat → Int32) (coP' : Nat → Int32) (coK' : Int32) (coF' : Int32) (coE' : Int32) (bkS' : Nat → Int32) (bkBE' : Nat → Int32) (bkBC' : Int32) (bkBO' : Bool) (X : Nat → Int32 → Int32 → Bool → (Nat → Int64) → (Nat → Int32) → (Nat → Int32) → Int32 → Int32 → Int32 → (Nat → Int32) → (Nat → Int32) → Int32 → Bool → Prop) (x1 : Int32) (x3 : Int32) (coN : Nat → Int64) (coL : Nat → Int32) (coP : Nat → Int32) (coK : Int32) (coF : Int32) (coE : Int32) (bkS : Nat → Int32) (bkBE : Nat → Int32) (bkBC : Int32) (bkBO : Bool) : Prop := X 1 x1 x3 false coN coL coP coK coF coE bkS bkBE bkBC bkBO
def B_Compiler_readLink_53 (srn : Nat) (bkBn : Nat) (coW : Int32) (srE : Nat → Int32) (srC : Int32) (bkT : Int32) (res : Int32) (coN' : Nat → Int64) (coL' : Nat → Int32) (coP' : Nat → Int32) (coK' : Int32) (coF' : Int32) (coE' : Int32) (bkS' : Nat → Int32) (bkBE' : Nat → Int32) (bkBC' : Int32) (bkBO' : Bool) (X : Nat → Int32 → Int32 → Bool → (Nat → Int64) → (Nat → Int32) → (Nat → Int32) → Int32 → Int32 → Int32 → (Nat → Int32) → (Nat → Int32) → Int32 → Bool → Prop) (x1 : Int32) (x3 : Int32) (b4 : Bool) (coN : Nat → Int64) (coL : Nat → Int32) (coP : Nat → Int32) (coK : Int32) (coF : Int32) (coE : Int32) (bkS : Nat → Int32) (bkBE : Nat → Int32) (bkBC : Int32) (bkBO : Bool) : Prop := (((bI b4) = 0 → X 2 x1 0 false coN coL coP coK coF coE bkS bkBE bkBC bkBO) ∧ (¬ ((bI b4) = 0) → ((coK < 234 → (∃ bkS_85 : Nat → Int32, ∃ bkBE_85 : Nat → Int32, ∃ bkBC_85 : Int32, ∃ bkBO_85 : Bool, D_Book_append bkBn 2 bkS bkBE bkBC bkBO bkT bkS_85 bkBE_85 bkBC_85 bkBO_85 ∧ (∃ r104 : Int64, D_Letters_word srn (x1 + 1) x3 srE srC r104 ∧ (vp_in coK 234 ∧ (vp_in coK 234 ∧ (vp_in coK 234 ∧ (∃ bkS_155 : Nat → Int32, ∃ bkBE_155 : Nat → Int32, ∃ bkBC_155 : Int32, ∃ bkBO_155 : Bool, D_Book_append bkBn 0 bkS_85 bkBE_85 bkBC_85 bkBO_85 bkT bkS_155 bkBE_155 bkBC_155 bkBO_155 ∧ (res = x3 ∧ coN' = vp_updL coN (Int32.toNatClampNeg coK) r104 ∧ coL' = upd coL (Int32.toNatClampNeg coK) coW ∧ coP' = upd coP (Int32.toNatClampNeg coK) bkBC_85 ∧ coK' = coK + 1 ∧ coF' = coF ∧ coE' = coE ∧ bkS' = bkS_155 ∧ bkBE' = bkBE_155 ∧ bkBC' = bkBC_155 ∧ bkBO' = bkBO_155)))))))) ∧ (¬ (coK < 234) → X 2 x1 0 false coN coL coP coK coF coE bkS bkBE bkBC bkBO))))
def B_Compiler_readLink_68 (srn : Nat) (bkBn : Nat) (coW : Int32) (srE : Nat → Int32) (srC : Int32) (bkT : Int32) (res : Int32) (coN' : Nat → Int64) (coL' : Nat → Int32) (coP' : Nat → Int32) (coK' : Int32) (coF' : Int32) (coE' : Int32) (bkS' : Nat → Int32) (bkBE' : Nat → Int32) (bkBC' : Int32) (bkBO' : Bool) (X : Nat → Int32 → Int32 → Bool → (Nat → Int64) → (Nat → Int32) → (Nat → Int32) → Int32 → Int32 → Int32 → (Nat → Int32) → (Nat → Int32) → Int32 → Bool → Prop) (x1 : Int32) (coN : Nat → Int64) (coL : Nat → Int32) (coP : Nat → Int32) (coK : Int32) (coF : Int32) (coE : Int32) (bkS : Nat → Int32) (bkBE : Nat → Int32) (bkBC : Int32) (bkBO : Bool) : Prop := (∃ coF_75 : Int32, ∃ coE_75 : Int32, D_Compiler_blame 6 coW coF coE coF_75 coE_75 ∧ (res = x1 ∧ coN' = coN ∧ coL' = coL ∧ coP' = coP ∧ coK' = coK ∧ coF' = coF_75 ∧ coE' = coE_75 ∧ bkS' = bkS ∧ bkBE' = bkBE ∧ bkBC' = bkBC ∧ bkBO' = bkBO))
def S_Compiler_readLink (srn : Nat) (bkBn : Nat) (coW : Int32) (srE : Nat → Int32) (srC : Int32) (bkT : Int32) (res : Int32) (coN' : Nat → Int64) (coL' : Nat → Int32) (coP' : Nat → Int32) (coK' : Int32) (coF' : Int32) (coE' : Int32) (bkS' : Nat → Int32) (bkBE' : Nat → Int32) (bkBC' : Int32) (bkBO' : Bool) (X : Nat → Int32 → Int32 → Bool → (Nat → Int64) → (Nat → Int32) → (Nat → Int32) → Int32 → Int32 → Int32 → (Nat → Int32) → (Nat → Int32) → Int32 → Bool → Prop) : Nat → Int32 → Int32 → Bool → (Nat → Int64) → (Nat → Int32) → (Nat → Int32) → Int32 → Int32 → Int32 → (Nat → Int32) → (Nat → Int32) → Int32 → Bool → Prop := fun q_lab x1 x3 b4 coN coL coP coK coF coE bkS bkBE bkBC bkBO => match q_lab with | 0 => B_Compiler_readLink_50 srn bkBn coW srE srC bkT res coN' coL' coP' coK' coF' coE' bkS' bkBE' bkBC' bkBO' X x1 x3 coN coL coP coK coF coE bkS bkBE bkBC bkBO | 1 => B_Compiler_readLink_53 srn bkBn coW srE srC bkT res coN' coL' coP' coK' coF' coE' bkS' bkBE' bkBC' bkBO' X x1 x3 b4 coN coL coP coK coF coE bkS bkBE bkBC bkBO | 2 => B_Compiler_readLink_68 srn bkBn coW srE srC bkT res coN' coL' coP' coK' coF' coE' bkS' bkBE' bkBC' bkBO' X x1 coN coL coP coK coF coE bkS bkBE bkBC bkBO | _ => False
def T_Compiler_readLink (srn : Nat) (bkBn : Nat) (coW : Int32) (srE : Nat → Int32) (srC : Int32) (bkT : Int32) (res : Int32) (coN' : Nat → Int64) (coL' : Nat → Int32) (coP' : Nat → Int32) (coK' : Int32) (coF' : Int32) (coE' : Int32) (bkS' : Nat → Int32) (bkBE' : Nat → Int32) (bkBC' : Int32) (bkBO' : Bool) : Nat → (Nat → Int32 → Int32 → Bool → (Nat → Int64) → (Nat → Int32) → (Nat → Int32) → Int32 → Int32 → Int32 → (Nat → Int32) → (Nat → Int32) → Int32 → Bool → Prop)
  | 0 => fun _ _ _ _ _ _ _ _ _ _ _ _ _ _ => False
  | n + 1 => S_Compiler_readLink srn bkBn coW srE srC bkT res coN' coL' coP' coK' coF' coE' bkS' bkBE' bkBC' bkBO' (T_Compiler_readLink srn bkBn coW srE srC bkT res coN' coL' coP' coK' coF' coE' bkS' bkBE' bkBC' bkBO' n)
def D_Compiler_readLink (srn : Nat) (bkBn : Nat) (k0 : Int32) (k1 : Int32) (coN : Nat → Int64) (coL : Nat → Int32) (coP : Nat → Int32) (coK : Int32) (coF : Int32) (coE : Int32) (coW : Int32) (srE : Nat → Int32) (srC : Int32) (bkS : Nat → Int32) (bkBE : Nat → Int32) (bkBC : Int32) (bkBO : Bool) (bkT : Int32) (res : Int32) (coN' : Nat → Int64) (coL' : Nat → Int32) (coP' : Nat → Int32) (coK' : Int32) (coF' : Int32) (coE' : Int32) (bkS' : Nat → Int32) (bkBE' : Nat → Int32) (bkBC' : Int32) (bkBO' : Bool) : Prop := ∃ n : Nat, (∃ r8 : Int32, D_Letters_lettersEnd srn (k0 + 1) k1 srE srC r8 ∧ ((k1 ≤ r8 → T_Compiler_readLink srn bkBn coW srE srC bkT res coN' coL' coP' coK' coF' coE' bkS' bkBE' bkBC' bkBO' n 0 k0 r8 false coN coL coP coK coF coE bkS bkBE bkBC bkBO) ∧ (¬ (k1 ≤ r8) → (∃ r22 : Int32, D_Row_element srn r8 srE srC r22 ∧ ((r22 = 93 → (∃ r40 : Bool, D_Letters_isWord srn (k0 + 1) r8 6 srE srC r40 ∧ (((bI r40) = 0 → T_Compiler_readLink srn bkBn coW srE srC bkT res coN' coL' coP' coK' coF' coE' bkS' bkBE' bkBC' bkBO' n 0 k0 r8 false coN coL coP coK coF coE bkS bkBE bkBC bkBO) ∧ (¬ ((bI r40) = 0) → T_Compiler_readLink srn bkBn coW srE srC bkT res coN' coL' coP' coK' coF' coE' bkS' bkBE' bkBC' bkBO' n 1 k0 r8 true coN coL coP coK coF coE bkS bkBE bkBC bkBO)))) ∧ (¬ (r22 = 93) → T_Compiler_readLink srn bkBn coW srE srC bkT res coN' coL' coP' coK' coF' coE' bkS' bkBE' bkBC' bkBO' n 0 k0 r8 false coN coL coP coK coF coE bkS bkBE bkBC bkBO))))))
theorem d_Compiler_readLink_0 : decode b_Compiler_readLink 0 = .ok (.aload_n 0, 1) := by decide +kernel
theorem d_Compiler_readLink_1 : decode b_Compiler_readLink 1 = .ok (.getfield 25, 3) := by decide +kernel
theorem d_Compiler_readLink_4 : decode b_Compiler_readLink 4 = .ok (.iload_n 1, 1) := by decide +kernel
theorem d_Compiler_readLink_5 : decode b_Compiler_readLink 5 = .ok (.iconst 1, 1) := by decide +kernel
theorem d_Compiler_readLink_6 : decode b_Compiler_readLink 6 = .ok (.iadd, 1) := by decide +kernel
theorem d_Compiler_readLink_7 : decode b_Compiler_readLink 7 = .ok (.iload_n 2, 1) := by decide +kernel
theorem d_Compiler_readLink_8 : decode b_Compiler_readLink 8 = .ok (.invokestatic 147, 3) := by decide +kernel
theorem d_Compiler_readLink_11 : decode b_Compiler_readLink 11 = .ok (.istore_n 3, 1) := by decide +kernel
theorem d_Compiler_readLink_12 : decode b_Compiler_readLink 12 = .ok (.iload_n 3, 1) := by decide +kernel
theorem d_Compiler_readLink_13 : decode b_Compiler_readLink 13 = .ok (.iload_n 2, 1) := by decide +kernel
theorem d_Compiler_readLink_14 : decode b_Compiler_readLink 14 = .ok (.if_icmp .ge 36, 3) := by decide +kernel
theorem d_Compiler_readLink_17 : decode b_Compiler_readLink 17 = .ok (.aload_n 0, 1) := by decide +kernel
theorem d_Compiler_readLink_18 : decode b_Compiler_readLink 18 = .ok (.getfield 25, 3) := by decide +kernel
theorem d_Compiler_readLink_21 : decode b_Compiler_readLink 21 = .ok (.iload_n 3, 1) := by decide +kernel
theorem d_Compiler_readLink_22 : decode b_Compiler_readLink 22 = .ok (.invokevirtual 96, 3) := by decide +kernel
theorem d_Compiler_readLink_25 : decode b_Compiler_readLink 25 = .ok (.bipush 93, 2) := by decide +kernel
theorem d_Compiler_readLink_27 : decode b_Compiler_readLink 27 = .ok (.if_icmp .ne 23, 3) := by decide +kernel
theorem d_Compiler_readLink_30 : decode b_Compiler_readLink 30 = .ok (.aload_n 0, 1) := by decide +kernel
theorem d_Compiler_readLink_31 : decode b_Compiler_readLink 31 = .ok (.getfield 25, 3) := by decide +kernel
theorem d_Compiler_readLink_34 : decode b_Compiler_readLink 34 = .ok (.iload_n 1, 1) := by decide +kernel
theorem d_Compiler_readLink_35 : decode b_Compiler_readLink 35 = .ok (.iconst 1, 1) := by decide +kernel
theorem d_Compiler_readLink_36 : decode b_Compiler_readLink 36 = .ok (.iadd, 1) := by decide +kernel
theorem d_Compiler_readLink_37 : decode b_Compiler_readLink 37 = .ok (.iload_n 3, 1) := by decide +kernel
theorem d_Compiler_readLink_38 : decode b_Compiler_readLink 38 = .ok (.bipush 6, 2) := by decide +kernel
theorem d_Compiler_readLink_40 : decode b_Compiler_readLink 40 = .ok (.invokestatic 118, 3) := by decide +kernel
theorem d_Compiler_readLink_43 : decode b_Compiler_readLink 43 = .ok (.ifCond .eq 7, 3) := by decide +kernel
theorem d_Compiler_readLink_46 : decode b_Compiler_readLink 46 = .ok (.iconst 1, 1) := by decide +kernel
theorem d_Compiler_readLink_47 : decode b_Compiler_readLink 47 = .ok (.goto 4, 3) := by decide +kernel
theorem d_Compiler_readLink_50 : decode b_Compiler_readLink 50 = .ok (.iconst 0, 1) := by decide +kernel
theorem d_Compiler_readLink_51 : decode b_Compiler_readLink 51 = .ok (.istore 4, 2) := by decide +kernel
theorem d_Compiler_readLink_53 : decode b_Compiler_readLink 53 = .ok (.iload 4, 2) := by decide +kernel
theorem d_Compiler_readLink_55 : decode b_Compiler_readLink 55 = .ok (.ifCond .eq 13, 3) := by decide +kernel
theorem d_Compiler_readLink_58 : decode b_Compiler_readLink 58 = .ok (.aload_n 0, 1) := by decide +kernel
theorem d_Compiler_readLink_59 : decode b_Compiler_readLink 59 = .ok (.getfield 80, 3) := by decide +kernel
theorem d_Compiler_readLink_62 : decode b_Compiler_readLink 62 = .ok (.sipush 234, 3) := by decide +kernel
theorem d_Compiler_readLink_65 : decode b_Compiler_readLink 65 = .ok (.if_icmp .lt 15, 3) := by decide +kernel
theorem d_Compiler_readLink_68 : decode b_Compiler_readLink 68 = .ok (.aload_n 0, 1) := by decide +kernel
theorem d_Compiler_readLink_69 : decode b_Compiler_readLink 69 = .ok (.bipush 6, 2) := by decide +kernel
theorem d_Compiler_readLink_71 : decode b_Compiler_readLink 71 = .ok (.aload_n 0, 1) := by decide +kernel
theorem d_Compiler_readLink_72 : decode b_Compiler_readLink 72 = .ok (.getfield 57, 3) := by decide +kernel
theorem d_Compiler_readLink_75 : decode b_Compiler_readLink 75 = .ok (.invokevirtual 74, 3) := by decide +kernel
theorem d_Compiler_readLink_78 : decode b_Compiler_readLink 78 = .ok (.iload_n 1, 1) := by decide +kernel
theorem d_Compiler_readLink_79 : decode b_Compiler_readLink 79 = .ok (.ireturn, 1) := by decide +kernel
theorem d_Compiler_readLink_80 : decode b_Compiler_readLink 80 = .ok (.aload_n 0, 1) := by decide +kernel
theorem d_Compiler_readLink_81 : decode b_Compiler_readLink 81 = .ok (.getfield 29, 3) := by decide +kernel
theorem d_Compiler_readLink_84 : decode b_Compiler_readLink 84 = .ok (.iconst 2, 1) := by decide +kernel
theorem d_Compiler_readLink_85 : decode b_Compiler_readLink 85 = .ok (.invokevirtual 144, 3) := by decide +kernel
theorem d_Compiler_readLink_88 : decode b_Compiler_readLink 88 = .ok (.aload_n 0, 1) := by decide +kernel
theorem d_Compiler_readLink_89 : decode b_Compiler_readLink 89 = .ok (.getfield 15, 3) := by decide +kernel
theorem d_Compiler_readLink_92 : decode b_Compiler_readLink 92 = .ok (.aload_n 0, 1) := by decide +kernel
theorem d_Compiler_readLink_93 : decode b_Compiler_readLink 93 = .ok (.getfield 80, 3) := by decide +kernel
theorem d_Compiler_readLink_96 : decode b_Compiler_readLink 96 = .ok (.aload_n 0, 1) := by decide +kernel
theorem d_Compiler_readLink_97 : decode b_Compiler_readLink 97 = .ok (.getfield 25, 3) := by decide +kernel
theorem d_Compiler_readLink_100 : decode b_Compiler_readLink 100 = .ok (.iload_n 1, 1) := by decide +kernel
theorem d_Compiler_readLink_101 : decode b_Compiler_readLink 101 = .ok (.iconst 1, 1) := by decide +kernel
theorem d_Compiler_readLink_102 : decode b_Compiler_readLink 102 = .ok (.iadd, 1) := by decide +kernel
theorem d_Compiler_readLink_103 : decode b_Compiler_readLink 103 = .ok (.iload_n 3, 1) := by decide +kernel
theorem d_Compiler_readLink_104 : decode b_Compiler_readLink 104 = .ok (.invokestatic 112, 3) := by decide +kernel
theorem d_Compiler_readLink_107 : decode b_Compiler_readLink 107 = .ok (.lastore, 1) := by decide +kernel
theorem d_Compiler_readLink_108 : decode b_Compiler_readLink 108 = .ok (.aload_n 0, 1) := by decide +kernel
theorem d_Compiler_readLink_109 : decode b_Compiler_readLink 109 = .ok (.getfield 19, 3) := by decide +kernel
theorem d_Compiler_readLink_112 : decode b_Compiler_readLink 112 = .ok (.aload_n 0, 1) := by decide +kernel
theorem d_Compiler_readLink_113 : decode b_Compiler_readLink 113 = .ok (.getfield 80, 3) := by decide +kernel
theorem d_Compiler_readLink_116 : decode b_Compiler_readLink 116 = .ok (.aload_n 0, 1) := by decide +kernel
theorem d_Compiler_readLink_117 : decode b_Compiler_readLink 117 = .ok (.getfield 57, 3) := by decide +kernel
theorem d_Compiler_readLink_120 : decode b_Compiler_readLink 120 = .ok (.iastore, 1) := by decide +kernel
theorem d_Compiler_readLink_121 : decode b_Compiler_readLink 121 = .ok (.aload_n 0, 1) := by decide +kernel
theorem d_Compiler_readLink_122 : decode b_Compiler_readLink 122 = .ok (.getfield 22, 3) := by decide +kernel
theorem d_Compiler_readLink_125 : decode b_Compiler_readLink 125 = .ok (.aload_n 0, 1) := by decide +kernel
theorem d_Compiler_readLink_126 : decode b_Compiler_readLink 126 = .ok (.getfield 80, 3) := by decide +kernel
theorem d_Compiler_readLink_129 : decode b_Compiler_readLink 129 = .ok (.aload_n 0, 1) := by decide +kernel
theorem d_Compiler_readLink_130 : decode b_Compiler_readLink 130 = .ok (.getfield 29, 3) := by decide +kernel
theorem d_Compiler_readLink_133 : decode b_Compiler_readLink 133 = .ok (.invokevirtual 151, 3) := by decide +kernel
theorem d_Compiler_readLink_136 : decode b_Compiler_readLink 136 = .ok (.invokevirtual 40, 3) := by decide +kernel
theorem d_Compiler_readLink_139 : decode b_Compiler_readLink 139 = .ok (.iastore, 1) := by decide +kernel
theorem d_Compiler_readLink_140 : decode b_Compiler_readLink 140 = .ok (.aload_n 0, 1) := by decide +kernel
theorem d_Compiler_readLink_141 : decode b_Compiler_readLink 141 = .ok (.dup, 1) := by decide +kernel
theorem d_Compiler_readLink_142 : decode b_Compiler_readLink 142 = .ok (.getfield 80, 3) := by decide +kernel
theorem d_Compiler_readLink_145 : decode b_Compiler_readLink 145 = .ok (.iconst 1, 1) := by decide +kernel
theorem d_Compiler_readLink_146 : decode b_Compiler_readLink 146 = .ok (.iadd, 1) := by decide +kernel
theorem d_Compiler_readLink_147 : decode b_Compiler_readLink 147 = .ok (.putfield 80, 3) := by decide +kernel
theorem d_Compiler_readLink_150 : decode b_Compiler_readLink 150 = .ok (.aload_n 0, 1) := by decide +kernel
theorem d_Compiler_readLink_151 : decode b_Compiler_readLink 151 = .ok (.getfield 29, 3) := by decide +kernel
theorem d_Compiler_readLink_154 : decode b_Compiler_readLink 154 = .ok (.iconst 0, 1) := by decide +kernel
theorem d_Compiler_readLink_155 : decode b_Compiler_readLink 155 = .ok (.invokevirtual 144, 3) := by decide +kernel
theorem d_Compiler_readLink_158 : decode b_Compiler_readLink 158 = .ok (.iload_n 3, 1) := by decide +kernel
theorem d_Compiler_readLink_159 : decode b_Compiler_readLink 159 = .ok (.ireturn, 1) := by decide +kernel
set_option maxHeartbeats 4000000 in
set_option maxRecDepth 100000 in
theorem c_Compiler_readLink (l : Launch) (dC : Nat → ClassId) (dI : Nat → Nat → Nat) (cI cL cZ : ClassId) (co : Nat) (coHa : Nat) (coH : Nat → Int32) (coNa : Nat) (coN : Nat → Int64) (coLa : Nat) (coL : Nat → Int32) (coPa : Nat) (coP : Nat → Int32) (coK : Int32) (coF : Int32) (coE : Int32) (coW : Int32) (coX : Int32) (coI : Bool) (coD : Bool) (coM : Bool) (sr : Nat) (srEa : Nat) (srn : Nat) (srE : Nat → Int32) (srC : Int32) (srO : Bool) (bk : Nat) (bkNa : Nat) (bkN : Nat → Int64) (bkSa : Nat) (bkS : Nat → Int32) (bkB : Nat) (bkBEa : Nat) (bkBn : Nat) (bkBE : Nat → Int32) (bkBC : Int32) (bkBO : Bool) (bkK : Nat) (bkKWa : Nat) (bkKn : Nat) (bkKW : Nat → Int64) (bkKTa : Nat) (bkKT : Nat → Int32) (bkKC : Int32) (bkV : Nat) (bkVWa : Nat) (bkVn : Nat) (bkVW : Nat → Int64) (bkVTa : Nat) (bkVT : Nat → Int32) (bkVC : Int32) (bkT : Int32) (k0 : Int32) (k1 : Int32) (res : Int32) (coN' : Nat → Int64) (coL' : Nat → Int32) (coP' : Nat → Int32) (coK' : Int32) (coF' : Int32) (coE' : Int32) (bkS' : Nat → Int32) (bkBE' : Nat → Int32) (bkBC' : Int32) (bkBO' : Bool) (hd : D_Compiler_readLink srn bkBn k0 k1 coN coL coP coK coF coE coW srE srC bkS bkBE bkBC bkBO bkT res coN' coL' coP' coK' coF' coE' bkS' bkBE' bkBC' bkBO') : Ctr l y_Compiler_readLink (Cond.code y_Compiler_readLink b_Compiler_readLink 5 (some .int) :: ga) { frames := 2, cells := 0, slots := 0, locals := 50 } (dC, dI) classes (Tys cI cL cZ) [.ref co, .int k0, .int k1] ((sh_Compiler cI cL cZ co coHa coH coNa coN coLa coL coPa coP coK (.ref sr) (.ref bk) coF coE coW coX coI coD coM) ++ ((sh_Row cI cL cZ sr srEa srn srE srC srO) ++ ((sh_Book cI cL cZ bk bkNa bkN bkSa bkS bkB bkBEa bkBn bkBE bkBC bkBO bkK bkKWa bkKn bkKW bkKTa bkKT bkKC bkV bkVWa bkVn bkVW bkVTa bkVT bkVC bkT)))) (some (.int res)) ((sh_Compiler cI cL cZ co coHa coH coNa coN' coLa coL' coPa coP' coK' (.ref sr) (.ref bk) coF' coE' coW coX coI coD coM) ++ ((sh_Row cI cL cZ sr srEa srn srE srC srO) ++ ((sh_Book cI cL cZ bk bkNa bkN bkSa bkS' bkB bkBEa bkBn bkBE' bkBC' bkBO' bkK bkKWa bkKn bkKW bkKTa bkKT bkKC bkV bkVWa bkVn bkVW bkVTa bkVT bkVC bkT)))) := by
  refine Ctr.ofW (by decide) (Nat.le_of_ble_eq_true rfl) ?_
  intro p e s m below meth c A ls hx hb hr hml hown hlocks hts hK hN hA hP hD hS hl
  have hown : s.vm.findClass R_Compiler = some m.cls := hown
  have hl : lv_has ls 5 [(0, .ref co), (1, .int k0), (2, .int k1)] := hl
  have key : ∀ n : Nat, (∀ (x1 : Int32) (x3 : Int32) (coN : Nat → Int64) (coL : Nat → Int32) (coP : Nat → Int32) (coK : Int32) (coF : Int32) (coE : Int32) (bkS : Nat → Int32) (bkBE : Nat → Int32) (bkBC : Int32) (bkBO : Bool) (ls : Array Slot) (H : Heap) (locs : List Loc), lv_has ls 5 [(0, .ref co), (1, .int x1), (3, .int x3)] → va_P (dC, dI) classes ((sh_Compiler cI cL cZ co coHa coH coNa coN coLa coL coPa coP coK (.ref sr) (.ref bk) coF coE coW coX coI coD coM) ++ ((sh_Row cI cL cZ sr srEa srn srE srC srO) ++ ((sh_Book cI cL cZ bk bkNa bkN bkSa bkS bkB bkBEa bkBn bkBE bkBC bkBO bkK bkKWa bkKn bkKW bkKTa bkKT bkKC bkV bkVWa bkVn bkVW bkVTa bkVT bkVC bkT)))) H → va_D A ((sh_Compiler cI cL cZ co coHa coH coNa coN coLa coL coPa coP coK (.ref sr) (.ref bk) coF coE coW coX coI coD coM) ++ ((sh_Row cI cL cZ sr srEa srn srE srC srO) ++ ((sh_Book cI cL cZ bk bkNa bkN bkSa bkS bkB bkBEa bkBn bkBE bkBC bkBO bkK bkKWa bkKn bkKW bkKTa bkKT bkKC bkV bkVWa bkVn bkVW bkVTa bkVT bkVC bkT)))) → va_S A s.heap H locs → T_Compiler_readLink srn bkBn coW srE srC bkT res coN' coL' coP' coK' coF' coE' bkS' bkBE' bkBC' bkBO' n 0 x1 x3 false coN coL coP coK coF coE bkS bkBE bkBC bkBO → W p l e ({ frames := 2, cells := 0, slots := 0, locals := 50 }) s m ([.ref co, .int k0, .int k1] : List Value).toArray below meth c H locs 0 0 (MQ below (Qs (dC, dI) classes (Tys cI cL cZ) (some (.int res)) ((sh_Compiler cI cL cZ co coHa coH coNa coN' coLa coL' coPa coP' coK' (.ref sr) (.ref bk) coF' coE' coW coX coI coD coM) ++ ((sh_Row cI cL cZ sr srEa srn srE srC srO) ++ ((sh_Book cI cL cZ bk bkNa bkN bkSa bkS' bkB bkBEa bkBn bkBE' bkBC' bkBO' bkK bkKWa bkKn bkKW bkKTa bkKT bkKC bkV bkVWa bkVn bkVW bkVTa bkVT bkVC bkT)))) A) ([.ref co, .int k0, .int k1] : List Value).toArray s 0 0 A) (F0 m 50 ls [])) ∧ (∀ (x1 : Int32) (x3 : Int32) (b4 : Bool) (coN : Nat → Int64) (coL : Nat → Int32) (coP : Nat → Int32) (coK : Int32) (coF : Int32) (coE : Int32) (bkS : Nat → Int32) (bkBE : Nat → Int32) (bkBC : Int32) (bkBO : Bool) (ls : Array Slot) (H : Heap) (locs : List Loc), lv_has ls 5 [(0, .ref co), (1, .int x1), (3, .int x3), (4, .int (bI b4))] → va_P (dC, dI) classes ((sh_Compiler cI cL cZ co coHa coH coNa coN coLa coL coPa coP coK (.ref sr) (.ref bk) coF coE coW coX coI coD coM) ++ ((sh_Row cI cL cZ sr srEa srn srE srC srO) ++ ((sh_Book cI cL cZ bk bkNa bkN bkSa bkS bkB bkBEa bkBn bkBE bkBC bkBO bkK bkKWa bkKn bkKW bkKTa bkKT bkKC bkV bkVWa bkVn bkVW bkVTa bkVT bkVC bkT)))) H → va_D A ((sh_Compiler cI cL cZ co coHa coH coNa coN coLa coL coPa coP coK (.ref sr) (.ref bk) coF coE coW coX coI coD coM) ++ ((sh_Row cI cL cZ sr srEa srn srE srC srO) ++ ((sh_Book cI cL cZ bk bkNa bkN bkSa bkS bkB bkBEa bkBn bkBE bkBC bkBO bkK bkKWa bkKn bkKW bkKTa bkKT bkKC bkV bkVWa bkVn bkVW bkVTa bkVT bkVC bkT)))) → va_S A s.heap H locs → T_Compiler_readLink srn bkBn coW srE srC bkT res coN' coL' coP' coK' coF' coE' bkS' bkBE' bkBC' bkBO' n 1 x1 x3 b4 coN coL coP coK coF coE bkS bkBE bkBC bkBO → W p l e ({ frames := 2, cells := 0, slots := 0, locals := 50 }) s m ([.ref co, .int k0, .int k1] : List Value).toArray below meth c H locs 0 0 (MQ below (Qs (dC, dI) classes (Tys cI cL cZ) (some (.int res)) ((sh_Compiler cI cL cZ co coHa coH coNa coN' coLa coL' coPa coP' coK' (.ref sr) (.ref bk) coF' coE' coW coX coI coD coM) ++ ((sh_Row cI cL cZ sr srEa srn srE srC srO) ++ ((sh_Book cI cL cZ bk bkNa bkN bkSa bkS' bkB bkBEa bkBn bkBE' bkBC' bkBO' bkK bkKWa bkKn bkKW bkKTa bkKT bkKC bkV bkVWa bkVn bkVW bkVTa bkVT bkVC bkT)))) A) ([.ref co, .int k0, .int k1] : List Value).toArray s 0 0 A) (F0 m 53 ls [])) ∧ (∀ (x1 : Int32) (coN : Nat → Int64) (coL : Nat → Int32) (coP : Nat → Int32) (coK : Int32) (coF : Int32) (coE : Int32) (bkS : Nat → Int32) (bkBE : Nat → Int32) (bkBC : Int32) (bkBO : Bool) (ls : Array Slot) (H : Heap) (locs : List Loc), lv_has ls 5 [(0, .ref co), (1, .int x1)] → va_P (dC, dI) classes ((sh_Compiler cI cL cZ co coHa coH coNa coN coLa coL coPa coP coK (.ref sr) (.ref bk) coF coE coW coX coI coD coM) ++ ((sh_Row cI cL cZ sr srEa srn srE srC srO) ++ ((sh_Book cI cL cZ bk bkNa bkN bkSa bkS bkB bkBEa bkBn bkBE bkBC bkBO bkK bkKWa bkKn bkKW bkKTa bkKT bkKC bkV bkVWa bkVn bkVW bkVTa bkVT bkVC bkT)))) H → va_D A ((sh_Compiler cI cL cZ co coHa coH coNa coN coLa coL coPa coP coK (.ref sr) (.ref bk) coF coE coW coX coI coD coM) ++ ((sh_Row cI cL cZ sr srEa srn srE srC srO) ++ ((sh_Book cI cL cZ bk bkNa bkN bkSa bkS bkB bkBEa bkBn bkBE bkBC bkBO bkK bkKWa bkKn bkKW bkKTa bkKT bkKC bkV bkVWa bkVn bkVW bkVTa bkVT bkVC bkT)))) → va_S A s.heap H locs → T_Compiler_readLink srn bkBn coW srE srC bkT res coN' coL' coP' coK' coF' coE' bkS' bkBE' bkBC' bkBO' n 2 x1 0 false coN coL coP coK coF coE bkS bkBE bkBC bkBO → W p l e ({ frames := 2, cells := 0, slots := 0, locals := 50 }) s m ([.ref co, .int k0, .int k1] : List Value).toArray below meth c H locs 0 0 (MQ below (Qs (dC, dI) classes (Tys cI cL cZ) (some (.int res)) ((sh_Compiler cI cL cZ co coHa coH coNa coN' coLa coL' coPa coP' coK' (.ref sr) (.ref bk) coF' coE' coW coX coI coD coM) ++ ((sh_Row cI cL cZ sr srEa srn srE srC srO) ++ ((sh_Book cI cL cZ bk bkNa bkN bkSa bkS' bkB bkBEa bkBn bkBE' bkBC' bkBO' bkK bkKWa bkKn bkKW bkKTa bkKT bkKC bkV bkVWa bkVn bkVW bkVTa bkVT bkVC bkT)))) A) ([.ref co, .int k0, .int k1] : List Value).toArray s 0 0 A) (F0 m 68 ls [])) := by
    intro n
    induction n with
    | zero =>
      exact ⟨fun _ _ _ _ _ _ _ _ _ _ _ _ _ _ _ _ _ _ _ hd => False.elim hd, fun _ _ _ _ _ _ _ _ _ _ _ _ _ _ _ _ _ _ _ _ hd => False.elim hd, fun _ _ _ _ _ _ _ _ _ _ _ _ _ _ _ _ _ _ hd => False.elim hd⟩
    | succ n ih =>
      refine ⟨?_, ?_, ?_⟩
      · intro x1 x3 coN coL coP coK coF coE bkS bkBE bkBC bkBO ls H locs hl hP hD hS hd
        have hd : B_Compiler_readLink_50 srn bkBn coW srE srC bkT res coN' coL' coP' coK' coF' coE' bkS' bkBE' bkBC' bkBO' (T_Compiler_readLink srn bkBn coW srE srC bkT res coN' coL' coP' coK' coF' coE' bkS' bkBE' bkBC' bkBO' n) x1 x3 coN coL coP coK coF coE bkS bkBE bkBC bkBO := hd
        refine lv_iconst (v := 0) hx hb d_Compiler_readLink_50 (by decide) ?_
        refine lv_istore (lv' := [(4, .int 0), (0, .ref co), (1, .int x1), (3, .int x3)]) hx hb d_Compiler_readLink_51 hl (by decide) rfl (fun ls hl => ?_)
        exact ih.2.1 x1 x3 false coN coL coP coK coF coE bkS bkBE bkBC bkBO _ _ _ (lv_sub hl [1, 2, 3, 0] rfl) hP hD hS hd
      · intro x1 x3 b4 coN coL coP coK coF coE bkS bkBE bkBC bkBO ls H locs hl hP hD hS hd
        have hd : B_Compiler_readLink_53 srn bkBn coW srE srC bkT res coN' coL' coP' coK' coF' coE' bkS' bkBE' bkBC' bkBO' (T_Compiler_readLink srn bkBn coW srE srC bkT res coN' coL' coP' coK' coF' coE' bkS' bkBE' bkBC' bkBO' n) x1 x3 b4 coN coL coP coK coF coE bkS bkBE bkBC bkBO := hd
        refine lv_iload hx hb d_Compiler_readLink_53 (lv_at hl 3 rfl) ?_
        refine lv_if_eq (tgt := 68) hx hb d_Compiler_readLink_55 (by decide) (fun h55 => ?_) (fun h55 => ?_)
        · have hd := hd.1 h55
          exact ih.2.2 x1 coN coL coP coK coF coE bkS bkBE bkBC bkBO _ _ _ (lv_sub hl [0, 1] rfl) hP hD hS hd
        · have hd := hd.2 h55
          refine lv_aload_n hx hb d_Compiler_readLink_58 rfl (lv_at hl 0 rfl) ?_
          refine va_get (D := (dC, dI)) (ci := 4) (v := .int coK) (C := R_Compiler) (T := F_Compiler) (N := 14) hx hb hts in_Compiler hown hK hP 0 rfl rfl 4 (by decide) (hts _ (List.mem_cons_of_mem _ k114_fieldLink)) (fun _ h9 => h9) rfl d_Compiler_readLink_59 ?_
          refine lv_sipush (v := 234) hx hb d_Compiler_readLink_62 (by decide) ?_
          refine lv_icmp_lt (tgt := 80) hx hb d_Compiler_readLink_65 (by decide) (fun h65 => ?_) (fun h65 => ?_)
          · have hd := hd.1 h65
            refine lv_aload_n hx hb d_Compiler_readLink_80 rfl (lv_at hl 0 rfl) ?_
            refine va_get (D := (dC, dI)) (ci := 4) (v := .ref bk) (C := R_Compiler) (T := F_Compiler) (N := 14) hx hb hts in_Compiler hown hK hP 0 rfl rfl 6 (by decide) (hts _ (List.mem_cons_of_mem _ k110_fieldLink)) (fun _ h9 => h9) rfl d_Compiler_readLink_81 ?_
            refine lv_iconst (v := 2) hx hb d_Compiler_readLink_84 (by decide) ?_
            obtain ⟨bkS_85, bkBE_85, bkBC_85, bkBO_85, c85, hd⟩ := hd
            refine ct_V (As := [.int 2]) (rest := []) (C := R_Book) (ci := 3) (q := (R_Book, F_Book, 6)) ⟨hx, hb, hml, hown, hts⟩ fm_Book_append (c_Book_append l dC dI cI cL cZ bk bkNa bkN bkSa bkS bkB bkBEa bkBn bkBE bkBC bkBO bkK bkKWa bkKn bkKW bkKTa bkKT bkKC bkV bkVWa bkVn bkVW bkVTa bkVT bkVC bkT 2 bkS_85 bkBE_85 bkBC_85 bkBO_85 c85) k140_methodLink k141_instanceMethod k142_selects ⟨Nat.le_of_ble_eq_true rfl, Nat.le_of_ble_eq_true rfl⟩ rfl rfl hK hN hP hD hS hA [7, 8, 9, 10, 11, 12, 13, 14, 15, 16, 17] [0, 1, 2, 3, 4, 5, 6] rfl rfl rfl (by decide) (by decide) (by decide) 7 rfl rfl rfl rfl hl.1 rfl (Nat.le_of_ble_eq_true rfl) d_Compiler_readLink_85 (fun H locs hP hD hS => ?_)
            have hP : va_P (dC, dI) classes ((sh_Compiler cI cL cZ co coHa coH coNa coN coLa coL coPa coP coK (.ref sr) (.ref bk) coF coE coW coX coI coD coM) ++ ((sh_Row cI cL cZ sr srEa srn srE srC srO) ++ ((sh_Book cI cL cZ bk bkNa bkN bkSa bkS_85 bkB bkBEa bkBn bkBE_85 bkBC_85 bkBO_85 bkK bkKWa bkKn bkKW bkKTa bkKT bkKC bkV bkVWa bkVn bkVW bkVTa bkVT bkVC bkT)))) H := hP.sub [0, 1, 2, 3, 4, 5, 6, 7, 8, 9, 10, 11, 12, 13, 14, 15, 16, 17] rfl
            have hD : va_D A ((sh_Compiler cI cL cZ co coHa coH coNa coN coLa coL coPa coP coK (.ref sr) (.ref bk) coF coE coW coX coI coD coM) ++ ((sh_Row cI cL cZ sr srEa srn srE srC srO) ++ ((sh_Book cI cL cZ bk bkNa bkN bkSa bkS_85 bkB bkBEa bkBn bkBE_85 bkBC_85 bkBO_85 bkK bkKWa bkKn bkKW bkKTa bkKT bkKC bkV bkVWa bkVn bkVW bkVTa bkVT bkVC bkT)))) := hD.sub [0, 1, 2, 3, 4, 5, 6, 7, 8, 9, 10, 11, 12, 13, 14, 15, 16, 17] (by decide) rfl
            refine lv_aload_n hx hb d_Compiler_readLink_88 rfl (lv_at hl 0 rfl) ?_
            refine va_get (D := (dC, dI)) (ci := 4) (v := .ref coNa) (C := R_Compiler) (T := F_Compiler) (N := 14) hx hb hts in_Compiler hown hK hP 0 rfl rfl 1 (by decide) (hts _ (List.mem_cons_of_mem _ k144_fieldLink)) (fun _ h9 => h9) rfl d_Compiler_readLink_89 ?_
            refine lv_aload_n hx hb d_Compiler_readLink_92 rfl (lv_at hl 0 rfl) ?_
            refine va_get (D := (dC, dI)) (ci := 4) (v := .int coK) (C := R_Compiler) (T := F_Compiler) (N := 14) hx hb hts in_Compiler hown hK hP 0 rfl rfl 4 (by decide) (hts _ (List.mem_cons_of_mem _ k114_fieldLink)) (fun _ h9 => h9) rfl d_Compiler_readLink_93 ?_
            refine lv_aload_n hx hb d_Compiler_readLink_96 rfl (lv_at hl 0 rfl) ?_
            refine va_get (D := (dC, dI)) (ci := 4) (v := .ref sr) (C := R_Compiler) (T := F_Compiler) (N := 14) hx hb hts in_Compiler hown hK hP 0 rfl rfl 5 (by decide) (hts _ (List.mem_cons_of_mem _ k120_fieldLink)) (fun _ h9 => h9) rfl d_Compiler_readLink_97 ?_
            refine lv_iload_n hx hb d_Compiler_readLink_100 rfl (lv_at hl 1 rfl) ?_
            refine lv_iconst (v := 1) hx hb d_Compiler_readLink_101 (by decide) ?_
            refine lv_iadd hx hb d_Compiler_readLink_102 ?_
            refine lv_iload_n hx hb d_Compiler_readLink_103 rfl (lv_at hl 2 rfl) ?_
            obtain ⟨r104, c104, hd⟩ := hd
            refine ct_SR (As := [.ref sr, .int (x1 + 1), .int x3]) (rest := [.int coK, .ref coNa]) ⟨hx, hb, hml, hown, hts⟩ fm_Letters_word (c_Letters_word l dC dI cI cL cZ sr srEa srn srE srC srO (x1 + 1) x3 r104 c104) k123_methodLink k86_static ⟨Nat.le_of_ble_eq_true rfl, Nat.le_of_ble_eq_true rfl⟩ rfl rfl hK hN hP hD [5, 6] rfl rfl (by decide) rfl hl.1 rfl (Nat.le_of_ble_eq_true rfl) d_Compiler_readLink_104 ?_
            obtain ⟨h107, hd⟩ := hd
            refine va_last hx hb hK hP hD hS 2 1 rfl rfl h107 d_Compiler_readLink_107 (fun H locs hP hD hS => ?_)
            have hP : va_P (dC, dI) classes ((sh_Compiler cI cL cZ co coHa coH coNa (vp_updL coN (Int32.toNatClampNeg coK) r104) coLa coL coPa coP coK (.ref sr) (.ref bk) coF coE coW coX coI coD coM) ++ ((sh_Row cI cL cZ sr srEa srn srE srC srO) ++ ((sh_Book cI cL cZ bk bkNa bkN bkSa bkS_85 bkB bkBEa bkBn bkBE_85 bkBC_85 bkBO_85 bkK bkKWa bkKn bkKW bkKTa bkKT bkKC bkV bkVWa bkVn bkVW bkVTa bkVT bkVC bkT)))) H := hP
            have hD : va_D A ((sh_Compiler cI cL cZ co coHa coH coNa (vp_updL coN (Int32.toNatClampNeg coK) r104) coLa coL coPa coP coK (.ref sr) (.ref bk) coF coE coW coX coI coD coM) ++ ((sh_Row cI cL cZ sr srEa srn srE srC srO) ++ ((sh_Book cI cL cZ bk bkNa bkN bkSa bkS_85 bkB bkBEa bkBn bkBE_85 bkBC_85 bkBO_85 bkK bkKWa bkKn bkKW bkKTa bkKT bkKC bkV bkVWa bkVn bkVW bkVTa bkVT bkVC bkT)))) := hD
            refine lv_aload_n hx hb d_Compiler_readLink_108 rfl (lv_at hl 0 rfl) ?_
            refine va_get (D := (dC, dI)) (ci := 4) (v := .ref coLa) (C := R_Compiler) (T := F_Compiler) (N := 14) hx hb hts in_Compiler hown hK hP 0 rfl rfl 2 (by decide) (hts _ (List.mem_cons_of_mem _ k145_fieldLink)) (fun _ h9 => h9) rfl d_Compiler_readLink_109 ?_
            refine lv_aload_n hx hb d_Compiler_readLink_112 rfl (lv_at hl 0 rfl) ?_
            refine va_get (D := (dC, dI)) (ci := 4) (v := .int coK) (C := R_Compiler) (T := F_Compiler) (N := 14) hx hb hts in_Compiler hown hK hP 0 rfl rfl 4 (by decide) (hts _ (List.mem_cons_of_mem _ k114_fieldLink)) (fun _ h9 => h9) rfl d_Compiler_readLink_113 ?_
            refine lv_aload_n hx hb d_Compiler_readLink_116 rfl (lv_at hl 0 rfl) ?_
            refine va_get (D := (dC, dI)) (ci := 4) (v := .int coW) (C := R_Compiler) (T := F_Compiler) (N := 14) hx hb hts in_Compiler hown hK hP 0 rfl rfl 9 (by decide) (hts _ (List.mem_cons_of_mem _ k115_fieldLink)) (fun _ h9 => h9) rfl d_Compiler_readLink_117 ?_
            obtain ⟨h120, hd⟩ := hd
            refine va_iast hx hb hK hP hD hS 3 0 rfl rfl h120 d_Compiler_readLink_120 (fun H locs hP hD hS => ?_)
            have hP : va_P (dC, dI) classes ((sh_Compiler cI cL cZ co coHa coH coNa (vp_updL coN (Int32.toNatClampNeg coK) r104) coLa (upd coL (Int32.toNatClampNeg coK) coW) coPa coP coK (.ref sr) (.ref bk) coF coE coW coX coI coD coM) ++ ((sh_Row cI cL cZ sr srEa srn srE srC srO) ++ ((sh_Book cI cL cZ bk bkNa bkN bkSa bkS_85 bkB bkBEa bkBn bkBE_85 bkBC_85 bkBO_85 bkK bkKWa bkKn bkKW bkKTa bkKT bkKC bkV bkVWa bkVn bkVW bkVTa bkVT bkVC bkT)))) H := hP
            have hD : va_D A ((sh_Compiler cI cL cZ co coHa coH coNa (vp_updL coN (Int32.toNatClampNeg coK) r104) coLa (upd coL (Int32.toNatClampNeg coK) coW) coPa coP coK (.ref sr) (.ref bk) coF coE coW coX coI coD coM) ++ ((sh_Row cI cL cZ sr srEa srn srE srC srO) ++ ((sh_Book cI cL cZ bk bkNa bkN bkSa bkS_85 bkB bkBEa bkBn bkBE_85 bkBC_85 bkBO_85 bkK bkKWa bkKn bkKW bkKTa bkKT bkKC bkV bkVWa bkVn bkVW bkVTa bkVT bkVC bkT)))) := hD
            refine lv_aload_n hx hb d_Compiler_readLink_121 rfl (lv_at hl 0 rfl) ?_
            refine va_get (D := (dC, dI)) (ci := 4) (v := .ref coPa) (C := R_Compiler) (T := F_Compiler) (N := 14) hx hb hts in_Compiler hown hK hP 0 rfl rfl 3 (by decide) (hts _ (List.mem_cons_of_mem _ k146_fieldLink)) (fun _ h9 => h9) rfl d_Compiler_readLink_122 ?_
            refine lv_aload_n hx hb d_Compiler_readLink_125 rfl (lv_at hl 0 rfl) ?_
            refine va_get (D := (dC, dI)) (ci := 4) (v := .int coK) (C := R_Compiler) (T := F_Compiler) (N := 14) hx hb hts in_Compiler hown hK hP 0 rfl rfl 4 (by decide) (hts _ (List.mem_cons_of_mem _ k114_fieldLink)) (fun _ h9 => h9) rfl d_Compiler_readLink_126 ?_
            refine lv_aload_n hx hb d_Compiler_readLink_129 rfl (lv_at hl 0 rfl) ?_
            refine va_get (D := (dC, dI)) (ci := 4) (v := .ref bk) (C := R_Compiler) (T := F_Compiler) (N := 14) hx hb hts in_Compiler hown hK hP 0 rfl rfl 6 (by decide) (hts _ (List.mem_cons_of_mem _ k110_fieldLink)) (fun _ h9 => h9) rfl d_Compiler_readLink_130 ?_
            refine ct_VR (As := []) (rest := [.int coK, .ref coPa]) (C := R_Book) (ci := 3) (q := (R_Book, F_Book, 6)) ⟨hx, hb, hml, hown, hts⟩ fm_Book_bodies (c_Book_bodies l dC dI cI cL cZ bk bkNa bkN bkSa bkS_85 bkB bkBEa bkBn bkBE_85 bkBC_85 bkBO_85 bkK bkKWa bkKn bkKW bkKTa bkKT bkKC bkV bkVWa bkVn bkVW bkVTa bkVT bkVC bkT trivial) k147_methodLink k148_instanceMethod k149_selects ⟨Nat.le_of_ble_eq_true rfl, Nat.le_of_ble_eq_true rfl⟩ rfl rfl hK hN hP hD [7, 8, 9, 10, 11, 12, 13, 14, 15, 16, 17] rfl rfl (by decide) 7 rfl rfl rfl rfl hl.1 rfl (Nat.le_of_ble_eq_true rfl) d_Compiler_readLink_133 ?_
            refine ct_VR (As := []) (rest := [.int coK, .ref coPa]) (C := R_Row) (ci := 1) (q := (R_Row, F_Row, 3)) ⟨hx, hb, hml, hown, hts⟩ fm_Row_count (c_Row_count l dC dI cI cL cZ bkB bkBEa bkBn bkBE_85 bkBC_85 bkBO_85 bkBC_85 rfl) k121_methodLink k67_instanceMethod k68_selects ⟨Nat.le_of_ble_eq_true rfl, Nat.le_of_ble_eq_true rfl⟩ rfl rfl hK hN hP hD [10, 11] rfl rfl (by decide) 10 rfl rfl rfl rfl hl.1 rfl (Nat.le_of_ble_eq_true rfl) d_Compiler_readLink_136 ?_
            obtain ⟨h139, hd⟩ := hd
            refine va_iast hx hb hK hP hD hS 4 0 rfl rfl h139 d_Compiler_readLink_139 (fun H locs hP hD hS => ?_)
            have hP : va_P (dC, dI) classes ((sh_Compiler cI cL cZ co coHa coH coNa (vp_updL coN (Int32.toNatClampNeg coK) r104) coLa (upd coL (Int32.toNatClampNeg coK) coW) coPa (upd coP (Int32.toNatClampNeg coK) bkBC_85) coK (.ref sr) (.ref bk) coF coE coW coX coI coD coM) ++ ((sh_Row cI cL cZ sr srEa srn srE srC srO) ++ ((sh_Book cI cL cZ bk bkNa bkN bkSa bkS_85 bkB bkBEa bkBn bkBE_85 bkBC_85 bkBO_85 bkK bkKWa bkKn bkKW bkKTa bkKT bkKC bkV bkVWa bkVn bkVW bkVTa bkVT bkVC bkT)))) H := hP
            have hD : va_D A ((sh_Compiler cI cL cZ co coHa coH coNa (vp_updL coN (Int32.toNatClampNeg coK) r104) coLa (upd coL (Int32.toNatClampNeg coK) coW) coPa (upd coP (Int32.toNatClampNeg coK) bkBC_85) coK (.ref sr) (.ref bk) coF coE coW coX coI coD coM) ++ ((sh_Row cI cL cZ sr srEa srn srE srC srO) ++ ((sh_Book cI cL cZ bk bkNa bkN bkSa bkS_85 bkB bkBEa bkBn bkBE_85 bkBC_85 bkBO_85 bkK bkKWa bkKn bkKW bkKTa bkKT bkKC bkV bkVWa bkVn bkVW bkVTa bkVT bkVC bkT)))) := hD
            refine lv_aload_n hx hb d_Compiler_readLink_140 rfl (lv_at hl 0 rfl) ?_
            refine lv_dup hx hb d_Compiler_readLink_141 rfl ?_
            refine va_get (D := (dC, dI)) (ci := 4) (v := .int coK) (C := R_Compiler) (T := F_Compiler) (N := 14) hx hb hts in_Compiler hown hK hP 0 rfl rfl 4 (by decide) (hts _ (List.mem_cons_of_mem _ k114_fieldLink)) (fun _ h9 => h9) rfl d_Compiler_readLink_142 ?_
            refine lv_iconst (v := 1) hx hb d_Compiler_readLink_145 (by decide) ?_
            refine lv_iadd hx hb d_Compiler_readLink_146 ?_
            refine va_put (D := (dC, dI)) (ci := 4) (v := .int (coK + 1)) (ty := t_Compiler 4) (C := R_Compiler) (T := F_Compiler) (N := 14) hx hb hts in_Compiler t_Compiler t_Compiler_ok n_Compiler hown hK hP hD hS 0 rfl rfl 4 (by decide) (hts _ (List.mem_cons_of_mem _ k114_fieldLink)) (fun _ h9 => h9) rfl (t_Compiler_ok 4 (by decide)) rfl rfl (Nat.le_of_ble_eq_true rfl) d_Compiler_readLink_147 (fun H locs hP hD hS => ?_)
            have hP : va_P (dC, dI) classes ((sh_Compiler cI cL cZ co coHa coH coNa (vp_updL coN (Int32.toNatClampNeg coK) r104) coLa (upd coL (Int32.toNatClampNeg coK) coW) coPa (upd coP (Int32.toNatClampNeg coK) bkBC_85) (coK + 1) (.ref sr) (.ref bk) coF coE coW coX coI coD coM) ++ ((sh_Row cI cL cZ sr srEa srn srE srC srO) ++ ((sh_Book cI cL cZ bk bkNa bkN bkSa bkS_85 bkB bkBEa bkBn bkBE_85 bkBC_85 bkBO_85 bkK bkKWa bkKn bkKW bkKTa bkKT bkKC bkV bkVWa bkVn bkVW bkVTa bkVT bkVC bkT)))) H := hP
            have hD : va_D A ((sh_Compiler cI cL cZ co coHa coH coNa (vp_updL coN (Int32.toNatClampNeg coK) r104) coLa (upd coL (Int32.toNatClampNeg coK) coW) coPa (upd coP (Int32.toNatClampNeg coK) bkBC_85) (coK + 1) (.ref sr) (.ref bk) coF coE coW coX coI coD coM) ++ ((sh_Row cI cL cZ sr srEa srn srE srC srO) ++ ((sh_Book cI cL cZ bk bkNa bkN bkSa bkS_85 bkB bkBEa bkBn bkBE_85 bkBC_85 bkBO_85 bkK bkKWa bkKn bkKW bkKTa bkKT bkKC bkV bkVWa bkVn bkVW bkVTa bkVT bkVC bkT)))) := hD
            refine lv_aload_n hx hb d_Compiler_readLink_150 rfl (lv_at hl 0 rfl) ?_
            refine va_get (D := (dC, dI)) (ci := 4) (v := .ref bk) (C := R_Compiler) (T := F_Compiler) (N := 14) hx hb hts in_Compiler hown hK hP 0 rfl rfl 6 (by decide) (hts _ (List.mem_cons_of_mem _ k110_fieldLink)) (fun _ h9 => h9) rfl d_Compiler_readLink_151 ?_
            refine lv_iconst (v := 0) hx hb d_Compiler_readLink_154 (by decide) ?_
            obtain ⟨bkS_155, bkBE_155, bkBC_155, bkBO_155, c155, hd⟩ := hd
            refine ct_V (As := [.int 0]) (rest := []) (C := R_Book) (ci := 3) (q := (R_Book, F_Book, 6)) ⟨hx, hb, hml, hown, hts⟩ fm_Book_append (c_Book_append l dC dI cI cL cZ bk bkNa bkN bkSa bkS_85 bkB bkBEa bkBn bkBE_85 bkBC_85 bkBO_85 bkK bkKWa bkKn bkKW bkKTa bkKT bkKC bkV bkVWa bkVn bkVW bkVTa bkVT bkVC bkT 0 bkS_155 bkBE_155 bkBC_155 bkBO_155 c155) k140_methodLink k141_instanceMethod k142_selects ⟨Nat.le_of_ble_eq_true rfl, Nat.le_of_ble_eq_true rfl⟩ rfl rfl hK hN hP hD hS hA [7, 8, 9, 10, 11, 12, 13, 14, 15, 16, 17] [0, 1, 2, 3, 4, 5, 6] rfl rfl rfl (by decide) (by decide) (by decide) 7 rfl rfl rfl rfl hl.1 rfl (Nat.le_of_ble_eq_true rfl) d_Compiler_readLink_155 (fun H locs hP hD hS => ?_)
            have hP : va_P (dC, dI) classes ((sh_Compiler cI cL cZ co coHa coH coNa (vp_updL coN (Int32.toNatClampNeg coK) r104) coLa (upd coL (Int32.toNatClampNeg coK) coW) coPa (upd coP (Int32.toNatClampNeg coK) bkBC_85) (coK + 1) (.ref sr) (.ref bk) coF coE coW coX coI coD coM) ++ ((sh_Row cI cL cZ sr srEa srn srE srC srO) ++ ((sh_Book cI cL cZ bk bkNa bkN bkSa bkS_155 bkB bkBEa bkBn bkBE_155 bkBC_155 bkBO_155 bkK bkKWa bkKn bkKW bkKTa bkKT bkKC bkV bkVWa bkVn bkVW bkVTa bkVT bkVC bkT)))) H := hP.sub [0, 1, 2, 3, 4, 5, 6, 7, 8, 9, 10, 11, 12, 13, 14, 15, 16, 17] rfl
            have hD : va_D A ((sh_Compiler cI cL cZ co coHa coH coNa (vp_updL coN (Int32.toNatClampNeg coK) r104) coLa (upd coL (Int32.toNatClampNeg coK) coW) coPa (upd coP (Int32.toNatClampNeg coK) bkBC_85) (coK + 1) (.ref sr) (.ref bk) coF coE coW coX coI coD coM) ++ ((sh_Row cI cL cZ sr srEa srn srE srC srO) ++ ((sh_Book cI cL cZ bk bkNa bkN bkSa bkS_155 bkB bkBEa bkBn bkBE_155 bkBC_155 bkBO_155 bkK bkKWa bkKn bkKW bkKTa bkKT bkKC bkV bkVWa bkVn bkVW bkVTa bkVT bkVC bkT)))) := hD.sub [0, 1, 2, 3, 4, 5, 6, 7, 8, 9, 10, 11, 12, 13, 14, 15, 16, 17] (by decide) rfl
            refine lv_iload_n hx hb d_Compiler_readLink_158 rfl (lv_at hl 2 rfl) ?_
            obtain ⟨e0, e1, e2, e3, e4, e5, e6, e7, e8, e9, e10⟩ := hd
            subst e0
            subst e1
            subst e2
            subst e3
            subst e4
            subst e5
            subst e6
            subst e7
            subst e8
            subst e9
            subst e10
            exact ct_iret hx hb hr hlocks hK hP hD hS d_Compiler_readLink_159
          · have hd := hd.2 h65
            exact ih.2.2 x1 coN coL coP coK coF coE bkS bkBE bkBC bkBO _ _ _ (lv_sub hl [0, 1] rfl) hP hD hS hd
      · intro x1 coN coL coP coK coF coE bkS bkBE bkBC bkBO ls H locs hl hP hD hS hd
        have hd : B_Compiler_readLink_68 srn bkBn coW srE srC bkT res coN' coL' coP' coK' coF' coE' bkS' bkBE' bkBC' bkBO' (T_Compiler_readLink srn bkBn coW srE srC bkT res coN' coL' coP' coK' coF' coE' bkS' bkBE' bkBC' bkBO' n) x1 coN coL coP coK coF coE bkS bkBE bkBC bkBO := hd
        refine lv_aload_n hx hb d_Compiler_readLink_68 rfl (lv_at hl 0 rfl) ?_
        refine lv_bipush (v := 6) hx hb d_Compiler_readLink_69 (by decide) ?_
        refine lv_aload_n hx hb d_Compiler_readLink_71 rfl (lv_at hl 0 rfl) ?_
        refine va_get (D := (dC, dI)) (ci := 4) (v := .int coW) (C := R_Compiler) (T := F_Compiler) (N := 14) hx hb hts in_Compiler hown hK hP 0 rfl rfl 9 (by decide) (hts _ (List.mem_cons_of_mem _ k115_fieldLink)) (fun _ h9 => h9) rfl d_Compiler_readLink_72 ?_
        obtain ⟨coF_75, coE_75, c75, hd⟩ := hd
        refine ct_V (As := [.int 6, .int coW]) (rest := []) (C := R_Compiler) (ci := 4) (q := (R_Compiler, F_Compiler, 14)) ⟨hx, hb, hml, hown, hts⟩ fm_Compiler_blame (c_Compiler_blame l dC dI cI cL cZ co coHa coH coNa coN coLa coL coPa coP coK (.ref sr) (.ref bk) coF coE coW coX coI coD coM 6 coW coF_75 coE_75 c75) k134_methodLink k135_instanceMethod k136_selects ⟨Nat.le_of_ble_eq_true rfl, Nat.le_of_ble_eq_true rfl⟩ rfl rfl hK hN hP hD hS hA [0, 1, 2, 3, 4] [5, 6, 7, 8, 9, 10, 11, 12, 13, 14, 15, 16, 17] rfl rfl rfl (by decide) (by decide) (by decide) 0 rfl rfl rfl rfl hl.1 rfl (Nat.le_of_ble_eq_true rfl) d_Compiler_readLink_75 (fun H locs hP hD hS => ?_)
        have hP : va_P (dC, dI) classes ((sh_Compiler cI cL cZ co coHa coH coNa coN coLa coL coPa coP coK (.ref sr) (.ref bk) coF_75 coE_75 coW coX coI coD coM) ++ ((sh_Row cI cL cZ sr srEa srn srE srC srO) ++ ((sh_Book cI cL cZ bk bkNa bkN bkSa bkS bkB bkBEa bkBn bkBE bkBC bkBO bkK bkKWa bkKn bkKW bkKTa bkKT bkKC bkV bkVWa bkVn bkVW bkVTa bkVT bkVC bkT)))) H := hP.sub [13, 14, 15, 16, 17, 0, 1, 2, 3, 4, 5, 6, 7, 8, 9, 10, 11, 12] rfl
        have hD : va_D A ((sh_Compiler cI cL cZ co coHa coH coNa coN coLa coL coPa coP coK (.ref sr) (.ref bk) coF_75 coE_75 coW coX coI coD coM) ++ ((sh_Row cI cL cZ sr srEa srn srE srC srO) ++ ((sh_Book cI cL cZ bk bkNa bkN bkSa bkS bkB bkBEa bkBn bkBE bkBC bkBO bkK bkKWa bkKn bkKW bkKTa bkKT bkKC bkV bkVWa bkVn bkVW bkVTa bkVT bkVC bkT)))) := hD.sub [13, 14, 15, 16, 17, 0, 1, 2, 3, 4, 5, 6, 7, 8, 9, 10, 11, 12] (by decide) rfl
        refine lv_iload_n hx hb d_Compiler_readLink_78 rfl (lv_at hl 1 rfl) ?_
        obtain ⟨e0, e1, e2, e3, e4, e5, e6, e7, e8, e9, e10⟩ := hd
        subst e0
        subst e1
        subst e2
        subst e3
        subst e4
        subst e5
        subst e6
        subst e7
        subst e8
        subst e9
        subst e10
        exact ct_iret hx hb hr hlocks hK hP hD hS d_Compiler_readLink_79
  obtain ⟨n, hd⟩ := hd
  refine lv_aload_n hx hb d_Compiler_readLink_0 rfl (lv_at hl 0 rfl) ?_
  refine va_get (D := (dC, dI)) (ci := 4) (v := .ref sr) (C := R_Compiler) (T := F_Compiler) (N := 14) hx hb hts in_Compiler hown hK hP 0 rfl rfl 5 (by decide) (hts _ (List.mem_cons_of_mem _ k120_fieldLink)) (fun _ h9 => h9) rfl d_Compiler_readLink_1 ?_
  refine lv_iload_n hx hb d_Compiler_readLink_4 rfl (lv_at hl 1 rfl) ?_
  refine lv_iconst (v := 1) hx hb d_Compiler_readLink_5 (by decide) ?_
  refine lv_iadd hx hb d_Compiler_readLink_6 ?_
  refine lv_iload_n hx hb d_Compiler_readLink_7 rfl (lv_at hl 2 rfl) ?_
  obtain ⟨r8, c8, hd⟩ := hd
  refine ct_SR (As := [.ref sr, .int (k0 + 1), .int k1]) (rest := []) ⟨hx, hb, hml, hown, hts⟩ fm_Letters_lettersEnd (c_Letters_lettersEnd l dC dI cI cL cZ sr srEa srn srE srC srO (k0 + 1) k1 r8 c8) k143_methodLink k84_static ⟨Nat.le_of_ble_eq_true rfl, Nat.le_of_ble_eq_true rfl⟩ rfl rfl hK hN hP hD [5, 6] rfl rfl (by decide) rfl hl.1 rfl (Nat.le_of_ble_eq_true rfl) d_Compiler_readLink_8 ?_
  refine lv_istore_n (lv' := [(3, .int r8), (0, .ref co), (1, .int k0), (2, .int k1)]) hx hb d_Compiler_readLink_11 rfl hl (by decide) rfl (fun ls hl => ?_)
  refine lv_iload_n hx hb d_Compiler_readLink_12 rfl (lv_at hl 0 rfl) ?_
  refine lv_iload_n hx hb d_Compiler_readLink_13 rfl (lv_at hl 3 rfl) ?_
  refine lv_icmp_ge (tgt := 50) hx hb d_Compiler_readLink_14 (by decide) (fun h14 => ?_) (fun h14 => ?_)
  · have hd := hd.1 h14
    exact (key n).1 k0 r8 coN coL coP coK coF coE bkS bkBE bkBC bkBO _ _ _ (lv_sub hl [1, 2, 0] rfl) hP hD hS hd
  · have hd := hd.2 h14
    refine lv_aload_n hx hb d_Compiler_readLink_17 rfl (lv_at hl 1 rfl) ?_
    refine va_get (D := (dC, dI)) (ci := 4) (v := .ref sr) (C := R_Compiler) (T := F_Compiler) (N := 14) hx hb hts in_Compiler hown hK hP 0 rfl rfl 5 (by decide) (hts _ (List.mem_cons_of_mem _ k120_fieldLink)) (fun _ h9 => h9) rfl d_Compiler_readLink_18 ?_
    refine lv_iload_n hx hb d_Compiler_readLink_21 rfl (lv_at hl 0 rfl) ?_
    obtain ⟨r22, c22, hd⟩ := hd
    refine ct_VR (As := [.int r8]) (rest := []) (C := R_Row) (ci := 1) (q := (R_Row, F_Row, 3)) ⟨hx, hb, hml, hown, hts⟩ fm_Row_element (c_Row_element l dC dI cI cL cZ sr srEa srn srE srC srO r8 r22 c22) k122_methodLink k4_instanceMethod k5_selects ⟨Nat.le_of_ble_eq_true rfl, Nat.le_of_ble_eq_true rfl⟩ rfl rfl hK hN hP hD [5, 6] rfl rfl (by decide) 5 rfl rfl rfl rfl hl.1 rfl (Nat.le_of_ble_eq_true rfl) d_Compiler_readLink_22 ?_
    refine lv_bipush (v := 93) hx hb d_Compiler_readLink_25 (by decide) ?_
    refine lv_icmp_ne (tgt := 50) hx hb d_Compiler_readLink_27 (by decide) (fun h27 => ?_) (fun h27 => ?_)
    · have hd := hd.2 h27
      exact (key n).1 k0 r8 coN coL coP coK coF coE bkS bkBE bkBC bkBO _ _ _ (lv_sub hl [1, 2, 0] rfl) hP hD hS hd
    · have hd := hd.1 h27
      refine lv_aload_n hx hb d_Compiler_readLink_30 rfl (lv_at hl 1 rfl) ?_
      refine va_get (D := (dC, dI)) (ci := 4) (v := .ref sr) (C := R_Compiler) (T := F_Compiler) (N := 14) hx hb hts in_Compiler hown hK hP 0 rfl rfl 5 (by decide) (hts _ (List.mem_cons_of_mem _ k120_fieldLink)) (fun _ h9 => h9) rfl d_Compiler_readLink_31 ?_
      refine lv_iload_n hx hb d_Compiler_readLink_34 rfl (lv_at hl 2 rfl) ?_
      refine lv_iconst (v := 1) hx hb d_Compiler_readLink_35 (by decide) ?_
      refine lv_iadd hx hb d_Compiler_readLink_36 ?_
      refine lv_iload_n hx hb d_Compiler_readLink_37 rfl (lv_at hl 0 rfl) ?_
      refine lv_bipush (v := 6) hx hb d_Compiler_readLink_38 (by decide) ?_
      obtain ⟨r40, c40, hd⟩ := hd
      refine ct_SR (As := [.ref sr, .int (k0 + 1), .int r8, .int 6]) (rest := []) ⟨hx, hb, hml, hown, hts⟩ fm_Letters_isWord (c_Letters_isWord l dC dI cI cL cZ sr srEa srn srE srC srO (k0 + 1) r8 6 r40 c40) k124_methodLink k125_static ⟨Nat.le_of_ble_eq_true rfl, Nat.le_of_ble_eq_true rfl⟩ rfl rfl hK hN hP hD [5, 6] rfl rfl (by decide) rfl hl.1 rfl (Nat.le_of_ble_eq_true rfl) d_Compiler_readLink_40 ?_
      refine lv_if_eq (tgt := 50) hx hb d_Compiler_readLink_43 (by decide) (fun h43 => ?_) (fun h43 => ?_)
      · have hd := hd.1 h43
        exact (key n).1 k0 r8 coN coL coP coK coF coE bkS bkBE bkBC bkBO _ _ _ (lv_sub hl [1, 2, 0] rfl) hP hD hS hd
      · have hd := hd.2 h43
        refine lv_iconst (v := 1) hx hb d_Compiler_readLink_46 (by decide) ?_
        refine lv_goto (tgt := 51) hx hb d_Compiler_readLink_47 (by decide) ?_
        refine lv_istore (lv' := [(4, .int 1), (3, .int r8), (0, .ref co), (1, .int k0), (2, .int k1)]) hx hb d_Compiler_readLink_51 hl (by decide) rfl (fun ls hl => ?_)
        exact (key n).2.1 k0 r8 true coN coL coP coK coF coE bkS bkBE bkBC bkBO _ _ _ (lv_sub hl [2, 3, 1, 0] rfl) hP hD hS hd
-- Compiler.readText
abbrev b_Compiler_readText : ByteArray := prog_3_method_11_code
def y_Compiler_readText : MethodName := ⟨"HelpFile$Compiler", "readText", "(II)V"⟩
theorem k150_methodLink : Cond.methodLink "HelpFile$Compiler" 133 ⟨"HelpFile$Compiler", "appendDueBlank", "()V"⟩ ∈ ga := ga_t 386 (by decide +kernel) rfl
theorem k151_instanceMethod : Cond.instanceMethod ⟨"HelpFile$Compiler", "appendDueBlank", "()V"⟩ ∈ ga := ga_t 388 (by decide +kernel) rfl
theorem k152_selects : Cond.selects "HelpFile$Compiler" ⟨"HelpFile$Compiler", "appendDueBlank", "()V"⟩ ⟨"HelpFile$Compiler", "appendDueBlank", "()V"⟩ ∈ ga := ga_s (q := (⟨"HelpFile$Compiler", "appendDueBlank", "()V"⟩, _)) 11 rfl
theorem k153_methodLink : Cond.methodLink "HelpFile$Compiler" 140 ⟨"HelpFile$Compiler", "readSign", "(I)V"⟩ ∈ ga := ga_t 401 (by decide +kernel) rfl
theorem k154_instanceMethod : Cond.instanceMethod ⟨"HelpFile$Compiler", "readSign", "(I)V"⟩ ∈ ga := ga_t 403 (by decide +kernel) rfl
theorem k155_selects : Cond.selects "HelpFile$Compiler" ⟨"HelpFile$Compiler", "readSign", "(I)V"⟩ ⟨"HelpFile$Compiler", "readSign", "(I)V"⟩ ∈ ga := ga_s (q := (⟨"HelpFile$Compiler", "readSign", "(I)V"⟩, _)) 13 rfl
theorem k156_methodLink : Cond.methodLink "HelpFile$Compiler" 136 ⟨"HelpFile$Compiler", "readLink", "(II)I"⟩ ∈ ga := ga_t 390 (by decide +kernel) rfl
theorem k157_instanceMethod : Cond.instanceMethod ⟨"HelpFile$Compiler", "readLink", "(II)I"⟩ ∈ ga := ga_t 392 (by decide +kernel) rfl
theorem k158_selects : Cond.selects "HelpFile$Compiler" ⟨"HelpFile$Compiler", "readLink", "(II)I"⟩ ⟨"HelpFile$Compiler", "readLink", "(II)I"⟩ ∈ ga := ga_s (q := (⟨"HelpFile$Compiler", "readLink", "(II)I"⟩, _)) 12 rfl
set_option maxRecDepth 100000 in
theorem fm_Compiler_readText : Fm y_Compiler_readText b_Compiler_readText 5 none 2 := ⟨ga_t 385 rfl rfl, k108_initialized, by decide, by decide, by decide +kernel⟩
def B_Compiler_readText_18 (srn : Nat) (bkBn : Nat) (coW : Int32) (srE : Nat → Int32) (srC : Int32) (bkT : Int32) (coN' : Nat → Int64) (coL' : Nat → Int32) (coP' : Nat → Int32) (coK' : Int32) (coF' : Int32) (coE' : Int32) (coX' : Int32) (coI' : Bool) (coD' : Bool) (coM' : Bool) (bkS' : Nat → Int32) (bkBE' : Nat → Int32) (bkBC' : Int32) (bkBO' : Bool) (X : Int32 → Int32 → (Nat → Int64) → (Nat → Int32) → (Nat → Int32) → Int32 → Int32 → Int32 → Int32 → Bool → Bool → Bool → (Nat → Int32) → (Nat → Int32) → Int32 → Bool → Prop) (x2 : Int32) (x3 : Int32) (coN : Nat → Int64) (coL : Nat → Int32) (coP : Nat → Int32) (coK : Int32) (coF : Int32) (coE : Int32) (coX : Int32) (coI : Bool) (coD : Bool) (coM : Bool) (bkS : Nat → Int32) (bkBE : Nat → Int32) (bkBC : Int32) (bkBO : Bool) : Prop := ((x2 ≤ x3 → (coN' = coN ∧ coL' = coL ∧ coP' = coP ∧ coK' = coK ∧ coF' = coF ∧ coE' = coE ∧ coX' = coX ∧ coI' = coI ∧ coD' = coD ∧ coM' = coM ∧ bkS' = bkS ∧ bkBE' = bkBE ∧ bkBC' = bkBC ∧ bkBO' = bkBO)) ∧ (¬ (x2 ≤ x3) → ((coF = 0 → (∃ r35 : Int32, D_Row_element srn x3 srE srC r35 ∧ ((r35 = 32 → X x2 (x3 + 1) coN coL coP coK coF coE coX coI coI coM bkS bkBE bkBC bkBO) ∧ (¬ (r35 = 32) → (∃ coI_59 : Bool, ∃ coD_59 : Bool, ∃ bkS_59 : Nat → Int32, ∃ bkBE_59 : Nat → Int32, ∃ bkBC_59 : Int32, ∃ bkBO_59 : Bool, D_Compiler_appendDueBlank bkBn coI coD bkS bkBE bkBC bkBO bkT coI_59 coD_59 bkS_59 bkBE_59 bkBC_59 bkBO_59 ∧ ((r35 = 91 → (∃ r72 : Int32, ∃ coN_72 : Nat → Int64, ∃ coL_72 : Nat → Int32, ∃ coP_72 : Nat → Int32, ∃ coK_72 : Int32, ∃ coF_72 : Int32, ∃ coE_72 : Int32, ∃ bkS_72 : Nat → Int32, ∃ bkBE_72 : Nat → Int32, ∃ bkBC_72 : Int32, ∃ bkBO_72 : Bool, D_Compiler_readLink srn bkBn x3 x2 coN coL coP coK coF coE coW srE srC bkS_59 bkBE_59 bkBC_59 bkBO_59 bkT r72 coN_72 coL_72 coP_72 coK_72 coF_72 coE_72 bkS_72 bkBE_72 bkBC_72 bkBO_72 ∧ X x2 (r72 + 1) coN_72 coL_72 coP_72 coK_72 coF_72 coE_72 coX coI_59 coD_59 coM bkS_72 bkBE_72 bkBC_72 bkBO_72)) ∧ (¬ (r35 = 91) → (∃ coF_82 : Int32, ∃ coE_82 : Int32, ∃ coM_82 : Bool, ∃ bkS_82 : Nat → Int32, ∃ bkBE_82 : Nat → Int32, ∃ bkBC_82 : Int32, ∃ bkBO_82 : Bool, D_Compiler_readSign bkBn r35 coF coE coW coM bkS_59 bkBE_59 bkBC_59 bkBO_59 bkT coF_82 coE_82 coM_82 bkS_82 bkBE_82 bkBC_82 bkBO_82 ∧ X x2 (x3 + 1) coN coL coP coK coF_82 coE_82 coX coI_59 coD_59 coM_82 bkS_82 bkBE_82 bkBC_82 bkBO_82)))))))) ∧ (¬ (coF = 0) → (coN' = coN ∧ coL' = coL ∧ coP' = coP ∧ coK' = coK ∧ coF' = coF ∧ coE' = coE ∧ coX' = coX ∧ coI' = coI ∧ coD' = coD ∧ coM' = coM ∧ bkS' = bkS ∧ bkBE' = bkBE ∧ bkBC' = bkBC ∧ bkBO' = bkBO)))))
def S_Compiler_readText (srn : Nat) (bkBn : Nat) (coW : Int32) (srE : Nat → Int32) (srC : Int32) (bkT : Int32) (coN' : Nat → Int64) (coL' : Nat → Int32) (coP' : Nat → Int32) (coK' : Int32) (coF' : Int32) (coE' : Int32) (coX' : Int32) (coI' : Bool) (coD' : Bool) (coM' : Bool) (bkS' : Nat → Int32) (bkBE' : Nat → Int32) (bkBC' : Int32) (bkBO' : Bool) (X : Int32 → Int32 → (Nat → Int64) → (Nat → Int32) → (Nat → Int32) → Int32 → Int32 → Int32 → Int32 → Bool → Bool → Bool → (Nat → Int32) → (Nat → Int32) → Int32 → Bool → Prop) : Int32 → Int32 → (Nat → Int64) → (Nat → Int32) → (Nat → Int32) → Int32 → Int32 → Int32 → Int32 → Bool → Bool → Bool → (Nat → Int32) → (Nat → Int32) → Int32 → Bool → Prop := fun x2 x3 coN coL coP coK coF coE coX coI coD coM bkS bkBE bkBC bkBO => B_Compiler_readText_18 srn bkBn coW srE srC bkT coN' coL' coP' coK' coF' coE' coX' coI' coD' coM' bkS' bkBE' bkBC' bkBO' X x2 x3 coN coL coP coK coF coE coX coI coD coM bkS bkBE bkBC bkBO
def T_Compiler_readText (srn : Nat) (bkBn : Nat) (coW : Int32) (srE : Nat → Int32) (srC : Int32) (bkT : Int32) (coN' : Nat → Int64) (coL' : Nat → Int32) (coP' : Nat → Int32) (coK' : Int32) (coF' : Int32) (coE' : Int32) (coX' : Int32) (coI' : Bool) (coD' : Bool) (coM' : Bool) (bkS' : Nat → Int32) (bkBE' : Nat → Int32) (bkBC' : Int32) (bkBO' : Bool) : Nat → (Int32 → Int32 → (Nat → Int64) → (Nat → Int32) → (Nat → Int32) → Int32 → Int32 → Int32 → Int32 → Bool → Bool → Bool → (Nat → Int32) → (Nat → Int32) → Int32 → Bool → Prop)
  | 0 => fun _ _ _ _ _ _ _ _ _ _ _ _ _ _ _ _ => False
  | n + 1 => S_Compiler_readText srn bkBn coW srE srC bkT coN' coL' coP' coK' coF' coE' coX' coI' coD' coM' bkS' bkBE' bkBC' bkBO' (T_Compiler_readText srn bkBn coW srE srC bkT coN' coL' coP' coK' coF' coE' coX' coI' coD' coM' bkS' bkBE' bkBC' bkBO' n)
def D_Compiler_readText (srn : Nat) (bkBn : Nat) (k0 : Int32) (k1 : Int32) (coN : Nat → Int64) (coL : Nat → Int32) (coP : Nat → Int32) (coK : Int32) (coF : Int32) (coE : Int32) (coW : Int32) (coX : Int32) (coI : Bool) (coD : Bool) (coM : Bool) (srE : Nat → Int32) (srC : Int32) (bkS : Nat → Int32) (bkBE : Nat → Int32) (bkBC : Int32) (bkBO : Bool) (bkT : Int32) (coN' : Nat → Int64) (coL' : Nat → Int32) (coP' : Nat → Int32) (coK' : Int32) (coF' : Int32) (coE' : Int32) (coX' : Int32) (coI' : Bool) (coD' : Bool) (coM' : Bool) (bkS' : Nat → Int32) (bkBE' : Nat → Int32) (bkBC' : Int32) (bkBO' : Bool) : Prop := ∃ n : Nat, T_Compiler_readText srn bkBn coW srE srC bkT coN' coL' coP' coK' coF' coE' coX' coI' coD' coM' bkS' bkBE' bkBC' bkBO' n k1 k0 coN coL coP coK coF coE coW coI coI coM bkS bkBE bkBC bkBO
theorem d_Compiler_readText_0 : decode b_Compiler_readText 0 = .ok (.aload_n 0, 1) := by decide +kernel
theorem d_Compiler_readText_1 : decode b_Compiler_readText 1 = .ok (.aload_n 0, 1) := by decide +kernel
theorem d_Compiler_readText_2 : decode b_Compiler_readText 2 = .ok (.getfield 57, 3) := by decide +kernel
theorem d_Compiler_readText_5 : decode b_Compiler_readText 5 = .ok (.putfield 83, 3) := by decide +kernel
theorem d_Compiler_readText_8 : decode b_Compiler_readText 8 = .ok (.aload_n 0, 1) := by decide +kernel
theorem d_Compiler_readText_9 : decode b_Compiler_readText 9 = .ok (.aload_n 0, 1) := by decide +kernel
theorem d_Compiler_readText_10 : decode b_Compiler_readText 10 = .ok (.getfield 86, 3) := by decide +kernel
theorem d_Compiler_readText_13 : decode b_Compiler_readText 13 = .ok (.putfield 90, 3) := by decide +kernel
theorem d_Compiler_readText_16 : decode b_Compiler_readText 16 = .ok (.iload_n 1, 1) := by decide +kernel
theorem d_Compiler_readText_17 : decode b_Compiler_readText 17 = .ok (.istore_n 3, 1) := by decide +kernel
theorem d_Compiler_readText_18 : decode b_Compiler_readText 18 = .ok (.iload_n 3, 1) := by decide +kernel
theorem d_Compiler_readText_19 : decode b_Compiler_readText 19 = .ok (.iload_n 2, 1) := by decide +kernel
theorem d_Compiler_readText_20 : decode b_Compiler_readText 20 = .ok (.if_icmp .ge 71, 3) := by decide +kernel
theorem d_Compiler_readText_23 : decode b_Compiler_readText 23 = .ok (.aload_n 0, 1) := by decide +kernel
theorem d_Compiler_readText_24 : decode b_Compiler_readText 24 = .ok (.getfield 46, 3) := by decide +kernel
theorem d_Compiler_readText_27 : decode b_Compiler_readText 27 = .ok (.ifCond .ne 64, 3) := by decide +kernel
theorem d_Compiler_readText_30 : decode b_Compiler_readText 30 = .ok (.aload_n 0, 1) := by decide +kernel
theorem d_Compiler_readText_31 : decode b_Compiler_readText 31 = .ok (.getfield 25, 3) := by decide +kernel
theorem d_Compiler_readText_34 : decode b_Compiler_readText 34 = .ok (.iload_n 3, 1) := by decide +kernel
theorem d_Compiler_readText_35 : decode b_Compiler_readText 35 = .ok (.invokevirtual 96, 3) := by decide +kernel
theorem d_Compiler_readText_38 : decode b_Compiler_readText 38 = .ok (.istore 4, 2) := by decide +kernel
theorem d_Compiler_readText_40 : decode b_Compiler_readText 40 = .ok (.iload 4, 2) := by decide +kernel
theorem d_Compiler_readText_42 : decode b_Compiler_readText 42 = .ok (.bipush 32, 2) := by decide +kernel
theorem d_Compiler_readText_44 : decode b_Compiler_readText 44 = .ok (.if_icmp .ne 14, 3) := by decide +kernel
theorem d_Compiler_readText_47 : decode b_Compiler_readText 47 = .ok (.aload_n 0, 1) := by decide +kernel
theorem d_Compiler_readText_48 : decode b_Compiler_readText 48 = .ok (.aload_n 0, 1) := by decide +kernel
theorem d_Compiler_readText_49 : decode b_Compiler_readText 49 = .ok (.getfield 86, 3) := by decide +kernel
theorem d_Compiler_readText_52 : decode b_Compiler_readText 52 = .ok (.putfield 90, 3) := by decide +kernel
theorem d_Compiler_readText_55 : decode b_Compiler_readText 55 = .ok (.goto 30, 3) := by decide +kernel
theorem d_Compiler_readText_58 : decode b_Compiler_readText 58 = .ok (.aload_n 0, 1) := by decide +kernel
theorem d_Compiler_readText_59 : decode b_Compiler_readText 59 = .ok (.invokevirtual 133, 3) := by decide +kernel
theorem d_Compiler_readText_62 : decode b_Compiler_readText 62 = .ok (.iload 4, 2) := by decide +kernel
theorem d_Compiler_readText_64 : decode b_Compiler_readText 64 = .ok (.bipush 91, 2) := by decide +kernel
theorem d_Compiler_readText_66 : decode b_Compiler_readText 66 = .ok (.if_icmp .ne 13, 3) := by decide +kernel
theorem d_Compiler_readText_69 : decode b_Compiler_readText 69 = .ok (.aload_n 0, 1) := by decide +kernel
theorem d_Compiler_readText_70 : decode b_Compiler_readText 70 = .ok (.iload_n 3, 1) := by decide +kernel
theorem d_Compiler_readText_71 : decode b_Compiler_readText 71 = .ok (.iload_n 2, 1) := by decide +kernel
theorem d_Compiler_readText_72 : decode b_Compiler_readText 72 = .ok (.invokevirtual 136, 3) := by decide +kernel
theorem d_Compiler_readText_75 : decode b_Compiler_readText 75 = .ok (.istore_n 3, 1) := by decide +kernel
theorem d_Compiler_readText_76 : decode b_Compiler_readText 76 = .ok (.goto 9, 3) := by decide +kernel
theorem d_Compiler_readText_79 : decode b_Compiler_readText 79 = .ok (.aload_n 0, 1) := by decide +kernel
theorem d_Compiler_readText_80 : decode b_Compiler_readText 80 = .ok (.iload 4, 2) := by decide +kernel
theorem d_Compiler_readText_82 : decode b_Compiler_readText 82 = .ok (.invokevirtual 140, 3) := by decide +kernel
theorem d_Compiler_readText_85 : decode b_Compiler_readText 85 = .ok (.iinc 3 1, 3) := by decide +kernel
theorem d_Compiler_readText_88 : decode b_Compiler_readText 88 = .ok (.goto (-70), 3) := by decide +kernel
theorem d_Compiler_readText_91 : decode b_Compiler_readText 91 = .ok (.return_, 1) := by decide +kernel
set_option maxHeartbeats 4000000 in
set_option maxRecDepth 100000 in
theorem c_Compiler_readText (l : Launch) (dC : Nat → ClassId) (dI : Nat → Nat → Nat) (cI cL cZ : ClassId) (co : Nat) (coHa : Nat) (coH : Nat → Int32) (coNa : Nat) (coN : Nat → Int64) (coLa : Nat) (coL : Nat → Int32) (coPa : Nat) (coP : Nat → Int32) (coK : Int32) (coF : Int32) (coE : Int32) (coW : Int32) (coX : Int32) (coI : Bool) (coD : Bool) (coM : Bool) (sr : Nat) (srEa : Nat) (srn : Nat) (srE : Nat → Int32) (srC : Int32) (srO : Bool) (bk : Nat) (bkNa : Nat) (bkN : Nat → Int64) (bkSa : Nat) (bkS : Nat → Int32) (bkB : Nat) (bkBEa : Nat) (bkBn : Nat) (bkBE : Nat → Int32) (bkBC : Int32) (bkBO : Bool) (bkK : Nat) (bkKWa : Nat) (bkKn : Nat) (bkKW : Nat → Int64) (bkKTa : Nat) (bkKT : Nat → Int32) (bkKC : Int32) (bkV : Nat) (bkVWa : Nat) (bkVn : Nat) (bkVW : Nat → Int64) (bkVTa : Nat) (bkVT : Nat → Int32) (bkVC : Int32) (bkT : Int32) (k0 : Int32) (k1 : Int32) (coN' : Nat → Int64) (coL' : Nat → Int32) (coP' : Nat → Int32) (coK' : Int32) (coF' : Int32) (coE' : Int32) (coX' : Int32) (coI' : Bool) (coD' : Bool) (coM' : Bool) (bkS' : Nat → Int32) (bkBE' : Nat → Int32) (bkBC' : Int32) (bkBO' : Bool) (hd : D_Compiler_readText srn bkBn k0 k1 coN coL coP coK coF coE coW coX coI coD coM srE srC bkS bkBE bkBC bkBO bkT coN' coL' coP' coK' coF' coE' coX' coI' coD' coM' bkS' bkBE' bkBC' bkBO') : Ctr l y_Compiler_readText (Cond.code y_Compiler_readText b_Compiler_readText 5 none :: ga) { frames := 3, cells := 0, slots := 0, locals := 74 } (dC, dI) classes (Tys cI cL cZ) [.ref co, .int k0, .int k1] ((sh_Compiler cI cL cZ co coHa coH coNa coN coLa coL coPa coP coK (.ref sr) (.ref bk) coF coE coW coX coI coD coM) ++ ((sh_Row cI cL cZ sr srEa srn srE srC srO) ++ ((sh_Book cI cL cZ bk bkNa bkN bkSa bkS bkB bkBEa bkBn bkBE bkBC bkBO bkK bkKWa bkKn bkKW bkKTa bkKT bkKC bkV bkVWa bkVn bkVW bkVTa bkVT bkVC bkT)))) none ((sh_Compiler cI cL cZ co coHa coH coNa coN' coLa coL' coPa coP' coK' (.ref sr) (.ref bk) coF' coE' coW coX' coI' coD' coM') ++ ((sh_Row cI cL cZ sr srEa srn srE srC srO) ++ ((sh_Book cI cL cZ bk bkNa bkN bkSa bkS' bkB bkBEa bkBn bkBE' bkBC' bkBO' bkK bkKWa bkKn bkKW bkKTa bkKT bkKC bkV bkVWa bkVn bkVW bkVTa bkVT bkVC bkT)))) := by
  refine Ctr.ofW (by decide) (Nat.le_of_ble_eq_true rfl) ?_
  intro p e s m below meth c A ls hx hb hr hml hown hlocks hts hK hN hA hP hD hS hl
  have hown : s.vm.findClass R_Compiler = some m.cls := hown
  have hl : lv_has ls 5 [(0, .ref co), (1, .int k0), (2, .int k1)] := hl
  have key : ∀ n : Nat, (∀ (x2 : Int32) (x3 : Int32) (coN : Nat → Int64) (coL : Nat → Int32) (coP : Nat → Int32) (coK : Int32) (coF : Int32) (coE : Int32) (coX : Int32) (coI : Bool) (coD : Bool) (coM : Bool) (bkS : Nat → Int32) (bkBE : Nat → Int32) (bkBC : Int32) (bkBO : Bool) (ls : Array Slot) (H : Heap) (locs : List Loc), lv_has ls 5 [(0, .ref co), (2, .int x2), (3, .int x3)] → va_P (dC, dI) classes ((sh_Compiler cI cL cZ co coHa coH coNa coN coLa coL coPa coP coK (.ref sr) (.ref bk) coF coE coW coX coI coD coM) ++ ((sh_Row cI cL cZ sr srEa srn srE srC srO) ++ ((sh_Book cI cL cZ bk bkNa bkN bkSa bkS bkB bkBEa bkBn bkBE bkBC bkBO bkK bkKWa bkKn bkKW bkKTa bkKT bkKC bkV bkVWa bkVn bkVW bkVTa bkVT bkVC bkT)))) H → va_D A ((sh_Compiler cI cL cZ co coHa coH coNa coN coLa coL coPa coP coK (.ref sr) (.ref bk) coF coE coW coX coI coD coM) ++ ((sh_Row cI cL cZ sr srEa srn srE srC srO) ++ ((sh_Book cI cL cZ bk bkNa bkN bkSa bkS bkB bkBEa bkBn bkBE bkBC bkBO bkK bkKWa bkKn bkKW bkKTa bkKT bkKC bkV bkVWa bkVn bkVW bkVTa bkVT bkVC bkT)))) → va_S A s.heap H locs → T_Compiler_readText srn bkBn coW srE srC bkT coN' coL' coP' coK' coF' coE' coX' coI' coD' coM' bkS' bkBE' bkBC' bkBO' n x2 x3 coN coL coP coK coF coE coX coI coD coM bkS bkBE bkBC bkBO → W p l e ({ frames := 3, cells := 0, slots := 0, locals := 74 }) s m ([.ref co, .int k0, .int k1] : List Value).toArray below meth c H locs 0 0 (MQ below (Qs (dC, dI) classes (Tys cI cL cZ) none ((sh_Compiler cI cL cZ co coHa coH coNa coN' coLa coL' coPa coP' coK' (.ref sr) (.ref bk) coF' coE' coW coX' coI' coD' coM') ++ ((sh_Row cI cL cZ sr srEa srn srE srC srO) ++ ((sh_Book cI cL cZ bk bkNa bkN bkSa bkS' bkB bkBEa bkBn bkBE' bkBC' bkBO' bkK bkKWa bkKn bkKW bkKTa bkKT bkKC bkV bkVWa bkVn bkVW bkVTa bkVT bkVC bkT)))) A) ([.ref co, .int k0, .int k1] : List Value).toArray s 0 0 A) (F0 m 18 ls [])) := by
    intro n
    induction n with
    | zero =>
      exact fun _ _ _ _ _ _ _ _ _ _ _ _ _ _ _ _ _ _ _ _ _ _ _ hd => False.elim hd
    | succ n ih =>
      · intro x2 x3 coN coL coP coK coF coE coX coI coD coM bkS bkBE bkBC bkBO ls H locs hl hP hD hS hd
        have hd : B_Compiler_readText_18 srn bkBn coW srE srC bkT coN' coL' coP' coK' coF' coE' coX' coI' coD' coM' bkS' bkBE' bkBC' bkBO' (T_Compiler_readText srn bkBn coW srE srC bkT coN' coL' coP' coK' coF' coE' coX' coI' coD' coM' bkS' bkBE' bkBC' bkBO' n) x2 x3 coN coL coP coK coF coE coX coI coD coM bkS bkBE bkBC bkBO := hd
        refine lv_iload_n hx hb d_Compiler_readText_18 rfl (lv_at hl 2 rfl) ?_
        refine lv_iload_n hx hb d_Compiler_readText_19 rfl (lv_at hl 1 rfl) ?_
        refine lv_icmp_ge (tgt := 91) hx hb d_Compiler_readText_20 (by decide) (fun h20 => ?_) (fun h20 => ?_)
        · have hd := hd.1 h20
          obtain ⟨e0, e1, e2, e3, e4, e5, e6, e7, e8, e9, e10, e11, e12, e13⟩ := hd
          subst e0
          subst e1
          subst e2
          subst e3
          subst e4
          subst e5
          subst e6
          subst e7
          subst e8
          subst e9
          subst e10
          subst e11
          subst e12
          subst e13
          exact ct_vret hx hb hr hlocks hK hP hD hS d_Compiler_readText_91
        · have hd := hd.2 h20
          refine lv_aload_n hx hb d_Compiler_readText_23 rfl (lv_at hl 0 rfl) ?_
          refine va_get (D := (dC, dI)) (ci := 4) (v := .int coF) (C := R_Compiler) (T := F_Compiler) (N := 14) hx hb hts in_Compiler hown hK hP 0 rfl rfl 7 (by decide) (hts _ (List.mem_cons_of_mem _ k109_fieldLink)) (fun _ h9 => h9) rfl d_Compiler_readText_24 ?_
          refine lv_if_ne (tgt := 91) hx hb d_Compiler_readText_27 (by decide) (fun h27 => ?_) (fun h27 => ?_)
          · have hd := hd.2 h27
            obtain ⟨e0, e1, e2, e3, e4, e5, e6, e7, e8, e9, e10, e11, e12, e13⟩ := hd
            subst e0
            subst e1
            subst e2
            subst e3
            subst e4
            subst e5
            subst e6
            subst e7
            subst e8
            subst e9
            subst e10
            subst e11
            subst e12
            subst e13
            exact ct_vret hx hb hr hlocks hK hP hD hS d_Compiler_readText_91
          · have hd := hd.1 h27
            refine lv_aload_n hx hb d_Compiler_readText_30 rfl (lv_at hl 0 rfl) ?_
            refine va_get (D := (dC, dI)) (ci := 4) (v := .ref sr) (C := R_Compiler) (T := F_Compiler) (N := 14) hx hb hts in_Compiler hown hK hP 0 rfl rfl 5 (by decide) (hts _ (List.mem_cons_of_mem _ k120_fieldLink)) (fun _ h9 => h9) rfl d_Compiler_readText_31 ?_
            refine lv_iload_n hx hb d_Compiler_readText_34 rfl (lv_at hl 2 rfl) ?_
            obtain ⟨r35, c35, hd⟩ := hd
            refine ct_VR (As := [.int x3]) (rest := []) (C := R_Row) (ci := 1) (q := (R_Row, F_Row, 3)) ⟨hx, hb, hml, hown, hts⟩ fm_Row_element (c_Row_element l dC dI cI cL cZ sr srEa srn srE srC srO x3 r35 c35) k122_methodLink k4_instanceMethod k5_selects ⟨Nat.le_of_ble_eq_true rfl, Nat.le_of_ble_eq_true rfl⟩ rfl rfl hK hN hP hD [5, 6] rfl rfl (by decide) 5 rfl rfl rfl rfl hl.1 rfl (Nat.le_of_ble_eq_true rfl) d_Compiler_readText_35 ?_
            refine lv_istore (lv' := [(4, .int r35), (0, .ref co), (2, .int x2), (3, .int x3)]) hx hb d_Compiler_readText_38 hl (by decide) rfl (fun ls hl => ?_)
            refine lv_iload hx hb d_Compiler_readText_40 (lv_at hl 0 rfl) ?_
            refine lv_bipush (v := 32) hx hb d_Compiler_readText_42 (by decide) ?_
            refine lv_icmp_ne (tgt := 58) hx hb d_Compiler_readText_44 (by decide) (fun h44 => ?_) (fun h44 => ?_)
            · have hd := hd.2 h44
              refine lv_aload_n hx hb d_Compiler_readText_58 rfl (lv_at hl 1 rfl) ?_
              obtain ⟨coI_59, coD_59, bkS_59, bkBE_59, bkBC_59, bkBO_59, c59, hd⟩ := hd
              refine ct_V (As := []) (rest := []) (C := R_Compiler) (ci := 4) (q := (R_Compiler, F_Compiler, 14)) ⟨hx, hb, hml, hown, hts⟩ fm_Compiler_appendDueBlank (c_Compiler_appendDueBlank l dC dI cI cL cZ co coHa coH coNa coN coLa coL coPa coP coK (.ref sr) coF coE coW coX coI coD coM bk bkNa bkN bkSa bkS bkB bkBEa bkBn bkBE bkBC bkBO bkK bkKWa bkKn bkKW bkKTa bkKT bkKC bkV bkVWa bkVn bkVW bkVTa bkVT bkVC bkT coI_59 coD_59 bkS_59 bkBE_59 bkBC_59 bkBO_59 c59) k150_methodLink k151_instanceMethod k152_selects ⟨Nat.le_of_ble_eq_true rfl, Nat.le_of_ble_eq_true rfl⟩ rfl rfl hK hN hP hD hS hA [0, 1, 2, 3, 4, 7, 8, 9, 10, 11, 12, 13, 14, 15, 16, 17] [5, 6] rfl rfl rfl (by decide) (by decide) (by decide) 0 rfl rfl rfl rfl hl.1 rfl (Nat.le_of_ble_eq_true rfl) d_Compiler_readText_59 (fun H locs hP hD hS => ?_)
              have hP : va_P (dC, dI) classes ((sh_Compiler cI cL cZ co coHa coH coNa coN coLa coL coPa coP coK (.ref sr) (.ref bk) coF coE coW coX coI_59 coD_59 coM) ++ ((sh_Row cI cL cZ sr srEa srn srE srC srO) ++ ((sh_Book cI cL cZ bk bkNa bkN bkSa bkS_59 bkB bkBEa bkBn bkBE_59 bkBC_59 bkBO_59 bkK bkKWa bkKn bkKW bkKTa bkKT bkKC bkV bkVWa bkVn bkVW bkVTa bkVT bkVC bkT)))) H := hP.sub [2, 3, 4, 5, 6, 0, 1, 7, 8, 9, 10, 11, 12, 13, 14, 15, 16, 17] rfl
              have hD : va_D A ((sh_Compiler cI cL cZ co coHa coH coNa coN coLa coL coPa coP coK (.ref sr) (.ref bk) coF coE coW coX coI_59 coD_59 coM) ++ ((sh_Row cI cL cZ sr srEa srn srE srC srO) ++ ((sh_Book cI cL cZ bk bkNa bkN bkSa bkS_59 bkB bkBEa bkBn bkBE_59 bkBC_59 bkBO_59 bkK bkKWa bkKn bkKW bkKTa bkKT bkKC bkV bkVWa bkVn bkVW bkVTa bkVT bkVC bkT)))) := hD.sub [2, 3, 4, 5, 6, 0, 1, 7, 8, 9, 10, 11, 12, 13, 14, 15, 16, 17] (by decide) rfl
              refine lv_iload hx hb d_Compiler_readText_62 (lv_at hl 0 rfl) ?_
              refine lv_bipush (v := 91) hx hb d_Compiler_readText_64 (by decide) ?_
              refine lv_icmp_ne (tgt := 79) hx hb d_Compiler_readText_66 (by decide) (fun h66 => ?_) (fun h66 => ?_)
              · have hd := hd.2 h66
                refine lv_aload_n hx hb d_Compiler_readText_79 rfl (lv_at hl 1 rfl) ?_
                refine lv_iload hx hb d_Compiler_readText_80 (lv_at hl 0 rfl) ?_
                obtain ⟨coF_82, coE_82, coM_82, bkS_82, bkBE_82, bkBC_82, bkBO_82, c82, hd⟩ := hd
                refine ct_V (As := [.int r35]) (rest := []) (C := R_Compiler) (ci := 4) (q := (R_Compiler, F_Compiler, 14)) ⟨hx, hb, hml, hown, hts⟩ fm_Compiler_readSign (c_Compiler_readSign l dC dI cI cL cZ co coHa coH coNa coN coLa coL coPa coP coK (.ref sr) coF coE coW coX coI_59 coD_59 coM bk bkNa bkN bkSa bkS_59 bkB bkBEa bkBn bkBE_59 bkBC_59 bkBO_59 bkK bkKWa bkKn bkKW bkKTa bkKT bkKC bkV bkVWa bkVn bkVW bkVTa bkVT bkVC bkT r35 coF_82 coE_82 coM_82 bkS_82 bkBE_82 bkBC_82 bkBO_82 c82) k153_methodLink k154_instanceMethod k155_selects ⟨Nat.le_of_ble_eq_true rfl, Nat.le_of_ble_eq_true rfl⟩ rfl rfl hK hN hP hD hS hA [0, 1, 2, 3, 4, 7, 8, 9, 10, 11, 12, 13, 14, 15, 16, 17] [5, 6] rfl rfl rfl (by decide) (by decide) (by decide) 0 rfl rfl rfl rfl hl.1 rfl (Nat.le_of_ble_eq_true rfl) d_Compiler_readText_82 (fun H locs hP hD hS => ?_)
                have hP : va_P (dC, dI) classes ((sh_Compiler cI cL cZ co coHa coH coNa coN coLa coL coPa coP coK (.ref sr) (.ref bk) coF_82 coE_82 coW coX coI_59 coD_59 coM_82) ++ ((sh_Row cI cL cZ sr srEa srn srE srC srO) ++ ((sh_Book cI cL cZ bk bkNa bkN bkSa bkS_82 bkB bkBEa bkBn bkBE_82 bkBC_82 bkBO_82 bkK bkKWa bkKn bkKW bkKTa bkKT bkKC bkV bkVWa bkVn bkVW bkVTa bkVT bkVC bkT)))) H := hP.sub [2, 3, 4, 5, 6, 0, 1, 7, 8, 9, 10, 11, 12, 13, 14, 15, 16, 17] rfl
                have hD : va_D A ((sh_Compiler cI cL cZ co coHa coH coNa coN coLa coL coPa coP coK (.ref sr) (.ref bk) coF_82 coE_82 coW coX coI_59 coD_59 coM_82) ++ ((sh_Row cI cL cZ sr srEa srn srE srC srO) ++ ((sh_Book cI cL cZ bk bkNa bkN bkSa bkS_82 bkB bkBEa bkBn bkBE_82 bkBC_82 bkBO_82 bkK bkKWa bkKn bkKW bkKTa bkKT bkKC bkV bkVWa bkVn bkVW bkVTa bkVT bkVC bkT)))) := hD.sub [2, 3, 4, 5, 6, 0, 1, 7, 8, 9, 10, 11, 12, 13, 14, 15, 16, 17] (by decide) rfl
                refine lv_iinc (k := 3) (v := x3 + 1) (lv' := [(3, .int (x3 + 1)), (4, .int r35), (0, .ref co), (2, .int x2)]) hx hb d_Compiler_readText_85 hl rfl (congrArg (fun z => x3 + z) (by decide)) (by decide) rfl (fun ls hl => ?_)
                refine lv_goto (tgt := 18) hx hb d_Compiler_readText_88 (by decide) ?_
                exact ih x2 (x3 + 1) coN coL coP coK coF_82 coE_82 coX coI_59 coD_59 coM_82 bkS_82 bkBE_82 bkBC_82 bkBO_82 _ _ _ (lv_sub hl [2, 3, 0] rfl) hP hD hS hd
              · have hd := hd.1 h66
                refine lv_aload_n hx hb d_Compiler_readText_69 rfl (lv_at hl 1 rfl) ?_
                refine lv_iload_n hx hb d_Compiler_readText_70 rfl (lv_at hl 3 rfl) ?_
                refine lv_iload_n hx hb d_Compiler_readText_71 rfl (lv_at hl 2 rfl) ?_
                obtain ⟨r72, coN_72, coL_72, coP_72, coK_72, coF_72, coE_72, bkS_72, bkBE_72, bkBC_72, bkBO_72, c72, hd⟩ := hd
                refine ct_V (As := [.int x3, .int x2]) (rest := []) (C := R_Compiler) (ci := 4) (q := (R_Compiler, F_Compiler, 14)) ⟨hx, hb, hml, hown, hts⟩ fm_Compiler_readLink (c_Compiler_readLink l dC dI cI cL cZ co coHa coH coNa coN coLa coL coPa coP coK coF coE coW coX coI_59 coD_59 coM sr srEa srn srE srC srO bk bkNa bkN bkSa bkS_59 bkB bkBEa bkBn bkBE_59 bkBC_59 bkBO_59 bkK bkKWa bkKn bkKW bkKTa bkKT bkKC bkV bkVWa bkVn bkVW bkVTa bkVT bkVC bkT x3 x2 r72 coN_72 coL_72 coP_72 coK_72 coF_72 coE_72 bkS_72 bkBE_72 bkBC_72 bkBO_72 c72) k156_methodLink k157_instanceMethod k158_selects ⟨Nat.le_of_ble_eq_true rfl, Nat.le_of_ble_eq_true rfl⟩ rfl rfl hK hN hP hD hS hA [0, 1, 2, 3, 4, 5, 6, 7, 8, 9, 10, 11, 12, 13, 14, 15, 16, 17] [] rfl rfl rfl (by decide) (by decide) (by decide) 0 rfl rfl rfl rfl hl.1 rfl (Nat.le_of_ble_eq_true rfl) d_Compiler_readText_72 (fun H locs hP hD hS => ?_)
                have hP : va_P (dC, dI) classes ((sh_Compiler cI cL cZ co coHa coH coNa coN_72 coLa coL_72 coPa coP_72 coK_72 (.ref sr) (.ref bk) coF_72 coE_72 coW coX coI_59 coD_59 coM) ++ ((sh_Row cI cL cZ sr srEa srn srE srC srO) ++ ((sh_Book cI cL cZ bk bkNa bkN bkSa bkS_72 bkB bkBEa bkBn bkBE_72 bkBC_72 bkBO_72 bkK bkKWa bkKn bkKW bkKTa bkKT bkKC bkV bkVWa bkVn bkVW bkVTa bkVT bkVC bkT)))) H := hP.sub [0, 1, 2, 3, 4, 5, 6, 7, 8, 9, 10, 11, 12, 13, 14, 15, 16, 17] rfl
                have hD : va_D A ((sh_Compiler cI cL cZ co coHa coH coNa coN_72 coLa coL_72 coPa coP_72 coK_72 (.ref sr) (.ref bk) coF_72 coE_72 coW coX coI_59 coD_59 coM) ++ ((sh_Row cI cL cZ sr srEa srn srE srC srO) ++ ((sh_Book cI cL cZ bk bkNa bkN bkSa bkS_72 bkB bkBEa bkBn bkBE_72 bkBC_72 bkBO_72 bkK bkKWa bkKn bkKW bkKTa bkKT bkKC bkV bkVWa bkVn bkVW bkVTa bkVT bkVC bkT)))) := hD.sub [0, 1, 2, 3, 4, 5, 6, 7, 8, 9, 10, 11, 12, 13, 14, 15, 16, 17] (by decide) rfl
                refine lv_istore_n (lv' := [(3, .int r72), (4, .int r35), (0, .ref co), (2, .int x2)]) hx hb d_Compiler_readText_75 rfl hl (by decide) rfl (fun ls hl => ?_)
                refine lv_goto (tgt := 85) hx hb d_Compiler_readText_76 (by decide) ?_
                refine lv_iinc (k := 0) (v := r72 + 1) (lv' := [(3, .int (r72 + 1)), (4, .int r35), (0, .ref co), (2, .int x2)]) hx hb d_Compiler_readText_85 hl rfl (congrArg (fun z => r72 + z) (by decide)) (by decide) rfl (fun ls hl => ?_)
                refine lv_goto (tgt := 18) hx hb d_Compiler_readText_88 (by decide) ?_
                exact ih x2 (r72 + 1) coN_72 coL_72 coP_72 coK_72 coF_72 coE_72 coX coI_59 coD_59 coM bkS_72 bkBE_72 bkBC_72 bkBO_72 _ _ _ (lv_sub hl [2, 3, 0] rfl) hP hD hS hd
            · have hd := hd.1 h44
              refine lv_aload_n hx hb d_Compiler_readText_47 rfl (lv_at hl 1 rfl) ?_
              refine lv_aload_n hx hb d_Compiler_readText_48 rfl (lv_at hl 1 rfl) ?_
              refine va_get (D := (dC, dI)) (ci := 4) (v := .int (bI coI)) (C := R_Compiler) (T := F_Compiler) (N := 14) hx hb hts in_Compiler hown hK hP 0 rfl rfl 11 (by decide) (hts _ (List.mem_cons_of_mem _ k117_fieldLink)) (fun _ h9 => h9) rfl d_Compiler_readText_49 ?_
              refine va_put (D := (dC, dI)) (ci := 4) (v := .int (bI coI)) (ty := t_Compiler 12) (C := R_Compiler) (T := F_Compiler) (N := 14) hx hb hts in_Compiler t_Compiler t_Compiler_ok n_Compiler hown hK hP hD hS 0 rfl rfl 12 (by decide) (hts _ (List.mem_cons_of_mem _ k118_fieldLink)) (fun _ h9 => h9) rfl (t_Compiler_ok 12 (by decide)) (bI_nar _) (bI_fit _) (Nat.le_of_ble_eq_true rfl) d_Compiler_readText_52 (fun H locs hP hD hS => ?_)
              have hP : va_P (dC, dI) classes ((sh_Compiler cI cL cZ co coHa coH coNa coN coLa coL coPa coP coK (.ref sr) (.ref bk) coF coE coW coX coI coI coM) ++ ((sh_Row cI cL cZ sr srEa srn srE srC srO) ++ ((sh_Book cI cL cZ bk bkNa bkN bkSa bkS bkB bkBEa bkBn bkBE bkBC bkBO bkK bkKWa bkKn bkKW bkKTa bkKT bkKC bkV bkVWa bkVn bkVW bkVTa bkVT bkVC bkT)))) H := hP
              have hD : va_D A ((sh_Compiler cI cL cZ co coHa coH coNa coN coLa coL coPa coP coK (.ref sr) (.ref bk) coF coE coW coX coI coI coM) ++ ((sh_Row cI cL cZ sr srEa srn srE srC srO) ++ ((sh_Book cI cL cZ bk bkNa bkN bkSa bkS bkB bkBEa bkBn bkBE bkBC bkBO bkK bkKWa bkKn bkKW bkKTa bkKT bkKC bkV bkVWa bkVn bkVW bkVTa bkVT bkVC bkT)))) := hD
              refine lv_goto (tgt := 85) hx hb d_Compiler_readText_55 (by decide) ?_
              refine lv_iinc (k := 3) (v := x3 + 1) (lv' := [(3, .int (x3 + 1)), (4, .int r35), (0, .ref co), (2, .int x2)]) hx hb d_Compiler_readText_85 hl rfl (congrArg (fun z => x3 + z) (by decide)) (by decide) rfl (fun ls hl => ?_)
              refine lv_goto (tgt := 18) hx hb d_Compiler_readText_88 (by decide) ?_
              exact ih x2 (x3 + 1) coN coL coP coK coF coE coX coI coI coM bkS bkBE bkBC bkBO _ _ _ (lv_sub hl [2, 3, 0] rfl) hP hD hS hd
  obtain ⟨n, hd⟩ := hd
  refine lv_aload_n hx hb d_Compiler_readText_0 rfl (lv_at hl 0 rfl) ?_
  refine lv_aload_n hx hb d_Compiler_readText_1 rfl (lv_at hl 0 rfl) ?_
  refine va_get (D := (dC, dI)) (ci := 4) (v := .int coW) (C := R_Compiler) (T := F_Compiler) (N := 14) hx hb hts in_Compiler hown hK hP 0 rfl rfl 9 (by decide) (hts _ (List.mem_cons_of_mem _ k115_fieldLink)) (fun _ h9 => h9) rfl d_Compiler_readText_2 ?_
  refine va_put (D := (dC, dI)) (ci := 4) (v := .int coW) (ty := t_Compiler 10) (C := R_Compiler) (T := F_Compiler) (N := 14) hx hb hts in_Compiler t_Compiler t_Compiler_ok n_Compiler hown hK hP hD hS 0 rfl rfl 10 (by decide) (hts _ (List.mem_cons_of_mem _ k116_fieldLink)) (fun _ h9 => h9) rfl (t_Compiler_ok 10 (by decide)) rfl rfl (Nat.le_of_ble_eq_true rfl) d_Compiler_readText_5 (fun H locs hP hD hS => ?_)
  have hP : va_P (dC, dI) classes ((sh_Compiler cI cL cZ co coHa coH coNa coN coLa coL coPa coP coK (.ref sr) (.ref bk) coF coE coW coW coI coD coM) ++ ((sh_Row cI cL cZ sr srEa srn srE srC srO) ++ ((sh_Book cI cL cZ bk bkNa bkN bkSa bkS bkB bkBEa bkBn bkBE bkBC bkBO bkK bkKWa bkKn bkKW bkKTa bkKT bkKC bkV bkVWa bkVn bkVW bkVTa bkVT bkVC bkT)))) H := hP
  have hD : va_D A ((sh_Compiler cI cL cZ co coHa coH coNa coN coLa coL coPa coP coK (.ref sr) (.ref bk) coF coE coW coW coI coD coM) ++ ((sh_Row cI cL cZ sr srEa srn srE srC srO) ++ ((sh_Book cI cL cZ bk bkNa bkN bkSa bkS bkB bkBEa bkBn bkBE bkBC bkBO bkK bkKWa bkKn bkKW bkKTa bkKT bkKC bkV bkVWa bkVn bkVW bkVTa bkVT bkVC bkT)))) := hD
  refine lv_aload_n hx hb d_Compiler_readText_8 rfl (lv_at hl 0 rfl) ?_
  refine lv_aload_n hx hb d_Compiler_readText_9 rfl (lv_at hl 0 rfl) ?_
  refine va_get (D := (dC, dI)) (ci := 4) (v := .int (bI coI)) (C := R_Compiler) (T := F_Compiler) (N := 14) hx hb hts in_Compiler hown hK hP 0 rfl rfl 11 (by decide) (hts _ (List.mem_cons_of_mem _ k117_fieldLink)) (fun _ h9 => h9) rfl d_Compiler_readText_10 ?_
  refine va_put (D := (dC, dI)) (ci := 4) (v := .int (bI coI)) (ty := t_Compiler 12) (C := R_Compiler) (T := F_Compiler) (N := 14) hx hb hts in_Compiler t_Compiler t_Compiler_ok n_Compiler hown hK hP hD hS 0 rfl rfl 12 (by decide) (hts _ (List.mem_cons_of_mem _ k118_fieldLink)) (fun _ h9 => h9) rfl (t_Compiler_ok 12 (by decide)) (bI_nar _) (bI_fit _) (Nat.le_of_ble_eq_true rfl) d_Compiler_readText_13 (fun H locs hP hD hS => ?_)
  have hP : va_P (dC, dI) classes ((sh_Compiler cI cL cZ co coHa coH coNa coN coLa coL coPa coP coK (.ref sr) (.ref bk) coF coE coW coW coI coI coM) ++ ((sh_Row cI cL cZ sr srEa srn srE srC srO) ++ ((sh_Book cI cL cZ bk bkNa bkN bkSa bkS bkB bkBEa bkBn bkBE bkBC bkBO bkK bkKWa bkKn bkKW bkKTa bkKT bkKC bkV bkVWa bkVn bkVW bkVTa bkVT bkVC bkT)))) H := hP
  have hD : va_D A ((sh_Compiler cI cL cZ co coHa coH coNa coN coLa coL coPa coP coK (.ref sr) (.ref bk) coF coE coW coW coI coI coM) ++ ((sh_Row cI cL cZ sr srEa srn srE srC srO) ++ ((sh_Book cI cL cZ bk bkNa bkN bkSa bkS bkB bkBEa bkBn bkBE bkBC bkBO bkK bkKWa bkKn bkKW bkKTa bkKT bkKC bkV bkVWa bkVn bkVW bkVTa bkVT bkVC bkT)))) := hD
  refine lv_iload_n hx hb d_Compiler_readText_16 rfl (lv_at hl 1 rfl) ?_
  refine lv_istore_n (lv' := [(3, .int k0), (0, .ref co), (1, .int k0), (2, .int k1)]) hx hb d_Compiler_readText_17 rfl hl (by decide) rfl (fun ls hl => ?_)
  exact (key n) k1 k0 coN coL coP coK coF coE coW coI coI coM bkS bkBE bkBC bkBO _ _ _ (lv_sub hl [1, 3, 0] rfl) hP hD hS hd
-- Compiler.closeParagraph
abbrev b_Compiler_closeParagraph : ByteArray := prog_3_method_15_code
def y_Compiler_closeParagraph : MethodName := ⟨"HelpFile$Compiler", "closeParagraph", "()V"⟩
set_option maxRecDepth 100000 in
theorem fm_Compiler_closeParagraph : Fm y_Compiler_closeParagraph b_Compiler_closeParagraph 1 none 0 := ⟨ga_t 316 rfl rfl, k108_initialized, by decide, by decide, by decide +kernel⟩
def B_Compiler_closeParagraph_25 (bkBn : Nat) (coX : Int32) (bkT : Int32) (coF' : Int32) (coE' : Int32) (coI' : Bool) (coM' : Bool) (bkS' : Nat → Int32) (bkBE' : Nat → Int32) (bkBC' : Int32) (bkBO' : Bool) (X : Int32 → Int32 → Bool → Bool → (Nat → Int32) → (Nat → Int32) → Int32 → Bool → Prop) (coF : Int32) (coE : Int32) (coI : Bool) (coM : Bool) (bkS : Nat → Int32) (bkBE : Nat → Int32) (bkBC : Int32) (bkBO : Bool) : Prop := (∃ bkS_31 : Nat → Int32, ∃ bkBE_31 : Nat → Int32, ∃ bkBC_31 : Int32, ∃ bkBO_31 : Bool, D_Book_append bkBn 10 bkS bkBE bkBC bkBO bkT bkS_31 bkBE_31 bkBC_31 bkBO_31 ∧ (coF' = coF ∧ coE' = coE ∧ coI' = false ∧ coM' = false ∧ bkS' = bkS_31 ∧ bkBE' = bkBE_31 ∧ bkBC' = bkBC_31 ∧ bkBO' = bkBO_31))
def S_Compiler_closeParagraph (bkBn : Nat) (coX : Int32) (bkT : Int32) (coF' : Int32) (coE' : Int32) (coI' : Bool) (coM' : Bool) (bkS' : Nat → Int32) (bkBE' : Nat → Int32) (bkBC' : Int32) (bkBO' : Bool) (X : Int32 → Int32 → Bool → Bool → (Nat → Int32) → (Nat → Int32) → Int32 → Bool → Prop) : Int32 → Int32 → Bool → Bool → (Nat → Int32) → (Nat → Int32) → Int32 → Bool → Prop := fun coF coE coI coM bkS bkBE bkBC bkBO => B_Compiler_closeParagraph_25 bkBn coX bkT coF' coE' coI' coM' bkS' bkBE' bkBC' bkBO' X coF coE coI coM bkS bkBE bkBC bkBO
def T_Compiler_closeParagraph (bkBn : Nat) (coX : Int32) (bkT : Int32) (coF' : Int32) (coE' : Int32) (coI' : Bool) (coM' : Bool) (bkS' : Nat → Int32) (bkBE' : Nat → Int32) (bkBC' : Int32) (bkBO' : Bool) : Nat → (Int32 → Int32 → Bool → Bool → (Nat → Int32) → (Nat → Int32) → Int32 → Bool → Prop)
  | 0 => fun _ _ _ _ _ _ _ _ => False
  | n + 1 => S_Compiler_closeParagraph bkBn coX bkT coF' coE' coI' coM' bkS' bkBE' bkBC' bkBO' (T_Compiler_closeParagraph bkBn coX bkT coF' coE' coI' coM' bkS' bkBE' bkBC' bkBO' n)
def D_Compiler_closeParagraph (bkBn : Nat) (coF : Int32) (coE : Int32) (coX : Int32) (coI : Bool) (coM : Bool) (bkS : Nat → Int32) (bkBE : Nat → Int32) (bkBC : Int32) (bkBO : Bool) (bkT : Int32) (coF' : Int32) (coE' : Int32) (coI' : Bool) (coM' : Bool) (bkS' : Nat → Int32) (bkBE' : Nat → Int32) (bkBC' : Int32) (bkBO' : Bool) : Prop := ∃ n : Nat, (((bI coI) = 0 → (coF' = coF ∧ coE' = coE ∧ coI' = coI ∧ coM' = coM ∧ bkS' = bkS ∧ bkBE' = bkBE ∧ bkBC' = bkBC ∧ bkBO' = bkBO)) ∧ (¬ ((bI coI) = 0) → (((bI coM) = 0 → T_Compiler_closeParagraph bkBn coX bkT coF' coE' coI' coM' bkS' bkBE' bkBC' bkBO' n coF coE coI coM bkS bkBE bkBC bkBO) ∧ (¬ ((bI coM) = 0) → (∃ coF_22 : Int32, ∃ coE_22 : Int32, D_Compiler_blame 7 coX coF coE coF_22 coE_22 ∧ T_Compiler_closeParagraph bkBn coX bkT coF' coE' coI' coM' bkS' bkBE' bkBC' bkBO' n coF_22 coE_22 coI coM bkS bkBE bkBC bkBO)))))
theorem d_Compiler_closeParagraph_0 : decode b_Compiler_closeParagraph 0 = .ok (.aload_n 0, 1) := by decide +kernel
theorem d_Compiler_closeParagraph_1 : decode b_Compiler_closeParagraph 1 = .ok (.getfield 86, 3) := by decide +kernel
theorem d_Compiler_closeParagraph_4 : decode b_Compiler_closeParagraph 4 = .ok (.ifCond .ne 4, 3) := by decide +kernel
theorem d_Compiler_closeParagraph_7 : decode b_Compiler_closeParagraph 7 = .ok (.return_, 1) := by decide +kernel
theorem d_Compiler_closeParagraph_8 : decode b_Compiler_closeParagraph 8 = .ok (.aload_n 0, 1) := by decide +kernel
theorem d_Compiler_closeParagraph_9 : decode b_Compiler_closeParagraph 9 = .ok (.getfield 93, 3) := by decide +kernel
theorem d_Compiler_closeParagraph_12 : decode b_Compiler_closeParagraph 12 = .ok (.ifCond .eq 13, 3) := by decide +kernel
theorem d_Compiler_closeParagraph_15 : decode b_Compiler_closeParagraph 15 = .ok (.aload_n 0, 1) := by decide +kernel
theorem d_Compiler_closeParagraph_16 : decode b_Compiler_closeParagraph 16 = .ok (.bipush 7, 2) := by decide +kernel
theorem d_Compiler_closeParagraph_18 : decode b_Compiler_closeParagraph 18 = .ok (.aload_n 0, 1) := by decide +kernel
theorem d_Compiler_closeParagraph_19 : decode b_Compiler_closeParagraph 19 = .ok (.getfield 83, 3) := by decide +kernel
theorem d_Compiler_closeParagraph_22 : decode b_Compiler_closeParagraph 22 = .ok (.invokevirtual 74, 3) := by decide +kernel
theorem d_Compiler_closeParagraph_25 : decode b_Compiler_closeParagraph 25 = .ok (.aload_n 0, 1) := by decide +kernel
theorem d_Compiler_closeParagraph_26 : decode b_Compiler_closeParagraph 26 = .ok (.getfield 29, 3) := by decide +kernel
theorem d_Compiler_closeParagraph_29 : decode b_Compiler_closeParagraph 29 = .ok (.bipush 10, 2) := by decide +kernel
theorem d_Compiler_closeParagraph_31 : decode b_Compiler_closeParagraph 31 = .ok (.invokevirtual 144, 3) := by decide +kernel
theorem d_Compiler_closeParagraph_34 : decode b_Compiler_closeParagraph 34 = .ok (.aload_n 0, 1) := by decide +kernel
theorem d_Compiler_closeParagraph_35 : decode b_Compiler_closeParagraph 35 = .ok (.iconst 0, 1) := by decide +kernel
theorem d_Compiler_closeParagraph_36 : decode b_Compiler_closeParagraph 36 = .ok (.putfield 86, 3) := by decide +kernel
theorem d_Compiler_closeParagraph_39 : decode b_Compiler_closeParagraph 39 = .ok (.aload_n 0, 1) := by decide +kernel
theorem d_Compiler_closeParagraph_40 : decode b_Compiler_closeParagraph 40 = .ok (.iconst 0, 1) := by decide +kernel
theorem d_Compiler_closeParagraph_41 : decode b_Compiler_closeParagraph 41 = .ok (.putfield 93, 3) := by decide +kernel
theorem d_Compiler_closeParagraph_44 : decode b_Compiler_closeParagraph 44 = .ok (.return_, 1) := by decide +kernel
set_option maxHeartbeats 4000000 in
set_option maxRecDepth 100000 in
theorem c_Compiler_closeParagraph (l : Launch) (dC : Nat → ClassId) (dI : Nat → Nat → Nat) (cI cL cZ : ClassId) (co : Nat) (coHa : Nat) (coH : Nat → Int32) (coNa : Nat) (coN : Nat → Int64) (coLa : Nat) (coL : Nat → Int32) (coPa : Nat) (coP : Nat → Int32) (coK : Int32) (coS : Value) (coF : Int32) (coE : Int32) (coW : Int32) (coX : Int32) (coI : Bool) (coD : Bool) (coM : Bool) (bk : Nat) (bkNa : Nat) (bkN : Nat → Int64) (bkSa : Nat) (bkS : Nat → Int32) (bkB : Nat) (bkBEa : Nat) (bkBn : Nat) (bkBE : Nat → Int32) (bkBC : Int32) (bkBO : Bool) (bkK : Nat) (bkKWa : Nat) (bkKn : Nat) (bkKW : Nat → Int64) (bkKTa : Nat) (bkKT : Nat → Int32) (bkKC : Int32) (bkV : Nat) (bkVWa : Nat) (bkVn : Nat) (bkVW : Nat → Int64) (bkVTa : Nat) (bkVT : Nat → Int32) (bkVC : Int32) (bkT : Int32) (coF' : Int32) (coE' : Int32) (coI' : Bool) (coM' : Bool) (bkS' : Nat → Int32) (bkBE' : Nat → Int32) (bkBC' : Int32) (bkBO' : Bool) (hd : D_Compiler_closeParagraph bkBn coF coE coX coI coM bkS bkBE bkBC bkBO bkT coF' coE' coI' coM' bkS' bkBE' bkBC' bkBO') : Ctr l y_Compiler_closeParagraph (Cond.code y_Compiler_closeParagraph b_Compiler_closeParagraph 1 none :: ga) { frames := 2, cells := 0, slots := 0, locals := 42 } (dC, dI) classes (Tys cI cL cZ) [.ref co] ((sh_Compiler cI cL cZ co coHa coH coNa coN coLa coL coPa coP coK coS (.ref bk) coF coE coW coX coI coD coM) ++ ((sh_Book cI cL cZ bk bkNa bkN bkSa bkS bkB bkBEa bkBn bkBE bkBC bkBO bkK bkKWa bkKn bkKW bkKTa bkKT bkKC bkV bkVWa bkVn bkVW bkVTa bkVT bkVC bkT))) none ((sh_Compiler cI cL cZ co coHa coH coNa coN coLa coL coPa coP coK coS (.ref bk) coF' coE' coW coX coI' coD coM') ++ ((sh_Book cI cL cZ bk bkNa bkN bkSa bkS' bkB bkBEa bkBn bkBE' bkBC' bkBO' bkK bkKWa bkKn bkKW bkKTa bkKT bkKC bkV bkVWa bkVn bkVW bkVTa bkVT bkVC bkT))) := by
  refine Ctr.ofW (by decide) (Nat.le_of_ble_eq_true rfl) ?_
  intro p e s m below meth c A ls hx hb hr hml hown hlocks hts hK hN hA hP hD hS hl
  have hown : s.vm.findClass R_Compiler = some m.cls := hown
  have hl : lv_has ls 1 [(0, .ref co)] := hl
  have key : ∀ n : Nat, (∀ (coF : Int32) (coE : Int32) (coI : Bool) (coM : Bool) (bkS : Nat → Int32) (bkBE : Nat → Int32) (bkBC : Int32) (bkBO : Bool) (ls : Array Slot) (H : Heap) (locs : List Loc), lv_has ls 1 [(0, .ref co)] → va_P (dC, dI) classes ((sh_Compiler cI cL cZ co coHa coH coNa coN coLa coL coPa coP coK coS (.ref bk) coF coE coW coX coI coD coM) ++ ((sh_Book cI cL cZ bk bkNa bkN bkSa bkS bkB bkBEa bkBn bkBE bkBC bkBO bkK bkKWa bkKn bkKW bkKTa bkKT bkKC bkV bkVWa bkVn bkVW bkVTa bkVT bkVC bkT))) H → va_D A ((sh_Compiler cI cL cZ co coHa coH coNa coN coLa coL coPa coP coK coS (.ref bk) coF coE coW coX coI coD coM) ++ ((sh_Book cI cL cZ bk bkNa bkN bkSa bkS bkB bkBEa bkBn bkBE bkBC bkBO bkK bkKWa bkKn bkKW bkKTa bkKT bkKC bkV bkVWa bkVn bkVW bkVTa bkVT bkVC bkT))) → va_S A s.heap H locs → T_Compiler_closeParagraph bkBn coX bkT coF' coE' coI' coM' bkS' bkBE' bkBC' bkBO' n coF coE coI coM bkS bkBE bkBC bkBO → W p l e ({ frames := 2, cells := 0, slots := 0, locals := 42 }) s m ([.ref co] : List Value).toArray below meth c H locs 0 0 (MQ below (Qs (dC, dI) classes (Tys cI cL cZ) none ((sh_Compiler cI cL cZ co coHa coH coNa coN coLa coL coPa coP coK coS (.ref bk) coF' coE' coW coX coI' coD coM') ++ ((sh_Book cI cL cZ bk bkNa bkN bkSa bkS' bkB bkBEa bkBn bkBE' bkBC' bkBO' bkK bkKWa bkKn bkKW bkKTa bkKT bkKC bkV bkVWa bkVn bkVW bkVTa bkVT bkVC bkT))) A) ([.ref co] : List Value).toArray s 0 0 A) (F0 m 25 ls [])) := by
    intro n
    induction n with
    | zero =>
      exact fun _ _ _ _ _ _ _ _ _ _ _ _ _ _ _ hd => False.elim hd
    | succ n ih =>
      · intro coF coE coI coM bkS bkBE bkBC bkBO ls H locs hl hP hD hS hd
        have hd : B_Compiler_closeParagraph_25 bkBn coX bkT coF' coE' coI' coM' bkS' bkBE' bkBC' bkBO' (T_Compiler_closeParagraph bkBn coX bkT coF' coE' coI' coM' bkS' bkBE' bkBC' bkBO' n) coF coE coI coM bkS bkBE bkBC bkBO := hd
        refine lv_aload_n hx hb d_Compiler_closeParagraph_25 rfl (lv_at hl 0 rfl) ?_
        refine va_get (D := (dC, dI)) (ci := 4) (v := .ref bk) (C := R_Compiler) (T := F_Compiler) (N := 14) hx hb hts in_Compiler hown hK hP 0 rfl rfl 6 (by decide) (hts _ (List.mem_cons_of_mem _ k110_fieldLink)) (fun _ h9 => h9) rfl d_Compiler_closeParagraph_26 ?_
        refine lv_bipush (v := 10) hx hb d_Compiler_closeParagraph_29 (by decide) ?_
        obtain ⟨bkS_31, bkBE_31, bkBC_31, bkBO_31, c31, hd⟩ := hd
        refine ct_V (As := [.int 10]) (rest := []) (C := R_Book) (ci := 3) (q := (R_Book, F_Book, 6)) ⟨hx, hb, hml, hown, hts⟩ fm_Book_append (c_Book_append l dC dI cI cL cZ bk bkNa bkN bkSa bkS bkB bkBEa bkBn bkBE bkBC bkBO bkK bkKWa bkKn bkKW bkKTa bkKT bkKC bkV bkVWa bkVn bkVW bkVTa bkVT bkVC bkT 10 bkS_31 bkBE_31 bkBC_31 bkBO_31 c31) k140_methodLink k141_instanceMethod k142_selects ⟨Nat.le_of_ble_eq_true rfl, Nat.le_of_ble_eq_true rfl⟩ rfl rfl hK hN hP hD hS hA [5, 6, 7, 8, 9, 10, 11, 12, 13, 14, 15] [0, 1, 2, 3, 4] rfl rfl rfl (by decide) (by decide) (by decide) 5 rfl rfl rfl rfl hl.1 rfl (Nat.le_of_ble_eq_true rfl) d_Compiler_closeParagraph_31 (fun H locs hP hD hS => ?_)
        have hP : va_P (dC, dI) classes ((sh_Compiler cI cL cZ co coHa coH coNa coN coLa coL coPa coP coK coS (.ref bk) coF coE coW coX coI coD coM) ++ ((sh_Book cI cL cZ bk bkNa bkN bkSa bkS_31 bkB bkBEa bkBn bkBE_31 bkBC_31 bkBO_31 bkK bkKWa bkKn bkKW bkKTa bkKT bkKC bkV bkVWa bkVn bkVW bkVTa bkVT bkVC bkT))) H := hP.sub [0, 1, 2, 3, 4, 5, 6, 7, 8, 9, 10, 11, 12, 13, 14, 15] rfl
        have hD : va_D A ((sh_Compiler cI cL cZ co coHa coH coNa coN coLa coL coPa coP coK coS (.ref bk) coF coE coW coX coI coD coM) ++ ((sh_Book cI cL cZ bk bkNa bkN bkSa bkS_31 bkB bkBEa bkBn bkBE_31 bkBC_31 bkBO_31 bkK bkKWa bkKn bkKW bkKTa bkKT bkKC bkV bkVWa bkVn bkVW bkVTa bkVT bkVC bkT))) := hD.sub [0, 1, 2, 3, 4, 5, 6, 7, 8, 9, 10, 11, 12, 13, 14, 15] (by decide) rfl
        refine lv_aload_n hx hb d_Compiler_closeParagraph_34 rfl (lv_at hl 0 rfl) ?_
        refine lv_iconst (v := 0) hx hb d_Compiler_closeParagraph_35 (by decide) ?_
        refine va_put (D := (dC, dI)) (ci := 4) (v := .int (bI false)) (ty := t_Compiler 11) (C := R_Compiler) (T := F_Compiler) (N := 14) hx hb hts in_Compiler t_Compiler t_Compiler_ok n_Compiler hown hK hP hD hS 0 rfl rfl 11 (by decide) (hts _ (List.mem_cons_of_mem _ k117_fieldLink)) (fun _ h9 => h9) rfl (t_Compiler_ok 11 (by decide)) (bI_nar _) (bI_fit _) (Nat.le_of_ble_eq_true rfl) d_Compiler_closeParagraph_36 (fun H locs hP hD hS => ?_)
        have hP : va_P (dC, dI) classes ((sh_Compiler cI cL cZ co coHa coH coNa coN coLa coL coPa coP coK coS (.ref bk) coF coE coW coX false coD coM) ++ ((sh_Book cI cL cZ bk bkNa bkN bkSa bkS_31 bkB bkBEa bkBn bkBE_31 bkBC_31 bkBO_31 bkK bkKWa bkKn bkKW bkKTa bkKT bkKC bkV bkVWa bkVn bkVW bkVTa bkVT bkVC bkT))) H := hP
        have hD : va_D A ((sh_Compiler cI cL cZ co coHa coH coNa coN coLa coL coPa coP coK coS (.ref bk) coF coE coW coX false coD coM) ++ ((sh_Book cI cL cZ bk bkNa bkN bkSa bkS_31 bkB bkBEa bkBn bkBE_31 bkBC_31 bkBO_31 bkK bkKWa bkKn bkKW bkKTa bkKT bkKC bkV bkVWa bkVn bkVW bkVTa bkVT bkVC bkT))) := hD
        refine lv_aload_n hx hb d_Compiler_closeParagraph_39 rfl (lv_at hl 0 rfl) ?_
        refine lv_iconst (v := 0) hx hb d_Compiler_closeParagraph_40 (by decide) ?_
        refine va_put (D := (dC, dI)) (ci := 4) (v := .int (bI false)) (ty := t_Compiler 13) (C := R_Compiler) (T := F_Compiler) (N := 14) hx hb hts in_Compiler t_Compiler t_Compiler_ok n_Compiler hown hK hP hD hS 0 rfl rfl 13 (by decide) (hts _ (List.mem_cons_of_mem _ k119_fieldLink)) (fun _ h9 => h9) rfl (t_Compiler_ok 13 (by decide)) (bI_nar _) (bI_fit _) (Nat.le_of_ble_eq_true rfl) d_Compiler_closeParagraph_41 (fun H locs hP hD hS => ?_)
        have hP : va_P (dC, dI) classes ((sh_Compiler cI cL cZ co coHa coH coNa coN coLa coL coPa coP coK coS (.ref bk) coF coE coW coX false coD false) ++ ((sh_Book cI cL cZ bk bkNa bkN bkSa bkS_31 bkB bkBEa bkBn bkBE_31 bkBC_31 bkBO_31 bkK bkKWa bkKn bkKW bkKTa bkKT bkKC bkV bkVWa bkVn bkVW bkVTa bkVT bkVC bkT))) H := hP
        have hD : va_D A ((sh_Compiler cI cL cZ co coHa coH coNa coN coLa coL coPa coP coK coS (.ref bk) coF coE coW coX false coD false) ++ ((sh_Book cI cL cZ bk bkNa bkN bkSa bkS_31 bkB bkBEa bkBn bkBE_31 bkBC_31 bkBO_31 bkK bkKWa bkKn bkKW bkKTa bkKT bkKC bkV bkVWa bkVn bkVW bkVTa bkVT bkVC bkT))) := hD
        obtain ⟨e0, e1, e2, e3, e4, e5, e6, e7⟩ := hd
        subst e0
        subst e1
        subst e2
        subst e3
        subst e4
        subst e5
        subst e6
        subst e7
        exact ct_vret hx hb hr hlocks hK hP hD hS d_Compiler_closeParagraph_44
  obtain ⟨n, hd⟩ := hd
  refine lv_aload_n hx hb d_Compiler_closeParagraph_0 rfl (lv_at hl 0 rfl) ?_
  refine va_get (D := (dC, dI)) (ci := 4) (v := .int (bI coI)) (C := R_Compiler) (T := F_Compiler) (N := 14) hx hb hts in_Compiler hown hK hP 0 rfl rfl 11 (by decide) (hts _ (List.mem_cons_of_mem _ k117_fieldLink)) (fun _ h9 => h9) rfl d_Compiler_closeParagraph_1 ?_
  refine lv_if_ne (tgt := 8) hx hb d_Compiler_closeParagraph_4 (by decide) (fun h4 => ?_) (fun h4 => ?_)
  · have hd := hd.2 h4
    refine lv_aload_n hx hb d_Compiler_closeParagraph_8 rfl (lv_at hl 0 rfl) ?_
    refine va_get (D := (dC, dI)) (ci := 4) (v := .int (bI coM)) (C := R_Compiler) (T := F_Compiler) (N := 14) hx hb hts in_Compiler hown hK hP 0 rfl rfl 13 (by decide) (hts _ (List.mem_cons_of_mem _ k119_fieldLink)) (fun _ h9 => h9) rfl d_Compiler_closeParagraph_9 ?_
    refine lv_if_eq (tgt := 25) hx hb d_Compiler_closeParagraph_12 (by decide) (fun h12 => ?_) (fun h12 => ?_)
    · have hd := hd.1 h12
      exact (key n) coF coE coI coM bkS bkBE bkBC bkBO _ _ _ (lv_sub hl [0] rfl) hP hD hS hd
    · have hd := hd.2 h12
      refine lv_aload_n hx hb d_Compiler_closeParagraph_15 rfl (lv_at hl 0 rfl) ?_
      refine lv_bipush (v := 7) hx hb d_Compiler_closeParagraph_16 (by decide) ?_
      refine lv_aload_n hx hb d_Compiler_closeParagraph_18 rfl (lv_at hl 0 rfl) ?_
      refine va_get (D := (dC, dI)) (ci := 4) (v := .int coX) (C := R_Compiler) (T := F_Compiler) (N := 14) hx hb hts in_Compiler hown hK hP 0 rfl rfl 10 (by decide) (hts _ (List.mem_cons_of_mem _ k116_fieldLink)) (fun _ h9 => h9) rfl d_Compiler_closeParagraph_19 ?_
      obtain ⟨coF_22, coE_22, c22, hd⟩ := hd
      refine ct_V (As := [.int 7, .int coX]) (rest := []) (C := R_Compiler) (ci := 4) (q := (R_Compiler, F_Compiler, 14)) ⟨hx, hb, hml, hown, hts⟩ fm_Compiler_blame (c_Compiler_blame l dC dI cI cL cZ co coHa coH coNa coN coLa coL coPa coP coK coS (.ref bk) coF coE coW coX coI coD coM 7 coX coF_22 coE_22 c22) k134_methodLink k135_instanceMethod k136_selects ⟨Nat.le_of_ble_eq_true rfl, Nat.le_of_ble_eq_true rfl⟩ rfl rfl hK hN hP hD hS hA [0, 1, 2, 3, 4] [5, 6, 7, 8, 9, 10, 11, 12, 13, 14, 15] rfl rfl rfl (by decide) (by decide) (by decide) 0 rfl rfl rfl rfl hl.1 rfl (Nat.le_of_ble_eq_true rfl) d_Compiler_closeParagraph_22 (fun H locs hP hD hS => ?_)
      have hP : va_P (dC, dI) classes ((sh_Compiler cI cL cZ co coHa coH coNa coN coLa coL coPa coP coK coS (.ref bk) coF_22 coE_22 coW coX coI coD coM) ++ ((sh_Book cI cL cZ bk bkNa bkN bkSa bkS bkB bkBEa bkBn bkBE bkBC bkBO bkK bkKWa bkKn bkKW bkKTa bkKT bkKC bkV bkVWa bkVn bkVW bkVTa bkVT bkVC bkT))) H := hP.sub [11, 12, 13, 14, 15, 0, 1, 2, 3, 4, 5, 6, 7, 8, 9, 10] rfl
      have hD : va_D A ((sh_Compiler cI cL cZ co coHa coH coNa coN coLa coL coPa coP coK coS (.ref bk) coF_22 coE_22 coW coX coI coD coM) ++ ((sh_Book cI cL cZ bk bkNa bkN bkSa bkS bkB bkBEa bkBn bkBE bkBC bkBO bkK bkKWa bkKn bkKW bkKTa bkKT bkKC bkV bkVWa bkVn bkVW bkVTa bkVT bkVC bkT))) := hD.sub [11, 12, 13, 14, 15, 0, 1, 2, 3, 4, 5, 6, 7, 8, 9, 10] (by decide) rfl
      exact (key n) coF_22 coE_22 coI coM bkS bkBE bkBC bkBO _ _ _ (lv_sub hl [0] rfl) hP hD hS hd
  · have hd := hd.1 h4
    obtain ⟨e0, e1, e2, e3, e4, e5, e6, e7⟩ := hd
    subst e0
    subst e1
    subst e2
    subst e3
    subst e4
    subst e5
    subst e6
    subst e7
    exact ct_vret hx hb hr hlocks hK hP hD hS d_Compiler_closeParagraph_7
-- Compiler.readLine
abbrev b_Compiler_readLine : ByteArray := prog_3_method_8_code
def y_Compiler_readLine : MethodName := ⟨"HelpFile$Compiler", "readLine", "(II)V"⟩
theorem k159_methodLink : Cond.methodLink "HelpFile$Compiler" 99 ⟨"HelpFile$Compiler", "isBlank", "(II)Z"⟩ ∈ ga := ga_t 309 (by decide +kernel) rfl
theorem k160_instanceMethod : Cond.instanceMethod ⟨"HelpFile$Compiler", "isBlank", "(II)Z"⟩ ∈ ga := ga_t 311 (by decide +kernel) rfl
theorem k161_selects : Cond.selects "HelpFile$Compiler" ⟨"HelpFile$Compiler", "isBlank", "(II)Z"⟩ ⟨"HelpFile$Compiler", "isBlank", "(II)Z"⟩ ∈ ga := ga_s (q := (⟨"HelpFile$Compiler", "isBlank", "(II)Z"⟩, _)) 3 rfl
theorem k162_methodLink : Cond.methodLink "HelpFile$Compiler" 109 ⟨"HelpFile$Compiler", "readText", "(II)V"⟩ ∈ ga := ga_t 382 (by decide +kernel) rfl
theorem k163_instanceMethod : Cond.instanceMethod ⟨"HelpFile$Compiler", "readText", "(II)V"⟩ ∈ ga := ga_t 384 (by decide +kernel) rfl
theorem k164_selects : Cond.selects "HelpFile$Compiler" ⟨"HelpFile$Compiler", "readText", "(II)V"⟩ ⟨"HelpFile$Compiler", "readText", "(II)V"⟩ ∈ ga := ga_s (q := (⟨"HelpFile$Compiler", "readText", "(II)V"⟩, _)) 10 rfl
theorem k165_methodLink : Cond.methodLink "HelpFile$Compiler" 60 ⟨"HelpFile$Compiler", "closeParagraph", "()V"⟩ ∈ ga := ga_t 313 (by decide +kernel) rfl
theorem k166_instanceMethod : Cond.instanceMethod ⟨"HelpFile$Compiler", "closeParagraph", "()V"⟩ ∈ ga := ga_t 315 (by decide +kernel) rfl
theorem k167_selects : Cond.selects "HelpFile$Compiler" ⟨"HelpFile$Compiler", "closeParagraph", "()V"⟩ ⟨"HelpFile$Compiler", "closeParagraph", "()V"⟩ ∈ ga := ga_s (q := (⟨"HelpFile$Compiler", "closeParagraph", "()V"⟩, _)) 4 rfl
theorem k168_methodLink : Cond.methodLink "HelpFile$Compiler" 106 ⟨"HelpFile$Compiler", "readKeyword", "(II)V"⟩ ∈ ga := ga_t 362 (by decide +kernel) rfl
theorem k169_instanceMethod : Cond.instanceMethod ⟨"HelpFile$Compiler", "readKeyword", "(II)V"⟩ ∈ ga := ga_t 364 (by decide +kernel) rfl
theorem k170_selects : Cond.selects "HelpFile$Compiler" ⟨"HelpFile$Compiler", "readKeyword", "(II)V"⟩ ⟨"HelpFile$Compiler", "readKeyword", "(II)V"⟩ ∈ ga := ga_s (q := (⟨"HelpFile$Compiler", "readKeyword", "(II)V"⟩, _)) 7 rfl
theorem k171_methodLink : Cond.methodLink "HelpFile$Compiler" 103 ⟨"HelpFile$Compiler", "readHeading", "(II)V"⟩ ∈ ga := ga_t 330 (by decide +kernel) rfl
theorem k172_instanceMethod : Cond.instanceMethod ⟨"HelpFile$Compiler", "readHeading", "(II)V"⟩ ∈ ga := ga_t 332 (by decide +kernel) rfl
theorem k173_selects : Cond.selects "HelpFile$Compiler" ⟨"HelpFile$Compiler", "readHeading", "(II)V"⟩ ⟨"HelpFile$Compiler", "readHeading", "(II)V"⟩ ∈ ga := ga_s (q := (⟨"HelpFile$Compiler", "readHeading", "(II)V"⟩, _)) 6 rfl
set_option maxRecDepth 100000 in
theorem fm_Compiler_readLine : Fm y_Compiler_readLine b_Compiler_readLine 3 none 2 := ⟨ga_t 308 rfl rfl, k108_initialized, by decide, by decide, by decide +kernel⟩
def D_Compiler_readLine (srn : Nat) (bkBn : Nat) (bkKn : Nat) (k0 : Int32) (k1 : Int32) (coH : Nat → Int32) (coN : Nat → Int64) (coL : Nat → Int32) (coP : Nat → Int32) (coK : Int32) (coF : Int32) (coE : Int32) (coW : Int32) (coX : Int32) (coI : Bool) (coD : Bool) (coM : Bool) (srE : Nat → Int32) (srC : Int32) (bkN : Nat → Int64) (bkS : Nat → Int32) (bkBE : Nat → Int32) (bkBC : Int32) (bkBO : Bool) (bkKW : Nat → Int64) (bkKT : Nat → Int32) (bkKC : Int32) (bkT : Int32) (coH' : Nat → Int32) (coN' : Nat → Int64) (coL' : Nat → Int32) (coP' : Nat → Int32) (coK' : Int32) (coF' : Int32) (coE' : Int32) (coX' : Int32) (coI' : Bool) (coD' : Bool) (coM' : Bool) (bkN' : Nat → Int64) (bkS' : Nat → Int32) (bkBE' : Nat → Int32) (bkBC' : Int32) (bkBO' : Bool) (bkKW' : Nat → Int64) (bkKT' : Nat → Int32) (bkKC' : Int32) (bkT' : Int32) : Prop := (∃ r3 : Bool, D_Compiler_isBlank srn k0 k1 srE srC r3 ∧ (((bI r3) = 0 → (∃ r21 : Int32, D_Row_element srn k0 srE srC r21 ∧ ((r21 = 35 → (∃ coF_30 : Int32, ∃ coE_30 : Int32, ∃ coI_30 : Bool, ∃ coM_30 : Bool, ∃ bkS_30 : Nat → Int32, ∃ bkBE_30 : Nat → Int32, ∃ bkBC_30 : Int32, ∃ bkBO_30 : Bool, D_Compiler_closeParagraph bkBn coF coE coX coI coM bkS bkBE bkBC bkBO bkT coF_30 coE_30 coI_30 coM_30 bkS_30 bkBE_30 bkBC_30 bkBO_30 ∧ (∃ coH_38 : Nat → Int32, ∃ coF_38 : Int32, ∃ coE_38 : Int32, ∃ bkN_38 : Nat → Int64, ∃ bkS_38 : Nat → Int32, ∃ bkT_38 : Int32, D_Compiler_readHeading srn (k0 + 1) k1 coH coF_30 coE_30 coW srE srC bkN bkS_30 bkBC_30 bkT coH_38 coF_38 coE_38 bkN_38 bkS_38 bkT_38 ∧ (coH' = coH_38 ∧ coN' = coN ∧ coL' = coL ∧ coP' = coP ∧ coK' = coK ∧ coF' = coF_38 ∧ coE' = coE_38 ∧ coX' = coX ∧ coI' = coI_30 ∧ coD' = coD ∧ coM' = coM_30 ∧ bkN' = bkN_38 ∧ bkS' = bkS_38 ∧ bkBE' = bkBE_30 ∧ bkBC' = bkBC_30 ∧ bkBO' = bkBO_30 ∧ bkKW' = bkKW ∧ bkKT' = bkKT ∧ bkKC' = bkKC ∧ bkT' = bkT_38)))) ∧ (¬ (r21 = 35) → (∃ r49 : Int32, D_Row_element srn k0 srE srC r49 ∧ ((r49 = 33 → (∃ coF_58 : Int32, ∃ coE_58 : Int32, ∃ coI_58 : Bool, ∃ coM_58 : Bool, ∃ bkS_58 : Nat → Int32, ∃ bkBE_58 : Nat → Int32, ∃ bkBC_58 : Int32, ∃ bkBO_58 : Bool, D_Compiler_closeParagraph bkBn coF coE coX coI coM bkS bkBE bkBC bkBO bkT coF_58 coE_58 coI_58 coM_58 bkS_58 bkBE_58 bkBC_58 bkBO_58 ∧ (∃ coF_66 : Int32, ∃ coE_66 : Int32, ∃ bkKW_66 : Nat → Int64, ∃ bkKT_66 : Nat → Int32, ∃ bkKC_66 : Int32, D_Compiler_readKeyword srn bkKn (k0 + 1) k1 coF_58 coE_58 coW srE srC bkKW bkKT bkKC bkT coF_66 coE_66 bkKW_66 bkKT_66 bkKC_66 ∧ (coH' = coH ∧ coN' = coN ∧ coL' = coL ∧ coP' = coP ∧ coK' = coK ∧ coF' = coF_66 ∧ coE' = coE_66 ∧ coX' = coX ∧ coI' = coI_58 ∧ coD' = coD ∧ coM' = coM_58 ∧ bkN' = bkN ∧ bkS' = bkS_58 ∧ bkBE' = bkBE_58 ∧ bkBC' = bkBC_58 ∧ bkBO' = bkBO_58 ∧ bkKW' = bkKW_66 ∧ bkKT' = bkKT_66 ∧ bkKC' = bkKC_66 ∧ bkT' = bkT)))) ∧ (¬ (r49 = 33) → ((bkT = 0 → (∃ coF_88 : Int32, ∃ coE_88 : Int32, D_Compiler_blame 1 coW coF coE coF_88 coE_88 ∧ (coH' = coH ∧ coN' = coN ∧ coL' = coL ∧ coP' = coP ∧ coK' = coK ∧ coF' = coF_88 ∧ coE' = coE_88 ∧ coX' = coX ∧ coI' = coI ∧ coD' = coD ∧ coM' = coM ∧ bkN' = bkN ∧ bkS' = bkS ∧ bkBE' = bkBE ∧ bkBC' = bkBC ∧ bkBO' = bkBO ∧ bkKW' = bkKW ∧ bkKT' = bkKT ∧ bkKC' = bkKC ∧ bkT' = bkT))) ∧ (¬ (bkT = 0) → (∃ coN_97 : Nat → Int64, ∃ coL_97 : Nat → Int32, ∃ coP_97 : Nat → Int32, ∃ coK_97 : Int32, ∃ coF_97 : Int32, ∃ coE_97 : Int32, ∃ coX_97 : Int32, ∃ coI_97 : Bool, ∃ coD_97 : Bool, ∃ coM_97 : Bool, ∃ bkS_97 : Nat → Int32, ∃ bkBE_97 : Nat → Int32, ∃ bkBC_97 : Int32, ∃ bkBO_97 : Bool, D_Compiler_readText srn bkBn k0 k1 coN coL coP coK coF coE coW coX coI coD coM srE srC bkS bkBE bkBC bkBO bkT coN_97 coL_97 coP_97 coK_97 coF_97 coE_97 coX_97 coI_97 coD_97 coM_97 bkS_97 bkBE_97 bkBC_97 bkBO_97 ∧ (coH' = coH ∧ coN' = coN_97 ∧ coL' = coL_97 ∧ coP' = coP_97 ∧ coK' = coK_97 ∧ coF' = coF_97 ∧ coE' = coE_97 ∧ coX' = coX_97 ∧ coI' = coI_97 ∧ coD' = coD_97 ∧ coM' = coM_97 ∧ bkN' = bkN ∧ bkS' = bkS_97 ∧ bkBE' = bkBE_97 ∧ bkBC' = bkBC_97 ∧ bkBO' = bkBO_97 ∧ bkKW' = bkKW ∧ bkKT' = bkKT ∧ bkKC' = bkKC ∧ bkT' = bkT))))))))))) ∧ (¬ ((bI r3) = 0) → (∃ coF_10 : Int32, ∃ coE_10 : Int32, ∃ coI_10 : Bool, ∃ coM_10 : Bool, ∃ bkS_10 : Nat → Int32, ∃ bkBE_10 : Nat → Int32, ∃ bkBC_10 : Int32, ∃ bkBO_10 : Bool, D_Compiler_closeParagraph bkBn coF coE coX coI coM bkS bkBE bkBC bkBO bkT coF_10 coE_10 coI_10 coM_10 bkS_10 bkBE_10 bkBC_10 bkBO_10 ∧ (coH' = coH ∧ coN' = coN ∧ coL' = coL ∧ coP' = coP ∧ coK' = coK ∧ coF' = coF_10 ∧ coE' = coE_10 ∧ coX' = coX ∧ coI' = coI_10 ∧ coD' = coD ∧ coM' = coM_10 ∧ bkN' = bkN ∧ bkS' = bkS_10 ∧ bkBE' = bkBE_10 ∧ bkBC' = bkBC_10 ∧ bkBO' = bkBO_10 ∧ bkKW' = bkKW ∧ bkKT' = bkKT ∧ bkKC' = bkKC ∧ bkT' = bkT)))))
theorem d_Compiler_readLine_0 : decode b_Compiler_readLine 0 = .ok (.aload_n 0, 1) := by decide +kernel
theorem d_Compiler_readLine_1 : decode b_Compiler_readLine 1 = .ok (.iload_n 1, 1) := by decide +kernel
theorem d_Compiler_readLine_2 : decode b_Compiler_readLine 2 = .ok (.iload_n 2, 1) := by decide +kernel
theorem d_Compiler_readLine_3 : decode b_Compiler_readLine 3 = .ok (.invokevirtual 99, 3) := by decide +kernel
theorem d_Compiler_readLine_6 : decode b_Compiler_readLine 6 = .ok (.ifCond .eq 10, 3) := by decide +kernel
theorem d_Compiler_readLine_9 : decode b_Compiler_readLine 9 = .ok (.aload_n 0, 1) := by decide +kernel
theorem d_Compiler_readLine_10 : decode b_Compiler_readLine 10 = .ok (.invokevirtual 60, 3) := by decide +kernel
theorem d_Compiler_readLine_13 : decode b_Compiler_readLine 13 = .ok (.goto 87, 3) := by decide +kernel
theorem d_Compiler_readLine_16 : decode b_Compiler_readLine 16 = .ok (.aload_n 0, 1) := by decide +kernel
theorem d_Compiler_readLine_17 : decode b_Compiler_readLine 17 = .ok (.getfield 25, 3) := by decide +kernel
theorem d_Compiler_readLine_20 : decode b_Compiler_readLine 20 = .ok (.iload_n 1, 1) := by decide +kernel
theorem d_Compiler_readLine_21 : decode b_Compiler_readLine 21 = .ok (.invokevirtual 96, 3) := by decide +kernel
theorem d_Compiler_readLine_24 : decode b_Compiler_readLine 24 = .ok (.bipush 35, 2) := by decide +kernel
theorem d_Compiler_readLine_26 : decode b_Compiler_readLine 26 = .ok (.if_icmp .ne 18, 3) := by decide +kernel
theorem d_Compiler_readLine_29 : decode b_Compiler_readLine 29 = .ok (.aload_n 0, 1) := by decide +kernel
theorem d_Compiler_readLine_30 : decode b_Compiler_readLine 30 = .ok (.invokevirtual 60, 3) := by decide +kernel
theorem d_Compiler_readLine_33 : decode b_Compiler_readLine 33 = .ok (.aload_n 0, 1) := by decide +kernel
theorem d_Compiler_readLine_34 : decode b_Compiler_readLine 34 = .ok (.iload_n 1, 1) := by decide +kernel
theorem d_Compiler_readLine_35 : decode b_Compiler_readLine 35 = .ok (.iconst 1, 1) := by decide +kernel
theorem d_Compiler_readLine_36 : decode b_Compiler_readLine 36 = .ok (.iadd, 1) := by decide +kernel
theorem d_Compiler_readLine_37 : decode b_Compiler_readLine 37 = .ok (.iload_n 2, 1) := by decide +kernel
theorem d_Compiler_readLine_38 : decode b_Compiler_readLine 38 = .ok (.invokevirtual 103, 3) := by decide +kernel
theorem d_Compiler_readLine_41 : decode b_Compiler_readLine 41 = .ok (.goto 59, 3) := by decide +kernel
theorem d_Compiler_readLine_44 : decode b_Compiler_readLine 44 = .ok (.aload_n 0, 1) := by decide +kernel
theorem d_Compiler_readLine_45 : decode b_Compiler_readLine 45 = .ok (.getfield 25, 3) := by decide +kernel
theorem d_Compiler_readLine_48 : decode b_Compiler_readLine 48 = .ok (.iload_n 1, 1) := by decide +kernel
theorem d_Compiler_readLine_49 : decode b_Compiler_readLine 49 = .ok (.invokevirtual 96, 3) := by decide +kernel
theorem d_Compiler_readLine_52 : decode b_Compiler_readLine 52 = .ok (.bipush 33, 2) := by decide +kernel
theorem d_Compiler_readLine_54 : decode b_Compiler_readLine 54 = .ok (.if_icmp .ne 18, 3) := by decide +kernel
theorem d_Compiler_readLine_57 : decode b_Compiler_readLine 57 = .ok (.aload_n 0, 1) := by decide +kernel
theorem d_Compiler_readLine_58 : decode b_Compiler_readLine 58 = .ok (.invokevirtual 60, 3) := by decide +kernel
theorem d_Compiler_readLine_61 : decode b_Compiler_readLine 61 = .ok (.aload_n 0, 1) := by decide +kernel
theorem d_Compiler_readLine_62 : decode b_Compiler_readLine 62 = .ok (.iload_n 1, 1) := by decide +kernel
theorem d_Compiler_readLine_63 : decode b_Compiler_readLine 63 = .ok (.iconst 1, 1) := by decide +kernel
theorem d_Compiler_readLine_64 : decode b_Compiler_readLine 64 = .ok (.iadd, 1) := by decide +kernel
theorem d_Compiler_readLine_65 : decode b_Compiler_readLine 65 = .ok (.iload_n 2, 1) := by decide +kernel
theorem d_Compiler_readLine_66 : decode b_Compiler_readLine 66 = .ok (.invokevirtual 106, 3) := by decide +kernel
theorem d_Compiler_readLine_69 : decode b_Compiler_readLine 69 = .ok (.goto 31, 3) := by decide +kernel
theorem d_Compiler_readLine_72 : decode b_Compiler_readLine 72 = .ok (.aload_n 0, 1) := by decide +kernel
theorem d_Compiler_readLine_73 : decode b_Compiler_readLine 73 = .ok (.getfield 29, 3) := by decide +kernel
theorem d_Compiler_readLine_76 : decode b_Compiler_readLine 76 = .ok (.invokevirtual 69, 3) := by decide +kernel
theorem d_Compiler_readLine_79 : decode b_Compiler_readLine 79 = .ok (.ifCond .ne 15, 3) := by decide +kernel
theorem d_Compiler_readLine_82 : decode b_Compiler_readLine 82 = .ok (.aload_n 0, 1) := by decide +kernel
theorem d_Compiler_readLine_83 : decode b_Compiler_readLine 83 = .ok (.iconst 1, 1) := by decide +kernel
theorem d_Compiler_readLine_84 : decode b_Compiler_readLine 84 = .ok (.aload_n 0, 1) := by decide +kernel
theorem d_Compiler_readLine_85 : decode b_Compiler_readLine 85 = .ok (.getfield 57, 3) := by decide +kernel
theorem d_Compiler_readLine_88 : decode b_Compiler_readLine 88 = .ok (.invokevirtual 74, 3) := by decide +kernel
theorem d_Compiler_readLine_91 : decode b_Compiler_readLine 91 = .ok (.goto 9, 3) := by decide +kernel
theorem d_Compiler_readLine_94 : decode b_Compiler_readLine 94 = .ok (.aload_n 0, 1) := by decide +kernel
theorem d_Compiler_readLine_95 : decode b_Compiler_readLine 95 = .ok (.iload_n 1, 1) := by decide +kernel
theorem d_Compiler_readLine_96 : decode b_Compiler_readLine 96 = .ok (.iload_n 2, 1) := by decide +kernel
theorem d_Compiler_readLine_97 : decode b_Compiler_readLine 97 = .ok (.invokevirtual 109, 3) := by decide +kernel
theorem d_Compiler_readLine_100 : decode b_Compiler_readLine 100 = .ok (.return_, 1) := by decide +kernel
set_option maxHeartbeats 4000000 in
set_option maxRecDepth 100000 in
theorem c_Compiler_readLine (l : Launch) (dC : Nat → ClassId) (dI : Nat → Nat → Nat) (cI cL cZ : ClassId) (co : Nat) (coHa : Nat) (coH : Nat → Int32) (coNa : Nat) (coN : Nat → Int64) (coLa : Nat) (coL : Nat → Int32) (coPa : Nat) (coP : Nat → Int32) (coK : Int32) (coF : Int32) (coE : Int32) (coW : Int32) (coX : Int32) (coI : Bool) (coD : Bool) (coM : Bool) (sr : Nat) (srEa : Nat) (srn : Nat) (srE : Nat → Int32) (srC : Int32) (srO : Bool) (bk : Nat) (bkNa : Nat) (bkN : Nat → Int64) (bkSa : Nat) (bkS : Nat → Int32) (bkB : Nat) (bkBEa : Nat) (bkBn : Nat) (bkBE : Nat → Int32) (bkBC : Int32) (bkBO : Bool) (bkK : Nat) (bkKWa : Nat) (bkKn : Nat) (bkKW : Nat → Int64) (bkKTa : Nat) (bkKT : Nat → Int32) (bkKC : Int32) (bkV : Nat) (bkVWa : Nat) (bkVn : Nat) (bkVW : Nat → Int64) (bkVTa : Nat) (bkVT : Nat → Int32) (bkVC : Int32) (bkT : Int32) (k0 : Int32) (k1 : Int32) (coH' : Nat → Int32) (coN' : Nat → Int64) (coL' : Nat → Int32) (coP' : Nat → Int32) (coK' : Int32) (coF' : Int32) (coE' : Int32) (coX' : Int32) (coI' : Bool) (coD' : Bool) (coM' : Bool) (bkN' : Nat → Int64) (bkS' : Nat → Int32) (bkBE' : Nat → Int32) (bkBC' : Int32) (bkBO' : Bool) (bkKW' : Nat → Int64) (bkKT' : Nat → Int32) (bkKC' : Int32) (bkT' : Int32) (hd : D_Compiler_readLine srn bkBn bkKn k0 k1 coH coN coL coP coK coF coE coW coX coI coD coM srE srC bkN bkS bkBE bkBC bkBO bkKW bkKT bkKC bkT coH' coN' coL' coP' coK' coF' coE' coX' coI' coD' coM' bkN' bkS' bkBE' bkBC' bkBO' bkKW' bkKT' bkKC' bkT') : Ctr l y_Compiler_readLine (Cond.code y_Compiler_readLine b_Compiler_readLine 3 none :: ga) { frames := 4, cells := 0, slots := 0, locals := 98 } (dC, dI) classes (Tys cI cL cZ) [.ref co, .int k0, .int k1] ((sh_Compiler cI cL cZ co coHa coH coNa coN coLa coL coPa coP coK (.ref sr) (.ref bk) coF coE coW coX coI coD coM) ++ ((sh_Row cI cL cZ sr srEa srn srE srC srO) ++ ((sh_Book cI cL cZ bk bkNa bkN bkSa bkS bkB bkBEa bkBn bkBE bkBC bkBO bkK bkKWa bkKn bkKW bkKTa bkKT bkKC bkV bkVWa bkVn bkVW bkVTa bkVT bkVC bkT)))) none ((sh_Compiler cI cL cZ co coHa coH' coNa coN' coLa coL' coPa coP' coK' (.ref sr) (.ref bk) coF' coE' coW coX' coI' coD' coM') ++ ((sh_Row cI cL cZ sr srEa srn srE srC srO) ++ ((sh_Book cI cL cZ bk bkNa bkN' bkSa bkS' bkB bkBEa bkBn bkBE' bkBC' bkBO' bkK bkKWa bkKn bkKW' bkKTa bkKT' bkKC' bkV bkVWa bkVn bkVW bkVTa bkVT bkVC bkT')))) := by
  refine Ctr.ofW (by decide) (Nat.le_of_ble_eq_true rfl) ?_
  intro p e s m below meth c A ls hx hb hr hml hown hlocks hts hK hN hA hP hD hS hl
  have hown : s.vm.findClass R_Compiler = some m.cls := hown
  have hl : lv_has ls 3 [(0, .ref co), (1, .int k0), (2, .int k1)] := hl
  refine lv_aload_n hx hb d_Compiler_readLine_0 rfl (lv_at hl 0 rfl) ?_
  refine lv_iload_n hx hb d_Compiler_readLine_1 rfl (lv_at hl 1 rfl) ?_
  refine lv_iload_n hx hb d_Compiler_readLine_2 rfl (lv_at hl 2 rfl) ?_
  obtain ⟨r3, c3, hd⟩ := hd
  refine ct_VR (As := [.int k0, .int k1]) (rest := []) (C := R_Compiler) (ci := 4) (q := (R_Compiler, F_Compiler, 14)) ⟨hx, hb, hml, hown, hts⟩ fm_Compiler_isBlank (c_Compiler_isBlank l dC dI cI cL cZ co coHa coH coNa coN coLa coL coPa coP coK (.ref bk) coF coE coW coX coI coD coM sr srEa srn srE srC srO k0 k1 r3 c3) k159_methodLink k160_instanceMethod k161_selects ⟨Nat.le_of_ble_eq_true rfl, Nat.le_of_ble_eq_true rfl⟩ rfl rfl hK hN hP hD [0, 1, 2, 3, 4, 5, 6] rfl rfl (by decide) 0 rfl rfl rfl rfl hl.1 rfl (Nat.le_of_ble_eq_true rfl) d_Compiler_readLine_3 ?_
  refine lv_if_eq (tgt := 16) hx hb d_Compiler_readLine_6 (by decide) (fun h6 => ?_) (fun h6 => ?_)
  · have hd := hd.1 h6
    refine lv_aload_n hx hb d_Compiler_readLine_16 rfl (lv_at hl 0 rfl) ?_
    refine va_get (D := (dC, dI)) (ci := 4) (v := .ref sr) (C := R_Compiler) (T := F_Compiler) (N := 14) hx hb hts in_Compiler hown hK hP 0 rfl rfl 5 (by decide) (hts _ (List.mem_cons_of_mem _ k120_fieldLink)) (fun _ h9 => h9) rfl d_Compiler_readLine_17 ?_
    refine lv_iload_n hx hb d_Compiler_readLine_20 rfl (lv_at hl 1 rfl) ?_
    obtain ⟨r21, c21, hd⟩ := hd
    refine ct_VR (As := [.int k0]) (rest := []) (C := R_Row) (ci := 1) (q := (R_Row, F_Row, 3)) ⟨hx, hb, hml, hown, hts⟩ fm_Row_element (c_Row_element l dC dI cI cL cZ sr srEa srn srE srC srO k0 r21 c21) k122_methodLink k4_instanceMethod k5_selects ⟨Nat.le_of_ble_eq_true rfl, Nat.le_of_ble_eq_true rfl⟩ rfl rfl hK hN hP hD [5, 6] rfl rfl (by decide) 5 rfl rfl rfl rfl hl.1 rfl (Nat.le_of_ble_eq_true rfl) d_Compiler_readLine_21 ?_
    refine lv_bipush (v := 35) hx hb d_Compiler_readLine_24 (by decide) ?_
    refine lv_icmp_ne (tgt := 44) hx hb d_Compiler_readLine_26 (by decide) (fun h26 => ?_) (fun h26 => ?_)
    · have hd := hd.2 h26
      refine lv_aload_n hx hb d_Compiler_readLine_44 rfl (lv_at hl 0 rfl) ?_
      refine va_get (D := (dC, dI)) (ci := 4) (v := .ref sr) (C := R_Compiler) (T := F_Compiler) (N := 14) hx hb hts in_Compiler hown hK hP 0 rfl rfl 5 (by decide) (hts _ (List.mem_cons_of_mem _ k120_fieldLink)) (fun _ h9 => h9) rfl d_Compiler_readLine_45 ?_
      refine lv_iload_n hx hb d_Compiler_readLine_48 rfl (lv_at hl 1 rfl) ?_
      obtain ⟨r49, c49, hd⟩ := hd
      refine ct_VR (As := [.int k0]) (rest := []) (C := R_Row) (ci := 1) (q := (R_Row, F_Row, 3)) ⟨hx, hb, hml, hown, hts⟩ fm_Row_element (c_Row_element l dC dI cI cL cZ sr srEa srn srE srC srO k0 r49 c49) k122_methodLink k4_instanceMethod k5_selects ⟨Nat.le_of_ble_eq_true rfl, Nat.le_of_ble_eq_true rfl⟩ rfl rfl hK hN hP hD [5, 6] rfl rfl (by decide) 5 rfl rfl rfl rfl hl.1 rfl (Nat.le_of_ble_eq_true rfl) d_Compiler_readLine_49 ?_
      refine lv_bipush (v := 33) hx hb d_Compiler_readLine_52 (by decide) ?_
      refine lv_icmp_ne (tgt := 72) hx hb d_Compiler_readLine_54 (by decide) (fun h54 => ?_) (fun h54 => ?_)
      · have hd := hd.2 h54
        refine lv_aload_n hx hb d_Compiler_readLine_72 rfl (lv_at hl 0 rfl) ?_
        refine va_get (D := (dC, dI)) (ci := 4) (v := .ref bk) (C := R_Compiler) (T := F_Compiler) (N := 14) hx hb hts in_Compiler hown hK hP 0 rfl rfl 6 (by decide) (hts _ (List.mem_cons_of_mem _ k110_fieldLink)) (fun _ h9 => h9) rfl d_Compiler_readLine_73 ?_
        refine ct_VR (As := []) (rest := []) (C := R_Book) (ci := 3) (q := (R_Book, F_Book, 6)) ⟨hx, hb, hml, hown, hts⟩ fm_Book_topics (c_Book_topics l dC dI cI cL cZ bk bkNa bkN bkSa bkS bkB bkBEa bkBn bkBE bkBC bkBO bkK bkKWa bkKn bkKW bkKTa bkKT bkKC bkV bkVWa bkVn bkVW bkVTa bkVT bkVC bkT bkT rfl) k127_methodLink k128_instanceMethod k129_selects ⟨Nat.le_of_ble_eq_true rfl, Nat.le_of_ble_eq_true rfl⟩ rfl rfl hK hN hP hD [7, 8, 9, 10, 11, 12, 13, 14, 15, 16, 17] rfl rfl (by decide) 7 rfl rfl rfl rfl hl.1 rfl (Nat.le_of_ble_eq_true rfl) d_Compiler_readLine_76 ?_
        refine lv_if_ne (tgt := 94) hx hb d_Compiler_readLine_79 (by decide) (fun h79 => ?_) (fun h79 => ?_)
        · have hd := hd.2 h79
          refine lv_aload_n hx hb d_Compiler_readLine_94 rfl (lv_at hl 0 rfl) ?_
          refine lv_iload_n hx hb d_Compiler_readLine_95 rfl (lv_at hl 1 rfl) ?_
          refine lv_iload_n hx hb d_Compiler_readLine_96 rfl (lv_at hl 2 rfl) ?_
          obtain ⟨coN_97, coL_97, coP_97, coK_97, coF_97, coE_97, coX_97, coI_97, coD_97, coM_97, bkS_97, bkBE_97, bkBC_97, bkBO_97, c97, hd⟩ := hd
          refine ct_V (As := [.int k0, .int k1]) (rest := []) (C := R_Compiler) (ci := 4) (q := (R_Compiler, F_Compiler, 14)) ⟨hx, hb, hml, hown, hts⟩ fm_Compiler_readText (c_Compiler_readText l dC dI cI cL cZ co coHa coH coNa coN coLa coL coPa coP coK coF coE coW coX coI coD coM sr srEa srn srE srC srO bk bkNa bkN bkSa bkS bkB bkBEa bkBn bkBE bkBC bkBO bkK bkKWa bkKn bkKW bkKTa bkKT bkKC bkV bkVWa bkVn bkVW bkVTa bkVT bkVC bkT k0 k1 coN_97 coL_97 coP_97 coK_97 coF_97 coE_97 coX_97 coI_97 coD_97 coM_97 bkS_97 bkBE_97 bkBC_97 bkBO_97 c97) k162_methodLink k163_instanceMethod k164_selects ⟨Nat.le_of_ble_eq_true rfl, Nat.le_of_ble_eq_true rfl⟩ rfl rfl hK hN hP hD hS hA [0, 1, 2, 3, 4, 5, 6, 7, 8, 9, 10, 11, 12, 13, 14, 15, 16, 17] [] rfl rfl rfl (by decide) (by decide) (by decide) 0 rfl rfl rfl rfl hl.1 rfl (Nat.le_of_ble_eq_true rfl) d_Compiler_readLine_97 (fun H locs hP hD hS => ?_)
          have hP : va_P (dC, dI) classes ((sh_Compiler cI cL cZ co coHa coH coNa coN_97 coLa coL_97 coPa coP_97 coK_97 (.ref sr) (.ref bk) coF_97 coE_97 coW coX_97 coI_97 coD_97 coM_97) ++ ((sh_Row cI cL cZ sr srEa srn srE srC srO) ++ ((sh_Book cI cL cZ bk bkNa bkN bkSa bkS_97 bkB bkBEa bkBn bkBE_97 bkBC_97 bkBO_97 bkK bkKWa bkKn bkKW bkKTa bkKT bkKC bkV bkVWa bkVn bkVW bkVTa bkVT bkVC bkT)))) H := hP.sub [0, 1, 2, 3, 4, 5, 6, 7, 8, 9, 10, 11, 12, 13, 14, 15, 16, 17] rfl
          have hD : va_D A ((sh_Compiler cI cL cZ co coHa coH coNa coN_97 coLa coL_97 coPa coP_97 coK_97 (.ref sr) (.ref bk) coF_97 coE_97 coW coX_97 coI_97 coD_97 coM_97) ++ ((sh_Row cI cL cZ sr srEa srn srE srC srO) ++ ((sh_Book cI cL cZ bk bkNa bkN bkSa bkS_97 bkB bkBEa bkBn bkBE_97 bkBC_97 bkBO_97 bkK bkKWa bkKn bkKW bkKTa bkKT bkKC bkV bkVWa bkVn bkVW bkVTa bkVT bkVC bkT)))) := hD.sub [0, 1, 2, 3, 4, 5, 6, 7, 8, 9, 10, 11, 12, 13, 14, 15, 16, 17] (by decide) rfl
          obtain ⟨e0, e1, e2, e3, e4, e5, e6, e7, e8, e9, e10, e11, e12, e13, e14, e15, e16, e17, e18, e19⟩ := hd
          subst e0
          subst e1
          subst e2
          subst e3
          subst e4
          subst e5
          subst e6
          subst e7
          subst e8
          subst e9
          subst e10
          subst e11
          subst e12
          subst e13
          subst e14
          subst e15
          subst e16
          subst e17
          subst e18
          subst e19
          exact ct_vret hx hb hr hlocks hK hP hD hS d_Compiler_readLine_100
        · have hd := hd.1 h79
          refine lv_aload_n hx hb d_Compiler_readLine_82 rfl (lv_at hl 0 rfl) ?_
          refine lv_iconst (v := 1) hx hb d_Compiler_readLine_83 (by decide) ?_
          refine lv_aload_n hx hb d_Compiler_readLine_84 rfl (lv_at hl 0 rfl) ?_
          refine va_get (D := (dC, dI)) (ci := 4) (v := .int coW) (C := R_Compiler) (T := F_Compiler) (N := 14) hx hb hts in_Compiler hown hK hP 0 rfl rfl 9 (by decide) (hts _ (List.mem_cons_of_mem _ k115_fieldLink)) (fun _ h9 => h9) rfl d_Compiler_readLine_85 ?_
          obtain ⟨coF_88, coE_88, c88, hd⟩ := hd
          refine ct_V (As := [.int 1, .int coW]) (rest := []) (C := R_Compiler) (ci := 4) (q := (R_Compiler, F_Compiler, 14)) ⟨hx, hb, hml, hown, hts⟩ fm_Compiler_blame (c_Compiler_blame l dC dI cI cL cZ co coHa coH coNa coN coLa coL coPa coP coK (.ref sr) (.ref bk) coF coE coW coX coI coD coM 1 coW coF_88 coE_88 c88) k134_methodLink k135_instanceMethod k136_selects ⟨Nat.le_of_ble_eq_true rfl, Nat.le_of_ble_eq_true rfl⟩ rfl rfl hK hN hP hD hS hA [0, 1, 2, 3, 4] [5, 6, 7, 8, 9, 10, 11, 12, 13, 14, 15, 16, 17] rfl rfl rfl (by decide) (by decide) (by decide) 0 rfl rfl rfl rfl hl.1 rfl (Nat.le_of_ble_eq_true rfl) d_Compiler_readLine_88 (fun H locs hP hD hS => ?_)
          have hP : va_P (dC, dI) classes ((sh_Compiler cI cL cZ co coHa coH coNa coN coLa coL coPa coP coK (.ref sr) (.ref bk) coF_88 coE_88 coW coX coI coD coM) ++ ((sh_Row cI cL cZ sr srEa srn srE srC srO) ++ ((sh_Book cI cL cZ bk bkNa bkN bkSa bkS bkB bkBEa bkBn bkBE bkBC bkBO bkK bkKWa bkKn bkKW bkKTa bkKT bkKC bkV bkVWa bkVn bkVW bkVTa bkVT bkVC bkT)))) H := hP.sub [13, 14, 15, 16, 17, 0, 1, 2, 3, 4, 5, 6, 7, 8, 9, 10, 11, 12] rfl
          have hD : va_D A ((sh_Compiler cI cL cZ co coHa coH coNa coN coLa coL coPa coP coK (.ref sr) (.ref bk) coF_88 coE_88 coW coX coI coD coM) ++ ((sh_Row cI cL cZ sr srEa srn srE srC srO) ++ ((sh_Book cI cL cZ bk bkNa bkN bkSa bkS bkB bkBEa bkBn bkBE bkBC bkBO bkK bkKWa bkKn bkKW bkKTa bkKT bkKC bkV bkVWa bkVn bkVW bkVTa bkVT bkVC bkT)))) := hD.sub [13, 14, 15, 16, 17, 0, 1, 2, 3, 4, 5, 6, 7, 8, 9, 10, 11, 12] (by decide) rfl
          refine lv_goto (tgt := 100) hx hb d_Compiler_readLine_91 (by decide) ?_
          obtain ⟨e0, e1, e2, e3, e4, e5, e6, e7, e8, e9, e10, e11, e12, e13, e14, e15, e16, e17, e18, e19⟩ := hd
          subst e0
          subst e1
          subst e2
          subst e3
          subst e4
          subst e5
          subst e6
          subst e7
          subst e8
          subst e9
          subst e10
          subst e11
          subst e12
          subst e13
          subst e14
          subst e15
          subst e16
          subst e17
          subst e18
          subst e19
          exact ct_vret hx hb hr hlocks hK hP hD hS d_Compiler_readLine_100
      · have hd := hd.1 h54
        refine lv_aload_n hx hb d_Compiler_readLine_57 rfl (lv_at hl 0 rfl) ?_
        obtain ⟨coF_58, coE_58, coI_58, coM_58, bkS_58, bkBE_58, bkBC_58, bkBO_58, c58, hd⟩ := hd
        refine ct_V (As := []) (rest := []) (C := R_Compiler) (ci := 4) (q := (R_Compiler, F_Compiler, 14)) ⟨hx, hb, hml, hown, hts⟩ fm_Compiler_closeParagraph (c_Compiler_closeParagraph l dC dI cI cL cZ co coHa coH coNa coN coLa coL coPa coP coK (.ref sr) coF coE coW coX coI coD coM bk bkNa bkN bkSa bkS bkB bkBEa bkBn bkBE bkBC bkBO bkK bkKWa bkKn bkKW bkKTa bkKT bkKC bkV bkVWa bkVn bkVW bkVTa bkVT bkVC bkT coF_58 coE_58 coI_58 coM_58 bkS_58 bkBE_58 bkBC_58 bkBO_58 c58) k165_methodLink k166_instanceMethod k167_selects ⟨Nat.le_of_ble_eq_true rfl, Nat.le_of_ble_eq_true rfl⟩ rfl rfl hK hN hP hD hS hA [0, 1, 2, 3, 4, 7, 8, 9, 10, 11, 12, 13, 14, 15, 16, 17] [5, 6] rfl rfl rfl (by decide) (by decide) (by decide) 0 rfl rfl rfl rfl hl.1 rfl (Nat.le_of_ble_eq_true rfl) d_Compiler_readLine_58 (fun H locs hP hD hS => ?_)
        have hP : va_P (dC, dI) classes ((sh_Compiler cI cL cZ co coHa coH coNa coN coLa coL coPa coP coK (.ref sr) (.ref bk) coF_58 coE_58 coW coX coI_58 coD coM_58) ++ ((sh_Row cI cL cZ sr srEa srn srE srC srO) ++ ((sh_Book cI cL cZ bk bkNa bkN bkSa bkS_58 bkB bkBEa bkBn bkBE_58 bkBC_58 bkBO_58 bkK bkKWa bkKn bkKW bkKTa bkKT bkKC bkV bkVWa bkVn bkVW bkVTa bkVT bkVC bkT)))) H := hP.sub [2, 3, 4, 5, 6, 0, 1, 7, 8, 9, 10, 11, 12, 13, 14, 15, 16, 17] rfl
        have hD : va_D A ((sh_Compiler cI cL cZ co coHa coH coNa coN coLa coL coPa coP coK (.ref sr) (.ref bk) coF_58 coE_58 coW coX coI_58 coD coM_58) ++ ((sh_Row cI cL cZ sr srEa srn srE srC srO) ++ ((sh_Book cI cL cZ bk bkNa bkN bkSa bkS_58 bkB bkBEa bkBn bkBE_58 bkBC_58 bkBO_58 bkK bkKWa bkKn bkKW bkKTa bkKT bkKC bkV bkVWa bkVn bkVW bkVTa bkVT bkVC bkT)))) := hD.sub [2, 3, 4, 5, 6, 0, 1, 7, 8, 9, 10, 11, 12, 13, 14, 15, 16, 17] (by decide) rfl
        refine lv_aload_n hx hb d_Compiler_readLine_61 rfl (lv_at hl 0 rfl) ?_
        refine lv_iload_n hx hb d_Compiler_readLine_62 rfl (lv_at hl 1 rfl) ?_
        refine lv_iconst (v := 1) hx hb d_Compiler_readLine_63 (by decide) ?_
        refine lv_iadd hx hb d_Compiler_readLine_64 ?_
        refine lv_iload_n hx hb d_Compiler_readLine_65 rfl (lv_at hl 2 rfl) ?_
        obtain ⟨coF_66, coE_66, bkKW_66, bkKT_66, bkKC_66, c66, hd⟩ := hd
        refine ct_V (As := [.int (k0 + 1), .int k1]) (rest := []) (C := R_Compiler) (ci := 4) (q := (R_Compiler, F_Compiler, 14)) ⟨hx, hb, hml, hown, hts⟩ fm_Compiler_readKeyword (c_Compiler_readKeyword l dC dI cI cL cZ co coHa coH coNa coN coLa coL coPa coP coK coF_58 coE_58 coW coX coI_58 coD coM_58 sr srEa srn srE srC srO bk bkNa bkN bkSa bkS_58 bkB bkBEa bkBn bkBE_58 bkBC_58 bkBO_58 bkK bkKWa bkKn bkKW bkKTa bkKT bkKC bkV bkVWa bkVn bkVW bkVTa bkVT bkVC bkT (k0 + 1) k1 coF_66 coE_66 bkKW_66 bkKT_66 bkKC_66 c66) k168_methodLink k169_instanceMethod k170_selects ⟨Nat.le_of_ble_eq_true rfl, Nat.le_of_ble_eq_true rfl⟩ rfl rfl hK hN hP hD hS hA [0, 1, 2, 3, 4, 5, 6, 7, 8, 9, 10, 11, 12, 13, 14, 15, 16, 17] [] rfl rfl rfl (by decide) (by decide) (by decide) 0 rfl rfl rfl rfl hl.1 rfl (Nat.le_of_ble_eq_true rfl) d_Compiler_readLine_66 (fun H locs hP hD hS => ?_)
        have hP : va_P (dC, dI) classes ((sh_Compiler cI cL cZ co coHa coH coNa coN coLa coL coPa coP coK (.ref sr) (.ref bk) coF_66 coE_66 coW coX coI_58 coD coM_58) ++ ((sh_Row cI cL cZ sr srEa srn srE srC srO) ++ ((sh_Book cI cL cZ bk bkNa bkN bkSa bkS_58 bkB bkBEa bkBn bkBE_58 bkBC_58 bkBO_58 bkK bkKWa bkKn bkKW_66 bkKTa bkKT_66 bkKC_66 bkV bkVWa bkVn bkVW bkVTa bkVT bkVC bkT)))) H := hP.sub [0, 1, 2, 3, 4, 5, 6, 7, 8, 9, 10, 11, 12, 13, 14, 15, 16, 17] rfl
        have hD : va_D A ((sh_Compiler cI cL cZ co coHa coH coNa coN coLa coL coPa coP coK (.ref sr) (.ref bk) coF_66 coE_66 coW coX coI_58 coD coM_58) ++ ((sh_Row cI cL cZ sr srEa srn srE srC srO) ++ ((sh_Book cI cL cZ bk bkNa bkN bkSa bkS_58 bkB bkBEa bkBn bkBE_58 bkBC_58 bkBO_58 bkK bkKWa bkKn bkKW_66 bkKTa bkKT_66 bkKC_66 bkV bkVWa bkVn bkVW bkVTa bkVT bkVC bkT)))) := hD.sub [0, 1, 2, 3, 4, 5, 6, 7, 8, 9, 10, 11, 12, 13, 14, 15, 16, 17] (by decide) rfl
        refine lv_goto (tgt := 100) hx hb d_Compiler_readLine_69 (by decide) ?_
        obtain ⟨e0, e1, e2, e3, e4, e5, e6, e7, e8, e9, e10, e11, e12, e13, e14, e15, e16, e17, e18, e19⟩ := hd
        subst e0
        subst e1
        subst e2
        subst e3
        subst e4
        subst e5
        subst e6
        subst e7
        subst e8
        subst e9
        subst e10
        subst e11
        subst e12
        subst e13
        subst e14
        subst e15
        subst e16
        subst e17
        subst e18
        subst e19
        exact ct_vret hx hb hr hlocks hK hP hD hS d_Compiler_readLine_100
    · have hd := hd.1 h26
      refine lv_aload_n hx hb d_Compiler_readLine_29 rfl (lv_at hl 0 rfl) ?_
      obtain ⟨coF_30, coE_30, coI_30, coM_30, bkS_30, bkBE_30, bkBC_30, bkBO_30, c30, hd⟩ := hd
      refine ct_V (As := []) (rest := []) (C := R_Compiler) (ci := 4) (q := (R_Compiler, F_Compiler, 14)) ⟨hx, hb, hml, hown, hts⟩ fm_Compiler_closeParagraph (c_Compiler_closeParagraph l dC dI cI cL cZ co coHa coH coNa coN coLa coL coPa coP coK (.ref sr) coF coE coW coX coI coD coM bk bkNa bkN bkSa bkS bkB bkBEa bkBn bkBE bkBC bkBO bkK bkKWa bkKn bkKW bkKTa bkKT bkKC bkV bkVWa bkVn bkVW bkVTa bkVT bkVC bkT coF_30 coE_30 coI_30 coM_30 bkS_30 bkBE_30 bkBC_30 bkBO_30 c30) k165_methodLink k166_instanceMethod k167_selects ⟨Nat.le_of_ble_eq_true rfl, Nat.le_of_ble_eq_true rfl⟩ rfl rfl hK hN hP hD hS hA [0, 1, 2, 3, 4, 7, 8, 9, 10, 11, 12, 13, 14, 15, 16, 17] [5, 6] rfl rfl rfl (by decide) (by decide) (by decide) 0 rfl rfl rfl rfl hl.1 rfl (Nat.le_of_ble_eq_true rfl) d_Compiler_readLine_30 (fun H locs hP hD hS => ?_)
      have hP : va_P (dC, dI) classes ((sh_Compiler cI cL cZ co coHa coH coNa coN coLa coL coPa coP coK (.ref sr) (.ref bk) coF_30 coE_30 coW coX coI_30 coD coM_30) ++ ((sh_Row cI cL cZ sr srEa srn srE srC srO) ++ ((sh_Book cI cL cZ bk bkNa bkN bkSa bkS_30 bkB bkBEa bkBn bkBE_30 bkBC_30 bkBO_30 bkK bkKWa bkKn bkKW bkKTa bkKT bkKC bkV bkVWa bkVn bkVW bkVTa bkVT bkVC bkT)))) H := hP.sub [2, 3, 4, 5, 6, 0, 1, 7, 8, 9, 10, 11, 12, 13, 14, 15, 16, 17] rfl
      have hD : va_D A ((sh_Compiler cI cL cZ co coHa coH coNa coN coLa coL coPa coP coK (.ref sr) (.ref bk) coF_30 coE_30 coW coX coI_30 coD coM_30) ++ ((sh_Row cI cL cZ sr srEa srn srE srC srO) ++ ((sh_Book cI cL cZ bk bkNa bkN bkSa bkS_30 bkB bkBEa bkBn bkBE_30 bkBC_30 bkBO_30 bkK bkKWa bkKn bkKW bkKTa bkKT bkKC bkV bkVWa bkVn bkVW bkVTa bkVT bkVC bkT)))) := hD.sub [2, 3, 4, 5, 6, 0, 1, 7, 8, 9, 10, 11, 12, 13, 14, 15, 16, 17] (by decide) rfl
      refine lv_aload_n hx hb d_Compiler_readLine_33 rfl (lv_at hl 0 rfl) ?_
      refine lv_iload_n hx hb d_Compiler_readLine_34 rfl (lv_at hl 1 rfl) ?_
      refine lv_iconst (v := 1) hx hb d_Compiler_readLine_35 (by decide) ?_
      refine lv_iadd hx hb d_Compiler_readLine_36 ?_
      refine lv_iload_n hx hb d_Compiler_readLine_37 rfl (lv_at hl 2 rfl) ?_
      obtain ⟨coH_38, coF_38, coE_38, bkN_38, bkS_38, bkT_38, c38, hd⟩ := hd
      refine ct_V (As := [.int (k0 + 1), .int k1]) (rest := []) (C := R_Compiler) (ci := 4) (q := (R_Compiler, F_Compiler, 14)) ⟨hx, hb, hml, hown, hts⟩ fm_Compiler_readHeading (c_Compiler_readHeading l dC dI cI cL cZ co coHa coH coNa coN coLa coL coPa coP coK coF_30 coE_30 coW coX coI_30 coD coM_30 sr srEa srn srE srC srO bk bkNa bkN bkSa bkS_30 bkB bkBEa bkBn bkBE_30 bkBC_30 bkBO_30 bkK bkKWa bkKn bkKW bkKTa bkKT bkKC bkV bkVWa bkVn bkVW bkVTa bkVT bkVC bkT (k0 + 1) k1 coH_38 coF_38 coE_38 bkN_38 bkS_38 bkT_38 c38) k171_methodLink k172_instanceMethod k173_selects ⟨Nat.le_of_ble_eq_true rfl, Nat.le_of_ble_eq_true rfl⟩ rfl rfl hK hN hP hD hS hA [0, 1, 2, 3, 4, 5, 6, 7, 8, 9, 10, 11, 12, 13, 14, 15, 16, 17] [] rfl rfl rfl (by decide) (by decide) (by decide) 0 rfl rfl rfl rfl hl.1 rfl (Nat.le_of_ble_eq_true rfl) d_Compiler_readLine_38 (fun H locs hP hD hS => ?_)
      have hP : va_P (dC, dI) classes ((sh_Compiler cI cL cZ co coHa coH_38 coNa coN coLa coL coPa coP coK (.ref sr) (.ref bk) coF_38 coE_38 coW coX coI_30 coD coM_30) ++ ((sh_Row cI cL cZ sr srEa srn srE srC srO) ++ ((sh_Book cI cL cZ bk bkNa bkN_38 bkSa bkS_38 bkB bkBEa bkBn bkBE_30 bkBC_30 bkBO_30 bkK bkKWa bkKn bkKW bkKTa bkKT bkKC bkV bkVWa bkVn bkVW bkVTa bkVT bkVC bkT_38)))) H := hP.sub [0, 1, 2, 3, 4, 5, 6, 7, 8, 9, 10, 11, 12, 13, 14, 15, 16, 17] rfl
      have hD : va_D A ((sh_Compiler cI cL cZ co coHa coH_38 coNa coN coLa coL coPa coP coK (.ref sr) (.ref bk) coF_38 coE_38 coW coX coI_30 coD coM_30) ++ ((sh_Row cI cL cZ sr srEa srn srE srC srO) ++ ((sh_Book cI cL cZ bk bkNa bkN_38 bkSa bkS_38 bkB bkBEa bkBn bkBE_30 bkBC_30 bkBO_30 bkK bkKWa bkKn bkKW bkKTa bkKT bkKC bkV bkVWa bkVn bkVW bkVTa bkVT bkVC bkT_38)))) := hD.sub [0, 1, 2, 3, 4, 5, 6, 7, 8, 9, 10, 11, 12, 13, 14, 15, 16, 17] (by decide) rfl
      refine lv_goto (tgt := 100) hx hb d_Compiler_readLine_41 (by decide) ?_
      obtain ⟨e0, e1, e2, e3, e4, e5, e6, e7, e8, e9, e10, e11, e12, e13, e14, e15, e16, e17, e18, e19⟩ := hd
      subst e0
      subst e1
      subst e2
      subst e3
      subst e4
      subst e5
      subst e6
      subst e7
      subst e8
      subst e9
      subst e10
      subst e11
      subst e12
      subst e13
      subst e14
      subst e15
      subst e16
      subst e17
      subst e18
      subst e19
      exact ct_vret hx hb hr hlocks hK hP hD hS d_Compiler_readLine_100
  · have hd := hd.2 h6
    refine lv_aload_n hx hb d_Compiler_readLine_9 rfl (lv_at hl 0 rfl) ?_
    obtain ⟨coF_10, coE_10, coI_10, coM_10, bkS_10, bkBE_10, bkBC_10, bkBO_10, c10, hd⟩ := hd
    refine ct_V (As := []) (rest := []) (C := R_Compiler) (ci := 4) (q := (R_Compiler, F_Compiler, 14)) ⟨hx, hb, hml, hown, hts⟩ fm_Compiler_closeParagraph (c_Compiler_closeParagraph l dC dI cI cL cZ co coHa coH coNa coN coLa coL coPa coP coK (.ref sr) coF coE coW coX coI coD coM bk bkNa bkN bkSa bkS bkB bkBEa bkBn bkBE bkBC bkBO bkK bkKWa bkKn bkKW bkKTa bkKT bkKC bkV bkVWa bkVn bkVW bkVTa bkVT bkVC bkT coF_10 coE_10 coI_10 coM_10 bkS_10 bkBE_10 bkBC_10 bkBO_10 c10) k165_methodLink k166_instanceMethod k167_selects ⟨Nat.le_of_ble_eq_true rfl, Nat.le_of_ble_eq_true rfl⟩ rfl rfl hK hN hP hD hS hA [0, 1, 2, 3, 4, 7, 8, 9, 10, 11, 12, 13, 14, 15, 16, 17] [5, 6] rfl rfl rfl (by decide) (by decide) (by decide) 0 rfl rfl rfl rfl hl.1 rfl (Nat.le_of_ble_eq_true rfl) d_Compiler_readLine_10 (fun H locs hP hD hS => ?_)
    have hP : va_P (dC, dI) classes ((sh_Compiler cI cL cZ co coHa coH coNa coN coLa coL coPa coP coK (.ref sr) (.ref bk) coF_10 coE_10 coW coX coI_10 coD coM_10) ++ ((sh_Row cI cL cZ sr srEa srn srE srC srO) ++ ((sh_Book cI cL cZ bk bkNa bkN bkSa bkS_10 bkB bkBEa bkBn bkBE_10 bkBC_10 bkBO_10 bkK bkKWa bkKn bkKW bkKTa bkKT bkKC bkV bkVWa bkVn bkVW bkVTa bkVT bkVC bkT)))) H := hP.sub [2, 3, 4, 5, 6, 0, 1, 7, 8, 9, 10, 11, 12, 13, 14, 15, 16, 17] rfl
    have hD : va_D A ((sh_Compiler cI cL cZ co coHa coH coNa coN coLa coL coPa coP coK (.ref sr) (.ref bk) coF_10 coE_10 coW coX coI_10 coD coM_10) ++ ((sh_Row cI cL cZ sr srEa srn srE srC srO) ++ ((sh_Book cI cL cZ bk bkNa bkN bkSa bkS_10 bkB bkBEa bkBn bkBE_10 bkBC_10 bkBO_10 bkK bkKWa bkKn bkKW bkKTa bkKT bkKC bkV bkVWa bkVn bkVW bkVTa bkVT bkVC bkT)))) := hD.sub [2, 3, 4, 5, 6, 0, 1, 7, 8, 9, 10, 11, 12, 13, 14, 15, 16, 17] (by decide) rfl
    refine lv_goto (tgt := 100) hx hb d_Compiler_readLine_13 (by decide) ?_
    obtain ⟨e0, e1, e2, e3, e4, e5, e6, e7, e8, e9, e10, e11, e12, e13, e14, e15, e16, e17, e18, e19⟩ := hd
    subst e0
    subst e1
    subst e2
    subst e3
    subst e4
    subst e5
    subst e6
    subst e7
    subst e8
    subst e9
    subst e10
    subst e11
    subst e12
    subst e13
    subst e14
    subst e15
    subst e16
    subst e17
    subst e18
    subst e19
    exact ct_vret hx hb hr hlocks hK hP hD hS d_Compiler_readLine_100
-- Compiler.resolveLinks
abbrev b_Compiler_resolveLinks : ByteArray := prog_3_method_16_code
def y_Compiler_resolveLinks : MethodName := ⟨"HelpFile$Compiler", "resolveLinks", "()V"⟩
theorem k174_methodLink : Cond.methodLink "HelpFile$Compiler" 155 ⟨"HelpFile$Row", "replace", "(II)V"⟩ ∈ ga := ga_t 409 (by decide +kernel) rfl
set_option maxRecDepth 100000 in
theorem fm_Compiler_resolveLinks : Fm y_Compiler_resolveLinks b_Compiler_resolveLinks 3 none 0 := ⟨ga_t 408 rfl rfl, k108_initialized, by decide, by decide, by decide +kernel⟩
def B_Compiler_resolveLinks_2 (bkBn : Nat) (coN : Nat → Int64) (coL : Nat → Int32) (coP : Nat → Int32) (coK : Int32) (bkN : Nat → Int64) (bkBC : Int32) (bkT : Int32) (coF' : Int32) (coE' : Int32) (bkBE' : Nat → Int32) (X : Nat → Int32 → Int32 → Int32 → Int32 → (Nat → Int32) → Prop) (x1 : Int32) (coF : Int32) (coE : Int32) (bkBE : Nat → Int32) : Prop := ((coK ≤ x1 → (coF' = coF ∧ coE' = coE ∧ bkBE' = bkBE)) ∧ (¬ (coK ≤ x1) → (vp_in x1 234 ∧ (∃ r20 : Int32, D_Book_topicNamed (coN (Int32.toNatClampNeg x1)) bkN bkT r20 ∧ ((r20 = (-1) → (vp_in x1 234 ∧ (∃ coF_38 : Int32, ∃ coE_38 : Int32, D_Compiler_blame 8 (coL (Int32.toNatClampNeg x1)) coF coE coF_38 coE_38 ∧ X 1 x1 r20 coF_38 coE_38 bkBE))) ∧ (¬ (r20 = (-1)) → X 1 x1 r20 coF coE bkBE))))))
def B_Compiler_resolveLinks_41 (bkBn : Nat) (coN : Nat → Int64) (coL : Nat → Int32) (coP : Nat → Int32) (coK : Int32) (bkN : Nat → Int64) (bkBC : Int32) (bkT : Int32) (coF' : Int32) (coE' : Int32) (bkBE' : Nat → Int32) (X : Nat → Int32 → Int32 → Int32 → Int32 → (Nat → Int32) → Prop) (x1 : Int32) (x2 : Int32) (coF : Int32) (coE : Int32) (bkBE : Nat → Int32) : Prop := (vp_in x1 234 ∧ (∃ bkBE_55 : Nat → Int32, D_Row_replace bkBn (coP (Int32.toNatClampNeg x1)) x2 bkBE bkBC bkBE_55 ∧ X 0 (x1 + 1) 0 coF coE bkBE_55))
def S_Compiler_resolveLinks (bkBn : Nat) (coN : Nat → Int64) (coL : Nat → Int32) (coP : Nat → Int32) (coK : Int32) (bkN : Nat → Int64) (bkBC : Int32) (bkT : Int32) (coF' : Int32) (coE' : Int32) (bkBE' : Nat → Int32) (X : Nat → Int32 → Int32 → Int32 → Int32 → (Nat → Int32) → Prop) : Nat → Int32 → Int32 → Int32 → Int32 → (Nat → Int32) → Prop := fun q_lab x1 x2 coF coE bkBE => match q_lab with | 0 => B_Compiler_resolveLinks_2 bkBn coN coL coP coK bkN bkBC bkT coF' coE' bkBE' X x1 coF coE bkBE | 1 => B_Compiler_resolveLinks_41 bkBn coN coL coP coK bkN bkBC bkT coF' coE' bkBE' X x1 x2 coF coE bkBE | _ => False
def T_Compiler_resolveLinks (bkBn : Nat) (coN : Nat → Int64) (coL : Nat → Int32) (coP : Nat → Int32) (coK : Int32) (bkN : Nat → Int64) (bkBC : Int32) (bkT : Int32) (coF' : Int32) (coE' : Int32) (bkBE' : Nat → Int32) : Nat → (Nat → Int32 → Int32 → Int32 → Int32 → (Nat → Int32) → Prop)
  | 0 => fun _ _ _ _ _ _ => False
  | n + 1 => S_Compiler_resolveLinks bkBn coN coL coP coK bkN bkBC bkT coF' coE' bkBE' (T_Compiler_resolveLinks bkBn coN coL coP coK bkN bkBC bkT coF' coE' bkBE' n)
def D_Compiler_resolveLinks (bkBn : Nat) (coN : Nat → Int64) (coL : Nat → Int32) (coP : Nat → Int32) (coK : Int32) (coF : Int32) (coE : Int32) (bkN : Nat → Int64) (bkBE : Nat → Int32) (bkBC : Int32) (bkT : Int32) (coF' : Int32) (coE' : Int32) (bkBE' : Nat → Int32) : Prop := ∃ n : Nat, T_Compiler_resolveLinks bkBn coN coL coP coK bkN bkBC bkT coF' coE' bkBE' n 0 0 0 coF coE bkBE
theorem d_Compiler_resolveLinks_0 : decode b_Compiler_resolveLinks 0 = .ok (.iconst 0, 1) := by decide +kernel
theorem d_Compiler_resolveLinks_1 : decode b_Compiler_resolveLinks 1 = .ok (.istore_n 1, 1) := by decide +kernel
theorem d_Compiler_resolveLinks_2 : decode b_Compiler_resolveLinks 2 = .ok (.iload_n 1, 1) := by decide +kernel
theorem d_Compiler_resolveLinks_3 : decode b_Compiler_resolveLinks 3 = .ok (.aload_n 0, 1) := by decide +kernel
theorem d_Compiler_resolveLinks_4 : decode b_Compiler_resolveLinks 4 = .ok (.getfield 80, 3) := by decide +kernel
theorem d_Compiler_resolveLinks_7 : decode b_Compiler_resolveLinks 7 = .ok (.if_icmp .ge 57, 3) := by decide +kernel
theorem d_Compiler_resolveLinks_10 : decode b_Compiler_resolveLinks 10 = .ok (.aload_n 0, 1) := by decide +kernel
theorem d_Compiler_resolveLinks_11 : decode b_Compiler_resolveLinks 11 = .ok (.getfield 29, 3) := by decide +kernel
theorem d_Compiler_resolveLinks_14 : decode b_Compiler_resolveLinks 14 = .ok (.aload_n 0, 1) := by decide +kernel
theorem d_Compiler_resolveLinks_15 : decode b_Compiler_resolveLinks 15 = .ok (.getfield 15, 3) := by decide +kernel
theorem d_Compiler_resolveLinks_18 : decode b_Compiler_resolveLinks 18 = .ok (.iload_n 1, 1) := by decide +kernel
theorem d_Compiler_resolveLinks_19 : decode b_Compiler_resolveLinks 19 = .ok (.laload, 1) := by decide +kernel
theorem d_Compiler_resolveLinks_20 : decode b_Compiler_resolveLinks 20 = .ok (.invokevirtual 122, 3) := by decide +kernel
theorem d_Compiler_resolveLinks_23 : decode b_Compiler_resolveLinks 23 = .ok (.istore_n 2, 1) := by decide +kernel
theorem d_Compiler_resolveLinks_24 : decode b_Compiler_resolveLinks 24 = .ok (.iload_n 2, 1) := by decide +kernel
theorem d_Compiler_resolveLinks_25 : decode b_Compiler_resolveLinks 25 = .ok (.iconst (-1), 1) := by decide +kernel
theorem d_Compiler_resolveLinks_26 : decode b_Compiler_resolveLinks 26 = .ok (.if_icmp .ne 15, 3) := by decide +kernel
theorem d_Compiler_resolveLinks_29 : decode b_Compiler_resolveLinks 29 = .ok (.aload_n 0, 1) := by decide +kernel
theorem d_Compiler_resolveLinks_30 : decode b_Compiler_resolveLinks 30 = .ok (.bipush 8, 2) := by decide +kernel
theorem d_Compiler_resolveLinks_32 : decode b_Compiler_resolveLinks 32 = .ok (.aload_n 0, 1) := by decide +kernel
theorem d_Compiler_resolveLinks_33 : decode b_Compiler_resolveLinks 33 = .ok (.getfield 19, 3) := by decide +kernel
theorem d_Compiler_resolveLinks_36 : decode b_Compiler_resolveLinks 36 = .ok (.iload_n 1, 1) := by decide +kernel
theorem d_Compiler_resolveLinks_37 : decode b_Compiler_resolveLinks 37 = .ok (.iaload, 1) := by decide +kernel
theorem d_Compiler_resolveLinks_38 : decode b_Compiler_resolveLinks 38 = .ok (.invokevirtual 74, 3) := by decide +kernel
theorem d_Compiler_resolveLinks_41 : decode b_Compiler_resolveLinks 41 = .ok (.aload_n 0, 1) := by decide +kernel
theorem d_Compiler_resolveLinks_42 : decode b_Compiler_resolveLinks 42 = .ok (.getfield 29, 3) := by decide +kernel
theorem d_Compiler_resolveLinks_45 : decode b_Compiler_resolveLinks 45 = .ok (.invokevirtual 151, 3) := by decide +kernel
theorem d_Compiler_resolveLinks_48 : decode b_Compiler_resolveLinks 48 = .ok (.aload_n 0, 1) := by decide +kernel
theorem d_Compiler_resolveLinks_49 : decode b_Compiler_resolveLinks 49 = .ok (.getfield 22, 3) := by decide +kernel
theorem d_Compiler_resolveLinks_52 : decode b_Compiler_resolveLinks 52 = .ok (.iload_n 1, 1) := by decide +kernel
theorem d_Compiler_resolveLinks_53 : decode b_Compiler_resolveLinks 53 = .ok (.iaload, 1) := by decide +kernel
theorem d_Compiler_resolveLinks_54 : decode b_Compiler_resolveLinks 54 = .ok (.iload_n 2, 1) := by decide +kernel
theorem d_Compiler_resolveLinks_55 : decode b_Compiler_resolveLinks 55 = .ok (.invokevirtual 155, 3) := by decide +kernel
theorem d_Compiler_resolveLinks_58 : decode b_Compiler_resolveLinks 58 = .ok (.iinc 1 1, 3) := by decide +kernel
theorem d_Compiler_resolveLinks_61 : decode b_Compiler_resolveLinks 61 = .ok (.goto (-59), 3) := by decide +kernel
theorem d_Compiler_resolveLinks_64 : decode b_Compiler_resolveLinks 64 = .ok (.return_, 1) := by decide +kernel
set_option maxHeartbeats 4000000 in
set_option maxRecDepth 100000 in
theorem c_Compiler_resolveLinks (l : Launch) (dC : Nat → ClassId) (dI : Nat → Nat → Nat) (cI cL cZ : ClassId) (co : Nat) (coHa : Nat) (coH : Nat → Int32) (coNa : Nat) (coN : Nat → Int64) (coLa : Nat) (coL : Nat → Int32) (coPa : Nat) (coP : Nat → Int32) (coK : Int32) (coS : Value) (coF : Int32) (coE : Int32) (coW : Int32) (coX : Int32) (coI : Bool) (coD : Bool) (coM : Bool) (bk : Nat) (bkNa : Nat) (bkN : Nat → Int64) (bkSa : Nat) (bkS : Nat → Int32) (bkB : Nat) (bkBEa : Nat) (bkBn : Nat) (bkBE : Nat → Int32) (bkBC : Int32) (bkBO : Bool) (bkK : Nat) (bkKWa : Nat) (bkKn : Nat) (bkKW : Nat → Int64) (bkKTa : Nat) (bkKT : Nat → Int32) (bkKC : Int32) (bkV : Nat) (bkVWa : Nat) (bkVn : Nat) (bkVW : Nat → Int64) (bkVTa : Nat) (bkVT : Nat → Int32) (bkVC : Int32) (bkT : Int32) (coF' : Int32) (coE' : Int32) (bkBE' : Nat → Int32) (hd : D_Compiler_resolveLinks bkBn coN coL coP coK coF coE bkN bkBE bkBC bkT coF' coE' bkBE') : Ctr l y_Compiler_resolveLinks (Cond.code y_Compiler_resolveLinks b_Compiler_resolveLinks 3 none :: ga) { frames := 2, cells := 0, slots := 0, locals := 43 } (dC, dI) classes (Tys cI cL cZ) [.ref co] ((sh_Compiler cI cL cZ co coHa coH coNa coN coLa coL coPa coP coK coS (.ref bk) coF coE coW coX coI coD coM) ++ ((sh_Book cI cL cZ bk bkNa bkN bkSa bkS bkB bkBEa bkBn bkBE bkBC bkBO bkK bkKWa bkKn bkKW bkKTa bkKT bkKC bkV bkVWa bkVn bkVW bkVTa bkVT bkVC bkT))) none ((sh_Compiler cI cL cZ co coHa coH coNa coN coLa coL coPa coP coK coS (.ref bk) coF' coE' coW coX coI coD coM) ++ ((sh_Book cI cL cZ bk bkNa bkN bkSa bkS bkB bkBEa bkBn bkBE' bkBC bkBO bkK bkKWa bkKn bkKW bkKTa bkKT bkKC bkV bkVWa bkVn bkVW bkVTa bkVT bkVC bkT))) := by
  refine Ctr.ofW (by decide) (Nat.le_of_ble_eq_true rfl) ?_
  intro p e s m below meth c A ls hx hb hr hml hown hlocks hts hK hN hA hP hD hS hl
  have hown : s.vm.findClass R_Compiler = some m.cls := hown
  have hl : lv_has ls 3 [(0, .ref co)] := hl
  have key : ∀ n : Nat, (∀ (x1 : Int32) (coF : Int32) (coE : Int32) (bkBE : Nat → Int32) (ls : Array Slot) (H : Heap) (locs : List Loc), lv_has ls 3 [(0, .ref co), (1, .int x1)] → va_P (dC, dI) classes ((sh_Compiler cI cL cZ co coHa coH coNa coN coLa coL coPa coP coK coS (.ref bk) coF coE coW coX coI coD coM) ++ ((sh_Book cI cL cZ bk bkNa bkN bkSa bkS bkB bkBEa bkBn bkBE bkBC bkBO bkK bkKWa bkKn bkKW bkKTa bkKT bkKC bkV bkVWa bkVn bkVW bkVTa bkVT bkVC bkT))) H → va_D A ((sh_Compiler cI cL cZ co coHa coH coNa coN coLa coL coPa coP coK coS (.ref bk) coF coE coW coX coI coD coM) ++ ((sh_Book cI cL cZ bk bkNa bkN bkSa bkS bkB bkBEa bkBn bkBE bkBC bkBO bkK bkKWa bkKn bkKW bkKTa bkKT bkKC bkV bkVWa bkVn bkVW bkVTa bkVT bkVC bkT))) → va_S A s.heap H locs → T_Compiler_resolveLinks bkBn coN coL coP coK bkN bkBC bkT coF' coE' bkBE' n 0 x1 0 coF coE bkBE → W p l e ({ frames := 2, cells := 0, slots := 0, locals := 43 }) s m ([.ref co] : List Value).toArray below meth c H locs 0 0 (MQ below (Qs (dC, dI) classes (Tys cI cL cZ) none ((sh_Compiler cI cL cZ co coHa coH coNa coN coLa coL coPa coP coK coS (.ref bk) coF' coE' coW coX coI coD coM) ++ ((sh_Book cI cL cZ bk bkNa bkN bkSa bkS bkB bkBEa bkBn bkBE' bkBC bkBO bkK bkKWa bkKn bkKW bkKTa bkKT bkKC bkV bkVWa bkVn bkVW bkVTa bkVT bkVC bkT))) A) ([.ref co] : List Value).toArray s 0 0 A) (F0 m 2 ls [])) ∧ (∀ (x1 : Int32) (x2 : Int32) (coF : Int32) (coE : Int32) (bkBE : Nat → Int32) (ls : Array Slot) (H : Heap) (locs : List Loc), lv_has ls 3 [(0, .ref co), (1, .int x1), (2, .int x2)] → va_P (dC, dI) classes ((sh_Compiler cI cL cZ co coHa coH coNa coN coLa coL coPa coP coK coS (.ref bk) coF coE coW coX coI coD coM) ++ ((sh_Book cI cL cZ bk bkNa bkN bkSa bkS bkB bkBEa bkBn bkBE bkBC bkBO bkK bkKWa bkKn bkKW bkKTa bkKT bkKC bkV bkVWa bkVn bkVW bkVTa bkVT bkVC bkT))) H → va_D A ((sh_Compiler cI cL cZ co coHa coH coNa coN coLa coL coPa coP coK coS (.ref bk) coF coE coW coX coI coD coM) ++ ((sh_Book cI cL cZ bk bkNa bkN bkSa bkS bkB bkBEa bkBn bkBE bkBC bkBO bkK bkKWa bkKn bkKW bkKTa bkKT bkKC bkV bkVWa bkVn bkVW bkVTa bkVT bkVC bkT))) → va_S A s.heap H locs → T_Compiler_resolveLinks bkBn coN coL coP coK bkN bkBC bkT coF' coE' bkBE' n 1 x1 x2 coF coE bkBE → W p l e ({ frames := 2, cells := 0, slots := 0, locals := 43 }) s m ([.ref co] : List Value).toArray below meth c H locs 0 0 (MQ below (Qs (dC, dI) classes (Tys cI cL cZ) none ((sh_Compiler cI cL cZ co coHa coH coNa coN coLa coL coPa coP coK coS (.ref bk) coF' coE' coW coX coI coD coM) ++ ((sh_Book cI cL cZ bk bkNa bkN bkSa bkS bkB bkBEa bkBn bkBE' bkBC bkBO bkK bkKWa bkKn bkKW bkKTa bkKT bkKC bkV bkVWa bkVn bkVW bkVTa bkVT bkVC bkT))) A) ([.ref co] : List Value).toArray s 0 0 A) (F0 m 41 ls [])) := by
    intro n
    induction n with
    | zero =>
      exact ⟨fun _ _ _ _ _ _ _ _ _ _ _ hd => False.elim hd, fun _ _ _ _ _ _ _ _ _ _ _ _ hd => False.elim hd⟩
    | succ n ih =>
      refine ⟨?_, ?_⟩
      · intro x1 coF coE bkBE ls H locs hl hP hD hS hd
        have hd : B_Compiler_resolveLinks_2 bkBn coN coL coP coK bkN bkBC bkT coF' coE' bkBE' (T_Compiler_resolveLinks bkBn coN coL coP coK bkN bkBC bkT coF' coE' bkBE' n) x1 coF coE bkBE := hd
        refine lv_iload_n hx hb d_Compiler_resolveLinks_2 rfl (lv_at hl 1 rfl) ?_
        refine lv_aload_n hx hb d_Compiler_resolveLinks_3 rfl (lv_at hl 0 rfl) ?_
        refine va_get (D := (dC, dI)) (ci := 4) (v := .int coK) (C := R_Compiler) (T := F_Compiler) (N := 14) hx hb hts in_Compiler hown hK hP 0 rfl rfl 4 (by decide) (hts _ (List.mem_cons_of_mem _ k114_fieldLink)) (fun _ h9 => h9) rfl d_Compiler_resolveLinks_4 ?_
        refine lv_icmp_ge (tgt := 64) hx hb d_Compiler_resolveLinks_7 (by decide) (fun h7 => ?_) (fun h7 => ?_)
        · have hd := hd.1 h7
          obtain ⟨e0, e1, e2⟩ := hd
          subst e0
          subst e1
          subst e2
          exact ct_vret hx hb hr hlocks hK hP hD hS d_Compiler_resolveLinks_64
        · have hd := hd.2 h7
          refine lv_aload_n hx hb d_Compiler_resolveLinks_10 rfl (lv_at hl 0 rfl) ?_
          refine va_get (D := (dC, dI)) (ci := 4) (v := .ref bk) (C := R_Compiler) (T := F_Compiler) (N := 14) hx hb hts in_Compiler hown hK hP 0 rfl rfl 6 (by decide) (hts _ (List.mem_cons_of_mem _ k110_fieldLink)) (fun _ h9 => h9) rfl d_Compiler_resolveLinks_11 ?_
          refine lv_aload_n hx hb d_Compiler_resolveLinks_14 rfl (lv_at hl 0 rfl) ?_
          refine va_get (D := (dC, dI)) (ci := 4) (v := .ref coNa) (C := R_Compiler) (T := F_Compiler) (N := 14) hx hb hts in_Compiler hown hK hP 0 rfl rfl 1 (by decide) (hts _ (List.mem_cons_of_mem _ k144_fieldLink)) (fun _ h9 => h9) rfl d_Compiler_resolveLinks_15 ?_
          refine lv_iload_n hx hb d_Compiler_resolveLinks_18 rfl (lv_at hl 1 rfl) ?_
          obtain ⟨h19, hd⟩ := hd
          refine va_lald hx hb hK hP 2 1 rfl rfl h19 d_Compiler_resolveLinks_19 ?_
          obtain ⟨r20, c20, hd⟩ := hd
          refine ct_VR (As := [.long (coN (Int32.toNatClampNeg x1))]) (rest := []) (C := R_Book) (ci := 3) (q := (R_Book, F_Book, 6)) ⟨hx, hb, hml, hown, hts⟩ fm_Book_topicNamed (c_Book_topicNamed l dC dI cI cL cZ bk bkNa bkN bkSa bkS bkB bkBEa bkBn bkBE bkBC bkBO bkK bkKWa bkKn bkKW bkKTa bkKT bkKC bkV bkVWa bkVn bkVW bkVTa bkVT bkVC bkT (coN (Int32.toNatClampNeg x1)) r20 c20) k126_methodLink k94_instanceMethod k95_selects ⟨Nat.le_of_ble_eq_true rfl, Nat.le_of_ble_eq_true rfl⟩ rfl rfl hK hN hP hD [5, 6, 7, 8, 9, 10, 11, 12, 13, 14, 15] rfl rfl (by decide) 5 rfl rfl rfl rfl hl.1 rfl (Nat.le_of_ble_eq_true rfl) d_Compiler_resolveLinks_20 ?_
          refine lv_istore_n (lv' := [(2, .int r20), (0, .ref co), (1, .int x1)]) hx hb d_Compiler_resolveLinks_23 rfl hl (by decide) rfl (fun ls hl => ?_)
          refine lv_iload_n hx hb d_Compiler_resolveLinks_24 rfl (lv_at hl 0 rfl) ?_
          refine lv_iconst (v := (-1)) hx hb d_Compiler_resolveLinks_25 (by decide) ?_
          refine lv_icmp_ne (tgt := 41) hx hb d_Compiler_resolveLinks_26 (by decide) (fun h26 => ?_) (fun h26 => ?_)
          · have hd := hd.2 h26
            exact ih.2 x1 r20 coF coE bkBE _ _ _ (lv_sub hl [1, 2, 0] rfl) hP hD hS hd
          · have hd := hd.1 h26
            refine lv_aload_n hx hb d_Compiler_resolveLinks_29 rfl (lv_at hl 1 rfl) ?_
            refine lv_bipush (v := 8) hx hb d_Compiler_resolveLinks_30 (by decide) ?_
            refine lv_aload_n hx hb d_Compiler_resolveLinks_32 rfl (lv_at hl 1 rfl) ?_
            refine va_get (D := (dC, dI)) (ci := 4) (v := .ref coLa) (C := R_Compiler) (T := F_Compiler) (N := 14) hx hb hts in_Compiler hown hK hP 0 rfl rfl 2 (by decide) (hts _ (List.mem_cons_of_mem _ k145_fieldLink)) (fun _ h9 => h9) rfl d_Compiler_resolveLinks_33 ?_
            refine lv_iload_n hx hb d_Compiler_resolveLinks_36 rfl (lv_at hl 2 rfl) ?_
            obtain ⟨h37, hd⟩ := hd
            refine va_iald hx hb hK hP 3 0 rfl rfl h37 d_Compiler_resolveLinks_37 ?_
            obtain ⟨coF_38, coE_38, c38, hd⟩ := hd
            refine ct_V (As := [.int 8, .int (coL (Int32.toNatClampNeg x1))]) (rest := []) (C := R_Compiler) (ci := 4) (q := (R_Compiler, F_Compiler, 14)) ⟨hx, hb, hml, hown, hts⟩ fm_Compiler_blame (c_Compiler_blame l dC dI cI cL cZ co coHa coH coNa coN coLa coL coPa coP coK coS (.ref bk) coF coE coW coX coI coD coM 8 (coL (Int32.toNatClampNeg x1)) coF_38 coE_38 c38) k134_methodLink k135_instanceMethod k136_selects ⟨Nat.le_of_ble_eq_true rfl, Nat.le_of_ble_eq_true rfl⟩ rfl rfl hK hN hP hD hS hA [0, 1, 2, 3, 4] [5, 6, 7, 8, 9, 10, 11, 12, 13, 14, 15] rfl rfl rfl (by decide) (by decide) (by decide) 0 rfl rfl rfl rfl hl.1 rfl (Nat.le_of_ble_eq_true rfl) d_Compiler_resolveLinks_38 (fun H locs hP hD hS => ?_)
            have hP : va_P (dC, dI) classes ((sh_Compiler cI cL cZ co coHa coH coNa coN coLa coL coPa coP coK coS (.ref bk) coF_38 coE_38 coW coX coI coD coM) ++ ((sh_Book cI cL cZ bk bkNa bkN bkSa bkS bkB bkBEa bkBn bkBE bkBC bkBO bkK bkKWa bkKn bkKW bkKTa bkKT bkKC bkV bkVWa bkVn bkVW bkVTa bkVT bkVC bkT))) H := hP.sub [11, 12, 13, 14, 15, 0, 1, 2, 3, 4, 5, 6, 7, 8, 9, 10] rfl
            have hD : va_D A ((sh_Compiler cI cL cZ co coHa coH coNa coN coLa coL coPa coP coK coS (.ref bk) coF_38 coE_38 coW coX coI coD coM) ++ ((sh_Book cI cL cZ bk bkNa bkN bkSa bkS bkB bkBEa bkBn bkBE bkBC bkBO bkK bkKWa bkKn bkKW bkKTa bkKT bkKC bkV bkVWa bkVn bkVW bkVTa bkVT bkVC bkT))) := hD.sub [11, 12, 13, 14, 15, 0, 1, 2, 3, 4, 5, 6, 7, 8, 9, 10] (by decide) rfl
            exact ih.2 x1 r20 coF_38 coE_38 bkBE _ _ _ (lv_sub hl [1, 2, 0] rfl) hP hD hS hd
      · intro x1 x2 coF coE bkBE ls H locs hl hP hD hS hd
        have hd : B_Compiler_resolveLinks_41 bkBn coN coL coP coK bkN bkBC bkT coF' coE' bkBE' (T_Compiler_resolveLinks bkBn coN coL coP coK bkN bkBC bkT coF' coE' bkBE' n) x1 x2 coF coE bkBE := hd
        refine lv_aload_n hx hb d_Compiler_resolveLinks_41 rfl (lv_at hl 0 rfl) ?_
        refine va_get (D := (dC, dI)) (ci := 4) (v := .ref bk) (C := R_Compiler) (T := F_Compiler) (N := 14) hx hb hts in_Compiler hown hK hP 0 rfl rfl 6 (by decide) (hts _ (List.mem_cons_of_mem _ k110_fieldLink)) (fun _ h9 => h9) rfl d_Compiler_resolveLinks_42 ?_
        refine ct_VR (As := []) (rest := []) (C := R_Book) (ci := 3) (q := (R_Book, F_Book, 6)) ⟨hx, hb, hml, hown, hts⟩ fm_Book_bodies (c_Book_bodies l dC dI cI cL cZ bk bkNa bkN bkSa bkS bkB bkBEa bkBn bkBE bkBC bkBO bkK bkKWa bkKn bkKW bkKTa bkKT bkKC bkV bkVWa bkVn bkVW bkVTa bkVT bkVC bkT trivial) k147_methodLink k148_instanceMethod k149_selects ⟨Nat.le_of_ble_eq_true rfl, Nat.le_of_ble_eq_true rfl⟩ rfl rfl hK hN hP hD [5, 6, 7, 8, 9, 10, 11, 12, 13, 14, 15] rfl rfl (by decide) 5 rfl rfl rfl rfl hl.1 rfl (Nat.le_of_ble_eq_true rfl) d_Compiler_resolveLinks_45 ?_
        refine lv_aload_n hx hb d_Compiler_resolveLinks_48 rfl (lv_at hl 0 rfl) ?_
        refine va_get (D := (dC, dI)) (ci := 4) (v := .ref coPa) (C := R_Compiler) (T := F_Compiler) (N := 14) hx hb hts in_Compiler hown hK hP 0 rfl rfl 3 (by decide) (hts _ (List.mem_cons_of_mem _ k146_fieldLink)) (fun _ h9 => h9) rfl d_Compiler_resolveLinks_49 ?_
        refine lv_iload_n hx hb d_Compiler_resolveLinks_52 rfl (lv_at hl 1 rfl) ?_
        obtain ⟨h53, hd⟩ := hd
        refine va_iald hx hb hK hP 4 0 rfl rfl h53 d_Compiler_resolveLinks_53 ?_
        refine lv_iload_n hx hb d_Compiler_resolveLinks_54 rfl (lv_at hl 2 rfl) ?_
        obtain ⟨bkBE_55, c55, hd⟩ := hd
        refine ct_V (As := [.int (coP (Int32.toNatClampNeg x1)), .int x2]) (rest := []) (C := R_Row) (ci := 1) (q := (R_Row, F_Row, 3)) ⟨hx, hb, hml, hown, hts⟩ fm_Row_replace (c_Row_replace l dC dI cI cL cZ bkB bkBEa bkBn bkBE bkBC bkBO (coP (Int32.toNatClampNeg x1)) x2 bkBE_55 c55) k174_methodLink k14_instanceMethod k15_selects ⟨Nat.le_of_ble_eq_true rfl, Nat.le_of_ble_eq_true rfl⟩ rfl rfl hK hN hP hD hS hA [8, 9] [0, 1, 2, 3, 4, 5, 6, 7, 10, 11, 12, 13, 14, 15] rfl rfl rfl (by decide) (by decide) (by decide) 8 rfl rfl rfl rfl hl.1 rfl (Nat.le_of_ble_eq_true rfl) d_Compiler_resolveLinks_55 (fun H locs hP hD hS => ?_)
        have hP : va_P (dC, dI) classes ((sh_Compiler cI cL cZ co coHa coH coNa coN coLa coL coPa coP coK coS (.ref bk) coF coE coW coX coI coD coM) ++ ((sh_Book cI cL cZ bk bkNa bkN bkSa bkS bkB bkBEa bkBn bkBE_55 bkBC bkBO bkK bkKWa bkKn bkKW bkKTa bkKT bkKC bkV bkVWa bkVn bkVW bkVTa bkVT bkVC bkT))) H := hP.sub [0, 1, 2, 3, 4, 5, 6, 7, 14, 15, 8, 9, 10, 11, 12, 13] rfl
        have hD : va_D A ((sh_Compiler cI cL cZ co coHa coH coNa coN coLa coL coPa coP coK coS (.ref bk) coF coE coW coX coI coD coM) ++ ((sh_Book cI cL cZ bk bkNa bkN bkSa bkS bkB bkBEa bkBn bkBE_55 bkBC bkBO bkK bkKWa bkKn bkKW bkKTa bkKT bkKC bkV bkVWa bkVn bkVW bkVTa bkVT bkVC bkT))) := hD.sub [0, 1, 2, 3, 4, 5, 6, 7, 14, 15, 8, 9, 10, 11, 12, 13] (by decide) rfl
        refine lv_iinc (k := 1) (v := x1 + 1) (lv' := [(1, .int (x1 + 1)), (0, .ref co), (2, .int x2)]) hx hb d_Compiler_resolveLinks_58 hl rfl (congrArg (fun z => x1 + z) (by decide)) (by decide) rfl (fun ls hl => ?_)
        refine lv_goto (tgt := 2) hx hb d_Compiler_resolveLinks_61 (by decide) ?_
        exact ih.1 (x1 + 1) coF coE bkBE_55 _ _ _ (lv_sub hl [1, 0] rfl) hP hD hS hd
  obtain ⟨n, hd⟩ := hd
  refine lv_iconst (v := 0) hx hb d_Compiler_resolveLinks_0 (by decide) ?_
  refine lv_istore_n (lv' := [(1, .int 0), (0, .ref co)]) hx hb d_Compiler_resolveLinks_1 rfl hl (by decide) rfl (fun ls hl => ?_)
  exact (key n).1 0 coF coE bkBE _ _ _ (lv_sub hl [1, 0] rfl) hP hD hS hd
-- Compiler.checkBodies
abbrev b_Compiler_checkBodies : ByteArray := prog_3_method_17_code
def y_Compiler_checkBodies : MethodName := ⟨"HelpFile$Compiler", "checkBodies", "()V"⟩
theorem k175_methodLink : Cond.methodLink "HelpFile$Compiler" 158 ⟨"HelpFile$Book", "bodyLength", "(I)I"⟩ ∈ ga := ga_t 421 (by decide +kernel) rfl
set_option maxRecDepth 100000 in
theorem fm_Compiler_checkBodies : Fm y_Compiler_checkBodies b_Compiler_checkBodies 2 none 0 := ⟨ga_t 420 rfl rfl, k108_initialized, by decide, by decide, by decide +kernel⟩
def B_Compiler_checkBodies_2 (coH : Nat → Int32) (bkS : Nat → Int32) (bkT : Int32) (coF' : Int32) (coE' : Int32) (X : Int32 → Int32 → Int32 → Prop) (x1 : Int32) (coF : Int32) (coE : Int32) : Prop := ((bkT ≤ x1 → (coF' = coF ∧ coE' = coE)) ∧ (¬ (bkT ≤ x1) → (∃ r18 : Int32, D_Book_bodyLength x1 bkS bkT r18 ∧ ((r18 ≤ 255 → X (x1 + 1) coF coE) ∧ (¬ (r18 ≤ 255) → (vp_in x1 10 ∧ (∃ coF_36 : Int32, ∃ coE_36 : Int32, D_Compiler_blame 9 (coH (Int32.toNatClampNeg x1)) coF coE coF_36 coE_36 ∧ X (x1 + 1) coF_36 coE_36)))))))
def S_Compiler_checkBodies (coH : Nat → Int32) (bkS : Nat → Int32) (bkT : Int32) (coF' : Int32) (coE' : Int32) (X : Int32 → Int32 → Int32 → Prop) : Int32 → Int32 → Int32 → Prop := fun x1 coF coE => B_Compiler_checkBodies_2 coH bkS bkT coF' coE' X x1 coF coE
def T_Compiler_checkBodies (coH : Nat → Int32) (bkS : Nat → Int32) (bkT : Int32) (coF' : Int32) (coE' : Int32) : Nat → (Int32 → Int32 → Int32 → Prop)
  | 0 => fun _ _ _ => False
  | n + 1 => S_Compiler_checkBodies coH bkS bkT coF' coE' (T_Compiler_checkBodies coH bkS bkT coF' coE' n)
def D_Compiler_checkBodies (coH : Nat → Int32) (coF : Int32) (coE : Int32) (bkS : Nat → Int32) (bkT : Int32) (coF' : Int32) (coE' : Int32) : Prop := ∃ n : Nat, T_Compiler_checkBodies coH bkS bkT coF' coE' n 0 coF coE
theorem d_Compiler_checkBodies_0 : decode b_Compiler_checkBodies 0 = .ok (.iconst 0, 1) := by decide +kernel
theorem d_Compiler_checkBodies_1 : decode b_Compiler_checkBodies 1 = .ok (.istore_n 1, 1) := by decide +kernel
theorem d_Compiler_checkBodies_2 : decode b_Compiler_checkBodies 2 = .ok (.iload_n 1, 1) := by decide +kernel
theorem d_Compiler_checkBodies_3 : decode b_Compiler_checkBodies 3 = .ok (.aload_n 0, 1) := by decide +kernel
theorem d_Compiler_checkBodies_4 : decode b_Compiler_checkBodies 4 = .ok (.getfield 29, 3) := by decide +kernel
theorem d_Compiler_checkBodies_7 : decode b_Compiler_checkBodies 7 = .ok (.invokevirtual 69, 3) := by decide +kernel
theorem d_Compiler_checkBodies_10 : decode b_Compiler_checkBodies 10 = .ok (.if_icmp .ge 35, 3) := by decide +kernel
theorem d_Compiler_checkBodies_13 : decode b_Compiler_checkBodies 13 = .ok (.aload_n 0, 1) := by decide +kernel
theorem d_Compiler_checkBodies_14 : decode b_Compiler_checkBodies 14 = .ok (.getfield 29, 3) := by decide +kernel
theorem d_Compiler_checkBodies_17 : decode b_Compiler_checkBodies 17 = .ok (.iload_n 1, 1) := by decide +kernel
theorem d_Compiler_checkBodies_18 : decode b_Compiler_checkBodies 18 = .ok (.invokevirtual 158, 3) := by decide +kernel
theorem d_Compiler_checkBodies_21 : decode b_Compiler_checkBodies 21 = .ok (.sipush 255, 3) := by decide +kernel
theorem d_Compiler_checkBodies_24 : decode b_Compiler_checkBodies 24 = .ok (.if_icmp .le 15, 3) := by decide +kernel
theorem d_Compiler_checkBodies_27 : decode b_Compiler_checkBodies 27 = .ok (.aload_n 0, 1) := by decide +kernel
theorem d_Compiler_checkBodies_28 : decode b_Compiler_checkBodies 28 = .ok (.bipush 9, 2) := by decide +kernel
theorem d_Compiler_checkBodies_30 : decode b_Compiler_checkBodies 30 = .ok (.aload_n 0, 1) := by decide +kernel
theorem d_Compiler_checkBodies_31 : decode b_Compiler_checkBodies 31 = .ok (.getfield 9, 3) := by decide +kernel
theorem d_Compiler_checkBodies_34 : decode b_Compiler_checkBodies 34 = .ok (.iload_n 1, 1) := by decide +kernel
theorem d_Compiler_checkBodies_35 : decode b_Compiler_checkBodies 35 = .ok (.iaload, 1) := by decide +kernel
theorem d_Compiler_checkBodies_36 : decode b_Compiler_checkBodies 36 = .ok (.invokevirtual 74, 3) := by decide +kernel
theorem d_Compiler_checkBodies_39 : decode b_Compiler_checkBodies 39 = .ok (.iinc 1 1, 3) := by decide +kernel
theorem d_Compiler_checkBodies_42 : decode b_Compiler_checkBodies 42 = .ok (.goto (-40), 3) := by decide +kernel
theorem d_Compiler_checkBodies_45 : decode b_Compiler_checkBodies 45 = .ok (.return_, 1) := by decide +kernel
set_option maxHeartbeats 4000000 in
set_option maxRecDepth 100000 in
theorem c_Compiler_checkBodies (l : Launch) (dC : Nat → ClassId) (dI : Nat → Nat → Nat) (cI cL cZ : ClassId) (co : Nat) (coHa : Nat) (coH : Nat → Int32) (coNa : Nat) (coN : Nat → Int64) (coLa : Nat) (coL : Nat → Int32) (coPa : Nat) (coP : Nat → Int32) (coK : Int32) (coS : Value) (coF : Int32) (coE : Int32) (coW : Int32) (coX : Int32) (coI : Bool) (coD : Bool) (coM : Bool) (bk : Nat) (bkNa : Nat) (bkN : Nat → Int64) (bkSa : Nat) (bkS : Nat → Int32) (bkB : Nat) (bkBEa : Nat) (bkBn : Nat) (bkBE : Nat → Int32) (bkBC : Int32) (bkBO : Bool) (bkK : Nat) (bkKWa : Nat) (bkKn : Nat) (bkKW : Nat → Int64) (bkKTa : Nat) (bkKT : Nat → Int32) (bkKC : Int32) (bkV : Nat) (bkVWa : Nat) (bkVn : Nat) (bkVW : Nat → Int64) (bkVTa : Nat) (bkVT : Nat → Int32) (bkVC : Int32) (bkT : Int32) (coF' : Int32) (coE' : Int32) (hd : D_Compiler_checkBodies coH coF coE bkS bkT coF' coE') : Ctr l y_Compiler_checkBodies (Cond.code y_Compiler_checkBodies b_Compiler_checkBodies 2 none :: ga) { frames := 3, cells := 0, slots := 0, locals := 63 } (dC, dI) classes (Tys cI cL cZ) [.ref co] ((sh_Compiler cI cL cZ co coHa coH coNa coN coLa coL coPa coP coK coS (.ref bk) coF coE coW coX coI coD coM) ++ ((sh_Book cI cL cZ bk bkNa bkN bkSa bkS bkB bkBEa bkBn bkBE bkBC bkBO bkK bkKWa bkKn bkKW bkKTa bkKT bkKC bkV bkVWa bkVn bkVW bkVTa bkVT bkVC bkT))) none ((sh_Compiler cI cL cZ co coHa coH coNa coN coLa coL coPa coP coK coS (.ref bk) coF' coE' coW coX coI coD coM) ++ ((sh_Book cI cL cZ bk bkNa bkN bkSa bkS bkB bkBEa bkBn bkBE bkBC bkBO bkK bkKWa bkKn bkKW bkKTa bkKT bkKC bkV bkVWa bkVn bkVW bkVTa bkVT bkVC bkT))) := by
  refine Ctr.ofW (by decide) (Nat.le_of_ble_eq_true rfl) ?_
  intro p e s m below meth c A ls hx hb hr hml hown hlocks hts hK hN hA hP hD hS hl
  have hown : s.vm.findClass R_Compiler = some m.cls := hown
  have hl : lv_has ls 2 [(0, .ref co)] := hl
  have key : ∀ n : Nat, (∀ (x1 : Int32) (coF : Int32) (coE : Int32) (ls : Array Slot) (H : Heap) (locs : List Loc), lv_has ls 2 [(0, .ref co), (1, .int x1)] → va_P (dC, dI) classes ((sh_Compiler cI cL cZ co coHa coH coNa coN coLa coL coPa coP coK coS (.ref bk) coF coE coW coX coI coD coM) ++ ((sh_Book cI cL cZ bk bkNa bkN bkSa bkS bkB bkBEa bkBn bkBE bkBC bkBO bkK bkKWa bkKn bkKW bkKTa bkKT bkKC bkV bkVWa bkVn bkVW bkVTa bkVT bkVC bkT))) H → va_D A ((sh_Compiler cI cL cZ co coHa coH coNa coN coLa coL coPa coP coK coS (.ref bk) coF coE coW coX coI coD coM) ++ ((sh_Book cI cL cZ bk bkNa bkN bkSa bkS bkB bkBEa bkBn bkBE bkBC bkBO bkK bkKWa bkKn bkKW bkKTa bkKT bkKC bkV bkVWa bkVn bkVW bkVTa bkVT bkVC bkT))) → va_S A s.heap H locs → T_Compiler_checkBodies coH bkS bkT coF' coE' n x1 coF coE → W p l e ({ frames := 3, cells := 0, slots := 0, locals := 63 }) s m ([.ref co] : List Value).toArray below meth c H locs 0 0 (MQ below (Qs (dC, dI) classes (Tys cI cL cZ) none ((sh_Compiler cI cL cZ co coHa coH coNa coN coLa coL coPa coP coK coS (.ref bk) coF' coE' coW coX coI coD coM) ++ ((sh_Book cI cL cZ bk bkNa bkN bkSa bkS bkB bkBEa bkBn bkBE bkBC bkBO bkK bkKWa bkKn bkKW bkKTa bkKT bkKC bkV bkVWa bkVn bkVW bkVTa bkVT bkVC bkT))) A) ([.ref co] : List Value).toArray s 0 0 A) (F0 m 2 ls [])) := by
    intro n
    induction n with
    | zero =>
      exact fun _ _ _ _ _ _ _ _ _ _ hd => False.elim hd
    | succ n ih =>
      · intro x1 coF coE ls H locs hl hP hD hS hd
        have hd : B_Compiler_checkBodies_2 coH bkS bkT coF' coE' (T_Compiler_checkBodies coH bkS bkT coF' coE' n) x1 coF coE := hd
        refine lv_iload_n hx hb d_Compiler_checkBodies_2 rfl (lv_at hl 1 rfl) ?_
        refine lv_aload_n hx hb d_Compiler_checkBodies_3 rfl (lv_at hl 0 rfl) ?_
        refine va_get (D := (dC, dI)) (ci := 4) (v := .ref bk) (C := R_Compiler) (T := F_Compiler) (N := 14) hx hb hts in_Compiler hown hK hP 0 rfl rfl 6 (by decide) (hts _ (List.mem_cons_of_mem _ k110_fieldLink)) (fun _ h9 => h9) rfl d_Compiler_checkBodies_4 ?_
        refine ct_VR (As := []) (rest := [.int x1]) (C := R_Book) (ci := 3) (q := (R_Book, F_Book, 6)) ⟨hx, hb, hml, hown, hts⟩ fm_Book_topics (c_Book_topics l dC dI cI cL cZ bk bkNa bkN bkSa bkS bkB bkBEa bkBn bkBE bkBC bkBO bkK bkKWa bkKn bkKW bkKTa bkKT bkKC bkV bkVWa bkVn bkVW bkVTa bkVT bkVC bkT bkT rfl) k127_methodLink k128_instanceMethod k129_selects ⟨Nat.le_of_ble_eq_true rfl, Nat.le_of_ble_eq_true rfl⟩ rfl rfl hK hN hP hD [5, 6, 7, 8, 9, 10, 11, 12, 13, 14, 15] rfl rfl (by decide) 5 rfl rfl rfl rfl hl.1 rfl (Nat.le_of_ble_eq_true rfl) d_Compiler_checkBodies_7 ?_
        refine lv_icmp_ge (tgt := 45) hx hb d_Compiler_checkBodies_10 (by decide) (fun h10 => ?_) (fun h10 => ?_)
        · have hd := hd.1 h10
          obtain ⟨e0, e1⟩ := hd
          subst e0
          subst e1
          exact ct_vret hx hb hr hlocks hK hP hD hS d_Compiler_checkBodies_45
        · have hd := hd.2 h10
          refine lv_aload_n hx hb d_Compiler_checkBodies_13 rfl (lv_at hl 0 rfl) ?_
          refine va_get (D := (dC, dI)) (ci := 4) (v := .ref bk) (C := R_Compiler) (T := F_Compiler) (N := 14) hx hb hts in_Compiler hown hK hP 0 rfl rfl 6 (by decide) (hts _ (List.mem_cons_of_mem _ k110_fieldLink)) (fun _ h9 => h9) rfl d_Compiler_checkBodies_14 ?_
          refine lv_iload_n hx hb d_Compiler_checkBodies_17 rfl (lv_at hl 1 rfl) ?_
          obtain ⟨r18, c18, hd⟩ := hd
          refine ct_VR (As := [.int x1]) (rest := []) (C := R_Book) (ci := 3) (q := (R_Book, F_Book, 6)) ⟨hx, hb, hml, hown, hts⟩ fm_Book_bodyLength (c_Book_bodyLength l dC dI cI cL cZ bk bkNa bkN bkSa bkS bkB bkBEa bkBn bkBE bkBC bkBO bkK bkKWa bkKn bkKW bkKTa bkKT bkKC bkV bkVWa bkVn bkVW bkVTa bkVT bkVC bkT x1 r18 c18) k175_methodLink k89_instanceMethod k90_selects ⟨Nat.le_of_ble_eq_true rfl, Nat.le_of_ble_eq_true rfl⟩ rfl rfl hK hN hP hD [5, 6, 7, 8, 9, 10, 11, 12, 13, 14, 15] rfl rfl (by decide) 5 rfl rfl rfl rfl hl.1 rfl (Nat.le_of_ble_eq_true rfl) d_Compiler_checkBodies_18 ?_
          refine lv_sipush (v := 255) hx hb d_Compiler_checkBodies_21 (by decide) ?_
          refine lv_icmp_le (tgt := 39) hx hb d_Compiler_checkBodies_24 (by decide) (fun h24 => ?_) (fun h24 => ?_)
          · have hd := hd.1 h24
            refine lv_iinc (k := 1) (v := x1 + 1) (lv' := [(1, .int (x1 + 1)), (0, .ref co)]) hx hb d_Compiler_checkBodies_39 hl rfl (congrArg (fun z => x1 + z) (by decide)) (by decide) rfl (fun ls hl => ?_)
            refine lv_goto (tgt := 2) hx hb d_Compiler_checkBodies_42 (by decide) ?_
            exact ih (x1 + 1) coF coE _ _ _ (lv_sub hl [1, 0] rfl) hP hD hS hd
          · have hd := hd.2 h24
            refine lv_aload_n hx hb d_Compiler_checkBodies_27 rfl (lv_at hl 0 rfl) ?_
            refine lv_bipush (v := 9) hx hb d_Compiler_checkBodies_28 (by decide) ?_
            refine lv_aload_n hx hb d_Compiler_checkBodies_30 rfl (lv_at hl 0 rfl) ?_
            refine va_get (D := (dC, dI)) (ci := 4) (v := .ref coHa) (C := R_Compiler) (T := F_Compiler) (N := 14) hx hb hts in_Compiler hown hK hP 0 rfl rfl 0 (by decide) (hts _ (List.mem_cons_of_mem _ k130_fieldLink)) (fun _ h9 => h9) rfl d_Compiler_checkBodies_31 ?_
            refine lv_iload_n hx hb d_Compiler_checkBodies_34 rfl (lv_at hl 1 rfl) ?_
            obtain ⟨h35, hd⟩ := hd
            refine va_iald hx hb hK hP 1 0 rfl rfl h35 d_Compiler_checkBodies_35 ?_
            obtain ⟨coF_36, coE_36, c36, hd⟩ := hd
            refine ct_V (As := [.int 9, .int (coH (Int32.toNatClampNeg x1))]) (rest := []) (C := R_Compiler) (ci := 4) (q := (R_Compiler, F_Compiler, 14)) ⟨hx, hb, hml, hown, hts⟩ fm_Compiler_blame (c_Compiler_blame l dC dI cI cL cZ co coHa coH coNa coN coLa coL coPa coP coK coS (.ref bk) coF coE coW coX coI coD coM 9 (coH (Int32.toNatClampNeg x1)) coF_36 coE_36 c36) k134_methodLink k135_instanceMethod k136_selects ⟨Nat.le_of_ble_eq_true rfl, Nat.le_of_ble_eq_true rfl⟩ rfl rfl hK hN hP hD hS hA [0, 1, 2, 3, 4] [5, 6, 7, 8, 9, 10, 11, 12, 13, 14, 15] rfl rfl rfl (by decide) (by decide) (by decide) 0 rfl rfl rfl rfl hl.1 rfl (Nat.le_of_ble_eq_true rfl) d_Compiler_checkBodies_36 (fun H locs hP hD hS => ?_)
            have hP : va_P (dC, dI) classes ((sh_Compiler cI cL cZ co coHa coH coNa coN coLa coL coPa coP coK coS (.ref bk) coF_36 coE_36 coW coX coI coD coM) ++ ((sh_Book cI cL cZ bk bkNa bkN bkSa bkS bkB bkBEa bkBn bkBE bkBC bkBO bkK bkKWa bkKn bkKW bkKTa bkKT bkKC bkV bkVWa bkVn bkVW bkVTa bkVT bkVC bkT))) H := hP.sub [11, 12, 13, 14, 15, 0, 1, 2, 3, 4, 5, 6, 7, 8, 9, 10] rfl
            have hD : va_D A ((sh_Compiler cI cL cZ co coHa coH coNa coN coLa coL coPa coP coK coS (.ref bk) coF_36 coE_36 coW coX coI coD coM) ++ ((sh_Book cI cL cZ bk bkNa bkN bkSa bkS bkB bkBEa bkBn bkBE bkBC bkBO bkK bkKWa bkKn bkKW bkKTa bkKT bkKC bkV bkVWa bkVn bkVW bkVTa bkVT bkVC bkT))) := hD.sub [11, 12, 13, 14, 15, 0, 1, 2, 3, 4, 5, 6, 7, 8, 9, 10] (by decide) rfl
            refine lv_iinc (k := 1) (v := x1 + 1) (lv' := [(1, .int (x1 + 1)), (0, .ref co)]) hx hb d_Compiler_checkBodies_39 hl rfl (congrArg (fun z => x1 + z) (by decide)) (by decide) rfl (fun ls hl => ?_)
            refine lv_goto (tgt := 2) hx hb d_Compiler_checkBodies_42 (by decide) ?_
            exact ih (x1 + 1) coF_36 coE_36 _ _ _ (lv_sub hl [1, 0] rfl) hP hD hS hd
  obtain ⟨n, hd⟩ := hd
  refine lv_iconst (v := 0) hx hb d_Compiler_checkBodies_0 (by decide) ?_
  refine lv_istore_n (lv' := [(1, .int 0), (0, .ref co)]) hx hb d_Compiler_checkBodies_1 rfl hl (by decide) rfl (fun ls hl => ?_)
  exact (key n) 0 coF coE _ _ _ (lv_sub hl [1, 0] rfl) hP hD hS hd
-- Compiler.translate
abbrev b_Compiler_translate : ByteArray := prog_3_method_3_code
def y_Compiler_translate : MethodName := ⟨"HelpFile$Compiler", "translate", "(LHelpFile$Row;LHelpFile$Book;)I"⟩
theorem k176_methodLink : Cond.methodLink "HelpFile$Compiler" 37 ⟨"HelpFile$Compiler", "restart", "()V"⟩ ∈ ga := ga_t 277 (by decide +kernel) rfl
theorem k177_instanceMethod : Cond.instanceMethod ⟨"HelpFile$Compiler", "restart", "()V"⟩ ∈ ga := ga_t 279 (by decide +kernel) rfl
theorem k178_selects : Cond.selects "HelpFile$Compiler" ⟨"HelpFile$Compiler", "restart", "()V"⟩ ⟨"HelpFile$Compiler", "restart", "()V"⟩ ∈ ga := ga_s (q := (⟨"HelpFile$Compiler", "restart", "()V"⟩, _)) 0 rfl
theorem k179_methodLink : Cond.methodLink "HelpFile$Compiler" 49 ⟨"HelpFile$Compiler", "lineEnd", "(I)I"⟩ ∈ ga := ga_t 297 (by decide +kernel) rfl
theorem k180_instanceMethod : Cond.instanceMethod ⟨"HelpFile$Compiler", "lineEnd", "(I)I"⟩ ∈ ga := ga_t 299 (by decide +kernel) rfl
theorem k181_selects : Cond.selects "HelpFile$Compiler" ⟨"HelpFile$Compiler", "lineEnd", "(I)I"⟩ ⟨"HelpFile$Compiler", "lineEnd", "(I)I"⟩ ∈ ga := ga_s (q := (⟨"HelpFile$Compiler", "lineEnd", "(I)I"⟩, _)) 1 rfl
theorem k182_methodLink : Cond.methodLink "HelpFile$Compiler" 53 ⟨"HelpFile$Compiler", "readLine", "(II)V"⟩ ∈ ga := ga_t 305 (by decide +kernel) rfl
theorem k183_instanceMethod : Cond.instanceMethod ⟨"HelpFile$Compiler", "readLine", "(II)V"⟩ ∈ ga := ga_t 307 (by decide +kernel) rfl
theorem k184_selects : Cond.selects "HelpFile$Compiler" ⟨"HelpFile$Compiler", "readLine", "(II)V"⟩ ⟨"HelpFile$Compiler", "readLine", "(II)V"⟩ ∈ ga := ga_s (q := (⟨"HelpFile$Compiler", "readLine", "(II)V"⟩, _)) 2 rfl
theorem k185_methodLink : Cond.methodLink "HelpFile$Compiler" 63 ⟨"HelpFile$Compiler", "resolveLinks", "()V"⟩ ∈ ga := ga_t 405 (by decide +kernel) rfl
theorem k186_instanceMethod : Cond.instanceMethod ⟨"HelpFile$Compiler", "resolveLinks", "()V"⟩ ∈ ga := ga_t 407 (by decide +kernel) rfl
theorem k187_selects : Cond.selects "HelpFile$Compiler" ⟨"HelpFile$Compiler", "resolveLinks", "()V"⟩ ⟨"HelpFile$Compiler", "resolveLinks", "()V"⟩ ∈ ga := ga_s (q := (⟨"HelpFile$Compiler", "resolveLinks", "()V"⟩, _)) 14 rfl
theorem k188_methodLink : Cond.methodLink "HelpFile$Compiler" 66 ⟨"HelpFile$Compiler", "checkBodies", "()V"⟩ ∈ ga := ga_t 417 (by decide +kernel) rfl
theorem k189_instanceMethod : Cond.instanceMethod ⟨"HelpFile$Compiler", "checkBodies", "()V"⟩ ∈ ga := ga_t 419 (by decide +kernel) rfl
theorem k190_selects : Cond.selects "HelpFile$Compiler" ⟨"HelpFile$Compiler", "checkBodies", "()V"⟩ ⟨"HelpFile$Compiler", "checkBodies", "()V"⟩ ∈ ga := ga_s (q := (⟨"HelpFile$Compiler", "checkBodies", "()V"⟩, _)) 15 rfl
set_option maxRecDepth 100000 in
theorem fm_Compiler_translate : Fm y_Compiler_translate b_Compiler_translate 5 (some .int) 2 := ⟨ga_t 276 rfl rfl, k108_initialized, by decide, by decide, by decide +kernel⟩
def B_Compiler_translate_19 (srn : Nat) (bkBn : Nat) (bkKn : Nat) (srE : Nat → Int32) (srC : Int32) (res : Int32) (coH' : Nat → Int32) (coN' : Nat → Int64) (coL' : Nat → Int32) (coP' : Nat → Int32) (coK' : Int32) (coF' : Int32) (coE' : Int32) (coW' : Int32) (coX' : Int32) (coI' : Bool) (coD' : Bool) (coM' : Bool) (bkN' : Nat → Int64) (bkS' : Nat → Int32) (bkBE' : Nat → Int32) (bkBC' : Int32) (bkBO' : Bool) (bkKW' : Nat → Int64) (bkKT' : Nat → Int32) (bkKC' : Int32) (bkT' : Int32) (X : Nat → Int32 → (Nat → Int32) → (Nat → Int64) → (Nat → Int32) → (Nat → Int32) → Int32 → Int32 → Int32 → Int32 → Int32 → Bool → Bool → Bool → (Nat → Int64) → (Nat → Int32) → (Nat → Int32) → Int32 → Bool → (Nat → Int64) → (Nat → Int32) → Int32 → Int32 → Prop) (x4 : Int32) (coH : Nat → Int32) (coN : Nat → Int64) (coL : Nat → Int32) (coP : Nat → Int32) (coK : Int32) (coF : Int32) (coE : Int32) (coW : Int32) (coX : Int32) (coI : Bool) (coD : Bool) (coM : Bool) (bkN : Nat → Int64) (bkS : Nat → Int32) (bkBE : Nat → Int32) (bkBC : Int32) (bkBO : Bool) (bkKW : Nat → Int64) (bkKT : Nat → Int32) (bkKC : Int32) (bkT : Int32) : Prop := ((srC < x4 → X 1 0 coH coN coL coP coK coF coE coW coX coI coD coM bkN bkS bkBE bkBC bkBO bkKW bkKT bkKC bkT) ∧ (¬ (srC < x4) → ((coF = 0 → (∃ r41 : Int32, D_Compiler_lineEnd srn x4 srE srC r41 ∧ (∃ coH_49 : Nat → Int32, ∃ coN_49 : Nat → Int64, ∃ coL_49 : Nat → Int32, ∃ coP_49 : Nat → Int32, ∃ coK_49 : Int32, ∃ coF_49 : Int32, ∃ coE_49 : Int32, ∃ coX_49 : Int32, ∃ coI_49 : Bool, ∃ coD_49 : Bool, ∃ coM_49 : Bool, ∃ bkN_49 : Nat → Int64, ∃ bkS_49 : Nat → Int32, ∃ bkBE_49 : Nat → Int32, ∃ bkBC_49 : Int32, ∃ bkBO_49 : Bool, ∃ bkKW_49 : Nat → Int64, ∃ bkKT_49 : Nat → Int32, ∃ bkKC_49 : Int32, ∃ bkT_49 : Int32, D_Compiler_readLine srn bkBn bkKn x4 r41 coH coN coL coP coK coF coE coW coX coI coD coM srE srC bkN bkS bkBE bkBC bkBO bkKW bkKT bkKC bkT coH_49 coN_49 coL_49 coP_49 coK_49 coF_49 coE_49 coX_49 coI_49 coD_49 coM_49 bkN_49 bkS_49 bkBE_49 bkBC_49 bkBO_49 bkKW_49 bkKT_49 bkKC_49 bkT_49 ∧ X 0 (r41 + 1) coH_49 coN_49 coL_49 coP_49 coK_49 coF_49 coE_49 (coW + 1) coX_49 coI_49 coD_49 coM_49 bkN_49 bkS_49 bkBE_49 bkBC_49 bkBO_49 bkKW_49 bkKT_49 bkKC_49 bkT_49))) ∧ (¬ (coF = 0) → X 1 0 coH coN coL coP coK coF coE coW coX coI coD coM bkN bkS bkBE bkBC bkBO bkKW bkKT bkKC bkT))))
def B_Compiler_translate_70 (srn : Nat) (bkBn : Nat) (bkKn : Nat) (srE : Nat → Int32) (srC : Int32) (res : Int32) (coH' : Nat → Int32) (coN' : Nat → Int64) (coL' : Nat → Int32) (coP' : Nat → Int32) (coK' : Int32) (coF' : Int32) (coE' : Int32) (coW' : Int32) (coX' : Int32) (coI' : Bool) (coD' : Bool) (coM' : Bool) (bkN' : Nat → Int64) (bkS' : Nat → Int32) (bkBE' : Nat → Int32) (bkBC' : Int32) (bkBO' : Bool) (bkKW' : Nat → Int64) (bkKT' : Nat → Int32) (bkKC' : Int32) (bkT' : Int32) (X : Nat → Int32 → (Nat → Int32) → (Nat → Int64) → (Nat → Int32) → (Nat → Int32) → Int32 → Int32 → Int32 → Int32 → Int32 → Bool → Bool → Bool → (Nat → Int64) → (Nat → Int32) → (Nat → Int32) → Int32 → Bool → (Nat → Int64) → (Nat → Int32) → Int32 → Int32 → Prop) (coH : Nat → Int32) (coN : Nat → Int64) (coL : Nat → Int32) (coP : Nat → Int32) (coK : Int32) (coF : Int32) (coE : Int32) (coW : Int32) (coX : Int32) (coI : Bool) (coD : Bool) (coM : Bool) (bkN : Nat → Int64) (bkS : Nat → Int32) (bkBE : Nat → Int32) (bkBC : Int32) (bkBO : Bool) (bkKW : Nat → Int64) (bkKT : Nat → Int32) (bkKC : Int32) (bkT : Int32) : Prop := (∃ coF_71 : Int32, ∃ coE_71 : Int32, ∃ coI_71 : Bool, ∃ coM_71 : Bool, ∃ bkS_71 : Nat → Int32, ∃ bkBE_71 : Nat → Int32, ∃ bkBC_71 : Int32, ∃ bkBO_71 : Bool, D_Compiler_closeParagraph bkBn coF coE coX coI coM bkS bkBE bkBC bkBO bkT coF_71 coE_71 coI_71 coM_71 bkS_71 bkBE_71 bkBC_71 bkBO_71 ∧ (∃ coF_75 : Int32, ∃ coE_75 : Int32, ∃ bkBE_75 : Nat → Int32, D_Compiler_resolveLinks bkBn coN coL coP coK coF_71 coE_71 bkN bkBE_71 bkBC_71 bkT coF_75 coE_75 bkBE_75 ∧ (∃ coF_79 : Int32, ∃ coE_79 : Int32, D_Compiler_checkBodies coH coF_75 coE_75 bkS_71 bkT coF_79 coE_79 ∧ ((bkT = 0 → (∃ coF_96 : Int32, ∃ coE_96 : Int32, D_Compiler_blame 10 0 coF_79 coE_79 coF_96 coE_96 ∧ (res = coF_96 ∧ coH' = coH ∧ coN' = coN ∧ coL' = coL ∧ coP' = coP ∧ coK' = coK ∧ coF' = coF_96 ∧ coE' = coE_96 ∧ coW' = coW ∧ coX' = coX ∧ coI' = coI_71 ∧ coD' = coD ∧ coM' = coM_71 ∧ bkN' = bkN ∧ bkS' = bkS_71 ∧ bkBE' = bkBE_75 ∧ bkBC' = bkBC_71 ∧ bkBO' = bkBO_71 ∧ bkKW' = bkKW ∧ bkKT' = bkKT ∧ bkKC' = bkKC ∧ bkT' = bkT))) ∧ (¬ (bkT = 0) → (res = coF_79 ∧ coH' = coH ∧ coN' = coN ∧ coL' = coL ∧ coP' = coP ∧ coK' = coK ∧ coF' = coF_79 ∧ coE' = coE_79 ∧ coW' = coW ∧ coX' = coX ∧ coI' = coI_71 ∧ coD' = coD ∧ coM' = coM_71 ∧ bkN' = bkN ∧ bkS' = bkS_71 ∧ bkBE' = bkBE_75 ∧ bkBC' = bkBC_71 ∧ bkBO' = bkBO_71 ∧ bkKW' = bkKW ∧ bkKT' = bkKT ∧ bkKC' = bkKC ∧ bkT' = bkT))))))
def S_Compiler_translate (srn : Nat) (bkBn : Nat) (bkKn : Nat) (srE : Nat → Int32) (srC : Int32) (res : Int32) (coH' : Nat → Int32) (coN' : Nat → Int64) (coL' : Nat → Int32) (coP' : Nat → Int32) (coK' : Int32) (coF' : Int32) (coE' : Int32) (coW' : Int32) (coX' : Int32) (coI' : Bool) (coD' : Bool) (coM' : Bool) (bkN' : Nat → Int64) (bkS' : Nat → Int32) (bkBE' : Nat → Int32) (bkBC' : Int32) (bkBO' : Bool) (bkKW' : Nat → Int64) (bkKT' : Nat → Int32) (bkKC' : Int32) (bkT' : Int32) (X : Nat → Int32 → (Nat → Int32) → (Nat → Int64) → (Nat → Int32) → (Nat → Int32) → Int32 → Int32 → Int32 → Int32 → Int32 → Bool → Bool → Bool → (Nat → Int64) → (Nat → Int32) → (Nat → Int32) → Int32 → Bool → (Nat → Int64) → (Nat → Int32) → Int32 → Int32 → Prop) : Nat → Int32 → (Nat → Int32) → (Nat → Int64) → (Nat → Int32) → (Nat → Int32) → Int32 → Int32 → Int32 → Int32 → Int32 → Bool → Bool → Bool → (Nat → Int64) → (Nat → Int32) → (Nat → Int32) → Int32 → Bool → (Nat → Int64) → (Nat → Int32) → Int32 → Int32 → Prop := fun q_lab x4 coH coN coL coP coK coF coE coW coX coI coD coM bkN bkS bkBE bkBC bkBO bkKW bkKT bkKC bkT => match q_lab with | 0 => B_Compiler_translate_19 srn bkBn bkKn srE srC res coH' coN' coL' coP' coK' coF' coE' coW' coX' coI' coD' coM' bkN' bkS' bkBE' bkBC' bkBO' bkKW' bkKT' bkKC' bkT' X x4 coH coN coL coP coK coF coE coW coX coI coD coM bkN bkS bkBE bkBC bkBO bkKW bkKT bkKC bkT | 1 => B_Compiler_translate_70 srn bkBn bkKn srE srC res coH' coN' coL' coP' coK' coF' coE' coW' coX' coI' coD' coM' bkN' bkS' bkBE' bkBC' bkBO' bkKW' bkKT' bkKC' bkT' X coH coN coL coP coK coF coE coW coX coI coD coM bkN bkS bkBE bkBC bkBO bkKW bkKT bkKC bkT | _ => False
def T_Compiler_translate (srn : Nat) (bkBn : Nat) (bkKn : Nat) (srE : Nat → Int32) (srC : Int32) (res : Int32) (coH' : Nat → Int32) (coN' : Nat → Int64) (coL' : Nat → Int32) (coP' : Nat → Int32) (coK' : Int32) (coF' : Int32) (coE' : Int32) (coW' : Int32) (coX' : Int32) (coI' : Bool) (coD' : Bool) (coM' : Bool) (bkN' : Nat → Int64) (bkS' : Nat → Int32) (bkBE' : Nat → Int32) (bkBC' : Int32) (bkBO' : Bool) (bkKW' : Nat → Int64) (bkKT' : Nat → Int32) (bkKC' : Int32) (bkT' : Int32) : Nat → (Nat → Int32 → (Nat → Int32) → (Nat → Int64) → (Nat → Int32) → (Nat → Int32) → Int32 → Int32 → Int32 → Int32 → Int32 → Bool → Bool → Bool → (Nat → Int64) → (Nat → Int32) → (Nat → Int32) → Int32 → Bool → (Nat → Int64) → (Nat → Int32) → Int32 → Int32 → Prop)
  | 0 => fun _ _ _ _ _ _ _ _ _ _ _ _ _ _ _ _ _ _ _ _ _ _ _ => False
  | n + 1 => S_Compiler_translate srn bkBn bkKn srE srC res coH' coN' coL' coP' coK' coF' coE' coW' coX' coI' coD' coM' bkN' bkS' bkBE' bkBC' bkBO' bkKW' bkKT' bkKC' bkT' (T_Compiler_translate srn bkBn bkKn srE srC res coH' coN' coL' coP' coK' coF' coE' coW' coX' coI' coD' coM' bkN' bkS' bkBE' bkBC' bkBO' bkKW' bkKT' bkKC' bkT' n)
def D_Compiler_translate (srn : Nat) (bkBn : Nat) (bkKn : Nat) (coH : Nat → Int32) (coN : Nat → Int64) (coL : Nat → Int32) (coP : Nat → Int32) (coK : Int32) (coF : Int32) (coE : Int32) (coW : Int32) (coX : Int32) (coI : Bool) (coD : Bool) (coM : Bool) (srE : Nat → Int32) (srC : Int32) (bkN : Nat → Int64) (bkS : Nat → Int32) (bkBE : Nat → Int32) (bkBC : Int32) (bkBO : Bool) (bkKW : Nat → Int64) (bkKT : Nat → Int32) (bkKC : Int32) (bkT : Int32) (res : Int32) (coH' : Nat → Int32) (coN' : Nat → Int64) (coL' : Nat → Int32) (coP' : Nat → Int32) (coK' : Int32) (coF' : Int32) (coE' : Int32) (coW' : Int32) (coX' : Int32) (coI' : Bool) (coD' : Bool) (coM' : Bool) (bkN' : Nat → Int64) (bkS' : Nat → Int32) (bkBE' : Nat → Int32) (bkBC' : Int32) (bkBO' : Bool) (bkKW' : Nat → Int64) (bkKT' : Nat → Int32) (bkKC' : Int32) (bkT' : Int32) : Prop := ∃ n : Nat, (∃ coK_11 : Int32, ∃ coF_11 : Int32, ∃ coE_11 : Int32, ∃ coW_11 : Int32, ∃ coX_11 : Int32, ∃ coI_11 : Bool, ∃ coD_11 : Bool, ∃ coM_11 : Bool, ∃ bkBC_11 : Int32, ∃ bkBO_11 : Bool, ∃ bkKC_11 : Int32, ∃ bkT_11 : Int32, D_Compiler_restart coK coF coE coW coX coI coD coM bkBC bkBO bkKC bkT coK_11 coF_11 coE_11 coW_11 coX_11 coI_11 coD_11 coM_11 bkBC_11 bkBO_11 bkKC_11 bkT_11 ∧ T_Compiler_translate srn bkBn bkKn srE srC res coH' coN' coL' coP' coK' coF' coE' coW' coX' coI' coD' coM' bkN' bkS' bkBE' bkBC' bkBO' bkKW' bkKT' bkKC' bkT' n 0 0 coH coN coL coP coK_11 coF_11 coE_11 coW_11 coX_11 coI_11 coD_11 coM_11 bkN bkS bkBE bkBC_11 bkBO_11 bkKW bkKT bkKC_11 bkT_11)
theorem d_Compiler_translate_0 : decode b_Compiler_translate 0 = .ok (.aload_n 0, 1) := by decide +kernel
theorem d_Compiler_translate_1 : decode b_Compiler_translate 1 = .ok (.aload_n 1, 1) := by decide +kernel
theorem d_Compiler_translate_2 : decode b_Compiler_translate 2 = .ok (.putfield 25, 3) := by decide +kernel
theorem d_Compiler_translate_5 : decode b_Compiler_translate 5 = .ok (.aload_n 0, 1) := by decide +kernel
theorem d_Compiler_translate_6 : decode b_Compiler_translate 6 = .ok (.aload_n 2, 1) := by decide +kernel
theorem d_Compiler_translate_7 : decode b_Compiler_translate 7 = .ok (.putfield 29, 3) := by decide +kernel
theorem d_Compiler_translate_10 : decode b_Compiler_translate 10 = .ok (.aload_n 0, 1) := by decide +kernel
theorem d_Compiler_translate_11 : decode b_Compiler_translate 11 = .ok (.invokevirtual 37, 3) := by decide +kernel
theorem d_Compiler_translate_14 : decode b_Compiler_translate 14 = .ok (.iconst 0, 1) := by decide +kernel
theorem d_Compiler_translate_15 : decode b_Compiler_translate 15 = .ok (.istore_n 3, 1) := by decide +kernel
theorem d_Compiler_translate_16 : decode b_Compiler_translate 16 = .ok (.iconst 0, 1) := by decide +kernel
theorem d_Compiler_translate_17 : decode b_Compiler_translate 17 = .ok (.istore 4, 2) := by decide +kernel
theorem d_Compiler_translate_19 : decode b_Compiler_translate 19 = .ok (.iload 4, 2) := by decide +kernel
theorem d_Compiler_translate_21 : decode b_Compiler_translate 21 = .ok (.aload_n 0, 1) := by decide +kernel
theorem d_Compiler_translate_22 : decode b_Compiler_translate 22 = .ok (.getfield 25, 3) := by decide +kernel
theorem d_Compiler_translate_25 : decode b_Compiler_translate 25 = .ok (.invokevirtual 40, 3) := by decide +kernel
theorem d_Compiler_translate_28 : decode b_Compiler_translate 28 = .ok (.if_icmp .gt 42, 3) := by decide +kernel
theorem d_Compiler_translate_31 : decode b_Compiler_translate 31 = .ok (.aload_n 0, 1) := by decide +kernel
theorem d_Compiler_translate_32 : decode b_Compiler_translate 32 = .ok (.getfield 46, 3) := by decide +kernel
theorem d_Compiler_translate_35 : decode b_Compiler_translate 35 = .ok (.ifCond .ne 35, 3) := by decide +kernel
theorem d_Compiler_translate_38 : decode b_Compiler_translate 38 = .ok (.aload_n 0, 1) := by decide +kernel
theorem d_Compiler_translate_39 : decode b_Compiler_translate 39 = .ok (.iload 4, 2) := by decide +kernel
theorem d_Compiler_translate_41 : decode b_Compiler_translate 41 = .ok (.invokevirtual 49, 3) := by decide +kernel
theorem d_Compiler_translate_44 : decode b_Compiler_translate 44 = .ok (.istore_n 3, 1) := by decide +kernel
theorem d_Compiler_translate_45 : decode b_Compiler_translate 45 = .ok (.aload_n 0, 1) := by decide +kernel
theorem d_Compiler_translate_46 : decode b_Compiler_translate 46 = .ok (.iload 4, 2) := by decide +kernel
theorem d_Compiler_translate_48 : decode b_Compiler_translate 48 = .ok (.iload_n 3, 1) := by decide +kernel
theorem d_Compiler_translate_49 : decode b_Compiler_translate 49 = .ok (.invokevirtual 53, 3) := by decide +kernel
theorem d_Compiler_translate_52 : decode b_Compiler_translate 52 = .ok (.aload_n 0, 1) := by decide +kernel
theorem d_Compiler_translate_53 : decode b_Compiler_translate 53 = .ok (.dup, 1) := by decide +kernel
theorem d_Compiler_translate_54 : decode b_Compiler_translate 54 = .ok (.getfield 57, 3) := by decide +kernel
theorem d_Compiler_translate_57 : decode b_Compiler_translate 57 = .ok (.iconst 1, 1) := by decide +kernel
theorem d_Compiler_translate_58 : decode b_Compiler_translate 58 = .ok (.iadd, 1) := by decide +kernel
theorem d_Compiler_translate_59 : decode b_Compiler_translate 59 = .ok (.putfield 57, 3) := by decide +kernel
theorem d_Compiler_translate_62 : decode b_Compiler_translate 62 = .ok (.iload_n 3, 1) := by decide +kernel
theorem d_Compiler_translate_63 : decode b_Compiler_translate 63 = .ok (.iconst 1, 1) := by decide +kernel
theorem d_Compiler_translate_64 : decode b_Compiler_translate 64 = .ok (.iadd, 1) := by decide +kernel
theorem d_Compiler_translate_65 : decode b_Compiler_translate 65 = .ok (.istore 4, 2) := by decide +kernel
theorem d_Compiler_translate_67 : decode b_Compiler_translate 67 = .ok (.goto (-48), 3) := by decide +kernel
theorem d_Compiler_translate_70 : decode b_Compiler_translate 70 = .ok (.aload_n 0, 1) := by decide +kernel
theorem d_Compiler_translate_71 : decode b_Compiler_translate 71 = .ok (.invokevirtual 60, 3) := by decide +kernel
theorem d_Compiler_translate_74 : decode b_Compiler_translate 74 = .ok (.aload_n 0, 1) := by decide +kernel
theorem d_Compiler_translate_75 : decode b_Compiler_translate 75 = .ok (.invokevirtual 63, 3) := by decide +kernel
theorem d_Compiler_translate_78 : decode b_Compiler_translate 78 = .ok (.aload_n 0, 1) := by decide +kernel
theorem d_Compiler_translate_79 : decode b_Compiler_translate 79 = .ok (.invokevirtual 66, 3) := by decide +kernel
theorem d_Compiler_translate_82 : decode b_Compiler_translate 82 = .ok (.aload_n 0, 1) := by decide +kernel
theorem d_Compiler_translate_83 : decode b_Compiler_translate 83 = .ok (.getfield 29, 3) := by decide +kernel
theorem d_Compiler_translate_86 : decode b_Compiler_translate 86 = .ok (.invokevirtual 69, 3) := by decide +kernel
theorem d_Compiler_translate_89 : decode b_Compiler_translate 89 = .ok (.ifCond .ne 10, 3) := by decide +kernel
theorem d_Compiler_translate_92 : decode b_Compiler_translate 92 = .ok (.aload_n 0, 1) := by decide +kernel
theorem d_Compiler_translate_93 : decode b_Compiler_translate 93 = .ok (.bipush 10, 2) := by decide +kernel
theorem d_Compiler_translate_95 : decode b_Compiler_translate 95 = .ok (.iconst 0, 1) := by decide +kernel
theorem d_Compiler_translate_96 : decode b_Compiler_translate 96 = .ok (.invokevirtual 74, 3) := by decide +kernel
theorem d_Compiler_translate_99 : decode b_Compiler_translate 99 = .ok (.aload_n 0, 1) := by decide +kernel
theorem d_Compiler_translate_100 : decode b_Compiler_translate 100 = .ok (.getfield 46, 3) := by decide +kernel
theorem d_Compiler_translate_103 : decode b_Compiler_translate 103 = .ok (.ireturn, 1) := by decide +kernel
set_option maxHeartbeats 4000000 in
set_option maxRecDepth 100000 in
theorem c_Compiler_translate (l : Launch) (dC : Nat → ClassId) (dI : Nat → Nat → Nat) (cI cL cZ : ClassId) (co : Nat) (coHa : Nat) (coH : Nat → Int32) (coNa : Nat) (coN : Nat → Int64) (coLa : Nat) (coL : Nat → Int32) (coPa : Nat) (coP : Nat → Int32) (coK : Int32) (coS : Value) (coB : Value) (coF : Int32) (coE : Int32) (coW : Int32) (coX : Int32) (coI : Bool) (coD : Bool) (coM : Bool) (sr : Nat) (srEa : Nat) (srn : Nat) (srE : Nat → Int32) (srC : Int32) (srO : Bool) (bk : Nat) (bkNa : Nat) (bkN : Nat → Int64) (bkSa : Nat) (bkS : Nat → Int32) (bkB : Nat) (bkBEa : Nat) (bkBn : Nat) (bkBE : Nat → Int32) (bkBC : Int32) (bkBO : Bool) (bkK : Nat) (bkKWa : Nat) (bkKn : Nat) (bkKW : Nat → Int64) (bkKTa : Nat) (bkKT : Nat → Int32) (bkKC : Int32) (bkV : Nat) (bkVWa : Nat) (bkVn : Nat) (bkVW : Nat → Int64) (bkVTa : Nat) (bkVT : Nat → Int32) (bkVC : Int32) (bkT : Int32) (res : Int32) (coH' : Nat → Int32) (coN' : Nat → Int64) (coL' : Nat → Int32) (coP' : Nat → Int32) (coK' : Int32) (coF' : Int32) (coE' : Int32) (coW' : Int32) (coX' : Int32) (coI' : Bool) (coD' : Bool) (coM' : Bool) (bkN' : Nat → Int64) (bkS' : Nat → Int32) (bkBE' : Nat → Int32) (bkBC' : Int32) (bkBO' : Bool) (bkKW' : Nat → Int64) (bkKT' : Nat → Int32) (bkKC' : Int32) (bkT' : Int32) (hd : D_Compiler_translate srn bkBn bkKn coH coN coL coP coK coF coE coW coX coI coD coM srE srC bkN bkS bkBE bkBC bkBO bkKW bkKT bkKC bkT res coH' coN' coL' coP' coK' coF' coE' coW' coX' coI' coD' coM' bkN' bkS' bkBE' bkBC' bkBO' bkKW' bkKT' bkKC' bkT') : Ctr l y_Compiler_translate (Cond.code y_Compiler_translate b_Compiler_translate 5 (some .int) :: ga) { frames := 5, cells := 0, slots := 0, locals := 120 } (dC, dI) classes (Tys cI cL cZ) [.ref co, .ref sr, .ref bk] ((sh_Compiler cI cL cZ co coHa coH coNa coN coLa coL coPa coP coK coS coB coF coE coW coX coI coD coM) ++ ((sh_Row cI cL cZ sr srEa srn srE srC srO) ++ ((sh_Book cI cL cZ bk bkNa bkN bkSa bkS bkB bkBEa bkBn bkBE bkBC bkBO bkK bkKWa bkKn bkKW bkKTa bkKT bkKC bkV bkVWa bkVn bkVW bkVTa bkVT bkVC bkT)))) (some (.int res)) ((sh_Compiler cI cL cZ co coHa coH' coNa coN' coLa coL' coPa coP' coK' (.ref sr) (.ref bk) coF' coE' coW' coX' coI' coD' coM') ++ ((sh_Row cI cL cZ sr srEa srn srE srC srO) ++ ((sh_Book cI cL cZ bk bkNa bkN' bkSa bkS' bkB bkBEa bkBn bkBE' bkBC' bkBO' bkK bkKWa bkKn bkKW' bkKTa bkKT' bkKC' bkV bkVWa bkVn bkVW bkVTa bkVT bkVC bkT')))) := by
  refine Ctr.ofW (by decide) (Nat.le_of_ble_eq_true rfl) ?_
  intro p e s m below meth c A ls hx hb hr hml hown hlocks hts hK hN hA hP hD hS hl
  have hown : s.vm.findClass R_Compiler = some m.cls := hown
  have hl : lv_has ls 5 [(0, .ref co), (1, .ref sr), (2, .ref bk)] := hl
  have key : ∀ n : Nat, (∀ (x4 : Int32) (coH : Nat → Int32) (coN : Nat → Int64) (coL : Nat → Int32) (coP : Nat → Int32) (coK : Int32) (coF : Int32) (coE : Int32) (coW : Int32) (coX : Int32) (coI : Bool) (coD : Bool) (coM : Bool) (bkN : Nat → Int64) (bkS : Nat → Int32) (bkBE : Nat → Int32) (bkBC : Int32) (bkBO : Bool) (bkKW : Nat → Int64) (bkKT : Nat → Int32) (bkKC : Int32) (bkT : Int32) (ls : Array Slot) (H : Heap) (locs : List Loc), lv_has ls 5 [(0, .ref co), (4, .int x4)] → va_P (dC, dI) classes ((sh_Compiler cI cL cZ co coHa coH coNa coN coLa coL coPa coP coK (.ref sr) (.ref bk) coF coE coW coX coI coD coM) ++ ((sh_Row cI cL cZ sr srEa srn srE srC srO) ++ ((sh_Book cI cL cZ bk bkNa bkN bkSa bkS bkB bkBEa bkBn bkBE bkBC bkBO bkK bkKWa bkKn bkKW bkKTa bkKT bkKC bkV bkVWa bkVn bkVW bkVTa bkVT bkVC bkT)))) H → va_D A ((sh_Compiler cI cL cZ co coHa coH coNa coN coLa coL coPa coP coK (.ref sr) (.ref bk) coF coE coW coX coI coD coM) ++ ((sh_Row cI cL cZ sr srEa srn srE srC srO) ++ ((sh_Book cI cL cZ bk bkNa bkN bkSa bkS bkB bkBEa bkBn bkBE bkBC bkBO bkK bkKWa bkKn bkKW bkKTa bkKT bkKC bkV bkVWa bkVn bkVW bkVTa bkVT bkVC bkT)))) → va_S A s.heap H locs → T_Compiler_translate srn bkBn bkKn srE srC res coH' coN' coL' coP' coK' coF' coE' coW' coX' coI' coD' coM' bkN' bkS' bkBE' bkBC' bkBO' bkKW' bkKT' bkKC' bkT' n 0 x4 coH coN coL coP coK coF coE coW coX coI coD coM bkN bkS bkBE bkBC bkBO bkKW bkKT bkKC bkT → W p l e ({ frames := 5, cells := 0, slots := 0, locals := 120 }) s m ([.ref co, .ref sr, .ref bk] : List Value).toArray below meth c H locs 0 0 (MQ below (Qs (dC, dI) classes (Tys cI cL cZ) (some (.int res)) ((sh_Compiler cI cL cZ co coHa coH' coNa coN' coLa coL' coPa coP' coK' (.ref sr) (.ref bk) coF' coE' coW' coX' coI' coD' coM') ++ ((sh_Row cI cL cZ sr srEa srn srE srC srO) ++ ((sh_Book cI cL cZ bk bkNa bkN' bkSa bkS' bkB bkBEa bkBn bkBE' bkBC' bkBO' bkK bkKWa bkKn bkKW' bkKTa bkKT' bkKC' bkV bkVWa bkVn bkVW bkVTa bkVT bkVC bkT')))) A) ([.ref co, .ref sr, .ref bk] : List Value).toArray s 0 0 A) (F0 m 19 ls [])) ∧ (∀ (coH : Nat → Int32) (coN : Nat → Int64) (coL : Nat → Int32) (coP : Nat → Int32) (coK : Int32) (coF : Int32) (coE : Int32) (coW : Int32) (coX : Int32) (coI : Bool) (coD : Bool) (coM : Bool) (bkN : Nat → Int64) (bkS : Nat → Int32) (bkBE : Nat → Int32) (bkBC : Int32) (bkBO : Bool) (bkKW : Nat → Int64) (bkKT : Nat → Int32) (bkKC : Int32) (bkT : Int32) (ls : Array Slot) (H : Heap) (locs : List Loc), lv_has ls 5 [(0, .ref co)] → va_P (dC, dI) classes ((sh_Compiler cI cL cZ co coHa coH coNa coN coLa coL coPa coP coK (.ref sr) (.ref bk) coF coE coW coX coI coD coM) ++ ((sh_Row cI cL cZ sr srEa srn srE srC srO) ++ ((sh_Book cI cL cZ bk bkNa bkN bkSa bkS bkB bkBEa bkBn bkBE bkBC bkBO bkK bkKWa bkKn bkKW bkKTa bkKT bkKC bkV bkVWa bkVn bkVW bkVTa bkVT bkVC bkT)))) H → va_D A ((sh_Compiler cI cL cZ co coHa coH coNa coN coLa coL coPa coP coK (.ref sr) (.ref bk) coF coE coW coX coI coD coM) ++ ((sh_Row cI cL cZ sr srEa srn srE srC srO) ++ ((sh_Book cI cL cZ bk bkNa bkN bkSa bkS bkB bkBEa bkBn bkBE bkBC bkBO bkK bkKWa bkKn bkKW bkKTa bkKT bkKC bkV bkVWa bkVn bkVW bkVTa bkVT bkVC bkT)))) → va_S A s.heap H locs → T_Compiler_translate srn bkBn bkKn srE srC res coH' coN' coL' coP' coK' coF' coE' coW' coX' coI' coD' coM' bkN' bkS' bkBE' bkBC' bkBO' bkKW' bkKT' bkKC' bkT' n 1 0 coH coN coL coP coK coF coE coW coX coI coD coM bkN bkS bkBE bkBC bkBO bkKW bkKT bkKC bkT → W p l e ({ frames := 5, cells := 0, slots := 0, locals := 120 }) s m ([.ref co, .ref sr, .ref bk] : List Value).toArray below meth c H locs 0 0 (MQ below (Qs (dC, dI) classes (Tys cI cL cZ) (some (.int res)) ((sh_Compiler cI cL cZ co coHa coH' coNa coN' coLa coL' coPa coP' coK' (.ref sr) (.ref bk) coF' coE' coW' coX' coI' coD' coM') ++ ((sh_Row cI cL cZ sr srEa srn srE srC srO) ++ ((sh_Book cI cL cZ bk bkNa bkN' bkSa bkS' bkB bkBEa bkBn bkBE' bkBC' bkBO' bkK bkKWa bkKn bkKW' bkKTa bkKT' bkKC' bkV bkVWa bkVn bkVW bkVTa bkVT bkVC bkT')))) A) ([.ref co, .ref sr, .ref bk] : List Value).toArray s 0 0 A) (F0 m 70 ls [])) := by
    intro n
    induction n with
    | zero =>
      exact ⟨fun _ _ _ _ _ _ _ _ _ _ _ _ _ _ _ _ _ _ _ _ _ _ _ _ _ _ _ _ _ hd => False.elim hd, fun _ _ _ _ _ _ _ _ _ _ _ _ _ _ _ _ _ _ _ _ _ _ _ _ _ _ _ _ hd => False.elim hd⟩
    | succ n ih =>
      refine ⟨?_, ?_⟩
      · intro x4 coH coN coL coP coK coF coE coW coX coI coD coM bkN bkS bkBE bkBC bkBO bkKW bkKT bkKC bkT ls H locs hl hP hD hS hd
        have hd : B_Compiler_translate_19 srn bkBn bkKn srE srC res coH' coN' coL' coP' coK' coF' coE' coW' coX' coI' coD' coM' bkN' bkS' bkBE' bkBC' bkBO' bkKW' bkKT' bkKC' bkT' (T_Compiler_translate srn bkBn bkKn srE srC res coH' coN' coL' coP' coK' coF' coE' coW' coX' coI' coD' coM' bkN' bkS' bkBE' bkBC' bkBO' bkKW' bkKT' bkKC' bkT' n) x4 coH coN coL coP coK coF coE coW coX coI coD coM bkN bkS bkBE bkBC bkBO bkKW bkKT bkKC bkT := hd
        refine lv_iload hx hb d_Compiler_translate_19 (lv_at hl 1 rfl) ?_
        refine lv_aload_n hx hb d_Compiler_translate_21 rfl (lv_at hl 0 rfl) ?_
        refine va_get (D := (dC, dI)) (ci := 4) (v := .ref sr) (C := R_Compiler) (T := F_Compiler) (N := 14) hx hb hts in_Compiler hown hK hP 0 rfl rfl 5 (by decide) (hts _ (List.mem_cons_of_mem _ k120_fieldLink)) (fun _ h9 => h9) rfl d_Compiler_translate_22 ?_
        refine ct_VR (As := []) (rest := [.int x4]) (C := R_Row) (ci := 1) (q := (R_Row, F_Row, 3)) ⟨hx, hb, hml, hown, hts⟩ fm_Row_count (c_Row_count l dC dI cI cL cZ sr srEa srn srE srC srO srC rfl) k121_methodLink k67_instanceMethod k68_selects ⟨Nat.le_of_ble_eq_true rfl, Nat.le_of_ble_eq_true rfl⟩ rfl rfl hK hN hP hD [5, 6] rfl rfl (by decide) 5 rfl rfl rfl rfl hl.1 rfl (Nat.le_of_ble_eq_true rfl) d_Compiler_translate_25 ?_
        refine lv_icmp_gt (tgt := 70) hx hb d_Compiler_translate_28 (by decide) (fun h28 => ?_) (fun h28 => ?_)
        · have hd := hd.1 h28
          exact ih.2 coH coN coL coP coK coF coE coW coX coI coD coM bkN bkS bkBE bkBC bkBO bkKW bkKT bkKC bkT _ _ _ (lv_sub hl [0] rfl) hP hD hS hd
        · have hd := hd.2 h28
          refine lv_aload_n hx hb d_Compiler_translate_31 rfl (lv_at hl 0 rfl) ?_
          refine va_get (D := (dC, dI)) (ci := 4) (v := .int coF) (C := R_Compiler) (T := F_Compiler) (N := 14) hx hb hts in_Compiler hown hK hP 0 rfl rfl 7 (by decide) (hts _ (List.mem_cons_of_mem _ k109_fieldLink)) (fun _ h9 => h9) rfl d_Compiler_translate_32 ?_
          refine lv_if_ne (tgt := 70) hx hb d_Compiler_translate_35 (by decide) (fun h35 => ?_) (fun h35 => ?_)
          · have hd := hd.2 h35
            exact ih.2 coH coN coL coP coK coF coE coW coX coI coD coM bkN bkS bkBE bkBC bkBO bkKW bkKT bkKC bkT _ _ _ (lv_sub hl [0] rfl) hP hD hS hd
          · have hd := hd.1 h35
            refine lv_aload_n hx hb d_Compiler_translate_38 rfl (lv_at hl 0 rfl) ?_
            refine lv_iload hx hb d_Compiler_translate_39 (lv_at hl 1 rfl) ?_
            obtain ⟨r41, c41, hd⟩ := hd
            refine ct_VR (As := [.int x4]) (rest := []) (C := R_Compiler) (ci := 4) (q := (R_Compiler, F_Compiler, 14)) ⟨hx, hb, hml, hown, hts⟩ fm_Compiler_lineEnd (c_Compiler_lineEnd l dC dI cI cL cZ co coHa coH coNa coN coLa coL coPa coP coK (.ref bk) coF coE coW coX coI coD coM sr srEa srn srE srC srO x4 r41 c41) k179_methodLink k180_instanceMethod k181_selects ⟨Nat.le_of_ble_eq_true rfl, Nat.le_of_ble_eq_true rfl⟩ rfl rfl hK hN hP hD [0, 1, 2, 3, 4, 5, 6] rfl rfl (by decide) 0 rfl rfl rfl rfl hl.1 rfl (Nat.le_of_ble_eq_true rfl) d_Compiler_translate_41 ?_
            refine lv_istore_n (lv' := [(3, .int r41), (0, .ref co), (4, .int x4)]) hx hb d_Compiler_translate_44 rfl hl (by decide) rfl (fun ls hl => ?_)
            refine lv_aload_n hx hb d_Compiler_translate_45 rfl (lv_at hl 1 rfl) ?_
            refine lv_iload hx hb d_Compiler_translate_46 (lv_at hl 2 rfl) ?_
            refine lv_iload_n hx hb d_Compiler_translate_48 rfl (lv_at hl 0 rfl) ?_
            obtain ⟨coH_49, coN_49, coL_49, coP_49, coK_49, coF_49, coE_49, coX_49, coI_49, coD_49, coM_49, bkN_49, bkS_49, bkBE_49, bkBC_49, bkBO_49, bkKW_49, bkKT_49, bkKC_49, bkT_49, c49, hd⟩ := hd
            refine ct_V (As := [.int x4, .int r41]) (rest := []) (C := R_Compiler) (ci := 4) (q := (R_Compiler, F_Compiler, 14)) ⟨hx, hb, hml, hown, hts⟩ fm_Compiler_readLine (c_Compiler_readLine l dC dI cI cL cZ co coHa coH coNa coN coLa coL coPa coP coK coF coE coW coX coI coD coM sr srEa srn srE srC srO bk bkNa bkN bkSa bkS bkB bkBEa bkBn bkBE bkBC bkBO bkK bkKWa bkKn bkKW bkKTa bkKT bkKC bkV bkVWa bkVn bkVW bkVTa bkVT bkVC bkT x4 r41 coH_49 coN_49 coL_49 coP_49 coK_49 coF_49 coE_49 coX_49 coI_49 coD_49 coM_49 bkN_49 bkS_49 bkBE_49 bkBC_49 bkBO_49 bkKW_49 bkKT_49 bkKC_49 bkT_49 c49) k182_methodLink k183_instanceMethod k184_selects ⟨Nat.le_of_ble_eq_true rfl, Nat.le_of_ble_eq_true rfl⟩ rfl rfl hK hN hP hD hS hA [0, 1, 2, 3, 4, 5, 6, 7, 8, 9, 10, 11, 12, 13, 14, 15, 16, 17] [] rfl rfl rfl (by decide) (by decide) (by decide) 0 rfl rfl rfl rfl hl.1 rfl (Nat.le_of_ble_eq_true rfl) d_Compiler_translate_49 (fun H locs hP hD hS => ?_)
            have hP : va_P (dC, dI) classes ((sh_Compiler cI cL cZ co coHa coH_49 coNa coN_49 coLa coL_49 coPa coP_49 coK_49 (.ref sr) (.ref bk) coF_49 coE_49 coW coX_49 coI_49 coD_49 coM_49) ++ ((sh_Row cI cL cZ sr srEa srn srE srC srO) ++ ((sh_Book cI cL cZ bk bkNa bkN_49 bkSa bkS_49 bkB bkBEa bkBn bkBE_49 bkBC_49 bkBO_49 bkK bkKWa bkKn bkKW_49 bkKTa bkKT_49 bkKC_49 bkV bkVWa bkVn bkVW bkVTa bkVT bkVC bkT_49)))) H := hP.sub [0, 1, 2, 3, 4, 5, 6, 7, 8, 9, 10, 11, 12, 13, 14, 15, 16, 17] rfl
            have hD : va_D A ((sh_Compiler cI cL cZ co coHa coH_49 coNa coN_49 coLa coL_49 coPa coP_49 coK_49 (.ref sr) (.ref bk) coF_49 coE_49 coW coX_49 coI_49 coD_49 coM_49) ++ ((sh_Row cI cL cZ sr srEa srn srE srC srO) ++ ((sh_Book cI cL cZ bk bkNa bkN_49 bkSa bkS_49 bkB bkBEa bkBn bkBE_49 bkBC_49 bkBO_49 bkK bkKWa bkKn bkKW_49 bkKTa bkKT_49 bkKC_49 bkV bkVWa bkVn bkVW bkVTa bkVT bkVC bkT_49)))) := hD.sub [0, 1, 2, 3, 4, 5, 6, 7, 8, 9, 10, 11, 12, 13, 14, 15, 16, 17] (by decide) rfl
            refine lv_aload_n hx hb d_Compiler_translate_52 rfl (lv_at hl 1 rfl) ?_
            refine lv_dup hx hb d_Compiler_translate_53 rfl ?_
            refine va_get (D := (dC, dI)) (ci := 4) (v := .int coW) (C := R_Compiler) (T := F_Compiler) (N := 14) hx hb hts in_Compiler hown hK hP 0 rfl rfl 9 (by decide) (hts _ (List.mem_cons_of_mem _ k115_fieldLink)) (fun _ h9 => h9) rfl d_Compiler_translate_54 ?_
            refine lv_iconst (v := 1) hx hb d_Compiler_translate_57 (by decide) ?_
            refine lv_iadd hx hb d_Compiler_translate_58 ?_
            refine va_put (D := (dC, dI)) (ci := 4) (v := .int (coW + 1)) (ty := t_Compiler 9) (C := R_Compiler) (T := F_Compiler) (N := 14) hx hb hts in_Compiler t_Compiler t_Compiler_ok n_Compiler hown hK hP hD hS 0 rfl rfl 9 (by decide) (hts _ (List.mem_cons_of_mem _ k115_fieldLink)) (fun _ h9 => h9) rfl (t_Compiler_ok 9 (by decide)) rfl rfl (Nat.le_of_ble_eq_true rfl) d_Compiler_translate_59 (fun H locs hP hD hS => ?_)
            have hP : va_P (dC, dI) classes ((sh_Compiler cI cL cZ co coHa coH_49 coNa coN_49 coLa coL_49 coPa coP_49 coK_49 (.ref sr) (.ref bk) coF_49 coE_49 (coW + 1) coX_49 coI_49 coD_49 coM_49) ++ ((sh_Row cI cL cZ sr srEa srn srE srC srO) ++ ((sh_Book cI cL cZ bk bkNa bkN_49 bkSa bkS_49 bkB bkBEa bkBn bkBE_49 bkBC_49 bkBO_49 bkK bkKWa bkKn bkKW_49 bkKTa bkKT_49 bkKC_49 bkV bkVWa bkVn bkVW bkVTa bkVT bkVC bkT_49)))) H := hP
            have hD : va_D A ((sh_Compiler cI cL cZ co coHa coH_49 coNa coN_49 coLa coL_49 coPa coP_49 coK_49 (.ref sr) (.ref bk) coF_49 coE_49 (coW + 1) coX_49 coI_49 coD_49 coM_49) ++ ((sh_Row cI cL cZ sr srEa srn srE srC srO) ++ ((sh_Book cI cL cZ bk bkNa bkN_49 bkSa bkS_49 bkB bkBEa bkBn bkBE_49 bkBC_49 bkBO_49 bkK bkKWa bkKn bkKW_49 bkKTa bkKT_49 bkKC_49 bkV bkVWa bkVn bkVW bkVTa bkVT bkVC bkT_49)))) := hD
            refine lv_iload_n hx hb d_Compiler_translate_62 rfl (lv_at hl 0 rfl) ?_
            refine lv_iconst (v := 1) hx hb d_Compiler_translate_63 (by decide) ?_
            refine lv_iadd hx hb d_Compiler_translate_64 ?_
            refine lv_istore (lv' := [(4, .int (r41 + 1)), (3, .int r41), (0, .ref co)]) hx hb d_Compiler_translate_65 hl (by decide) rfl (fun ls hl => ?_)
            refine lv_goto (tgt := 19) hx hb d_Compiler_translate_67 (by decide) ?_
            exact ih.1 (r41 + 1) coH_49 coN_49 coL_49 coP_49 coK_49 coF_49 coE_49 (coW + 1) coX_49 coI_49 coD_49 coM_49 bkN_49 bkS_49 bkBE_49 bkBC_49 bkBO_49 bkKW_49 bkKT_49 bkKC_49 bkT_49 _ _ _ (lv_sub hl [2, 0] rfl) hP hD hS hd
      · intro coH coN coL coP coK coF coE coW coX coI coD coM bkN bkS bkBE bkBC bkBO bkKW bkKT bkKC bkT ls H locs hl hP hD hS hd
        have hd : B_Compiler_translate_70 srn bkBn bkKn srE srC res coH' coN' coL' coP' coK' coF' coE' coW' coX' coI' coD' coM' bkN' bkS' bkBE' bkBC' bkBO' bkKW' bkKT' bkKC' bkT' (T_Compiler_translate srn bkBn bkKn srE srC res coH' coN' coL' coP' coK' coF' coE' coW' coX' coI' coD' coM' bkN' bkS' bkBE' bkBC' bkBO' bkKW' bkKT' bkKC' bkT' n) coH coN coL coP coK coF coE coW coX coI coD coM bkN bkS bkBE bkBC bkBO bkKW bkKT bkKC bkT := hd
        refine lv_aload_n hx hb d_Compiler_translate_70 rfl (lv_at hl 0 rfl) ?_
        obtain ⟨coF_71, coE_71, coI_71, coM_71, bkS_71, bkBE_71, bkBC_71, bkBO_71, c71, hd⟩ := hd
        refine ct_V (As := []) (rest := []) (C := R_Compiler) (ci := 4) (q := (R_Compiler, F_Compiler, 14)) ⟨hx, hb, hml, hown, hts⟩ fm_Compiler_closeParagraph (c_Compiler_closeParagraph l dC dI cI cL cZ co coHa coH coNa coN coLa coL coPa coP coK (.ref sr) coF coE coW coX coI coD coM bk bkNa bkN bkSa bkS bkB bkBEa bkBn bkBE bkBC bkBO bkK bkKWa bkKn bkKW bkKTa bkKT bkKC bkV bkVWa bkVn bkVW bkVTa bkVT bkVC bkT coF_71 coE_71 coI_71 coM_71 bkS_71 bkBE_71 bkBC_71 bkBO_71 c71) k165_methodLink k166_instanceMethod k167_selects ⟨Nat.le_of_ble_eq_true rfl, Nat.le_of_ble_eq_true rfl⟩ rfl rfl hK hN hP hD hS hA [0, 1, 2, 3, 4, 7, 8, 9, 10, 11, 12, 13, 14, 15, 16, 17] [5, 6] rfl rfl rfl (by decide) (by decide) (by decide) 0 rfl rfl rfl rfl hl.1 rfl (Nat.le_of_ble_eq_true rfl) d_Compiler_translate_71 (fun H locs hP hD hS => ?_)
        have hP : va_P (dC, dI) classes ((sh_Compiler cI cL cZ co coHa coH coNa coN coLa coL coPa coP coK (.ref sr) (.ref bk) coF_71 coE_71 coW coX coI_71 coD coM_71) ++ ((sh_Row cI cL cZ sr srEa srn srE srC srO) ++ ((sh_Book cI cL cZ bk bkNa bkN bkSa bkS_71 bkB bkBEa bkBn bkBE_71 bkBC_71 bkBO_71 bkK bkKWa bkKn bkKW bkKTa bkKT bkKC bkV bkVWa bkVn bkVW bkVTa bkVT bkVC bkT)))) H := hP.sub [2, 3, 4, 5, 6, 0, 1, 7, 8, 9, 10, 11, 12, 13, 14, 15, 16, 17] rfl
        have hD : va_D A ((sh_Compiler cI cL cZ co coHa coH coNa coN coLa coL coPa coP coK (.ref sr) (.ref bk) coF_71 coE_71 coW coX coI_71 coD coM_71) ++ ((sh_Row cI cL cZ sr srEa srn srE srC srO) ++ ((sh_Book cI cL cZ bk bkNa bkN bkSa bkS_71 bkB bkBEa bkBn bkBE_71 bkBC_71 bkBO_71 bkK bkKWa bkKn bkKW bkKTa bkKT bkKC bkV bkVWa bkVn bkVW bkVTa bkVT bkVC bkT)))) := hD.sub [2, 3, 4, 5, 6, 0, 1, 7, 8, 9, 10, 11, 12, 13, 14, 15, 16, 17] (by decide) rfl
        refine lv_aload_n hx hb d_Compiler_translate_74 rfl (lv_at hl 0 rfl) ?_
        obtain ⟨coF_75, coE_75, bkBE_75, c75, hd⟩ := hd
        refine ct_V (As := []) (rest := []) (C := R_Compiler) (ci := 4) (q := (R_Compiler, F_Compiler, 14)) ⟨hx, hb, hml, hown, hts⟩ fm_Compiler_resolveLinks (c_Compiler_resolveLinks l dC dI cI cL cZ co coHa coH coNa coN coLa coL coPa coP coK (.ref sr) coF_71 coE_71 coW coX coI_71 coD coM_71 bk bkNa bkN bkSa bkS_71 bkB bkBEa bkBn bkBE_71 bkBC_71 bkBO_71 bkK bkKWa bkKn bkKW bkKTa bkKT bkKC bkV bkVWa bkVn bkVW bkVTa bkVT bkVC bkT coF_75 coE_75 bkBE_75 c75) k185_methodLink k186_instanceMethod k187_selects ⟨Nat.le_of_ble_eq_true rfl, Nat.le_of_ble_eq_true rfl⟩ rfl rfl hK hN hP hD hS hA [0, 1, 2, 3, 4, 7, 8, 9, 10, 11, 12, 13, 14, 15, 16, 17] [5, 6] rfl rfl rfl (by decide) (by decide) (by decide) 0 rfl rfl rfl rfl hl.1 rfl (Nat.le_of_ble_eq_true rfl) d_Compiler_translate_75 (fun H locs hP hD hS => ?_)
        have hP : va_P (dC, dI) classes ((sh_Compiler cI cL cZ co coHa coH coNa coN coLa coL coPa coP coK (.ref sr) (.ref bk) coF_75 coE_75 coW coX coI_71 coD coM_71) ++ ((sh_Row cI cL cZ sr srEa srn srE srC srO) ++ ((sh_Book cI cL cZ bk bkNa bkN bkSa bkS_71 bkB bkBEa bkBn bkBE_75 bkBC_71 bkBO_71 bkK bkKWa bkKn bkKW bkKTa bkKT bkKC bkV bkVWa bkVn bkVW bkVTa bkVT bkVC bkT)))) H := hP.sub [2, 3, 4, 5, 6, 0, 1, 7, 8, 9, 10, 11, 12, 13, 14, 15, 16, 17] rfl
        have hD : va_D A ((sh_Compiler cI cL cZ co coHa coH coNa coN coLa coL coPa coP coK (.ref sr) (.ref bk) coF_75 coE_75 coW coX coI_71 coD coM_71) ++ ((sh_Row cI cL cZ sr srEa srn srE srC srO) ++ ((sh_Book cI cL cZ bk bkNa bkN bkSa bkS_71 bkB bkBEa bkBn bkBE_75 bkBC_71 bkBO_71 bkK bkKWa bkKn bkKW bkKTa bkKT bkKC bkV bkVWa bkVn bkVW bkVTa bkVT bkVC bkT)))) := hD.sub [2, 3, 4, 5, 6, 0, 1, 7, 8, 9, 10, 11, 12, 13, 14, 15, 16, 17] (by decide) rfl
        refine lv_aload_n hx hb d_Compiler_translate_78 rfl (lv_at hl 0 rfl) ?_
        obtain ⟨coF_79, coE_79, c79, hd⟩ := hd
        refine ct_V (As := []) (rest := []) (C := R_Compiler) (ci := 4) (q := (R_Compiler, F_Compiler, 14)) ⟨hx, hb, hml, hown, hts⟩ fm_Compiler_checkBodies (c_Compiler_checkBodies l dC dI cI cL cZ co coHa coH coNa coN coLa coL coPa coP coK (.ref sr) coF_75 coE_75 coW coX coI_71 coD coM_71 bk bkNa bkN bkSa bkS_71 bkB bkBEa bkBn bkBE_75 bkBC_71 bkBO_71 bkK bkKWa bkKn bkKW bkKTa bkKT bkKC bkV bkVWa bkVn bkVW bkVTa bkVT bkVC bkT coF_79 coE_79 c79) k188_methodLink k189_instanceMethod k190_selects ⟨Nat.le_of_ble_eq_true rfl, Nat.le_of_ble_eq_true rfl⟩ rfl rfl hK hN hP hD hS hA [0, 1, 2, 3, 4, 7, 8, 9, 10, 11, 12, 13, 14, 15, 16, 17] [5, 6] rfl rfl rfl (by decide) (by decide) (by decide) 0 rfl rfl rfl rfl hl.1 rfl (Nat.le_of_ble_eq_true rfl) d_Compiler_translate_79 (fun H locs hP hD hS => ?_)
        have hP : va_P (dC, dI) classes ((sh_Compiler cI cL cZ co coHa coH coNa coN coLa coL coPa coP coK (.ref sr) (.ref bk) coF_79 coE_79 coW coX coI_71 coD coM_71) ++ ((sh_Row cI cL cZ sr srEa srn srE srC srO) ++ ((sh_Book cI cL cZ bk bkNa bkN bkSa bkS_71 bkB bkBEa bkBn bkBE_75 bkBC_71 bkBO_71 bkK bkKWa bkKn bkKW bkKTa bkKT bkKC bkV bkVWa bkVn bkVW bkVTa bkVT bkVC bkT)))) H := hP.sub [2, 3, 4, 5, 6, 0, 1, 7, 8, 9, 10, 11, 12, 13, 14, 15, 16, 17] rfl
        have hD : va_D A ((sh_Compiler cI cL cZ co coHa coH coNa coN coLa coL coPa coP coK (.ref sr) (.ref bk) coF_79 coE_79 coW coX coI_71 coD coM_71) ++ ((sh_Row cI cL cZ sr srEa srn srE srC srO) ++ ((sh_Book cI cL cZ bk bkNa bkN bkSa bkS_71 bkB bkBEa bkBn bkBE_75 bkBC_71 bkBO_71 bkK bkKWa bkKn bkKW bkKTa bkKT bkKC bkV bkVWa bkVn bkVW bkVTa bkVT bkVC bkT)))) := hD.sub [2, 3, 4, 5, 6, 0, 1, 7, 8, 9, 10, 11, 12, 13, 14, 15, 16, 17] (by decide) rfl
        refine lv_aload_n hx hb d_Compiler_translate_82 rfl (lv_at hl 0 rfl) ?_
        refine va_get (D := (dC, dI)) (ci := 4) (v := .ref bk) (C := R_Compiler) (T := F_Compiler) (N := 14) hx hb hts in_Compiler hown hK hP 0 rfl rfl 6 (by decide) (hts _ (List.mem_cons_of_mem _ k110_fieldLink)) (fun _ h9 => h9) rfl d_Compiler_translate_83 ?_
        refine ct_VR (As := []) (rest := []) (C := R_Book) (ci := 3) (q := (R_Book, F_Book, 6)) ⟨hx, hb, hml, hown, hts⟩ fm_Book_topics (c_Book_topics l dC dI cI cL cZ bk bkNa bkN bkSa bkS_71 bkB bkBEa bkBn bkBE_75 bkBC_71 bkBO_71 bkK bkKWa bkKn bkKW bkKTa bkKT bkKC bkV bkVWa bkVn bkVW bkVTa bkVT bkVC bkT bkT rfl) k127_methodLink k128_instanceMethod k129_selects ⟨Nat.le_of_ble_eq_true rfl, Nat.le_of_ble_eq_true rfl⟩ rfl rfl hK hN hP hD [7, 8, 9, 10, 11, 12, 13, 14, 15, 16, 17] rfl rfl (by decide) 7 rfl rfl rfl rfl hl.1 rfl (Nat.le_of_ble_eq_true rfl) d_Compiler_translate_86 ?_
        refine lv_if_ne (tgt := 99) hx hb d_Compiler_translate_89 (by decide) (fun h89 => ?_) (fun h89 => ?_)
        · have hd := hd.2 h89
          refine lv_aload_n hx hb d_Compiler_translate_99 rfl (lv_at hl 0 rfl) ?_
          refine va_get (D := (dC, dI)) (ci := 4) (v := .int coF_79) (C := R_Compiler) (T := F_Compiler) (N := 14) hx hb hts in_Compiler hown hK hP 0 rfl rfl 7 (by decide) (hts _ (List.mem_cons_of_mem _ k109_fieldLink)) (fun _ h9 => h9) rfl d_Compiler_translate_100 ?_
          obtain ⟨e0, e1, e2, e3, e4, e5, e6, e7, e8, e9, e10, e11, e12, e13, e14, e15, e16, e17, e18, e19, e20, e21⟩ := hd
          subst e0
          subst e1
          subst e2
          subst e3
          subst e4
          subst e5
          subst e6
          subst e7
          subst e8
          subst e9
          subst e10
          subst e11
          subst e12
          subst e13
          subst e14
          subst e15
          subst e16
          subst e17
          subst e18
          subst e19
          subst e20
          subst e21
          exact ct_iret hx hb hr hlocks hK hP hD hS d_Compiler_translate_103
        · have hd := hd.1 h89
          refine lv_aload_n hx hb d_Compiler_translate_92 rfl (lv_at hl 0 rfl) ?_
          refine lv_bipush (v := 10) hx hb d_Compiler_translate_93 (by decide) ?_
          refine lv_iconst (v := 0) hx hb d_Compiler_translate_95 (by decide) ?_
          obtain ⟨coF_96, coE_96, c96, hd⟩ := hd
          refine ct_V (As := [.int 10, .int 0]) (rest := []) (C := R_Compiler) (ci := 4) (q := (R_Compiler, F_Compiler, 14)) ⟨hx, hb, hml, hown, hts⟩ fm_Compiler_blame (c_Compiler_blame l dC dI cI cL cZ co coHa coH coNa coN coLa coL coPa coP coK (.ref sr) (.ref bk) coF_79 coE_79 coW coX coI_71 coD coM_71 10 0 coF_96 coE_96 c96) k134_methodLink k135_instanceMethod k136_selects ⟨Nat.le_of_ble_eq_true rfl, Nat.le_of_ble_eq_true rfl⟩ rfl rfl hK hN hP hD hS hA [0, 1, 2, 3, 4] [5, 6, 7, 8, 9, 10, 11, 12, 13, 14, 15, 16, 17] rfl rfl rfl (by decide) (by decide) (by decide) 0 rfl rfl rfl rfl hl.1 rfl (Nat.le_of_ble_eq_true rfl) d_Compiler_translate_96 (fun H locs hP hD hS => ?_)
          have hP : va_P (dC, dI) classes ((sh_Compiler cI cL cZ co coHa coH coNa coN coLa coL coPa coP coK (.ref sr) (.ref bk) coF_96 coE_96 coW coX coI_71 coD coM_71) ++ ((sh_Row cI cL cZ sr srEa srn srE srC srO) ++ ((sh_Book cI cL cZ bk bkNa bkN bkSa bkS_71 bkB bkBEa bkBn bkBE_75 bkBC_71 bkBO_71 bkK bkKWa bkKn bkKW bkKTa bkKT bkKC bkV bkVWa bkVn bkVW bkVTa bkVT bkVC bkT)))) H := hP.sub [13, 14, 15, 16, 17, 0, 1, 2, 3, 4, 5, 6, 7, 8, 9, 10, 11, 12] rfl
          have hD : va_D A ((sh_Compiler cI cL cZ co coHa coH coNa coN coLa coL coPa coP coK (.ref sr) (.ref bk) coF_96 coE_96 coW coX coI_71 coD coM_71) ++ ((sh_Row cI cL cZ sr srEa srn srE srC srO) ++ ((sh_Book cI cL cZ bk bkNa bkN bkSa bkS_71 bkB bkBEa bkBn bkBE_75 bkBC_71 bkBO_71 bkK bkKWa bkKn bkKW bkKTa bkKT bkKC bkV bkVWa bkVn bkVW bkVTa bkVT bkVC bkT)))) := hD.sub [13, 14, 15, 16, 17, 0, 1, 2, 3, 4, 5, 6, 7, 8, 9, 10, 11, 12] (by decide) rfl
          refine lv_aload_n hx hb d_Compiler_translate_99 rfl (lv_at hl 0 rfl) ?_
          refine va_get (D := (dC, dI)) (ci := 4) (v := .int coF_96) (C := R_Compiler) (T := F_Compiler) (N := 14) hx hb hts in_Compiler hown hK hP 0 rfl rfl 7 (by decide) (hts _ (List.mem_cons_of_mem _ k109_fieldLink)) (fun _ h9 => h9) rfl d_Compiler_translate_100 ?_
          obtain ⟨e0, e1, e2, e3, e4, e5, e6, e7, e8, e9, e10, e11, e12, e13, e14, e15, e16, e17, e18, e19, e20, e21⟩ := hd
          subst e0
          subst e1
          subst e2
          subst e3
          subst e4
          subst e5
          subst e6
          subst e7
          subst e8
          subst e9
          subst e10
          subst e11
          subst e12
          subst e13
          subst e14
          subst e15
          subst e16
          subst e17
          subst e18
          subst e19
          subst e20
          subst e21
          exact ct_iret hx hb hr hlocks hK hP hD hS d_Compiler_translate_103
  obtain ⟨n, hd⟩ := hd
  refine lv_aload_n hx hb d_Compiler_translate_0 rfl (lv_at hl 0 rfl) ?_
  refine lv_aload_n hx hb d_Compiler_translate_1 rfl (lv_at hl 1 rfl) ?_
  refine va_put (D := (dC, dI)) (ci := 4) (v := .ref sr) (ty := t_Compiler 5) (C := R_Compiler) (T := F_Compiler) (N := 14) hx hb hts in_Compiler t_Compiler t_Compiler_ok n_Compiler hown hK hP hD hS 0 rfl rfl 5 (by decide) (hts _ (List.mem_cons_of_mem _ k120_fieldLink)) (fun _ h9 => h9) rfl (t_Compiler_ok 5 (by decide)) rfl rfl (Nat.le_of_ble_eq_true rfl) d_Compiler_translate_2 (fun H locs hP hD hS => ?_)
  have hP : va_P (dC, dI) classes ((sh_Compiler cI cL cZ co coHa coH coNa coN coLa coL coPa coP coK (.ref sr) coB coF coE coW coX coI coD coM) ++ ((sh_Row cI cL cZ sr srEa srn srE srC srO) ++ ((sh_Book cI cL cZ bk bkNa bkN bkSa bkS bkB bkBEa bkBn bkBE bkBC bkBO bkK bkKWa bkKn bkKW bkKTa bkKT bkKC bkV bkVWa bkVn bkVW bkVTa bkVT bkVC bkT)))) H := hP
  have hD : va_D A ((sh_Compiler cI cL cZ co coHa coH coNa coN coLa coL coPa coP coK (.ref sr) coB coF coE coW coX coI coD coM) ++ ((sh_Row cI cL cZ sr srEa srn srE srC srO) ++ ((sh_Book cI cL cZ bk bkNa bkN bkSa bkS bkB bkBEa bkBn bkBE bkBC bkBO bkK bkKWa bkKn bkKW bkKTa bkKT bkKC bkV bkVWa bkVn bkVW bkVTa bkVT bkVC bkT)))) := hD
  refine lv_aload_n hx hb d_Compiler_translate_5 rfl (lv_at hl 0 rfl) ?_
  refine lv_aload_n hx hb d_Compiler_translate_6 rfl (lv_at hl 2 rfl) ?_
  refine va_put (D := (dC, dI)) (ci := 4) (v := .ref bk) (ty := t_Compiler 6) (C := R_Compiler) (T := F_Compiler) (N := 14) hx hb hts in_Compiler t_Compiler t_Compiler_ok n_Compiler hown hK hP hD hS 0 rfl rfl 6 (by decide) (hts _ (List.mem_cons_of_mem _ k110_fieldLink)) (fun _ h9 => h9) rfl (t_Compiler_ok 6 (by decide)) rfl rfl (Nat.le_of_ble_eq_true rfl) d_Compiler_translate_7 (fun H locs hP hD hS => ?_)
  have hP : va_P (dC, dI) classes ((sh_Compiler cI cL cZ co coHa coH coNa coN coLa coL coPa coP coK (.ref sr) (.ref bk) coF coE coW coX coI coD coM) ++ ((sh_Row cI cL cZ sr srEa srn srE srC srO) ++ ((sh_Book cI cL cZ bk bkNa bkN bkSa bkS bkB bkBEa bkBn bkBE bkBC bkBO bkK bkKWa bkKn bkKW bkKTa bkKT bkKC bkV bkVWa bkVn bkVW bkVTa bkVT bkVC bkT)))) H := hP
  have hD : va_D A ((sh_Compiler cI cL cZ co coHa coH coNa coN coLa coL coPa coP coK (.ref sr) (.ref bk) coF coE coW coX coI coD coM) ++ ((sh_Row cI cL cZ sr srEa srn srE srC srO) ++ ((sh_Book cI cL cZ bk bkNa bkN bkSa bkS bkB bkBEa bkBn bkBE bkBC bkBO bkK bkKWa bkKn bkKW bkKTa bkKT bkKC bkV bkVWa bkVn bkVW bkVTa bkVT bkVC bkT)))) := hD
  refine lv_aload_n hx hb d_Compiler_translate_10 rfl (lv_at hl 0 rfl) ?_
  obtain ⟨coK_11, coF_11, coE_11, coW_11, coX_11, coI_11, coD_11, coM_11, bkBC_11, bkBO_11, bkKC_11, bkT_11, c11, hd⟩ := hd
  refine ct_V (As := []) (rest := []) (C := R_Compiler) (ci := 4) (q := (R_Compiler, F_Compiler, 14)) ⟨hx, hb, hml, hown, hts⟩ fm_Compiler_restart (c_Compiler_restart l dC dI cI cL cZ co coHa coH coNa coN coLa coL coPa coP coK (.ref sr) coF coE coW coX coI coD coM bk bkNa bkN bkSa bkS bkB bkBEa bkBn bkBE bkBC bkBO bkK bkKWa bkKn bkKW bkKTa bkKT bkKC bkV bkVWa bkVn bkVW bkVTa bkVT bkVC bkT coK_11 coF_11 coE_11 coW_11 coX_11 coI_11 coD_11 coM_11 bkBC_11 bkBO_11 bkKC_11 bkT_11 c11) k176_methodLink k177_instanceMethod k178_selects ⟨Nat.le_of_ble_eq_true rfl, Nat.le_of_ble_eq_true rfl⟩ rfl rfl hK hN hP hD hS hA [0, 1, 2, 3, 4, 7, 8, 9, 10, 11, 12, 13, 14, 15, 16, 17] [5, 6] rfl rfl rfl (by decide) (by decide) (by decide) 0 rfl rfl rfl rfl hl.1 rfl (Nat.le_of_ble_eq_true rfl) d_Compiler_translate_11 (fun H locs hP hD hS => ?_)
  have hP : va_P (dC, dI) classes ((sh_Compiler cI cL cZ co coHa coH coNa coN coLa coL coPa coP coK_11 (.ref sr) (.ref bk) coF_11 coE_11 coW_11 coX_11 coI_11 coD_11 coM_11) ++ ((sh_Row cI cL cZ sr srEa srn srE srC srO) ++ ((sh_Book cI cL cZ bk bkNa bkN bkSa bkS bkB bkBEa bkBn bkBE bkBC_11 bkBO_11 bkK bkKWa bkKn bkKW bkKTa bkKT bkKC_11 bkV bkVWa bkVn bkVW bkVTa bkVT bkVC bkT_11)))) H := hP.sub [2, 3, 4, 5, 6, 0, 1, 7, 8, 9, 10, 11, 12, 13, 14, 15, 16, 17] rfl
  have hD : va_D A ((sh_Compiler cI cL cZ co coHa coH coNa coN coLa coL coPa coP coK_11 (.ref sr) (.ref bk) coF_11 coE_11 coW_11 coX_11 coI_11 coD_11 coM_11) ++ ((sh_Row cI cL cZ sr srEa srn srE srC srO) ++ ((sh_Book cI cL cZ bk bkNa bkN bkSa bkS bkB bkBEa bkBn bkBE bkBC_11 bkBO_11 bkK bkKWa bkKn bkKW bkKTa bkKT bkKC_11 bkV bkVWa bkVn bkVW bkVTa bkVT bkVC bkT_11)))) := hD.sub [2, 3, 4, 5, 6, 0, 1, 7, 8, 9, 10, 11, 12, 13, 14, 15, 16, 17] (by decide) rfl
  refine lv_iconst (v := 0) hx hb d_Compiler_translate_14 (by decide) ?_
  refine lv_istore_n (lv' := [(3, .int 0), (0, .ref co), (1, .ref sr), (2, .ref bk)]) hx hb d_Compiler_translate_15 rfl hl (by decide) rfl (fun ls hl => ?_)
  refine lv_iconst (v := 0) hx hb d_Compiler_translate_16 (by decide) ?_
  refine lv_istore (lv' := [(4, .int 0), (3, .int 0), (0, .ref co), (1, .ref sr), (2, .ref bk)]) hx hb d_Compiler_translate_17 hl (by decide) rfl (fun ls hl => ?_)
  exact (key n).1 0 coH coN coL coP coK_11 coF_11 coE_11 coW_11 coX_11 coI_11 coD_11 coM_11 bkN bkS bkBE bkBC_11 bkBO_11 bkKW bkKT bkKC_11 bkT_11 _ _ _ (lv_sub hl [2, 0] rfl) hP hD hS hd
