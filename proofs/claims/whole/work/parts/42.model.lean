/-! 42.model: what each method does, read off its bytecode (D_..), and its contract (c_..); written by a program of mine. -/
-- Model.textLine
abbrev b_Model_textLine : ByteArray := prog_14_method_20_code
def y_Model_textLine : MethodName := ⟨"HelpFileModel", "textLine", "(III)V"⟩
theorem k520_methodLink : Cond.methodLink "HelpFileModel" 180 ⟨"HelpFileModel", "link", "(III)I"⟩ ∈ ga := ga_t 1330 (by decide +kernel) rfl
theorem k521_instanceMethod : Cond.instanceMethod ⟨"HelpFileModel", "link", "(III)I"⟩ ∈ ga := ga_t 1332 (by decide +kernel) rfl
theorem k522_selects : Cond.selects "HelpFileModel" ⟨"HelpFileModel", "link", "(III)I"⟩ ⟨"HelpFileModel", "link", "(III)I"⟩ ∈ ga := ga_s (q := (⟨"HelpFileModel", "link", "(III)I"⟩, _)) 49 rfl
set_option maxRecDepth 100000 in
theorem fm_Model_textLine : Fm y_Model_textLine b_Model_textLine 7 none 3 := ⟨ga_t 1325 rfl rfl, k479_initialized, by decide, by decide, by decide +kernel⟩
def B_Model_textLine_22 (mo_source : Nat → Int32) (mo_topics : Int32) (mo_faultLine' : Int32) (mo_fault' : Int32) (mo_bodies' : Nat → Int32) (mo_lengths' : Nat → Int32) (mo_links' : Int32) (mo_linkAt' : Nat → Int32) (mo_linkLength' : Nat → Int32) (mo_linkLine' : Nat → Int32) (mo_linkTo' : Nat → Int32) (mo_inParagraph' : Bool) (mo_emphasis' : Bool) (mo_blank' : Bool) (mo_lastLine' : Int32) (X : Int32 → Int32 → Int32 → Int32 → Int32 → (Nat → Int32) → (Nat → Int32) → Int32 → (Nat → Int32) → (Nat → Int32) → (Nat → Int32) → (Nat → Int32) → Bool → Bool → Bool → Int32 → Prop) (x2 : Int32) (x3 : Int32) (x4 : Int32) (mo_faultLine : Int32) (mo_fault : Int32) (mo_bodies : Nat → Int32) (mo_lengths : Nat → Int32) (mo_links : Int32) (mo_linkAt : Nat → Int32) (mo_linkLength : Nat → Int32) (mo_linkLine : Nat → Int32) (mo_linkTo : Nat → Int32) (mo_inParagraph : Bool) (mo_emphasis : Bool) (mo_blank : Bool) (mo_lastLine : Int32) : Prop := ((x2 ≤ x4 → (mo_faultLine' = mo_faultLine ∧ mo_fault' = mo_fault ∧ mo_bodies' = mo_bodies ∧ mo_lengths' = mo_lengths ∧ mo_links' = mo_links ∧ mo_linkAt' = mo_linkAt ∧ mo_linkLength' = mo_linkLength ∧ mo_linkLine' = mo_linkLine ∧ mo_linkTo' = mo_linkTo ∧ mo_inParagraph' = mo_inParagraph ∧ mo_emphasis' = mo_emphasis ∧ mo_blank' = mo_blank ∧ mo_lastLine' = mo_lastLine)) ∧ (¬ (x2 ≤ x4) → ((mo_fault = 0 → (vp_in x4 700 ∧ (((mo_source (Int32.toNatClampNeg x4)) = 32 → X x2 x3 (x4 + 1) mo_faultLine mo_fault mo_bodies mo_lengths mo_links mo_linkAt mo_linkLength mo_linkLine mo_linkTo mo_inParagraph mo_emphasis true mo_lastLine) ∧ (¬ ((mo_source (Int32.toNatClampNeg x4)) = 32) → (((mo_source (Int32.toNatClampNeg x4)) = 42 → (∃ mo_bodies_69 : Nat → Int32, ∃ mo_lengths_69 : Nat → Int32, ∃ mo_inParagraph_69 : Bool, ∃ mo_blank_69 : Bool, ∃ mo_lastLine_69 : Int32, D_Model_addSign 1 x3 mo_topics mo_bodies mo_lengths mo_inParagraph mo_blank mo_lastLine mo_bodies_69 mo_lengths_69 mo_inParagraph_69 mo_blank_69 mo_lastLine_69 ∧ (((bI mo_emphasis) = 0 → X x2 x3 (x4 + 1) mo_faultLine mo_fault mo_bodies_69 mo_lengths_69 mo_links mo_linkAt mo_linkLength mo_linkLine mo_linkTo mo_inParagraph_69 true mo_blank_69 mo_lastLine_69) ∧ (¬ ((bI mo_emphasis) = 0) → X x2 x3 (x4 + 1) mo_faultLine mo_fault mo_bodies_69 mo_lengths_69 mo_links mo_linkAt mo_linkLength mo_linkLine mo_linkTo mo_inParagraph_69 false mo_blank_69 mo_lastLine_69)))) ∧ (¬ ((mo_source (Int32.toNatClampNeg x4)) = 42) → (((mo_source (Int32.toNatClampNeg x4)) = 91 → (∃ r103 : Int32, ∃ mo_faultLine_103 : Int32, ∃ mo_fault_103 : Int32, ∃ mo_bodies_103 : Nat → Int32, ∃ mo_lengths_103 : Nat → Int32, ∃ mo_links_103 : Int32, ∃ mo_linkAt_103 : Nat → Int32, ∃ mo_linkLength_103 : Nat → Int32, ∃ mo_linkLine_103 : Nat → Int32, ∃ mo_linkTo_103 : Nat → Int32, ∃ mo_inParagraph_103 : Bool, ∃ mo_blank_103 : Bool, ∃ mo_lastLine_103 : Int32, D_Model_link x4 x2 x3 mo_source mo_faultLine mo_fault mo_topics mo_bodies mo_lengths mo_links mo_linkAt mo_linkLength mo_linkLine mo_linkTo mo_inParagraph mo_blank mo_lastLine r103 mo_faultLine_103 mo_fault_103 mo_bodies_103 mo_lengths_103 mo_links_103 mo_linkAt_103 mo_linkLength_103 mo_linkLine_103 mo_linkTo_103 mo_inParagraph_103 mo_blank_103 mo_lastLine_103 ∧ ((0 ≤ r103 → X x2 x3 (r103 + 1) mo_faultLine_103 mo_fault_103 mo_bodies_103 mo_lengths_103 mo_links_103 mo_linkAt_103 mo_linkLength_103 mo_linkLine_103 mo_linkTo_103 mo_inParagraph_103 mo_emphasis mo_blank_103 mo_lastLine_103) ∧ (¬ (0 ≤ r103) → X x2 x3 (x4 + 1) mo_faultLine_103 mo_fault_103 mo_bodies_103 mo_lengths_103 mo_links_103 mo_linkAt_103 mo_linkLength_103 mo_linkLine_103 mo_linkTo_103 mo_inParagraph_103 mo_emphasis mo_blank_103 mo_lastLine_103)))) ∧ (¬ ((mo_source (Int32.toNatClampNeg x4)) = 91) → (((mo_source (Int32.toNatClampNeg x4)) = 93 → (∃ mo_faultLine_136 : Int32, ∃ mo_fault_136 : Int32, D_Model_fail 6 x3 mo_faultLine mo_fault mo_faultLine_136 mo_fault_136 ∧ X x2 x3 (x4 + 1) mo_faultLine_136 mo_fault_136 mo_bodies mo_lengths mo_links mo_linkAt mo_linkLength mo_linkLine mo_linkTo mo_inParagraph mo_emphasis mo_blank mo_lastLine)) ∧ (¬ ((mo_source (Int32.toNatClampNeg x4)) = 93) → (∃ mo_bodies_146 : Nat → Int32, ∃ mo_lengths_146 : Nat → Int32, ∃ mo_inParagraph_146 : Bool, ∃ mo_blank_146 : Bool, ∃ mo_lastLine_146 : Int32, D_Model_addSign (mo_source (Int32.toNatClampNeg x4)) x3 mo_topics mo_bodies mo_lengths mo_inParagraph mo_blank mo_lastLine mo_bodies_146 mo_lengths_146 mo_inParagraph_146 mo_blank_146 mo_lastLine_146 ∧ X x2 x3 (x4 + 1) mo_faultLine mo_fault mo_bodies_146 mo_lengths_146 mo_links mo_linkAt mo_linkLength mo_linkLine mo_linkTo mo_inParagraph_146 mo_emphasis mo_blank_146 mo_lastLine_146))))))))))) ∧ (¬ (mo_fault = 0) → (mo_faultLine' = mo_faultLine ∧ mo_fault' = mo_fault ∧ mo_bodies' = mo_bodies ∧ mo_lengths' = mo_lengths ∧ mo_links' = mo_links ∧ mo_linkAt' = mo_linkAt ∧ mo_linkLength' = mo_linkLength ∧ mo_linkLine' = mo_linkLine ∧ mo_linkTo' = mo_linkTo ∧ mo_inParagraph' = mo_inParagraph ∧ mo_emphasis' = mo_emphasis ∧ mo_blank' = mo_blank ∧ mo_lastLine' = mo_lastLine)))))
def S_Model_textLine (mo_source : Nat → Int32) (mo_topics : Int32) (mo_faultLine' : Int32) (mo_fault' : Int32) (mo_bodies' : Nat → Int32) (mo_lengths' : Nat → Int32) (mo_links' : Int32) (mo_linkAt' : Nat → Int32) (mo_linkLength' : Nat → Int32) (mo_linkLine' : Nat → Int32) (mo_linkTo' : Nat → Int32) (mo_inParagraph' : Bool) (mo_emphasis' : Bool) (mo_blank' : Bool) (mo_lastLine' : Int32) (X : Int32 → Int32 → Int32 → Int32 → Int32 → (Nat → Int32) → (Nat → Int32) → Int32 → (Nat → Int32) → (Nat → Int32) → (Nat → Int32) → (Nat → Int32) → Bool → Bool → Bool → Int32 → Prop) : Int32 → Int32 → Int32 → Int32 → Int32 → (Nat → Int32) → (Nat → Int32) → Int32 → (Nat → Int32) → (Nat → Int32) → (Nat → Int32) → (Nat → Int32) → Bool → Bool → Bool → Int32 → Prop := fun x2 x3 x4 mo_faultLine mo_fault mo_bodies mo_lengths mo_links mo_linkAt mo_linkLength mo_linkLine mo_linkTo mo_inParagraph mo_emphasis mo_blank mo_lastLine => B_Model_textLine_22 mo_source mo_topics mo_faultLine' mo_fault' mo_bodies' mo_lengths' mo_links' mo_linkAt' mo_linkLength' mo_linkLine' mo_linkTo' mo_inParagraph' mo_emphasis' mo_blank' mo_lastLine' X x2 x3 x4 mo_faultLine mo_fault mo_bodies mo_lengths mo_links mo_linkAt mo_linkLength mo_linkLine mo_linkTo mo_inParagraph mo_emphasis mo_blank mo_lastLine
def T_Model_textLine (mo_source : Nat → Int32) (mo_topics : Int32) (mo_faultLine' : Int32) (mo_fault' : Int32) (mo_bodies' : Nat → Int32) (mo_lengths' : Nat → Int32) (mo_links' : Int32) (mo_linkAt' : Nat → Int32) (mo_linkLength' : Nat → Int32) (mo_linkLine' : Nat → Int32) (mo_linkTo' : Nat → Int32) (mo_inParagraph' : Bool) (mo_emphasis' : Bool) (mo_blank' : Bool) (mo_lastLine' : Int32) : Nat → (Int32 → Int32 → Int32 → Int32 → Int32 → (Nat → Int32) → (Nat → Int32) → Int32 → (Nat → Int32) → (Nat → Int32) → (Nat → Int32) → (Nat → Int32) → Bool → Bool → Bool → Int32 → Prop)
  | 0 => fun _ _ _ _ _ _ _ _ _ _ _ _ _ _ _ _ => False
  | n + 1 => S_Model_textLine mo_source mo_topics mo_faultLine' mo_fault' mo_bodies' mo_lengths' mo_links' mo_linkAt' mo_linkLength' mo_linkLine' mo_linkTo' mo_inParagraph' mo_emphasis' mo_blank' mo_lastLine' (T_Model_textLine mo_source mo_topics mo_faultLine' mo_fault' mo_bodies' mo_lengths' mo_links' mo_linkAt' mo_linkLength' mo_linkLine' mo_linkTo' mo_inParagraph' mo_emphasis' mo_blank' mo_lastLine' n)
def D_Model_textLine (k0 : Int32) (k1 : Int32) (k2 : Int32) (mo_source : Nat → Int32) (mo_faultLine : Int32) (mo_fault : Int32) (mo_topics : Int32) (mo_bodies : Nat → Int32) (mo_lengths : Nat → Int32) (mo_links : Int32) (mo_linkAt : Nat → Int32) (mo_linkLength : Nat → Int32) (mo_linkLine : Nat → Int32) (mo_linkTo : Nat → Int32) (mo_inParagraph : Bool) (mo_emphasis : Bool) (mo_blank : Bool) (mo_lastLine : Int32) (mo_faultLine' : Int32) (mo_fault' : Int32) (mo_bodies' : Nat → Int32) (mo_lengths' : Nat → Int32) (mo_links' : Int32) (mo_linkAt' : Nat → Int32) (mo_linkLength' : Nat → Int32) (mo_linkLine' : Nat → Int32) (mo_linkTo' : Nat → Int32) (mo_inParagraph' : Bool) (mo_emphasis' : Bool) (mo_blank' : Bool) (mo_lastLine' : Int32) : Prop := ∃ n : Nat, ((mo_topics = 0 → (∃ mo_faultLine_10 : Int32, ∃ mo_fault_10 : Int32, D_Model_fail 1 k2 mo_faultLine mo_fault mo_faultLine_10 mo_fault_10 ∧ (mo_faultLine' = mo_faultLine_10 ∧ mo_fault' = mo_fault_10 ∧ mo_bodies' = mo_bodies ∧ mo_lengths' = mo_lengths ∧ mo_links' = mo_links ∧ mo_linkAt' = mo_linkAt ∧ mo_linkLength' = mo_linkLength ∧ mo_linkLine' = mo_linkLine ∧ mo_linkTo' = mo_linkTo ∧ mo_inParagraph' = mo_inParagraph ∧ mo_emphasis' = mo_emphasis ∧ mo_blank' = mo_blank ∧ mo_lastLine' = mo_lastLine))) ∧ (¬ (mo_topics = 0) → T_Model_textLine mo_source mo_topics mo_faultLine' mo_fault' mo_bodies' mo_lengths' mo_links' mo_linkAt' mo_linkLength' mo_linkLine' mo_linkTo' mo_inParagraph' mo_emphasis' mo_blank' mo_lastLine' n k1 k2 k0 mo_faultLine mo_fault mo_bodies mo_lengths mo_links mo_linkAt mo_linkLength mo_linkLine mo_linkTo mo_inParagraph mo_emphasis true mo_lastLine))
theorem d_Model_textLine_0 : decode b_Model_textLine 0 = .ok (.aload_n 0, 1) := by decide +kernel
theorem d_Model_textLine_1 : decode b_Model_textLine 1 = .ok (.getfield 143, 3) := by decide +kernel
theorem d_Model_textLine_4 : decode b_Model_textLine 4 = .ok (.ifCond .ne 10, 3) := by decide +kernel
theorem d_Model_textLine_7 : decode b_Model_textLine 7 = .ok (.aload_n 0, 1) := by decide +kernel
theorem d_Model_textLine_8 : decode b_Model_textLine 8 = .ok (.iconst 1, 1) := by decide +kernel
theorem d_Model_textLine_9 : decode b_Model_textLine 9 = .ok (.iload_n 3, 1) := by decide +kernel
theorem d_Model_textLine_10 : decode b_Model_textLine 10 = .ok (.invokevirtual 149, 3) := by decide +kernel
theorem d_Model_textLine_13 : decode b_Model_textLine 13 = .ok (.return_, 1) := by decide +kernel
theorem d_Model_textLine_14 : decode b_Model_textLine 14 = .ok (.aload_n 0, 1) := by decide +kernel
theorem d_Model_textLine_15 : decode b_Model_textLine 15 = .ok (.iconst 1, 1) := by decide +kernel
theorem d_Model_textLine_16 : decode b_Model_textLine 16 = .ok (.putfield 157, 3) := by decide +kernel
theorem d_Model_textLine_19 : decode b_Model_textLine 19 = .ok (.iload_n 1, 1) := by decide +kernel
theorem d_Model_textLine_20 : decode b_Model_textLine 20 = .ok (.istore 4, 2) := by decide +kernel
theorem d_Model_textLine_22 : decode b_Model_textLine 22 = .ok (.iload 4, 2) := by decide +kernel
theorem d_Model_textLine_24 : decode b_Model_textLine 24 = .ok (.iload_n 2, 1) := by decide +kernel
theorem d_Model_textLine_25 : decode b_Model_textLine 25 = .ok (.if_icmp .ge 130, 3) := by decide +kernel
theorem d_Model_textLine_28 : decode b_Model_textLine 28 = .ok (.aload_n 0, 1) := by decide +kernel
theorem d_Model_textLine_29 : decode b_Model_textLine 29 = .ok (.getfield 140, 3) := by decide +kernel
theorem d_Model_textLine_32 : decode b_Model_textLine 32 = .ok (.ifCond .ne 123, 3) := by decide +kernel
theorem d_Model_textLine_35 : decode b_Model_textLine 35 = .ok (.aload_n 0, 1) := by decide +kernel
theorem d_Model_textLine_36 : decode b_Model_textLine 36 = .ok (.getfield 7, 3) := by decide +kernel
theorem d_Model_textLine_39 : decode b_Model_textLine 39 = .ok (.iload 4, 2) := by decide +kernel
theorem d_Model_textLine_41 : decode b_Model_textLine 41 = .ok (.iaload, 1) := by decide +kernel
theorem d_Model_textLine_42 : decode b_Model_textLine 42 = .ok (.istore 5, 2) := by decide +kernel
theorem d_Model_textLine_44 : decode b_Model_textLine 44 = .ok (.iload 5, 2) := by decide +kernel
theorem d_Model_textLine_46 : decode b_Model_textLine 46 = .ok (.bipush 32, 2) := by decide +kernel
theorem d_Model_textLine_48 : decode b_Model_textLine 48 = .ok (.if_icmp .ne 11, 3) := by decide +kernel
theorem d_Model_textLine_51 : decode b_Model_textLine 51 = .ok (.aload_n 0, 1) := by decide +kernel
theorem d_Model_textLine_52 : decode b_Model_textLine 52 = .ok (.iconst 1, 1) := by decide +kernel
theorem d_Model_textLine_53 : decode b_Model_textLine 53 = .ok (.putfield 157, 3) := by decide +kernel
theorem d_Model_textLine_56 : decode b_Model_textLine 56 = .ok (.goto 93, 3) := by decide +kernel
theorem d_Model_textLine_59 : decode b_Model_textLine 59 = .ok (.iload 5, 2) := by decide +kernel
theorem d_Model_textLine_61 : decode b_Model_textLine 61 = .ok (.bipush 42, 2) := by decide +kernel
theorem d_Model_textLine_63 : decode b_Model_textLine 63 = .ok (.if_icmp .ne 28, 3) := by decide +kernel
theorem d_Model_textLine_66 : decode b_Model_textLine 66 = .ok (.aload_n 0, 1) := by decide +kernel
theorem d_Model_textLine_67 : decode b_Model_textLine 67 = .ok (.iconst 1, 1) := by decide +kernel
theorem d_Model_textLine_68 : decode b_Model_textLine 68 = .ok (.iload_n 3, 1) := by decide +kernel
theorem d_Model_textLine_69 : decode b_Model_textLine 69 = .ok (.invokevirtual 174, 3) := by decide +kernel
theorem d_Model_textLine_72 : decode b_Model_textLine 72 = .ok (.aload_n 0, 1) := by decide +kernel
theorem d_Model_textLine_73 : decode b_Model_textLine 73 = .ok (.aload_n 0, 1) := by decide +kernel
theorem d_Model_textLine_74 : decode b_Model_textLine 74 = .ok (.getfield 171, 3) := by decide +kernel
theorem d_Model_textLine_77 : decode b_Model_textLine 77 = .ok (.ifCond .ne 7, 3) := by decide +kernel
theorem d_Model_textLine_80 : decode b_Model_textLine 80 = .ok (.iconst 1, 1) := by decide +kernel
theorem d_Model_textLine_81 : decode b_Model_textLine 81 = .ok (.goto 4, 3) := by decide +kernel
theorem d_Model_textLine_84 : decode b_Model_textLine 84 = .ok (.iconst 0, 1) := by decide +kernel
theorem d_Model_textLine_85 : decode b_Model_textLine 85 = .ok (.putfield 171, 3) := by decide +kernel
theorem d_Model_textLine_88 : decode b_Model_textLine 88 = .ok (.goto 61, 3) := by decide +kernel
theorem d_Model_textLine_91 : decode b_Model_textLine 91 = .ok (.iload 5, 2) := by decide +kernel
theorem d_Model_textLine_93 : decode b_Model_textLine 93 = .ok (.bipush 91, 2) := by decide +kernel
theorem d_Model_textLine_95 : decode b_Model_textLine 95 = .ok (.if_icmp .ne 30, 3) := by decide +kernel
theorem d_Model_textLine_98 : decode b_Model_textLine 98 = .ok (.aload_n 0, 1) := by decide +kernel
theorem d_Model_textLine_99 : decode b_Model_textLine 99 = .ok (.iload 4, 2) := by decide +kernel
theorem d_Model_textLine_101 : decode b_Model_textLine 101 = .ok (.iload_n 2, 1) := by decide +kernel
theorem d_Model_textLine_102 : decode b_Model_textLine 102 = .ok (.iload_n 3, 1) := by decide +kernel
theorem d_Model_textLine_103 : decode b_Model_textLine 103 = .ok (.invokevirtual 180, 3) := by decide +kernel
theorem d_Model_textLine_106 : decode b_Model_textLine 106 = .ok (.istore 6, 2) := by decide +kernel
theorem d_Model_textLine_108 : decode b_Model_textLine 108 = .ok (.iload 6, 2) := by decide +kernel
theorem d_Model_textLine_110 : decode b_Model_textLine 110 = .ok (.ifCond .ge 8, 3) := by decide +kernel
theorem d_Model_textLine_113 : decode b_Model_textLine 113 = .ok (.iload 4, 2) := by decide +kernel
theorem d_Model_textLine_115 : decode b_Model_textLine 115 = .ok (.goto 5, 3) := by decide +kernel
theorem d_Model_textLine_118 : decode b_Model_textLine 118 = .ok (.iload 6, 2) := by decide +kernel
theorem d_Model_textLine_120 : decode b_Model_textLine 120 = .ok (.istore 4, 2) := by decide +kernel
theorem d_Model_textLine_122 : decode b_Model_textLine 122 = .ok (.goto 27, 3) := by decide +kernel
theorem d_Model_textLine_125 : decode b_Model_textLine 125 = .ok (.iload 5, 2) := by decide +kernel
theorem d_Model_textLine_127 : decode b_Model_textLine 127 = .ok (.bipush 93, 2) := by decide +kernel
theorem d_Model_textLine_129 : decode b_Model_textLine 129 = .ok (.if_icmp .ne 13, 3) := by decide +kernel
theorem d_Model_textLine_132 : decode b_Model_textLine 132 = .ok (.aload_n 0, 1) := by decide +kernel
theorem d_Model_textLine_133 : decode b_Model_textLine 133 = .ok (.bipush 6, 2) := by decide +kernel
theorem d_Model_textLine_135 : decode b_Model_textLine 135 = .ok (.iload_n 3, 1) := by decide +kernel
theorem d_Model_textLine_136 : decode b_Model_textLine 136 = .ok (.invokevirtual 149, 3) := by decide +kernel
theorem d_Model_textLine_139 : decode b_Model_textLine 139 = .ok (.goto 10, 3) := by decide +kernel
theorem d_Model_textLine_142 : decode b_Model_textLine 142 = .ok (.aload_n 0, 1) := by decide +kernel
theorem d_Model_textLine_143 : decode b_Model_textLine 143 = .ok (.iload 5, 2) := by decide +kernel
theorem d_Model_textLine_145 : decode b_Model_textLine 145 = .ok (.iload_n 3, 1) := by decide +kernel
theorem d_Model_textLine_146 : decode b_Model_textLine 146 = .ok (.invokevirtual 174, 3) := by decide +kernel
theorem d_Model_textLine_149 : decode b_Model_textLine 149 = .ok (.iinc 4 1, 3) := by decide +kernel
theorem d_Model_textLine_152 : decode b_Model_textLine 152 = .ok (.goto (-130), 3) := by decide +kernel
theorem d_Model_textLine_155 : decode b_Model_textLine 155 = .ok (.return_, 1) := by decide +kernel
set_option maxHeartbeats 4000000 in
set_option maxRecDepth 100000 in
theorem c_Model_textLine (l : Launch) (dC : Nat → ClassId) (dI : Nat → Nat → Nat) (cI cL cZ : ClassId) (mo : Nat) (mo_thrown : Int32) (mo_sourcea : Nat) (mo_source : Nat → Int32) (mo_size : Int32) (mo_faultLine : Int32) (mo_fault : Int32) (mo_topics : Int32) (mo_namesa : Nat) (mo_names : Nat → Int32) (mo_bodiesa : Nat) (mo_bodies : Nat → Int32) (mo_lengthsa : Nat) (mo_lengths : Nat → Int32) (mo_headingsa : Nat) (mo_headings : Nat → Int32) (mo_keywords : Int32) (mo_keyLettersa : Nat) (mo_keyLetters : Nat → Int32) (mo_keyLengthsa : Nat) (mo_keyLengths : Nat → Int32) (mo_keyBitsa : Nat) (mo_keyBits : Nat → Int32) (mo_words : Int32) (mo_wordLettersa : Nat) (mo_wordLetters : Nat → Int32) (mo_wordLengthsa : Nat) (mo_wordLengths : Nat → Int32) (mo_wordBitsa : Nat) (mo_wordBits : Nat → Int32) (mo_links : Int32) (mo_linkAta : Nat) (mo_linkAt : Nat → Int32) (mo_linkLengtha : Nat) (mo_linkLength : Nat → Int32) (mo_linkLinea : Nat) (mo_linkLine : Nat → Int32) (mo_linkToa : Nat) (mo_linkTo : Nat → Int32) (mo_inParagraph : Bool) (mo_emphasis : Bool) (mo_blank : Bool) (mo_lastLine : Int32) (mo_imageSize : Int32) (mo_imagea : Nat) (mo_image : Nat → Int32) (mo_compares : Bool) (mo_unlike : Bool) (mo_out : Int32) (mo_total : Int32) (mo_literal : Int32) (mo_handLength : Int32) (mo_handa : Nat) (mo_hand : Nat → Int32) (mo_isOpen : Bool) (mo_seenTopics : Int32) (mo_seenNamesa : Nat) (mo_seenNames : Nat → Int32) (mo_seenBodiesa : Nat) (mo_seenBodies : Nat → Int32) (mo_seenLengthsa : Nat) (mo_seenLengths : Nat → Int32) (mo_seenKeywords : Int32) (mo_seenKeyLettersa : Nat) (mo_seenKeyLetters : Nat → Int32) (mo_seenKeyLengthsa : Nat) (mo_seenKeyLengths : Nat → Int32) (mo_seenKeyBitsa : Nat) (mo_seenKeyBits : Nat → Int32) (mo_seenWords : Int32) (mo_seenWordLettersa : Nat) (mo_seenWordLetters : Nat → Int32) (mo_seenWordLengthsa : Nat) (mo_seenWordLengths : Nat → Int32) (mo_seenWordBitsa : Nat) (mo_seenWordBits : Nat → Int32) (mo_topic : Int32) (mo_backs : Int32) (mo_backa : Nat) (mo_back : Nat → Int32) (mo_forwards : Int32) (mo_forwarda : Nat) (mo_forward : Nat → Int32) (mo_typed : Int32) (mo_querya : Nat) (mo_query : Nat → Int32) (mo_visits : Int32) (mo_valuesa : Nat) (mo_values : Nat → Int32) (mo_valued : Int32) (mo_signsa : Nat) (mo_signs : Nat → Int32) (mo_signed : Int32) (mo_width : Int32) (mo_lines : Int32) (mo_lineFroma : Nat) (mo_lineFrom : Nat → Int32) (mo_lineSizea : Nat) (mo_lineSize : Nat → Int32) (mo_shown : Int32) (mo_texta : Nat) (mo_text : Nat → Int32) (mo_partLength : Int32) (mo_parta : Nat) (mo_part : Nat → Int32) (k0 : Int32) (k1 : Int32) (k2 : Int32) (mo_faultLine' : Int32) (mo_fault' : Int32) (mo_bodies' : Nat → Int32) (mo_lengths' : Nat → Int32) (mo_links' : Int32) (mo_linkAt' : Nat → Int32) (mo_linkLength' : Nat → Int32) (mo_linkLine' : Nat → Int32) (mo_linkTo' : Nat → Int32) (mo_inParagraph' : Bool) (mo_emphasis' : Bool) (mo_blank' : Bool) (mo_lastLine' : Int32) (hd : D_Model_textLine k0 k1 k2 mo_source mo_faultLine mo_fault mo_topics mo_bodies mo_lengths mo_links mo_linkAt mo_linkLength mo_linkLine mo_linkTo mo_inParagraph mo_emphasis mo_blank mo_lastLine mo_faultLine' mo_fault' mo_bodies' mo_lengths' mo_links' mo_linkAt' mo_linkLength' mo_linkLine' mo_linkTo' mo_inParagraph' mo_emphasis' mo_blank' mo_lastLine') : Ctr l y_Model_textLine (Cond.code y_Model_textLine b_Model_textLine 7 none :: ga) { frames := 4, cells := 0, slots := 0, locals := 92 } (dC, dI) classes (Tys cI cL cZ) [.ref mo, .int k0, .int k1, .int k2] ((sh_Model cI cL cZ mo mo_thrown mo_sourcea mo_source mo_size mo_faultLine mo_fault mo_topics mo_namesa mo_names mo_bodiesa mo_bodies mo_lengthsa mo_lengths mo_headingsa mo_headings mo_keywords mo_keyLettersa mo_keyLetters mo_keyLengthsa mo_keyLengths mo_keyBitsa mo_keyBits mo_words mo_wordLettersa mo_wordLetters mo_wordLengthsa mo_wordLengths mo_wordBitsa mo_wordBits mo_links mo_linkAta mo_linkAt mo_linkLengtha mo_linkLength mo_linkLinea mo_linkLine mo_linkToa mo_linkTo mo_inParagraph mo_emphasis mo_blank mo_lastLine mo_imageSize mo_imagea mo_image mo_compares mo_unlike mo_out mo_total mo_literal mo_handLength mo_handa mo_hand mo_isOpen mo_seenTopics mo_seenNamesa mo_seenNames mo_seenBodiesa mo_seenBodies mo_seenLengthsa mo_seenLengths mo_seenKeywords mo_seenKeyLettersa mo_seenKeyLetters mo_seenKeyLengthsa mo_seenKeyLengths mo_seenKeyBitsa mo_seenKeyBits mo_seenWords mo_seenWordLettersa mo_seenWordLetters mo_seenWordLengthsa mo_seenWordLengths mo_seenWordBitsa mo_seenWordBits mo_topic mo_backs mo_backa mo_back mo_forwards mo_forwarda mo_forward mo_typed mo_querya mo_query mo_visits mo_valuesa mo_values mo_valued mo_signsa mo_signs mo_signed mo_width mo_lines mo_lineFroma mo_lineFrom mo_lineSizea mo_lineSize mo_shown mo_texta mo_text mo_partLength mo_parta mo_part)) none ((sh_Model cI cL cZ mo mo_thrown mo_sourcea mo_source mo_size mo_faultLine' mo_fault' mo_topics mo_namesa mo_names mo_bodiesa mo_bodies' mo_lengthsa mo_lengths' mo_headingsa mo_headings mo_keywords mo_keyLettersa mo_keyLetters mo_keyLengthsa mo_keyLengths mo_keyBitsa mo_keyBits mo_words mo_wordLettersa mo_wordLetters mo_wordLengthsa mo_wordLengths mo_wordBitsa mo_wordBits mo_links' mo_linkAta mo_linkAt' mo_linkLengtha mo_linkLength' mo_linkLinea mo_linkLine' mo_linkToa mo_linkTo' mo_inParagraph' mo_emphasis' mo_blank' mo_lastLine' mo_imageSize mo_imagea mo_image mo_compares mo_unlike mo_out mo_total mo_literal mo_handLength mo_handa mo_hand mo_isOpen mo_seenTopics mo_seenNamesa mo_seenNames mo_seenBodiesa mo_seenBodies mo_seenLengthsa mo_seenLengths mo_seenKeywords mo_seenKeyLettersa mo_seenKeyLetters mo_seenKeyLengthsa mo_seenKeyLengths mo_seenKeyBitsa mo_seenKeyBits mo_seenWords mo_seenWordLettersa mo_seenWordLetters mo_seenWordLengthsa mo_seenWordLengths mo_seenWordBitsa mo_seenWordBits mo_topic mo_backs mo_backa mo_back mo_forwards mo_forwarda mo_forward mo_typed mo_querya mo_query mo_visits mo_valuesa mo_values mo_valued mo_signsa mo_signs mo_signed mo_width mo_lines mo_lineFroma mo_lineFrom mo_lineSizea mo_lineSize mo_shown mo_texta mo_text mo_partLength mo_parta mo_part)) := by
  refine Ctr.ofW (by decide) (Nat.le_of_ble_eq_true rfl) ?_
  intro p e s m below meth c A ls hx hb hr hml hown hlocks hts hK hN hA hP hD hS hl
  have hown : s.vm.findClass R_Model = some m.cls := hown
  have hl : lv_has ls 7 [(0, .ref mo), (1, .int k0), (2, .int k1), (3, .int k2)] := hl
  have key : ∀ n : Nat, (∀ (x2 : Int32) (x3 : Int32) (x4 : Int32) (mo_faultLine : Int32) (mo_fault : Int32) (mo_bodies : Nat → Int32) (mo_lengths : Nat → Int32) (mo_links : Int32) (mo_linkAt : Nat → Int32) (mo_linkLength : Nat → Int32) (mo_linkLine : Nat → Int32) (mo_linkTo : Nat → Int32) (mo_inParagraph : Bool) (mo_emphasis : Bool) (mo_blank : Bool) (mo_lastLine : Int32) (ls : Array Slot) (H : Heap) (locs : List Loc), lv_has ls 7 [(0, .ref mo), (2, .int x2), (3, .int x3), (4, .int x4)] → va_P (dC, dI) classes ((sh_Model cI cL cZ mo mo_thrown mo_sourcea mo_source mo_size mo_faultLine mo_fault mo_topics mo_namesa mo_names mo_bodiesa mo_bodies mo_lengthsa mo_lengths mo_headingsa mo_headings mo_keywords mo_keyLettersa mo_keyLetters mo_keyLengthsa mo_keyLengths mo_keyBitsa mo_keyBits mo_words mo_wordLettersa mo_wordLetters mo_wordLengthsa mo_wordLengths mo_wordBitsa mo_wordBits mo_links mo_linkAta mo_linkAt mo_linkLengtha mo_linkLength mo_linkLinea mo_linkLine mo_linkToa mo_linkTo mo_inParagraph mo_emphasis mo_blank mo_lastLine mo_imageSize mo_imagea mo_image mo_compares mo_unlike mo_out mo_total mo_literal mo_handLength mo_handa mo_hand mo_isOpen mo_seenTopics mo_seenNamesa mo_seenNames mo_seenBodiesa mo_seenBodies mo_seenLengthsa mo_seenLengths mo_seenKeywords mo_seenKeyLettersa mo_seenKeyLetters mo_seenKeyLengthsa mo_seenKeyLengths mo_seenKeyBitsa mo_seenKeyBits mo_seenWords mo_seenWordLettersa mo_seenWordLetters mo_seenWordLengthsa mo_seenWordLengths mo_seenWordBitsa mo_seenWordBits mo_topic mo_backs mo_backa mo_back mo_forwards mo_forwarda mo_forward mo_typed mo_querya mo_query mo_visits mo_valuesa mo_values mo_valued mo_signsa mo_signs mo_signed mo_width mo_lines mo_lineFroma mo_lineFrom mo_lineSizea mo_lineSize mo_shown mo_texta mo_text mo_partLength mo_parta mo_part)) H → va_D A ((sh_Model cI cL cZ mo mo_thrown mo_sourcea mo_source mo_size mo_faultLine mo_fault mo_topics mo_namesa mo_names mo_bodiesa mo_bodies mo_lengthsa mo_lengths mo_headingsa mo_headings mo_keywords mo_keyLettersa mo_keyLetters mo_keyLengthsa mo_keyLengths mo_keyBitsa mo_keyBits mo_words mo_wordLettersa mo_wordLetters mo_wordLengthsa mo_wordLengths mo_wordBitsa mo_wordBits mo_links mo_linkAta mo_linkAt mo_linkLengtha mo_linkLength mo_linkLinea mo_linkLine mo_linkToa mo_linkTo mo_inParagraph mo_emphasis mo_blank mo_lastLine mo_imageSize mo_imagea mo_image mo_compares mo_unlike mo_out mo_total mo_literal mo_handLength mo_handa mo_hand mo_isOpen mo_seenTopics mo_seenNamesa mo_seenNames mo_seenBodiesa mo_seenBodies mo_seenLengthsa mo_seenLengths mo_seenKeywords mo_seenKeyLettersa mo_seenKeyLetters mo_seenKeyLengthsa mo_seenKeyLengths mo_seenKeyBitsa mo_seenKeyBits mo_seenWords mo_seenWordLettersa mo_seenWordLetters mo_seenWordLengthsa mo_seenWordLengths mo_seenWordBitsa mo_seenWordBits mo_topic mo_backs mo_backa mo_back mo_forwards mo_forwarda mo_forward mo_typed mo_querya mo_query mo_visits mo_valuesa mo_values mo_valued mo_signsa mo_signs mo_signed mo_width mo_lines mo_lineFroma mo_lineFrom mo_lineSizea mo_lineSize mo_shown mo_texta mo_text mo_partLength mo_parta mo_part)) → va_S A s.heap H locs → T_Model_textLine mo_source mo_topics mo_faultLine' mo_fault' mo_bodies' mo_lengths' mo_links' mo_linkAt' mo_linkLength' mo_linkLine' mo_linkTo' mo_inParagraph' mo_emphasis' mo_blank' mo_lastLine' n x2 x3 x4 mo_faultLine mo_fault mo_bodies mo_lengths mo_links mo_linkAt mo_linkLength mo_linkLine mo_linkTo mo_inParagraph mo_emphasis mo_blank mo_lastLine → W p l e ({ frames := 4, cells := 0, slots := 0, locals := 92 }) s m ([.ref mo, .int k0, .int k1, .int k2] : List Value).toArray below meth c H locs 0 0 (MQ below (Qs (dC, dI) classes (Tys cI cL cZ) none ((sh_Model cI cL cZ mo mo_thrown mo_sourcea mo_source mo_size mo_faultLine' mo_fault' mo_topics mo_namesa mo_names mo_bodiesa mo_bodies' mo_lengthsa mo_lengths' mo_headingsa mo_headings mo_keywords mo_keyLettersa mo_keyLetters mo_keyLengthsa mo_keyLengths mo_keyBitsa mo_keyBits mo_words mo_wordLettersa mo_wordLetters mo_wordLengthsa mo_wordLengths mo_wordBitsa mo_wordBits mo_links' mo_linkAta mo_linkAt' mo_linkLengtha mo_linkLength' mo_linkLinea mo_linkLine' mo_linkToa mo_linkTo' mo_inParagraph' mo_emphasis' mo_blank' mo_lastLine' mo_imageSize mo_imagea mo_image mo_compares mo_unlike mo_out mo_total mo_literal mo_handLength mo_handa mo_hand mo_isOpen mo_seenTopics mo_seenNamesa mo_seenNames mo_seenBodiesa mo_seenBodies mo_seenLengthsa mo_seenLengths mo_seenKeywords mo_seenKeyLettersa mo_seenKeyLetters mo_seenKeyLengthsa mo_seenKeyLengths mo_seenKeyBitsa mo_seenKeyBits mo_seenWords mo_seenWordLettersa mo_seenWordLetters mo_seenWordLengthsa mo_seenWordLengths mo_seenWordBitsa mo_seenWordBits mo_topic mo_backs mo_backa mo_back mo_forwards mo_forwarda mo_forward mo_typed mo_querya mo_query mo_visits mo_valuesa mo_values mo_valued mo_signsa mo_signs mo_signed mo_width mo_lines mo_lineFroma mo_lineFrom mo_lineSizea mo_lineSize mo_shown mo_texta mo_text mo_partLength mo_parta mo_part)) A) ([.ref mo, .int k0, .int k1, .int k2] : List Value).toArray s 0 0 A) (F0 m 22 ls [])) := by
    intro n
    induction n with
    | zero =>
      exact fun _ _ _ _ _ _ _ _ _ _ _ _ _ _ _ _ _ _ _ _ _ _ _ hd => False.elim hd
    | succ n ih =>
      · intro x2 x3 x4 mo_faultLine mo_fault mo_bodies mo_lengths mo_links mo_linkAt mo_linkLength mo_linkLine mo_linkTo mo_inParagraph mo_emphasis mo_blank mo_lastLine ls H locs hl hP hD hS hd
        have hd : B_Model_textLine_22 mo_source mo_topics mo_faultLine' mo_fault' mo_bodies' mo_lengths' mo_links' mo_linkAt' mo_linkLength' mo_linkLine' mo_linkTo' mo_inParagraph' mo_emphasis' mo_blank' mo_lastLine' (T_Model_textLine mo_source mo_topics mo_faultLine' mo_fault' mo_bodies' mo_lengths' mo_links' mo_linkAt' mo_linkLength' mo_linkLine' mo_linkTo' mo_inParagraph' mo_emphasis' mo_blank' mo_lastLine' n) x2 x3 x4 mo_faultLine mo_fault mo_bodies mo_lengths mo_links mo_linkAt mo_linkLength mo_linkLine mo_linkTo mo_inParagraph mo_emphasis mo_blank mo_lastLine := hd
        refine lv_iload hx hb d_Model_textLine_22 (lv_at hl 3 rfl) ?_
        refine lv_iload_n hx hb d_Model_textLine_24 rfl (lv_at hl 1 rfl) ?_
        refine lv_icmp_ge (tgt := 155) hx hb d_Model_textLine_25 (by decide) (fun h25 => ?_) (fun h25 => ?_)
        · have hd := hd.1 h25
          obtain ⟨e0, e1, e2, e3, e4, e5, e6, e7, e8, e9, e10, e11, e12⟩ := hd
          subst e0
          subst e1
          subst e2
          subst e3
          subst e4
          subst e5
          subst e6
          subst e7
          subst e8
          subst e9
          subst e10
          subst e11
          subst e12
          exact ct_vret hx hb hr hlocks hK hP hD hS d_Model_textLine_155
        · have hd := hd.2 h25
          refine lv_aload_n hx hb d_Model_textLine_28 rfl (lv_at hl 0 rfl) ?_
          refine va_get (D := (dC, dI)) (ci := 9) (v := .int mo_fault) (C := R_Model) (T := F_Model) (N := 69) hx hb hts in_Model hown hK hP 0 rfl rfl 4 (by decide) (hts _ (List.mem_cons_of_mem _ k489_fieldLink)) (fun _ h9 => h9) rfl d_Model_textLine_29 ?_
          refine lv_if_ne (tgt := 155) hx hb d_Model_textLine_32 (by decide) (fun h32 => ?_) (fun h32 => ?_)
          · have hd := hd.2 h32
            obtain ⟨e0, e1, e2, e3, e4, e5, e6, e7, e8, e9, e10, e11, e12⟩ := hd
            subst e0
            subst e1
            subst e2
            subst e3
            subst e4
            subst e5
            subst e6
            subst e7
            subst e8
            subst e9
            subst e10
            subst e11
            subst e12
            exact ct_vret hx hb hr hlocks hK hP hD hS d_Model_textLine_155
          · have hd := hd.1 h32
            refine lv_aload_n hx hb d_Model_textLine_35 rfl (lv_at hl 0 rfl) ?_
            refine va_get (D := (dC, dI)) (ci := 9) (v := .ref mo_sourcea) (C := R_Model) (T := F_Model) (N := 69) hx hb hts in_Model hown hK hP 0 rfl rfl 1 (by decide) (hts _ (List.mem_cons_of_mem _ k488_fieldLink)) (fun _ h9 => h9) rfl d_Model_textLine_36 ?_
            refine lv_iload hx hb d_Model_textLine_39 (lv_at hl 3 rfl) ?_
            obtain ⟨h41, hd⟩ := hd
            refine va_iald hx hb hK hP 1 0 rfl rfl h41 d_Model_textLine_41 ?_
            refine lv_istore (lv' := [(5, .int (mo_source (Int32.toNatClampNeg x4))), (0, .ref mo), (2, .int x2), (3, .int x3), (4, .int x4)]) hx hb d_Model_textLine_42 hl (by decide) rfl (fun ls hl => ?_)
            refine lv_iload hx hb d_Model_textLine_44 (lv_at hl 0 rfl) ?_
            refine lv_bipush (v := 32) hx hb d_Model_textLine_46 (by decide) ?_
            refine lv_icmp_ne (tgt := 59) hx hb d_Model_textLine_48 (by decide) (fun h48 => ?_) (fun h48 => ?_)
            · have hd := hd.2 h48
              refine lv_iload hx hb d_Model_textLine_59 (lv_at hl 0 rfl) ?_
              refine lv_bipush (v := 42) hx hb d_Model_textLine_61 (by decide) ?_
              refine lv_icmp_ne (tgt := 91) hx hb d_Model_textLine_63 (by decide) (fun h63 => ?_) (fun h63 => ?_)
              · have hd := hd.2 h63
                refine lv_iload hx hb d_Model_textLine_91 (lv_at hl 0 rfl) ?_
                refine lv_bipush (v := 91) hx hb d_Model_textLine_93 (by decide) ?_
                refine lv_icmp_ne (tgt := 125) hx hb d_Model_textLine_95 (by decide) (fun h95 => ?_) (fun h95 => ?_)
                · have hd := hd.2 h95
                  refine lv_iload hx hb d_Model_textLine_125 (lv_at hl 0 rfl) ?_
                  refine lv_bipush (v := 93) hx hb d_Model_textLine_127 (by decide) ?_
                  refine lv_icmp_ne (tgt := 142) hx hb d_Model_textLine_129 (by decide) (fun h129 => ?_) (fun h129 => ?_)
                  · have hd := hd.2 h129
                    refine lv_aload_n hx hb d_Model_textLine_142 rfl (lv_at hl 1 rfl) ?_
                    refine lv_iload hx hb d_Model_textLine_143 (lv_at hl 0 rfl) ?_
                    refine lv_iload_n hx hb d_Model_textLine_145 rfl (lv_at hl 3 rfl) ?_
                    obtain ⟨mo_bodies_146, mo_lengths_146, mo_inParagraph_146, mo_blank_146, mo_lastLine_146, c146, hd⟩ := hd
                    refine ct_V (As := [.int (mo_source (Int32.toNatClampNeg x4)), .int x3]) (rest := []) (C := R_Model) (ci := 9) (q := (R_Model, F_Model, 69)) ⟨hx, hb, hml, hown, hts⟩ fm_Model_addSign (c_Model_addSign l dC dI cI cL cZ mo mo_thrown mo_sourcea mo_source mo_size mo_faultLine mo_fault mo_topics mo_namesa mo_names mo_bodiesa mo_bodies mo_lengthsa mo_lengths mo_headingsa mo_headings mo_keywords mo_keyLettersa mo_keyLetters mo_keyLengthsa mo_keyLengths mo_keyBitsa mo_keyBits mo_words mo_wordLettersa mo_wordLetters mo_wordLengthsa mo_wordLengths mo_wordBitsa mo_wordBits mo_links mo_linkAta mo_linkAt mo_linkLengtha mo_linkLength mo_linkLinea mo_linkLine mo_linkToa mo_linkTo mo_inParagraph mo_emphasis mo_blank mo_lastLine mo_imageSize mo_imagea mo_image mo_compares mo_unlike mo_out mo_total mo_literal mo_handLength mo_handa mo_hand mo_isOpen mo_seenTopics mo_seenNamesa mo_seenNames mo_seenBodiesa mo_seenBodies mo_seenLengthsa mo_seenLengths mo_seenKeywords mo_seenKeyLettersa mo_seenKeyLetters mo_seenKeyLengthsa mo_seenKeyLengths mo_seenKeyBitsa mo_seenKeyBits mo_seenWords mo_seenWordLettersa mo_seenWordLetters mo_seenWordLengthsa mo_seenWordLengths mo_seenWordBitsa mo_seenWordBits mo_topic mo_backs mo_backa mo_back mo_forwards mo_forwarda mo_forward mo_typed mo_querya mo_query mo_visits mo_valuesa mo_values mo_valued mo_signsa mo_signs mo_signed mo_width mo_lines mo_lineFroma mo_lineFrom mo_lineSizea mo_lineSize mo_shown mo_texta mo_text mo_partLength mo_parta mo_part (mo_source (Int32.toNatClampNeg x4)) x3 mo_bodies_146 mo_lengths_146 mo_inParagraph_146 mo_blank_146 mo_lastLine_146 c146) k512_methodLink k513_instanceMethod k514_selects ⟨Nat.le_of_ble_eq_true rfl, Nat.le_of_ble_eq_true rfl⟩ rfl rfl hK hN hP hD hS hA [0, 1, 2, 3, 4, 5, 6, 7, 8, 9, 10, 11, 12, 13, 14, 15, 16, 17, 18, 19, 20, 21, 22, 23, 24, 25, 26, 27, 28, 29, 30, 31, 32, 33, 34, 35] [] rfl rfl rfl (by decide) (by decide) (by decide) 0 rfl rfl rfl rfl hl.1 rfl (Nat.le_of_ble_eq_true rfl) d_Model_textLine_146 (fun H locs hP hD hS => ?_)
                    have hP : va_P (dC, dI) classes ((sh_Model cI cL cZ mo mo_thrown mo_sourcea mo_source mo_size mo_faultLine mo_fault mo_topics mo_namesa mo_names mo_bodiesa mo_bodies_146 mo_lengthsa mo_lengths_146 mo_headingsa mo_headings mo_keywords mo_keyLettersa mo_keyLetters mo_keyLengthsa mo_keyLengths mo_keyBitsa mo_keyBits mo_words mo_wordLettersa mo_wordLetters mo_wordLengthsa mo_wordLengths mo_wordBitsa mo_wordBits mo_links mo_linkAta mo_linkAt mo_linkLengtha mo_linkLength mo_linkLinea mo_linkLine mo_linkToa mo_linkTo mo_inParagraph_146 mo_emphasis mo_blank_146 mo_lastLine_146 mo_imageSize mo_imagea mo_image mo_compares mo_unlike mo_out mo_total mo_literal mo_handLength mo_handa mo_hand mo_isOpen mo_seenTopics mo_seenNamesa mo_seenNames mo_seenBodiesa mo_seenBodies mo_seenLengthsa mo_seenLengths mo_seenKeywords mo_seenKeyLettersa mo_seenKeyLetters mo_seenKeyLengthsa mo_seenKeyLengths mo_seenKeyBitsa mo_seenKeyBits mo_seenWords mo_seenWordLettersa mo_seenWordLetters mo_seenWordLengthsa mo_seenWordLengths mo_seenWordBitsa mo_seenWordBits mo_topic mo_backs mo_backa mo_back mo_forwards mo_forwarda mo_forward mo_typed mo_querya mo_query mo_visits mo_valuesa mo_values mo_valued mo_signsa mo_signs mo_signed mo_width mo_lines mo_lineFroma mo_lineFrom mo_lineSizea mo_lineSize mo_shown mo_texta mo_text mo_partLength mo_parta mo_part)) H := hP.sub [0, 1, 2, 3, 4, 5, 6, 7, 8, 9, 10, 11, 12, 13, 14, 15, 16, 17, 18, 19, 20, 21, 22, 23, 24, 25, 26, 27, 28, 29, 30, 31, 32, 33, 34, 35] rfl
                    have hD : va_D A ((sh_Model cI cL cZ mo mo_thrown mo_sourcea mo_source mo_size mo_faultLine mo_fault mo_topics mo_namesa mo_names mo_bodiesa mo_bodies_146 mo_lengthsa mo_lengths_146 mo_headingsa mo_headings mo_keywords mo_keyLettersa mo_keyLetters mo_keyLengthsa mo_keyLengths mo_keyBitsa mo_keyBits mo_words mo_wordLettersa mo_wordLetters mo_wordLengthsa mo_wordLengths mo_wordBitsa mo_wordBits mo_links mo_linkAta mo_linkAt mo_linkLengtha mo_linkLength mo_linkLinea mo_linkLine mo_linkToa mo_linkTo mo_inParagraph_146 mo_emphasis mo_blank_146 mo_lastLine_146 mo_imageSize mo_imagea mo_image mo_compares mo_unlike mo_out mo_total mo_literal mo_handLength mo_handa mo_hand mo_isOpen mo_seenTopics mo_seenNamesa mo_seenNames mo_seenBodiesa mo_seenBodies mo_seenLengthsa mo_seenLengths mo_seenKeywords mo_seenKeyLettersa mo_seenKeyLetters mo_seenKeyLengthsa mo_seenKeyLengths mo_seenKeyBitsa mo_seenKeyBits mo_seenWords mo_seenWordLettersa mo_seenWordLetters mo_seenWordLengthsa mo_seenWordLengths mo_seenWordBitsa mo_seenWordBits mo_topic mo_backs mo_backa mo_back mo_forwards mo_forwarda mo_forward mo_typed mo_querya mo_query mo_visits mo_valuesa mo_values mo_valued mo_signsa mo_signs mo_signed mo_width mo_lines mo_lineFroma mo_lineFrom mo_lineSizea mo_lineSize mo_shown mo_texta mo_text mo_partLength mo_parta mo_part)) := hD.sub [0, 1, 2, 3, 4, 5, 6, 7, 8, 9, 10, 11, 12, 13, 14, 15, 16, 17, 18, 19, 20, 21, 22, 23, 24, 25, 26, 27, 28, 29, 30, 31, 32, 33, 34, 35] (by decide) rfl
                    refine lv_iinc (k := 4) (v := x4 + 1) (lv' := [(4, .int (x4 + 1)), (5, .int (mo_source (Int32.toNatClampNeg x4))), (0, .ref mo), (2, .int x2), (3, .int x3)]) hx hb d_Model_textLine_149 hl rfl (congrArg (fun z => x4 + z) (by decide)) (by decide) rfl (fun ls hl => ?_)
                    refine lv_goto (tgt := 22) hx hb d_Model_textLine_152 (by decide) ?_
                    exact ih x2 x3 (x4 + 1) mo_faultLine mo_fault mo_bodies_146 mo_lengths_146 mo_links mo_linkAt mo_linkLength mo_linkLine mo_linkTo mo_inParagraph_146 mo_emphasis mo_blank_146 mo_lastLine_146 _ _ _ (lv_sub hl [2, 3, 4, 0] rfl) hP hD hS hd
                  · have hd := hd.1 h129
                    refine lv_aload_n hx hb d_Model_textLine_132 rfl (lv_at hl 1 rfl) ?_
                    refine lv_bipush (v := 6) hx hb d_Model_textLine_133 (by decide) ?_
                    refine lv_iload_n hx hb d_Model_textLine_135 rfl (lv_at hl 3 rfl) ?_
                    obtain ⟨mo_faultLine_136, mo_fault_136, c136, hd⟩ := hd
                    refine ct_V (As := [.int 6, .int x3]) (rest := []) (C := R_Model) (ci := 9) (q := (R_Model, F_Model, 69)) ⟨hx, hb, hml, hown, hts⟩ fm_Model_fail (c_Model_fail l dC dI cI cL cZ mo mo_thrown mo_sourcea mo_source mo_size mo_faultLine mo_fault mo_topics mo_namesa mo_names mo_bodiesa mo_bodies mo_lengthsa mo_lengths mo_headingsa mo_headings mo_keywords mo_keyLettersa mo_keyLetters mo_keyLengthsa mo_keyLengths mo_keyBitsa mo_keyBits mo_words mo_wordLettersa mo_wordLetters mo_wordLengthsa mo_wordLengths mo_wordBitsa mo_wordBits mo_links mo_linkAta mo_linkAt mo_linkLengtha mo_linkLength mo_linkLinea mo_linkLine mo_linkToa mo_linkTo mo_inParagraph mo_emphasis mo_blank mo_lastLine mo_imageSize mo_imagea mo_image mo_compares mo_unlike mo_out mo_total mo_literal mo_handLength mo_handa mo_hand mo_isOpen mo_seenTopics mo_seenNamesa mo_seenNames mo_seenBodiesa mo_seenBodies mo_seenLengthsa mo_seenLengths mo_seenKeywords mo_seenKeyLettersa mo_seenKeyLetters mo_seenKeyLengthsa mo_seenKeyLengths mo_seenKeyBitsa mo_seenKeyBits mo_seenWords mo_seenWordLettersa mo_seenWordLetters mo_seenWordLengthsa mo_seenWordLengths mo_seenWordBitsa mo_seenWordBits mo_topic mo_backs mo_backa mo_back mo_forwards mo_forwarda mo_forward mo_typed mo_querya mo_query mo_visits mo_valuesa mo_values mo_valued mo_signsa mo_signs mo_signed mo_width mo_lines mo_lineFroma mo_lineFrom mo_lineSizea mo_lineSize mo_shown mo_texta mo_text mo_partLength mo_parta mo_part 6 x3 mo_faultLine_136 mo_fault_136 c136) k499_methodLink k500_instanceMethod k501_selects ⟨Nat.le_of_ble_eq_true rfl, Nat.le_of_ble_eq_true rfl⟩ rfl rfl hK hN hP hD hS hA [0, 1, 2, 3, 4, 5, 6, 7, 8, 9, 10, 11, 12, 13, 14, 15, 16, 17, 18, 19, 20, 21, 22, 23, 24, 25, 26, 27, 28, 29, 30, 31, 32, 33, 34, 35] [] rfl rfl rfl (by decide) (by decide) (by decide) 0 rfl rfl rfl rfl hl.1 rfl (Nat.le_of_ble_eq_true rfl) d_Model_textLine_136 (fun H locs hP hD hS => ?_)
                    have hP : va_P (dC, dI) classes ((sh_Model cI cL cZ mo mo_thrown mo_sourcea mo_source mo_size mo_faultLine_136 mo_fault_136 mo_topics mo_namesa mo_names mo_bodiesa mo_bodies mo_lengthsa mo_lengths mo_headingsa mo_headings mo_keywords mo_keyLettersa mo_keyLetters mo_keyLengthsa mo_keyLengths mo_keyBitsa mo_keyBits mo_words mo_wordLettersa mo_wordLetters mo_wordLengthsa mo_wordLengths mo_wordBitsa mo_wordBits mo_links mo_linkAta mo_linkAt mo_linkLengtha mo_linkLength mo_linkLinea mo_linkLine mo_linkToa mo_linkTo mo_inParagraph mo_emphasis mo_blank mo_lastLine mo_imageSize mo_imagea mo_image mo_compares mo_unlike mo_out mo_total mo_literal mo_handLength mo_handa mo_hand mo_isOpen mo_seenTopics mo_seenNamesa mo_seenNames mo_seenBodiesa mo_seenBodies mo_seenLengthsa mo_seenLengths mo_seenKeywords mo_seenKeyLettersa mo_seenKeyLetters mo_seenKeyLengthsa mo_seenKeyLengths mo_seenKeyBitsa mo_seenKeyBits mo_seenWords mo_seenWordLettersa mo_seenWordLetters mo_seenWordLengthsa mo_seenWordLengths mo_seenWordBitsa mo_seenWordBits mo_topic mo_backs mo_backa mo_back mo_forwards mo_forwarda mo_forward mo_typed mo_querya mo_query mo_visits mo_valuesa mo_values mo_valued mo_signsa mo_signs mo_signed mo_width mo_lines mo_lineFroma mo_lineFrom mo_lineSizea mo_lineSize mo_shown mo_texta mo_text mo_partLength mo_parta mo_part)) H := hP.sub [0, 1, 2, 3, 4, 5, 6, 7, 8, 9, 10, 11, 12, 13, 14, 15, 16, 17, 18, 19, 20, 21, 22, 23, 24, 25, 26, 27, 28, 29, 30, 31, 32, 33, 34, 35] rfl
                    have hD : va_D A ((sh_Model cI cL cZ mo mo_thrown mo_sourcea mo_source mo_size mo_faultLine_136 mo_fault_136 mo_topics mo_namesa mo_names mo_bodiesa mo_bodies mo_lengthsa mo_lengths mo_headingsa mo_headings mo_keywords mo_keyLettersa mo_keyLetters mo_keyLengthsa mo_keyLengths mo_keyBitsa mo_keyBits mo_words mo_wordLettersa mo_wordLetters mo_wordLengthsa mo_wordLengths mo_wordBitsa mo_wordBits mo_links mo_linkAta mo_linkAt mo_linkLengtha mo_linkLength mo_linkLinea mo_linkLine mo_linkToa mo_linkTo mo_inParagraph mo_emphasis mo_blank mo_lastLine mo_imageSize mo_imagea mo_image mo_compares mo_unlike mo_out mo_total mo_literal mo_handLength mo_handa mo_hand mo_isOpen mo_seenTopics mo_seenNamesa mo_seenNames mo_seenBodiesa mo_seenBodies mo_seenLengthsa mo_seenLengths mo_seenKeywords mo_seenKeyLettersa mo_seenKeyLetters mo_seenKeyLengthsa mo_seenKeyLengths mo_seenKeyBitsa mo_seenKeyBits mo_seenWords mo_seenWordLettersa mo_seenWordLetters mo_seenWordLengthsa mo_seenWordLengths mo_seenWordBitsa mo_seenWordBits mo_topic mo_backs mo_backa mo_back mo_forwards mo_forwarda mo_forward mo_typed mo_querya mo_query mo_visits mo_valuesa mo_values mo_valued mo_signsa mo_signs mo_signed mo_width mo_lines mo_lineFroma mo_lineFrom mo_lineSizea mo_lineSize mo_shown mo_texta mo_text mo_partLength mo_parta mo_part)) := hD.sub [0, 1, 2, 3, 4, 5, 6, 7, 8, 9, 10, 11, 12, 13, 14, 15, 16, 17, 18, 19, 20, 21, 22, 23, 24, 25, 26, 27, 28, 29, 30, 31, 32, 33, 34, 35] (by decide) rfl
                    refine lv_goto (tgt := 149) hx hb d_Model_textLine_139 (by decide) ?_
                    refine lv_iinc (k := 4) (v := x4 + 1) (lv' := [(4, .int (x4 + 1)), (5, .int (mo_source (Int32.toNatClampNeg x4))), (0, .ref mo), (2, .int x2), (3, .int x3)]) hx hb d_Model_textLine_149 hl rfl (congrArg (fun z => x4 + z) (by decide)) (by decide) rfl (fun ls hl => ?_)
                    refine lv_goto (tgt := 22) hx hb d_Model_textLine_152 (by decide) ?_
                    exact ih x2 x3 (x4 + 1) mo_faultLine_136 mo_fault_136 mo_bodies mo_lengths mo_links mo_linkAt mo_linkLength mo_linkLine mo_linkTo mo_inParagraph mo_emphasis mo_blank mo_lastLine _ _ _ (lv_sub hl [2, 3, 4, 0] rfl) hP hD hS hd
                · have hd := hd.1 h95
                  refine lv_aload_n hx hb d_Model_textLine_98 rfl (lv_at hl 1 rfl) ?_
                  refine lv_iload hx hb d_Model_textLine_99 (lv_at hl 4 rfl) ?_
                  refine lv_iload_n hx hb d_Model_textLine_101 rfl (lv_at hl 2 rfl) ?_
                  refine lv_iload_n hx hb d_Model_textLine_102 rfl (lv_at hl 3 rfl) ?_
                  obtain ⟨r103, mo_faultLine_103, mo_fault_103, mo_bodies_103, mo_lengths_103, mo_links_103, mo_linkAt_103, mo_linkLength_103, mo_linkLine_103, mo_linkTo_103, mo_inParagraph_103, mo_blank_103, mo_lastLine_103, c103, hd⟩ := hd
                  refine ct_V (As := [.int x4, .int x2, .int x3]) (rest := []) (C := R_Model) (ci := 9) (q := (R_Model, F_Model, 69)) ⟨hx, hb, hml, hown, hts⟩ fm_Model_link (c_Model_link l dC dI cI cL cZ mo mo_thrown mo_sourcea mo_source mo_size mo_faultLine mo_fault mo_topics mo_namesa mo_names mo_bodiesa mo_bodies mo_lengthsa mo_lengths mo_headingsa mo_headings mo_keywords mo_keyLettersa mo_keyLetters mo_keyLengthsa mo_keyLengths mo_keyBitsa mo_keyBits mo_words mo_wordLettersa mo_wordLetters mo_wordLengthsa mo_wordLengths mo_wordBitsa mo_wordBits mo_links mo_linkAta mo_linkAt mo_linkLengtha mo_linkLength mo_linkLinea mo_linkLine mo_linkToa mo_linkTo mo_inParagraph mo_emphasis mo_blank mo_lastLine mo_imageSize mo_imagea mo_image mo_compares mo_unlike mo_out mo_total mo_literal mo_handLength mo_handa mo_hand mo_isOpen mo_seenTopics mo_seenNamesa mo_seenNames mo_seenBodiesa mo_seenBodies mo_seenLengthsa mo_seenLengths mo_seenKeywords mo_seenKeyLettersa mo_seenKeyLetters mo_seenKeyLengthsa mo_seenKeyLengths mo_seenKeyBitsa mo_seenKeyBits mo_seenWords mo_seenWordLettersa mo_seenWordLetters mo_seenWordLengthsa mo_seenWordLengths mo_seenWordBitsa mo_seenWordBits mo_topic mo_backs mo_backa mo_back mo_forwards mo_forwarda mo_forward mo_typed mo_querya mo_query mo_visits mo_valuesa mo_values mo_valued mo_signsa mo_signs mo_signed mo_width mo_lines mo_lineFroma mo_lineFrom mo_lineSizea mo_lineSize mo_shown mo_texta mo_text mo_partLength mo_parta mo_part x4 x2 x3 r103 mo_faultLine_103 mo_fault_103 mo_bodies_103 mo_lengths_103 mo_links_103 mo_linkAt_103 mo_linkLength_103 mo_linkLine_103 mo_linkTo_103 mo_inParagraph_103 mo_blank_103 mo_lastLine_103 c103) k520_methodLink k521_instanceMethod k522_selects ⟨Nat.le_of_ble_eq_true rfl, Nat.le_of_ble_eq_true rfl⟩ rfl rfl hK hN hP hD hS hA [0, 1, 2, 3, 4, 5, 6, 7, 8, 9, 10, 11, 12, 13, 14, 15, 16, 17, 18, 19, 20, 21, 22, 23, 24, 25, 26, 27, 28, 29, 30, 31, 32, 33, 34, 35] [] rfl rfl rfl (by decide) (by decide) (by decide) 0 rfl rfl rfl rfl hl.1 rfl (Nat.le_of_ble_eq_true rfl) d_Model_textLine_103 (fun H locs hP hD hS => ?_)
                  have hP : va_P (dC, dI) classes ((sh_Model cI cL cZ mo mo_thrown mo_sourcea mo_source mo_size mo_faultLine_103 mo_fault_103 mo_topics mo_namesa mo_names mo_bodiesa mo_bodies_103 mo_lengthsa mo_lengths_103 mo_headingsa mo_headings mo_keywords mo_keyLettersa mo_keyLetters mo_keyLengthsa mo_keyLengths mo_keyBitsa mo_keyBits mo_words mo_wordLettersa mo_wordLetters mo_wordLengthsa mo_wordLengths mo_wordBitsa mo_wordBits mo_links_103 mo_linkAta mo_linkAt_103 mo_linkLengtha mo_linkLength_103 mo_linkLinea mo_linkLine_103 mo_linkToa mo_linkTo_103 mo_inParagraph_103 mo_emphasis mo_blank_103 mo_lastLine_103 mo_imageSize mo_imagea mo_image mo_compares mo_unlike mo_out mo_total mo_literal mo_handLength mo_handa mo_hand mo_isOpen mo_seenTopics mo_seenNamesa mo_seenNames mo_seenBodiesa mo_seenBodies mo_seenLengthsa mo_seenLengths mo_seenKeywords mo_seenKeyLettersa mo_seenKeyLetters mo_seenKeyLengthsa mo_seenKeyLengths mo_seenKeyBitsa mo_seenKeyBits mo_seenWords mo_seenWordLettersa mo_seenWordLetters mo_seenWordLengthsa mo_seenWordLengths mo_seenWordBitsa mo_seenWordBits mo_topic mo_backs mo_backa mo_back mo_forwards mo_forwarda mo_forward mo_typed mo_querya mo_query mo_visits mo_valuesa mo_values mo_valued mo_signsa mo_signs mo_signed mo_width mo_lines mo_lineFroma mo_lineFrom mo_lineSizea mo_lineSize mo_shown mo_texta mo_text mo_partLength mo_parta mo_part)) H := hP.sub [0, 1, 2, 3, 4, 5, 6, 7, 8, 9, 10, 11, 12, 13, 14, 15, 16, 17, 18, 19, 20, 21, 22, 23, 24, 25, 26, 27, 28, 29, 30, 31, 32, 33, 34, 35] rfl
                  have hD : va_D A ((sh_Model cI cL cZ mo mo_thrown mo_sourcea mo_source mo_size mo_faultLine_103 mo_fault_103 mo_topics mo_namesa mo_names mo_bodiesa mo_bodies_103 mo_lengthsa mo_lengths_103 mo_headingsa mo_headings mo_keywords mo_keyLettersa mo_keyLetters mo_keyLengthsa mo_keyLengths mo_keyBitsa mo_keyBits mo_words mo_wordLettersa mo_wordLetters mo_wordLengthsa mo_wordLengths mo_wordBitsa mo_wordBits mo_links_103 mo_linkAta mo_linkAt_103 mo_linkLengtha mo_linkLength_103 mo_linkLinea mo_linkLine_103 mo_linkToa mo_linkTo_103 mo_inParagraph_103 mo_emphasis mo_blank_103 mo_lastLine_103 mo_imageSize mo_imagea mo_image mo_compares mo_unlike mo_out mo_total mo_literal mo_handLength mo_handa mo_hand mo_isOpen mo_seenTopics mo_seenNamesa mo_seenNames mo_seenBodiesa mo_seenBodies mo_seenLengthsa mo_seenLengths mo_seenKeywords mo_seenKeyLettersa mo_seenKeyLetters mo_seenKeyLengthsa mo_seenKeyLengths mo_seenKeyBitsa mo_seenKeyBits mo_seenWords mo_seenWordLettersa mo_seenWordLetters mo_seenWordLengthsa mo_seenWordLengths mo_seenWordBitsa mo_seenWordBits mo_topic mo_backs mo_backa mo_back mo_forwards mo_forwarda mo_forward mo_typed mo_querya mo_query mo_visits mo_valuesa mo_values mo_valued mo_signsa mo_signs mo_signed mo_width mo_lines mo_lineFroma mo_lineFrom mo_lineSizea mo_lineSize mo_shown mo_texta mo_text mo_partLength mo_parta mo_part)) := hD.sub [0, 1, 2, 3, 4, 5, 6, 7, 8, 9, 10, 11, 12, 13, 14, 15, 16, 17, 18, 19, 20, 21, 22, 23, 24, 25, 26, 27, 28, 29, 30, 31, 32, 33, 34, 35] (by decide) rfl
                  refine lv_istore (lv' := [(6, .int r103), (5, .int (mo_source (Int32.toNatClampNeg x4))), (0, .ref mo), (2, .int x2), (3, .int x3), (4, .int x4)]) hx hb d_Model_textLine_106 hl (by decide) rfl (fun ls hl => ?_)
                  refine lv_iload hx hb d_Model_textLine_108 (lv_at hl 0 rfl) ?_
                  refine lv_if_ge (tgt := 118) hx hb d_Model_textLine_110 (by decide) (fun h110 => ?_) (fun h110 => ?_)
                  · have hd := hd.1 h110
                    refine lv_iload hx hb d_Model_textLine_118 (lv_at hl 0 rfl) ?_
                    refine lv_istore (lv' := [(4, .int r103), (6, .int r103), (5, .int (mo_source (Int32.toNatClampNeg x4))), (0, .ref mo), (2, .int x2), (3, .int x3)]) hx hb d_Model_textLine_120 hl (by decide) rfl (fun ls hl => ?_)
                    refine lv_goto (tgt := 149) hx hb d_Model_textLine_122 (by decide) ?_
                    refine lv_iinc (k := 0) (v := r103 + 1) (lv' := [(4, .int (r103 + 1)), (6, .int r103), (5, .int (mo_source (Int32.toNatClampNeg x4))), (0, .ref mo), (2, .int x2), (3, .int x3)]) hx hb d_Model_textLine_149 hl rfl (congrArg (fun z => r103 + z) (by decide)) (by decide) rfl (fun ls hl => ?_)
                    refine lv_goto (tgt := 22) hx hb d_Model_textLine_152 (by decide) ?_
                    exact ih x2 x3 (r103 + 1) mo_faultLine_103 mo_fault_103 mo_bodies_103 mo_lengths_103 mo_links_103 mo_linkAt_103 mo_linkLength_103 mo_linkLine_103 mo_linkTo_103 mo_inParagraph_103 mo_emphasis mo_blank_103 mo_lastLine_103 _ _ _ (lv_sub hl [3, 4, 5, 0] rfl) hP hD hS hd
                  · have hd := hd.2 h110
                    refine lv_iload hx hb d_Model_textLine_113 (lv_at hl 5 rfl) ?_
                    refine lv_goto (tgt := 120) hx hb d_Model_textLine_115 (by decide) ?_
                    refine lv_istore (lv' := [(4, .int x4), (6, .int r103), (5, .int (mo_source (Int32.toNatClampNeg x4))), (0, .ref mo), (2, .int x2), (3, .int x3)]) hx hb d_Model_textLine_120 hl (by decide) rfl (fun ls hl => ?_)
                    refine lv_goto (tgt := 149) hx hb d_Model_textLine_122 (by decide) ?_
                    refine lv_iinc (k := 0) (v := x4 + 1) (lv' := [(4, .int (x4 + 1)), (6, .int r103), (5, .int (mo_source (Int32.toNatClampNeg x4))), (0, .ref mo), (2, .int x2), (3, .int x3)]) hx hb d_Model_textLine_149 hl rfl (congrArg (fun z => x4 + z) (by decide)) (by decide) rfl (fun ls hl => ?_)
                    refine lv_goto (tgt := 22) hx hb d_Model_textLine_152 (by decide) ?_
                    exact ih x2 x3 (x4 + 1) mo_faultLine_103 mo_fault_103 mo_bodies_103 mo_lengths_103 mo_links_103 mo_linkAt_103 mo_linkLength_103 mo_linkLine_103 mo_linkTo_103 mo_inParagraph_103 mo_emphasis mo_blank_103 mo_lastLine_103 _ _ _ (lv_sub hl [3, 4, 5, 0] rfl) hP hD hS hd
              · have hd := hd.1 h63
                refine lv_aload_n hx hb d_Model_textLine_66 rfl (lv_at hl 1 rfl) ?_
                refine lv_iconst (v := 1) hx hb d_Model_textLine_67 (by decide) ?_
                refine lv_iload_n hx hb d_Model_textLine_68 rfl (lv_at hl 3 rfl) ?_
                obtain ⟨mo_bodies_69, mo_lengths_69, mo_inParagraph_69, mo_blank_69, mo_lastLine_69, c69, hd⟩ := hd
                refine ct_V (As := [.int 1, .int x3]) (rest := []) (C := R_Model) (ci := 9) (q := (R_Model, F_Model, 69)) ⟨hx, hb, hml, hown, hts⟩ fm_Model_addSign (c_Model_addSign l dC dI cI cL cZ mo mo_thrown mo_sourcea mo_source mo_size mo_faultLine mo_fault mo_topics mo_namesa mo_names mo_bodiesa mo_bodies mo_lengthsa mo_lengths mo_headingsa mo_headings mo_keywords mo_keyLettersa mo_keyLetters mo_keyLengthsa mo_keyLengths mo_keyBitsa mo_keyBits mo_words mo_wordLettersa mo_wordLetters mo_wordLengthsa mo_wordLengths mo_wordBitsa mo_wordBits mo_links mo_linkAta mo_linkAt mo_linkLengtha mo_linkLength mo_linkLinea mo_linkLine mo_linkToa mo_linkTo mo_inParagraph mo_emphasis mo_blank mo_lastLine mo_imageSize mo_imagea mo_image mo_compares mo_unlike mo_out mo_total mo_literal mo_handLength mo_handa mo_hand mo_isOpen mo_seenTopics mo_seenNamesa mo_seenNames mo_seenBodiesa mo_seenBodies mo_seenLengthsa mo_seenLengths mo_seenKeywords mo_seenKeyLettersa mo_seenKeyLetters mo_seenKeyLengthsa mo_seenKeyLengths mo_seenKeyBitsa mo_seenKeyBits mo_seenWords mo_seenWordLettersa mo_seenWordLetters mo_seenWordLengthsa mo_seenWordLengths mo_seenWordBitsa mo_seenWordBits mo_topic mo_backs mo_backa mo_back mo_forwards mo_forwarda mo_forward mo_typed mo_querya mo_query mo_visits mo_valuesa mo_values mo_valued mo_signsa mo_signs mo_signed mo_width mo_lines mo_lineFroma mo_lineFrom mo_lineSizea mo_lineSize mo_shown mo_texta mo_text mo_partLength mo_parta mo_part 1 x3 mo_bodies_69 mo_lengths_69 mo_inParagraph_69 mo_blank_69 mo_lastLine_69 c69) k512_methodLink k513_instanceMethod k514_selects ⟨Nat.le_of_ble_eq_true rfl, Nat.le_of_ble_eq_true rfl⟩ rfl rfl hK hN hP hD hS hA [0, 1, 2, 3, 4, 5, 6, 7, 8, 9, 10, 11, 12, 13, 14, 15, 16, 17, 18, 19, 20, 21, 22, 23, 24, 25, 26, 27, 28, 29, 30, 31, 32, 33, 34, 35] [] rfl rfl rfl (by decide) (by decide) (by decide) 0 rfl rfl rfl rfl hl.1 rfl (Nat.le_of_ble_eq_true rfl) d_Model_textLine_69 (fun H locs hP hD hS => ?_)
                have hP : va_P (dC, dI) classes ((sh_Model cI cL cZ mo mo_thrown mo_sourcea mo_source mo_size mo_faultLine mo_fault mo_topics mo_namesa mo_names mo_bodiesa mo_bodies_69 mo_lengthsa mo_lengths_69 mo_headingsa mo_headings mo_keywords mo_keyLettersa mo_keyLetters mo_keyLengthsa mo_keyLengths mo_keyBitsa mo_keyBits mo_words mo_wordLettersa mo_wordLetters mo_wordLengthsa mo_wordLengths mo_wordBitsa mo_wordBits mo_links mo_linkAta mo_linkAt mo_linkLengtha mo_linkLength mo_linkLinea mo_linkLine mo_linkToa mo_linkTo mo_inParagraph_69 mo_emphasis mo_blank_69 mo_lastLine_69 mo_imageSize mo_imagea mo_image mo_compares mo_unlike mo_out mo_total mo_literal mo_handLength mo_handa mo_hand mo_isOpen mo_seenTopics mo_seenNamesa mo_seenNames mo_seenBodiesa mo_seenBodies mo_seenLengthsa mo_seenLengths mo_seenKeywords mo_seenKeyLettersa mo_seenKeyLetters mo_seenKeyLengthsa mo_seenKeyLengths mo_seenKeyBitsa mo_seenKeyBits mo_seenWords mo_seenWordLettersa mo_seenWordLetters mo_seenWordLengthsa mo_seenWordLengths mo_seenWordBitsa mo_seenWordBits mo_topic mo_backs mo_backa mo_back mo_forwards mo_forwarda mo_forward mo_typed mo_querya mo_query mo_visits mo_valuesa mo_values mo_valued mo_signsa mo_signs mo_signed mo_width mo_lines mo_lineFroma mo_lineFrom mo_lineSizea mo_lineSize mo_shown mo_texta mo_text mo_partLength mo_parta mo_part)) H := hP.sub [0, 1, 2, 3, 4, 5, 6, 7, 8, 9, 10, 11, 12, 13, 14, 15, 16, 17, 18, 19, 20, 21, 22, 23, 24, 25, 26, 27, 28, 29, 30, 31, 32, 33, 34, 35] rfl
                have hD : va_D A ((sh_Model cI cL cZ mo mo_thrown mo_sourcea mo_source mo_size mo_faultLine mo_fault mo_topics mo_namesa mo_names mo_bodiesa mo_bodies_69 mo_lengthsa mo_lengths_69 mo_headingsa mo_headings mo_keywords mo_keyLettersa mo_keyLetters mo_keyLengthsa mo_keyLengths mo_keyBitsa mo_keyBits mo_words mo_wordLettersa mo_wordLetters mo_wordLengthsa mo_wordLengths mo_wordBitsa mo_wordBits mo_links mo_linkAta mo_linkAt mo_linkLengtha mo_linkLength mo_linkLinea mo_linkLine mo_linkToa mo_linkTo mo_inParagraph_69 mo_emphasis mo_blank_69 mo_lastLine_69 mo_imageSize mo_imagea mo_image mo_compares mo_unlike mo_out mo_total mo_literal mo_handLength mo_handa mo_hand mo_isOpen mo_seenTopics mo_seenNamesa mo_seenNames mo_seenBodiesa mo_seenBodies mo_seenLengthsa mo_seenLengths mo_seenKeywords mo_seenKeyLettersa mo_seenKeyLetters mo_seenKeyLengthsa mo_seenKeyLengths mo_seenKeyBitsa mo_seenKeyBits mo_seenWords mo_seenWordLettersa mo_seenWordLetters mo_seenWordLengthsa mo_seenWordLengths mo_seenWordBitsa mo_seenWordBits mo_topic mo_backs mo_backa mo_back mo_forwards mo_forwarda mo_forward mo_typed mo_querya mo_query mo_visits mo_valuesa mo_values mo_valued mo_signsa mo_signs mo_signed mo_width mo_lines mo_lineFroma mo_lineFrom mo_lineSizea mo_lineSize mo_shown mo_texta mo_text mo_partLength mo_parta mo_part)) := hD.sub [0, 1, 2, 3, 4, 5, 6, 7, 8, 9, 10, 11, 12, 13, 14, 15, 16, 17, 18, 19, 20, 21, 22, 23, 24, 25, 26, 27, 28, 29, 30, 31, 32, 33, 34, 35] (by decide) rfl
                refine lv_aload_n hx hb d_Model_textLine_72 rfl (lv_at hl 1 rfl) ?_
                refine lv_aload_n hx hb d_Model_textLine_73 rfl (lv_at hl 1 rfl) ?_
                refine va_get (D := (dC, dI)) (ci := 9) (v := .int (bI mo_emphasis)) (C := R_Model) (T := F_Model) (N := 69) hx hb hts in_Model hown hK hP 0 rfl rfl 24 (by decide) (hts _ (List.mem_cons_of_mem _ k511_fieldLink)) (fun _ h9 => h9) rfl d_Model_textLine_74 ?_
                refine lv_if_ne (tgt := 84) hx hb d_Model_textLine_77 (by decide) (fun h77 => ?_) (fun h77 => ?_)
                · have hd := hd.2 h77
                  refine lv_iconst (v := 0) hx hb d_Model_textLine_84 (by decide) ?_
                  refine va_put (D := (dC, dI)) (ci := 9) (v := .int (bI false)) (ty := t_Model 24) (C := R_Model) (T := F_Model) (N := 69) hx hb hts in_Model t_Model t_Model_ok n_Model hown hK hP hD hS 0 rfl rfl 24 (by decide) (hts _ (List.mem_cons_of_mem _ k511_fieldLink)) (fun _ h9 => h9) rfl (t_Model_ok 24 (by decide)) (bI_nar _) (bI_fit _) (Nat.le_of_ble_eq_true rfl) d_Model_textLine_85 (fun H locs hP hD hS => ?_)
                  have hP : va_P (dC, dI) classes ((sh_Model cI cL cZ mo mo_thrown mo_sourcea mo_source mo_size mo_faultLine mo_fault mo_topics mo_namesa mo_names mo_bodiesa mo_bodies_69 mo_lengthsa mo_lengths_69 mo_headingsa mo_headings mo_keywords mo_keyLettersa mo_keyLetters mo_keyLengthsa mo_keyLengths mo_keyBitsa mo_keyBits mo_words mo_wordLettersa mo_wordLetters mo_wordLengthsa mo_wordLengths mo_wordBitsa mo_wordBits mo_links mo_linkAta mo_linkAt mo_linkLengtha mo_linkLength mo_linkLinea mo_linkLine mo_linkToa mo_linkTo mo_inParagraph_69 false mo_blank_69 mo_lastLine_69 mo_imageSize mo_imagea mo_image mo_compares mo_unlike mo_out mo_total mo_literal mo_handLength mo_handa mo_hand mo_isOpen mo_seenTopics mo_seenNamesa mo_seenNames mo_seenBodiesa mo_seenBodies mo_seenLengthsa mo_seenLengths mo_seenKeywords mo_seenKeyLettersa mo_seenKeyLetters mo_seenKeyLengthsa mo_seenKeyLengths mo_seenKeyBitsa mo_seenKeyBits mo_seenWords mo_seenWordLettersa mo_seenWordLetters mo_seenWordLengthsa mo_seenWordLengths mo_seenWordBitsa mo_seenWordBits mo_topic mo_backs mo_backa mo_back mo_forwards mo_forwarda mo_forward mo_typed mo_querya mo_query mo_visits mo_valuesa mo_values mo_valued mo_signsa mo_signs mo_signed mo_width mo_lines mo_lineFroma mo_lineFrom mo_lineSizea mo_lineSize mo_shown mo_texta mo_text mo_partLength mo_parta mo_part)) H := hP
                  have hD : va_D A ((sh_Model cI cL cZ mo mo_thrown mo_sourcea mo_source mo_size mo_faultLine mo_fault mo_topics mo_namesa mo_names mo_bodiesa mo_bodies_69 mo_lengthsa mo_lengths_69 mo_headingsa mo_headings mo_keywords mo_keyLettersa mo_keyLetters mo_keyLengthsa mo_keyLengths mo_keyBitsa mo_keyBits mo_words mo_wordLettersa mo_wordLetters mo_wordLengthsa mo_wordLengths mo_wordBitsa mo_wordBits mo_links mo_linkAta mo_linkAt mo_linkLengtha mo_linkLength mo_linkLinea mo_linkLine mo_linkToa mo_linkTo mo_inParagraph_69 false mo_blank_69 mo_lastLine_69 mo_imageSize mo_imagea mo_image mo_compares mo_unlike mo_out mo_total mo_literal mo_handLength mo_handa mo_hand mo_isOpen mo_seenTopics mo_seenNamesa mo_seenNames mo_seenBodiesa mo_seenBodies mo_seenLengthsa mo_seenLengths mo_seenKeywords mo_seenKeyLettersa mo_seenKeyLetters mo_seenKeyLengthsa mo_seenKeyLengths mo_seenKeyBitsa mo_seenKeyBits mo_seenWords mo_seenWordLettersa mo_seenWordLetters mo_seenWordLengthsa mo_seenWordLengths mo_seenWordBitsa mo_seenWordBits mo_topic mo_backs mo_backa mo_back mo_forwards mo_forwarda mo_forward mo_typed mo_querya mo_query mo_visits mo_valuesa mo_values mo_valued mo_signsa mo_signs mo_signed mo_width mo_lines mo_lineFroma mo_lineFrom mo_lineSizea mo_lineSize mo_shown mo_texta mo_text mo_partLength mo_parta mo_part)) := hD
                  refine lv_goto (tgt := 149) hx hb d_Model_textLine_88 (by decide) ?_
                  refine lv_iinc (k := 4) (v := x4 + 1) (lv' := [(4, .int (x4 + 1)), (5, .int (mo_source (Int32.toNatClampNeg x4))), (0, .ref mo), (2, .int x2), (3, .int x3)]) hx hb d_Model_textLine_149 hl rfl (congrArg (fun z => x4 + z) (by decide)) (by decide) rfl (fun ls hl => ?_)
                  refine lv_goto (tgt := 22) hx hb d_Model_textLine_152 (by decide) ?_
                  exact ih x2 x3 (x4 + 1) mo_faultLine mo_fault mo_bodies_69 mo_lengths_69 mo_links mo_linkAt mo_linkLength mo_linkLine mo_linkTo mo_inParagraph_69 false mo_blank_69 mo_lastLine_69 _ _ _ (lv_sub hl [2, 3, 4, 0] rfl) hP hD hS hd
                · have hd := hd.1 h77
                  refine lv_iconst (v := 1) hx hb d_Model_textLine_80 (by decide) ?_
                  refine lv_goto (tgt := 85) hx hb d_Model_textLine_81 (by decide) ?_
                  refine va_put (D := (dC, dI)) (ci := 9) (v := .int (bI true)) (ty := t_Model 24) (C := R_Model) (T := F_Model) (N := 69) hx hb hts in_Model t_Model t_Model_ok n_Model hown hK hP hD hS 0 rfl rfl 24 (by decide) (hts _ (List.mem_cons_of_mem _ k511_fieldLink)) (fun _ h9 => h9) rfl (t_Model_ok 24 (by decide)) (bI_nar _) (bI_fit _) (Nat.le_of_ble_eq_true rfl) d_Model_textLine_85 (fun H locs hP hD hS => ?_)
                  have hP : va_P (dC, dI) classes ((sh_Model cI cL cZ mo mo_thrown mo_sourcea mo_source mo_size mo_faultLine mo_fault mo_topics mo_namesa mo_names mo_bodiesa mo_bodies_69 mo_lengthsa mo_lengths_69 mo_headingsa mo_headings mo_keywords mo_keyLettersa mo_keyLetters mo_keyLengthsa mo_keyLengths mo_keyBitsa mo_keyBits mo_words mo_wordLettersa mo_wordLetters mo_wordLengthsa mo_wordLengths mo_wordBitsa mo_wordBits mo_links mo_linkAta mo_linkAt mo_linkLengtha mo_linkLength mo_linkLinea mo_linkLine mo_linkToa mo_linkTo mo_inParagraph_69 true mo_blank_69 mo_lastLine_69 mo_imageSize mo_imagea mo_image mo_compares mo_unlike mo_out mo_total mo_literal mo_handLength mo_handa mo_hand mo_isOpen mo_seenTopics mo_seenNamesa mo_seenNames mo_seenBodiesa mo_seenBodies mo_seenLengthsa mo_seenLengths mo_seenKeywords mo_seenKeyLettersa mo_seenKeyLetters mo_seenKeyLengthsa mo_seenKeyLengths mo_seenKeyBitsa mo_seenKeyBits mo_seenWords mo_seenWordLettersa mo_seenWordLetters mo_seenWordLengthsa mo_seenWordLengths mo_seenWordBitsa mo_seenWordBits mo_topic mo_backs mo_backa mo_back mo_forwards mo_forwarda mo_forward mo_typed mo_querya mo_query mo_visits mo_valuesa mo_values mo_valued mo_signsa mo_signs mo_signed mo_width mo_lines mo_lineFroma mo_lineFrom mo_lineSizea mo_lineSize mo_shown mo_texta mo_text mo_partLength mo_parta mo_part)) H := hP
                  have hD : va_D A ((sh_Model cI cL cZ mo mo_thrown mo_sourcea mo_source mo_size mo_faultLine mo_fault mo_topics mo_namesa mo_names mo_bodiesa mo_bodies_69 mo_lengthsa mo_lengths_69 mo_headingsa mo_headings mo_keywords mo_keyLettersa mo_keyLetters mo_keyLengthsa mo_keyLengths mo_keyBitsa mo_keyBits mo_words mo_wordLettersa mo_wordLetters mo_wordLengthsa mo_wordLengths mo_wordBitsa mo_wordBits mo_links mo_linkAta mo_linkAt mo_linkLengtha mo_linkLength mo_linkLinea mo_linkLine mo_linkToa mo_linkTo mo_inParagraph_69 true mo_blank_69 mo_lastLine_69 mo_imageSize mo_imagea mo_image mo_compares mo_unlike mo_out mo_total mo_literal mo_handLength mo_handa mo_hand mo_isOpen mo_seenTopics mo_seenNamesa mo_seenNames mo_seenBodiesa mo_seenBodies mo_seenLengthsa mo_seenLengths mo_seenKeywords mo_seenKeyLettersa mo_seenKeyLetters mo_seenKeyLengthsa mo_seenKeyLengths mo_seenKeyBitsa mo_seenKeyBits mo_seenWords mo_seenWordLettersa mo_seenWordLetters mo_seenWordLengthsa mo_seenWordLengths mo_seenWordBitsa mo_seenWordBits mo_topic mo_backs mo_backa mo_back mo_forwards mo_forwarda mo_forward mo_typed mo_querya mo_query mo_visits mo_valuesa mo_values mo_valued mo_signsa mo_signs mo_signed mo_width mo_lines mo_lineFroma mo_lineFrom mo_lineSizea mo_lineSize mo_shown mo_texta mo_text mo_partLength mo_parta mo_part)) := hD
                  refine lv_goto (tgt := 149) hx hb d_Model_textLine_88 (by decide) ?_
                  refine lv_iinc (k := 4) (v := x4 + 1) (lv' := [(4, .int (x4 + 1)), (5, .int (mo_source (Int32.toNatClampNeg x4))), (0, .ref mo), (2, .int x2), (3, .int x3)]) hx hb d_Model_textLine_149 hl rfl (congrArg (fun z => x4 + z) (by decide)) (by decide) rfl (fun ls hl => ?_)
                  refine lv_goto (tgt := 22) hx hb d_Model_textLine_152 (by decide) ?_
                  exact ih x2 x3 (x4 + 1) mo_faultLine mo_fault mo_bodies_69 mo_lengths_69 mo_links mo_linkAt mo_linkLength mo_linkLine mo_linkTo mo_inParagraph_69 true mo_blank_69 mo_lastLine_69 _ _ _ (lv_sub hl [2, 3, 4, 0] rfl) hP hD hS hd
            · have hd := hd.1 h48
              refine lv_aload_n hx hb d_Model_textLine_51 rfl (lv_at hl 1 rfl) ?_
              refine lv_iconst (v := 1) hx hb d_Model_textLine_52 (by decide) ?_
              refine va_put (D := (dC, dI)) (ci := 9) (v := .int (bI true)) (ty := t_Model 25) (C := R_Model) (T := F_Model) (N := 69) hx hb hts in_Model t_Model t_Model_ok n_Model hown hK hP hD hS 0 rfl rfl 25 (by decide) (hts _ (List.mem_cons_of_mem _ k505_fieldLink)) (fun _ h9 => h9) rfl (t_Model_ok 25 (by decide)) (bI_nar _) (bI_fit _) (Nat.le_of_ble_eq_true rfl) d_Model_textLine_53 (fun H locs hP hD hS => ?_)
              have hP : va_P (dC, dI) classes ((sh_Model cI cL cZ mo mo_thrown mo_sourcea mo_source mo_size mo_faultLine mo_fault mo_topics mo_namesa mo_names mo_bodiesa mo_bodies mo_lengthsa mo_lengths mo_headingsa mo_headings mo_keywords mo_keyLettersa mo_keyLetters mo_keyLengthsa mo_keyLengths mo_keyBitsa mo_keyBits mo_words mo_wordLettersa mo_wordLetters mo_wordLengthsa mo_wordLengths mo_wordBitsa mo_wordBits mo_links mo_linkAta mo_linkAt mo_linkLengtha mo_linkLength mo_linkLinea mo_linkLine mo_linkToa mo_linkTo mo_inParagraph mo_emphasis true mo_lastLine mo_imageSize mo_imagea mo_image mo_compares mo_unlike mo_out mo_total mo_literal mo_handLength mo_handa mo_hand mo_isOpen mo_seenTopics mo_seenNamesa mo_seenNames mo_seenBodiesa mo_seenBodies mo_seenLengthsa mo_seenLengths mo_seenKeywords mo_seenKeyLettersa mo_seenKeyLetters mo_seenKeyLengthsa mo_seenKeyLengths mo_seenKeyBitsa mo_seenKeyBits mo_seenWords mo_seenWordLettersa mo_seenWordLetters mo_seenWordLengthsa mo_seenWordLengths mo_seenWordBitsa mo_seenWordBits mo_topic mo_backs mo_backa mo_back mo_forwards mo_forwarda mo_forward mo_typed mo_querya mo_query mo_visits mo_valuesa mo_values mo_valued mo_signsa mo_signs mo_signed mo_width mo_lines mo_lineFroma mo_lineFrom mo_lineSizea mo_lineSize mo_shown mo_texta mo_text mo_partLength mo_parta mo_part)) H := hP
              have hD : va_D A ((sh_Model cI cL cZ mo mo_thrown mo_sourcea mo_source mo_size mo_faultLine mo_fault mo_topics mo_namesa mo_names mo_bodiesa mo_bodies mo_lengthsa mo_lengths mo_headingsa mo_headings mo_keywords mo_keyLettersa mo_keyLetters mo_keyLengthsa mo_keyLengths mo_keyBitsa mo_keyBits mo_words mo_wordLettersa mo_wordLetters mo_wordLengthsa mo_wordLengths mo_wordBitsa mo_wordBits mo_links mo_linkAta mo_linkAt mo_linkLengtha mo_linkLength mo_linkLinea mo_linkLine mo_linkToa mo_linkTo mo_inParagraph mo_emphasis true mo_lastLine mo_imageSize mo_imagea mo_image mo_compares mo_unlike mo_out mo_total mo_literal mo_handLength mo_handa mo_hand mo_isOpen mo_seenTopics mo_seenNamesa mo_seenNames mo_seenBodiesa mo_seenBodies mo_seenLengthsa mo_seenLengths mo_seenKeywords mo_seenKeyLettersa mo_seenKeyLetters mo_seenKeyLengthsa mo_seenKeyLengths mo_seenKeyBitsa mo_seenKeyBits mo_seenWords mo_seenWordLettersa mo_seenWordLetters mo_seenWordLengthsa mo_seenWordLengths mo_seenWordBitsa mo_seenWordBits mo_topic mo_backs mo_backa mo_back mo_forwards mo_forwarda mo_forward mo_typed mo_querya mo_query mo_visits mo_valuesa mo_values mo_valued mo_signsa mo_signs mo_signed mo_width mo_lines mo_lineFroma mo_lineFrom mo_lineSizea mo_lineSize mo_shown mo_texta mo_text mo_partLength mo_parta mo_part)) := hD
              refine lv_goto (tgt := 149) hx hb d_Model_textLine_56 (by decide) ?_
              refine lv_iinc (k := 4) (v := x4 + 1) (lv' := [(4, .int (x4 + 1)), (5, .int (mo_source (Int32.toNatClampNeg x4))), (0, .ref mo), (2, .int x2), (3, .int x3)]) hx hb d_Model_textLine_149 hl rfl (congrArg (fun z => x4 + z) (by decide)) (by decide) rfl (fun ls hl => ?_)
              refine lv_goto (tgt := 22) hx hb d_Model_textLine_152 (by decide) ?_
              exact ih x2 x3 (x4 + 1) mo_faultLine mo_fault mo_bodies mo_lengths mo_links mo_linkAt mo_linkLength mo_linkLine mo_linkTo mo_inParagraph mo_emphasis true mo_lastLine _ _ _ (lv_sub hl [2, 3, 4, 0] rfl) hP hD hS hd
  obtain ⟨n, hd⟩ := hd
  refine lv_aload_n hx hb d_Model_textLine_0 rfl (lv_at hl 0 rfl) ?_
  refine va_get (D := (dC, dI)) (ci := 9) (v := .int mo_topics) (C := R_Model) (T := F_Model) (N := 69) hx hb hts in_Model hown hK hP 0 rfl rfl 5 (by decide) (hts _ (List.mem_cons_of_mem _ k491_fieldLink)) (fun _ h9 => h9) rfl d_Model_textLine_1 ?_
  refine lv_if_ne (tgt := 14) hx hb d_Model_textLine_4 (by decide) (fun h4 => ?_) (fun h4 => ?_)
  · have hd := hd.2 h4
    refine lv_aload_n hx hb d_Model_textLine_14 rfl (lv_at hl 0 rfl) ?_
    refine lv_iconst (v := 1) hx hb d_Model_textLine_15 (by decide) ?_
    refine va_put (D := (dC, dI)) (ci := 9) (v := .int (bI true)) (ty := t_Model 25) (C := R_Model) (T := F_Model) (N := 69) hx hb hts in_Model t_Model t_Model_ok n_Model hown hK hP hD hS 0 rfl rfl 25 (by decide) (hts _ (List.mem_cons_of_mem _ k505_fieldLink)) (fun _ h9 => h9) rfl (t_Model_ok 25 (by decide)) (bI_nar _) (bI_fit _) (Nat.le_of_ble_eq_true rfl) d_Model_textLine_16 (fun H locs hP hD hS => ?_)
    have hP : va_P (dC, dI) classes ((sh_Model cI cL cZ mo mo_thrown mo_sourcea mo_source mo_size mo_faultLine mo_fault mo_topics mo_namesa mo_names mo_bodiesa mo_bodies mo_lengthsa mo_lengths mo_headingsa mo_headings mo_keywords mo_keyLettersa mo_keyLetters mo_keyLengthsa mo_keyLengths mo_keyBitsa mo_keyBits mo_words mo_wordLettersa mo_wordLetters mo_wordLengthsa mo_wordLengths mo_wordBitsa mo_wordBits mo_links mo_linkAta mo_linkAt mo_linkLengtha mo_linkLength mo_linkLinea mo_linkLine mo_linkToa mo_linkTo mo_inParagraph mo_emphasis true mo_lastLine mo_imageSize mo_imagea mo_image mo_compares mo_unlike mo_out mo_total mo_literal mo_handLength mo_handa mo_hand mo_isOpen mo_seenTopics mo_seenNamesa mo_seenNames mo_seenBodiesa mo_seenBodies mo_seenLengthsa mo_seenLengths mo_seenKeywords mo_seenKeyLettersa mo_seenKeyLetters mo_seenKeyLengthsa mo_seenKeyLengths mo_seenKeyBitsa mo_seenKeyBits mo_seenWords mo_seenWordLettersa mo_seenWordLetters mo_seenWordLengthsa mo_seenWordLengths mo_seenWordBitsa mo_seenWordBits mo_topic mo_backs mo_backa mo_back mo_forwards mo_forwarda mo_forward mo_typed mo_querya mo_query mo_visits mo_valuesa mo_values mo_valued mo_signsa mo_signs mo_signed mo_width mo_lines mo_lineFroma mo_lineFrom mo_lineSizea mo_lineSize mo_shown mo_texta mo_text mo_partLength mo_parta mo_part)) H := hP
    have hD : va_D A ((sh_Model cI cL cZ mo mo_thrown mo_sourcea mo_source mo_size mo_faultLine mo_fault mo_topics mo_namesa mo_names mo_bodiesa mo_bodies mo_lengthsa mo_lengths mo_headingsa mo_headings mo_keywords mo_keyLettersa mo_keyLetters mo_keyLengthsa mo_keyLengths mo_keyBitsa mo_keyBits mo_words mo_wordLettersa mo_wordLetters mo_wordLengthsa mo_wordLengths mo_wordBitsa mo_wordBits mo_links mo_linkAta mo_linkAt mo_linkLengtha mo_linkLength mo_linkLinea mo_linkLine mo_linkToa mo_linkTo mo_inParagraph mo_emphasis true mo_lastLine mo_imageSize mo_imagea mo_image mo_compares mo_unlike mo_out mo_total mo_literal mo_handLength mo_handa mo_hand mo_isOpen mo_seenTopics mo_seenNamesa mo_seenNames mo_seenBodiesa mo_seenBodies mo_seenLengthsa mo_seenLengths mo_seenKeywords mo_seenKeyLettersa mo_seenKeyLetters mo_seenKeyLengthsa mo_seenKeyLengths mo_seenKeyBitsa mo_seenKeyBits mo_seenWords mo_seenWordLettersa mo_seenWordLetters mo_seenWordLengthsa mo_seenWordLengths mo_seenWordBitsa mo_seenWordBits mo_topic mo_backs mo_backa mo_back mo_forwards mo_forwarda mo_forward mo_typed mo_querya mo_query mo_visits mo_valuesa mo_values mo_valued mo_signsa mo_signs mo_signed mo_width mo_lines mo_lineFroma mo_lineFrom mo_lineSizea mo_lineSize mo_shown mo_texta mo_text mo_partLength mo_parta mo_part)) := hD
    refine lv_iload_n hx hb d_Model_textLine_19 rfl (lv_at hl 1 rfl) ?_
    refine lv_istore (lv' := [(4, .int k0), (0, .ref mo), (1, .int k0), (2, .int k1), (3, .int k2)]) hx hb d_Model_textLine_20 hl (by decide) rfl (fun ls hl => ?_)
    exact (key n) k1 k2 k0 mo_faultLine mo_fault mo_bodies mo_lengths mo_links mo_linkAt mo_linkLength mo_linkLine mo_linkTo mo_inParagraph mo_emphasis true mo_lastLine _ _ _ (lv_sub hl [1, 3, 4, 0] rfl) hP hD hS hd
  · have hd := hd.1 h4
    refine lv_aload_n hx hb d_Model_textLine_7 rfl (lv_at hl 0 rfl) ?_
    refine lv_iconst (v := 1) hx hb d_Model_textLine_8 (by decide) ?_
    refine lv_iload_n hx hb d_Model_textLine_9 rfl (lv_at hl 3 rfl) ?_
    obtain ⟨mo_faultLine_10, mo_fault_10, c10, hd⟩ := hd
    refine ct_V (As := [.int 1, .int k2]) (rest := []) (C := R_Model) (ci := 9) (q := (R_Model, F_Model, 69)) ⟨hx, hb, hml, hown, hts⟩ fm_Model_fail (c_Model_fail l dC dI cI cL cZ mo mo_thrown mo_sourcea mo_source mo_size mo_faultLine mo_fault mo_topics mo_namesa mo_names mo_bodiesa mo_bodies mo_lengthsa mo_lengths mo_headingsa mo_headings mo_keywords mo_keyLettersa mo_keyLetters mo_keyLengthsa mo_keyLengths mo_keyBitsa mo_keyBits mo_words mo_wordLettersa mo_wordLetters mo_wordLengthsa mo_wordLengths mo_wordBitsa mo_wordBits mo_links mo_linkAta mo_linkAt mo_linkLengtha mo_linkLength mo_linkLinea mo_linkLine mo_linkToa mo_linkTo mo_inParagraph mo_emphasis mo_blank mo_lastLine mo_imageSize mo_imagea mo_image mo_compares mo_unlike mo_out mo_total mo_literal mo_handLength mo_handa mo_hand mo_isOpen mo_seenTopics mo_seenNamesa mo_seenNames mo_seenBodiesa mo_seenBodies mo_seenLengthsa mo_seenLengths mo_seenKeywords mo_seenKeyLettersa mo_seenKeyLetters mo_seenKeyLengthsa mo_seenKeyLengths mo_seenKeyBitsa mo_seenKeyBits mo_seenWords mo_seenWordLettersa mo_seenWordLetters mo_seenWordLengthsa mo_seenWordLengths mo_seenWordBitsa mo_seenWordBits mo_topic mo_backs mo_backa mo_back mo_forwards mo_forwarda mo_forward mo_typed mo_querya mo_query mo_visits mo_valuesa mo_values mo_valued mo_signsa mo_signs mo_signed mo_width mo_lines mo_lineFroma mo_lineFrom mo_lineSizea mo_lineSize mo_shown mo_texta mo_text mo_partLength mo_parta mo_part 1 k2 mo_faultLine_10 mo_fault_10 c10) k499_methodLink k500_instanceMethod k501_selects ⟨Nat.le_of_ble_eq_true rfl, Nat.le_of_ble_eq_true rfl⟩ rfl rfl hK hN hP hD hS hA [0, 1, 2, 3, 4, 5, 6, 7, 8, 9, 10, 11, 12, 13, 14, 15, 16, 17, 18, 19, 20, 21, 22, 23, 24, 25, 26, 27, 28, 29, 30, 31, 32, 33, 34, 35] [] rfl rfl rfl (by decide) (by decide) (by decide) 0 rfl rfl rfl rfl hl.1 rfl (Nat.le_of_ble_eq_true rfl) d_Model_textLine_10 (fun H locs hP hD hS => ?_)
    have hP : va_P (dC, dI) classes ((sh_Model cI cL cZ mo mo_thrown mo_sourcea mo_source mo_size mo_faultLine_10 mo_fault_10 mo_topics mo_namesa mo_names mo_bodiesa mo_bodies mo_lengthsa mo_lengths mo_headingsa mo_headings mo_keywords mo_keyLettersa mo_keyLetters mo_keyLengthsa mo_keyLengths mo_keyBitsa mo_keyBits mo_words mo_wordLettersa mo_wordLetters mo_wordLengthsa mo_wordLengths mo_wordBitsa mo_wordBits mo_links mo_linkAta mo_linkAt mo_linkLengtha mo_linkLength mo_linkLinea mo_linkLine mo_linkToa mo_linkTo mo_inParagraph mo_emphasis mo_blank mo_lastLine mo_imageSize mo_imagea mo_image mo_compares mo_unlike mo_out mo_total mo_literal mo_handLength mo_handa mo_hand mo_isOpen mo_seenTopics mo_seenNamesa mo_seenNames mo_seenBodiesa mo_seenBodies mo_seenLengthsa mo_seenLengths mo_seenKeywords mo_seenKeyLettersa mo_seenKeyLetters mo_seenKeyLengthsa mo_seenKeyLengths mo_seenKeyBitsa mo_seenKeyBits mo_seenWords mo_seenWordLettersa mo_seenWordLetters mo_seenWordLengthsa mo_seenWordLengths mo_seenWordBitsa mo_seenWordBits mo_topic mo_backs mo_backa mo_back mo_forwards mo_forwarda mo_forward mo_typed mo_querya mo_query mo_visits mo_valuesa mo_values mo_valued mo_signsa mo_signs mo_signed mo_width mo_lines mo_lineFroma mo_lineFrom mo_lineSizea mo_lineSize mo_shown mo_texta mo_text mo_partLength mo_parta mo_part)) H := hP.sub [0, 1, 2, 3, 4, 5, 6, 7, 8, 9, 10, 11, 12, 13, 14, 15, 16, 17, 18, 19, 20, 21, 22, 23, 24, 25, 26, 27, 28, 29, 30, 31, 32, 33, 34, 35] rfl
    have hD : va_D A ((sh_Model cI cL cZ mo mo_thrown mo_sourcea mo_source mo_size mo_faultLine_10 mo_fault_10 mo_topics mo_namesa mo_names mo_bodiesa mo_bodies mo_lengthsa mo_lengths mo_headingsa mo_headings mo_keywords mo_keyLettersa mo_keyLetters mo_keyLengthsa mo_keyLengths mo_keyBitsa mo_keyBits mo_words mo_wordLettersa mo_wordLetters mo_wordLengthsa mo_wordLengths mo_wordBitsa mo_wordBits mo_links mo_linkAta mo_linkAt mo_linkLengtha mo_linkLength mo_linkLinea mo_linkLine mo_linkToa mo_linkTo mo_inParagraph mo_emphasis mo_blank mo_lastLine mo_imageSize mo_imagea mo_image mo_compares mo_unlike mo_out mo_total mo_literal mo_handLength mo_handa mo_hand mo_isOpen mo_seenTopics mo_seenNamesa mo_seenNames mo_seenBodiesa mo_seenBodies mo_seenLengthsa mo_seenLengths mo_seenKeywords mo_seenKeyLettersa mo_seenKeyLetters mo_seenKeyLengthsa mo_seenKeyLengths mo_seenKeyBitsa mo_seenKeyBits mo_seenWords mo_seenWordLettersa mo_seenWordLetters mo_seenWordLengthsa mo_seenWordLengths mo_seenWordBitsa mo_seenWordBits mo_topic mo_backs mo_backa mo_back mo_forwards mo_forwarda mo_forward mo_typed mo_querya mo_query mo_visits mo_valuesa mo_values mo_valued mo_signsa mo_signs mo_signed mo_width mo_lines mo_lineFroma mo_lineFrom mo_lineSizea mo_lineSize mo_shown mo_texta mo_text mo_partLength mo_parta mo_part)) := hD.sub [0, 1, 2, 3, 4, 5, 6, 7, 8, 9, 10, 11, 12, 13, 14, 15, 16, 17, 18, 19, 20, 21, 22, 23, 24, 25, 26, 27, 28, 29, 30, 31, 32, 33, 34, 35] (by decide) rfl
    obtain ⟨e0, e1, e2, e3, e4, e5, e6, e7, e8, e9, e10, e11, e12⟩ := hd
    subst e0
    subst e1
    subst e2
    subst e3
    subst e4
    subst e5
    subst e6
    subst e7
    subst e8
    subst e9
    subst e10
    subst e11
    subst e12
    exact ct_vret hx hb hr hlocks hK hP hD hS d_Model_textLine_13
-- Model.against
abbrev b_Model_against_keyLetters : ByteArray := prog_14_method_25_code
def y_Model_against_keyLetters : MethodName := ⟨"HelpFileModel", "against", "([III)I"⟩
theorem k523_fieldLink : Cond.fieldLink "HelpFileModel" 184 "HelpFileModel" "handLength" "I" ∈ ga := ga_t 1070 (by decide +kernel) rfl
theorem k524_fieldLink : Cond.fieldLink "HelpFileModel" 62 "HelpFileModel" "hand" "[I" ∈ ga := ga_t 1071 (by decide +kernel) rfl
set_option maxRecDepth 100000 in
theorem fm_Model_against_keyLetters : Fm y_Model_against_keyLetters b_Model_against_keyLetters 7 (some .int) 3 := ⟨ga_t 1321 rfl rfl, k479_initialized, by decide, by decide, by decide +kernel⟩
def B_Model_against_keyLetters_3 (mo_keyLetters : Nat → Int32) (mo_handLength : Int32) (mo_hand : Nat → Int32) (res : Int32) (X : Nat → Int32 → Int32 → Int32 → Int32 → Prop) (x2 : Int32) (x3 : Int32) (x4 : Int32) : Prop := ((mo_handLength ≤ x4 → X 1 x2 x3 x4 0) ∧ (¬ (mo_handLength ≤ x4) → ((x3 ≤ x4 → X 1 x2 x3 x4 0) ∧ (¬ (x3 ≤ x4) → (vp_in x4 40 ∧ (vp_in (x2 + x4) 2000 ∧ (((mo_hand (Int32.toNatClampNeg x4)) = (mo_keyLetters (Int32.toNatClampNeg (x2 + x4))) → X 0 x2 x3 (x4 + 1) 0) ∧ (¬ ((mo_hand (Int32.toNatClampNeg x4)) = (mo_keyLetters (Int32.toNatClampNeg (x2 + x4)))) → X 1 x2 x3 x4 0))))))))
def B_Model_against_keyLetters_40 (mo_keyLetters : Nat → Int32) (mo_handLength : Int32) (mo_hand : Nat → Int32) (res : Int32) (X : Nat → Int32 → Int32 → Int32 → Int32 → Prop) (x2 : Int32) (x3 : Int32) (x4 : Int32) : Prop := ((mo_handLength ≤ x4 → X 2 x2 x3 x4 0) ∧ (¬ (mo_handLength ≤ x4) → (vp_in x4 40 ∧ X 2 x2 x3 x4 (mo_hand (Int32.toNatClampNeg x4)))))
def B_Model_against_keyLetters_62 (mo_keyLetters : Nat → Int32) (mo_handLength : Int32) (mo_hand : Nat → Int32) (res : Int32) (X : Nat → Int32 → Int32 → Int32 → Int32 → Prop) (x2 : Int32) (x3 : Int32) (x4 : Int32) (x5 : Int32) : Prop := ((x3 ≤ x4 → (res = x5 - 0)) ∧ (¬ (x3 ≤ x4) → (vp_in (x2 + x4) 2000 ∧ (res = x5 - (mo_keyLetters (Int32.toNatClampNeg (x2 + x4)))))))
def S_Model_against_keyLetters (mo_keyLetters : Nat → Int32) (mo_handLength : Int32) (mo_hand : Nat → Int32) (res : Int32) (X : Nat → Int32 → Int32 → Int32 → Int32 → Prop) : Nat → Int32 → Int32 → Int32 → Int32 → Prop := fun q_lab x2 x3 x4 x5 => match q_lab with | 0 => B_Model_against_keyLetters_3 mo_keyLetters mo_handLength mo_hand res X x2 x3 x4 | 1 => B_Model_against_keyLetters_40 mo_keyLetters mo_handLength mo_hand res X x2 x3 x4 | 2 => B_Model_against_keyLetters_62 mo_keyLetters mo_handLength mo_hand res X x2 x3 x4 x5 | _ => False
def T_Model_against_keyLetters (mo_keyLetters : Nat → Int32) (mo_handLength : Int32) (mo_hand : Nat → Int32) (res : Int32) : Nat → (Nat → Int32 → Int32 → Int32 → Int32 → Prop)
  | 0 => fun _ _ _ _ _ => False
  | n + 1 => S_Model_against_keyLetters mo_keyLetters mo_handLength mo_hand res (T_Model_against_keyLetters mo_keyLetters mo_handLength mo_hand res n)
def D_Model_against_keyLetters (k1 : Int32) (k2 : Int32) (mo_keyLetters : Nat → Int32) (mo_handLength : Int32) (mo_hand : Nat → Int32) (res : Int32) : Prop := ∃ n : Nat, T_Model_against_keyLetters mo_keyLetters mo_handLength mo_hand res n 0 k1 k2 0 0
theorem d_Model_against_keyLetters_0 : decode b_Model_against_keyLetters 0 = .ok (.iconst 0, 1) := by decide +kernel
theorem d_Model_against_keyLetters_1 : decode b_Model_against_keyLetters 1 = .ok (.istore 4, 2) := by decide +kernel
theorem d_Model_against_keyLetters_3 : decode b_Model_against_keyLetters 3 = .ok (.iload 4, 2) := by decide +kernel
theorem d_Model_against_keyLetters_5 : decode b_Model_against_keyLetters 5 = .ok (.aload_n 0, 1) := by decide +kernel
theorem d_Model_against_keyLetters_6 : decode b_Model_against_keyLetters 6 = .ok (.getfield 184, 3) := by decide +kernel
theorem d_Model_against_keyLetters_9 : decode b_Model_against_keyLetters 9 = .ok (.if_icmp .ge 31, 3) := by decide +kernel
theorem d_Model_against_keyLetters_12 : decode b_Model_against_keyLetters 12 = .ok (.iload 4, 2) := by decide +kernel
theorem d_Model_against_keyLetters_14 : decode b_Model_against_keyLetters 14 = .ok (.iload_n 3, 1) := by decide +kernel
theorem d_Model_against_keyLetters_15 : decode b_Model_against_keyLetters 15 = .ok (.if_icmp .ge 25, 3) := by decide +kernel
theorem d_Model_against_keyLetters_18 : decode b_Model_against_keyLetters 18 = .ok (.aload_n 0, 1) := by decide +kernel
theorem d_Model_against_keyLetters_19 : decode b_Model_against_keyLetters 19 = .ok (.getfield 62, 3) := by decide +kernel
theorem d_Model_against_keyLetters_22 : decode b_Model_against_keyLetters 22 = .ok (.iload 4, 2) := by decide +kernel
theorem d_Model_against_keyLetters_24 : decode b_Model_against_keyLetters 24 = .ok (.iaload, 1) := by decide +kernel
theorem d_Model_against_keyLetters_25 : decode b_Model_against_keyLetters 25 = .ok (.aload_n 1, 1) := by decide +kernel
theorem d_Model_against_keyLetters_26 : decode b_Model_against_keyLetters 26 = .ok (.iload_n 2, 1) := by decide +kernel
theorem d_Model_against_keyLetters_27 : decode b_Model_against_keyLetters 27 = .ok (.iload 4, 2) := by decide +kernel
theorem d_Model_against_keyLetters_29 : decode b_Model_against_keyLetters 29 = .ok (.iadd, 1) := by decide +kernel
theorem d_Model_against_keyLetters_30 : decode b_Model_against_keyLetters 30 = .ok (.iaload, 1) := by decide +kernel
theorem d_Model_against_keyLetters_31 : decode b_Model_against_keyLetters 31 = .ok (.if_icmp .ne 9, 3) := by decide +kernel
theorem d_Model_against_keyLetters_34 : decode b_Model_against_keyLetters 34 = .ok (.iinc 4 1, 3) := by decide +kernel
theorem d_Model_against_keyLetters_37 : decode b_Model_against_keyLetters 37 = .ok (.goto (-34), 3) := by decide +kernel
theorem d_Model_against_keyLetters_40 : decode b_Model_against_keyLetters 40 = .ok (.iload 4, 2) := by decide +kernel
theorem d_Model_against_keyLetters_42 : decode b_Model_against_keyLetters 42 = .ok (.aload_n 0, 1) := by decide +kernel
theorem d_Model_against_keyLetters_43 : decode b_Model_against_keyLetters 43 = .ok (.getfield 184, 3) := by decide +kernel
theorem d_Model_against_keyLetters_46 : decode b_Model_against_keyLetters 46 = .ok (.if_icmp .ge 13, 3) := by decide +kernel
theorem d_Model_against_keyLetters_49 : decode b_Model_against_keyLetters 49 = .ok (.aload_n 0, 1) := by decide +kernel
theorem d_Model_against_keyLetters_50 : decode b_Model_against_keyLetters 50 = .ok (.getfield 62, 3) := by decide +kernel
theorem d_Model_against_keyLetters_53 : decode b_Model_against_keyLetters 53 = .ok (.iload 4, 2) := by decide +kernel
theorem d_Model_against_keyLetters_55 : decode b_Model_against_keyLetters 55 = .ok (.iaload, 1) := by decide +kernel
theorem d_Model_against_keyLetters_56 : decode b_Model_against_keyLetters 56 = .ok (.goto 4, 3) := by decide +kernel
theorem d_Model_against_keyLetters_59 : decode b_Model_against_keyLetters 59 = .ok (.iconst 0, 1) := by decide +kernel
theorem d_Model_against_keyLetters_60 : decode b_Model_against_keyLetters 60 = .ok (.istore 5, 2) := by decide +kernel
theorem d_Model_against_keyLetters_62 : decode b_Model_against_keyLetters 62 = .ok (.iload 4, 2) := by decide +kernel
theorem d_Model_against_keyLetters_64 : decode b_Model_against_keyLetters 64 = .ok (.iload_n 3, 1) := by decide +kernel
theorem d_Model_against_keyLetters_65 : decode b_Model_against_keyLetters 65 = .ok (.if_icmp .ge 12, 3) := by decide +kernel
theorem d_Model_against_keyLetters_68 : decode b_Model_against_keyLetters 68 = .ok (.aload_n 1, 1) := by decide +kernel
theorem d_Model_against_keyLetters_69 : decode b_Model_against_keyLetters 69 = .ok (.iload_n 2, 1) := by decide +kernel
theorem d_Model_against_keyLetters_70 : decode b_Model_against_keyLetters 70 = .ok (.iload 4, 2) := by decide +kernel
theorem d_Model_against_keyLetters_72 : decode b_Model_against_keyLetters 72 = .ok (.iadd, 1) := by decide +kernel
theorem d_Model_against_keyLetters_73 : decode b_Model_against_keyLetters 73 = .ok (.iaload, 1) := by decide +kernel
theorem d_Model_against_keyLetters_74 : decode b_Model_against_keyLetters 74 = .ok (.goto 4, 3) := by decide +kernel
theorem d_Model_against_keyLetters_77 : decode b_Model_against_keyLetters 77 = .ok (.iconst 0, 1) := by decide +kernel
theorem d_Model_against_keyLetters_78 : decode b_Model_against_keyLetters 78 = .ok (.istore 6, 2) := by decide +kernel
theorem d_Model_against_keyLetters_80 : decode b_Model_against_keyLetters 80 = .ok (.iload 5, 2) := by decide +kernel
theorem d_Model_against_keyLetters_82 : decode b_Model_against_keyLetters 82 = .ok (.iload 6, 2) := by decide +kernel
theorem d_Model_against_keyLetters_84 : decode b_Model_against_keyLetters 84 = .ok (.isub, 1) := by decide +kernel
theorem d_Model_against_keyLetters_85 : decode b_Model_against_keyLetters 85 = .ok (.ireturn, 1) := by decide +kernel
set_option maxHeartbeats 4000000 in
set_option maxRecDepth 100000 in
theorem c_Model_against_keyLetters (l : Launch) (dC : Nat → ClassId) (dI : Nat → Nat → Nat) (cI cL cZ : ClassId) (mo : Nat) (mo_thrown : Int32) (mo_sourcea : Nat) (mo_source : Nat → Int32) (mo_size : Int32) (mo_faultLine : Int32) (mo_fault : Int32) (mo_topics : Int32) (mo_namesa : Nat) (mo_names : Nat → Int32) (mo_bodiesa : Nat) (mo_bodies : Nat → Int32) (mo_lengthsa : Nat) (mo_lengths : Nat → Int32) (mo_headingsa : Nat) (mo_headings : Nat → Int32) (mo_keywords : Int32) (mo_keyLettersa : Nat) (mo_keyLetters : Nat → Int32) (mo_keyLengthsa : Nat) (mo_keyLengths : Nat → Int32) (mo_keyBitsa : Nat) (mo_keyBits : Nat → Int32) (mo_words : Int32) (mo_wordLettersa : Nat) (mo_wordLetters : Nat → Int32) (mo_wordLengthsa : Nat) (mo_wordLengths : Nat → Int32) (mo_wordBitsa : Nat) (mo_wordBits : Nat → Int32) (mo_links : Int32) (mo_linkAta : Nat) (mo_linkAt : Nat → Int32) (mo_linkLengtha : Nat) (mo_linkLength : Nat → Int32) (mo_linkLinea : Nat) (mo_linkLine : Nat → Int32) (mo_linkToa : Nat) (mo_linkTo : Nat → Int32) (mo_inParagraph : Bool) (mo_emphasis : Bool) (mo_blank : Bool) (mo_lastLine : Int32) (mo_imageSize : Int32) (mo_imagea : Nat) (mo_image : Nat → Int32) (mo_compares : Bool) (mo_unlike : Bool) (mo_out : Int32) (mo_total : Int32) (mo_literal : Int32) (mo_handLength : Int32) (mo_handa : Nat) (mo_hand : Nat → Int32) (mo_isOpen : Bool) (mo_seenTopics : Int32) (mo_seenNamesa : Nat) (mo_seenNames : Nat → Int32) (mo_seenBodiesa : Nat) (mo_seenBodies : Nat → Int32) (mo_seenLengthsa : Nat) (mo_seenLengths : Nat → Int32) (mo_seenKeywords : Int32) (mo_seenKeyLettersa : Nat) (mo_seenKeyLetters : Nat → Int32) (mo_seenKeyLengthsa : Nat) (mo_seenKeyLengths : Nat → Int32) (mo_seenKeyBitsa : Nat) (mo_seenKeyBits : Nat → Int32) (mo_seenWords : Int32) (mo_seenWordLettersa : Nat) (mo_seenWordLetters : Nat → Int32) (mo_seenWordLengthsa : Nat) (mo_seenWordLengths : Nat → Int32) (mo_seenWordBitsa : Nat) (mo_seenWordBits : Nat → Int32) (mo_topic : Int32) (mo_backs : Int32) (mo_backa : Nat) (mo_back : Nat → Int32) (mo_forwards : Int32) (mo_forwarda : Nat) (mo_forward : Nat → Int32) (mo_typed : Int32) (mo_querya : Nat) (mo_query : Nat → Int32) (mo_visits : Int32) (mo_valuesa : Nat) (mo_values : Nat → Int32) (mo_valued : Int32) (mo_signsa : Nat) (mo_signs : Nat → Int32) (mo_signed : Int32) (mo_width : Int32) (mo_lines : Int32) (mo_lineFroma : Nat) (mo_lineFrom : Nat → Int32) (mo_lineSizea : Nat) (mo_lineSize : Nat → Int32) (mo_shown : Int32) (mo_texta : Nat) (mo_text : Nat → Int32) (mo_partLength : Int32) (mo_parta : Nat) (mo_part : Nat → Int32) (k1 : Int32) (k2 : Int32) (res : Int32) (hd : D_Model_against_keyLetters k1 k2 mo_keyLetters mo_handLength mo_hand res) : CtrR l y_Model_against_keyLetters (Cond.code y_Model_against_keyLetters b_Model_against_keyLetters 7 (some .int) :: ga) { frames := 0, cells := 0, slots := 0, locals := 0 } (dC, dI) classes (Tys cI cL cZ) [.ref mo, .ref mo_keyLettersa, .int k1, .int k2] ((sh_Model cI cL cZ mo mo_thrown mo_sourcea mo_source mo_size mo_faultLine mo_fault mo_topics mo_namesa mo_names mo_bodiesa mo_bodies mo_lengthsa mo_lengths mo_headingsa mo_headings mo_keywords mo_keyLettersa mo_keyLetters mo_keyLengthsa mo_keyLengths mo_keyBitsa mo_keyBits mo_words mo_wordLettersa mo_wordLetters mo_wordLengthsa mo_wordLengths mo_wordBitsa mo_wordBits mo_links mo_linkAta mo_linkAt mo_linkLengtha mo_linkLength mo_linkLinea mo_linkLine mo_linkToa mo_linkTo mo_inParagraph mo_emphasis mo_blank mo_lastLine mo_imageSize mo_imagea mo_image mo_compares mo_unlike mo_out mo_total mo_literal mo_handLength mo_handa mo_hand mo_isOpen mo_seenTopics mo_seenNamesa mo_seenNames mo_seenBodiesa mo_seenBodies mo_seenLengthsa mo_seenLengths mo_seenKeywords mo_seenKeyLettersa mo_seenKeyLetters mo_seenKeyLengthsa mo_seenKeyLengths mo_seenKeyBitsa mo_seenKeyBits mo_seenWords mo_seenWordLettersa mo_seenWordLetters mo_seenWordLengthsa mo_seenWordLengths mo_seenWordBitsa mo_seenWordBits mo_topic mo_backs mo_backa mo_back mo_forwards mo_forwarda mo_forward mo_typed mo_querya mo_query mo_visits mo_valuesa mo_values mo_valued mo_signsa mo_signs mo_signed mo_width mo_lines mo_lineFroma mo_lineFrom mo_lineSizea mo_lineSize mo_shown mo_texta mo_text mo_partLength mo_parta mo_part)) (some (.int res)) := by
  refine CtrR.ofW (by decide) (Nat.le_of_ble_eq_true rfl) ?_
  intro p e s m below meth c ls hx hb hr hml hown hlocks hts hK hN hP hD hl
  have hown : s.vm.findClass R_Model = some m.cls := hown
  have hl : lv_has ls 7 [(0, .ref mo), (1, .ref mo_keyLettersa), (2, .int k1), (3, .int k2)] := hl
  have key : ∀ n : Nat, (∀ (x2 : Int32) (x3 : Int32) (x4 : Int32) (ls : Array Slot), lv_has ls 7 [(0, .ref mo), (1, .ref mo_keyLettersa), (2, .int x2), (3, .int x3), (4, .int x4)] → T_Model_against_keyLetters mo_keyLetters mo_handLength mo_hand res n 0 x2 x3 x4 0 → W p l e ({ frames := 0, cells := 0, slots := 0, locals := 0 }) s m ([.ref mo, .ref mo_keyLettersa, .int k1, .int k2] : List Value).toArray below meth c s.heap [] 0 0 (MQ below (Qr (some (.int res))) ([.ref mo, .ref mo_keyLettersa, .int k1, .int k2] : List Value).toArray s 0 0 (fun _ => False)) (F0 m 3 ls [])) ∧ (∀ (x2 : Int32) (x3 : Int32) (x4 : Int32) (ls : Array Slot), lv_has ls 7 [(0, .ref mo), (1, .ref mo_keyLettersa), (2, .int x2), (3, .int x3), (4, .int x4)] → T_Model_against_keyLetters mo_keyLetters mo_handLength mo_hand res n 1 x2 x3 x4 0 → W p l e ({ frames := 0, cells := 0, slots := 0, locals := 0 }) s m ([.ref mo, .ref mo_keyLettersa, .int k1, .int k2] : List Value).toArray below meth c s.heap [] 0 0 (MQ below (Qr (some (.int res))) ([.ref mo, .ref mo_keyLettersa, .int k1, .int k2] : List Value).toArray s 0 0 (fun _ => False)) (F0 m 40 ls [])) ∧ (∀ (x2 : Int32) (x3 : Int32) (x4 : Int32) (x5 : Int32) (ls : Array Slot), lv_has ls 7 [(1, .ref mo_keyLettersa), (2, .int x2), (3, .int x3), (4, .int x4), (5, .int x5)] → T_Model_against_keyLetters mo_keyLetters mo_handLength mo_hand res n 2 x2 x3 x4 x5 → W p l e ({ frames := 0, cells := 0, slots := 0, locals := 0 }) s m ([.ref mo, .ref mo_keyLettersa, .int k1, .int k2] : List Value).toArray below meth c s.heap [] 0 0 (MQ below (Qr (some (.int res))) ([.ref mo, .ref mo_keyLettersa, .int k1, .int k2] : List Value).toArray s 0 0 (fun _ => False)) (F0 m 62 ls [])) := by
    intro n
    induction n with
    | zero =>
      exact ⟨fun _ _ _ _ _ hd => False.elim hd, fun _ _ _ _ _ hd => False.elim hd, fun _ _ _ _ _ _ hd => False.elim hd⟩
    | succ n ih =>
      refine ⟨?_, ?_, ?_⟩
      · intro x2 x3 x4 ls hl hd
        have hd : B_Model_against_keyLetters_3 mo_keyLetters mo_handLength mo_hand res (T_Model_against_keyLetters mo_keyLetters mo_handLength mo_hand res n) x2 x3 x4 := hd
        refine lv_iload hx hb d_Model_against_keyLetters_3 (lv_at hl 4 rfl) ?_
        refine lv_aload_n hx hb d_Model_against_keyLetters_5 rfl (lv_at hl 0 rfl) ?_
        refine va_get (D := (dC, dI)) (ci := 9) (v := .int mo_handLength) (C := R_Model) (T := F_Model) (N := 69) hx hb hts in_Model hown hK hP 0 rfl rfl 34 (by decide) (hts _ (List.mem_cons_of_mem _ k523_fieldLink)) (fun _ h9 => h9) rfl d_Model_against_keyLetters_6 ?_
        refine lv_icmp_ge (tgt := 40) hx hb d_Model_against_keyLetters_9 (by decide) (fun h9 => ?_) (fun h9 => ?_)
        · have hd := hd.1 h9
          exact ih.2.1 x2 x3 x4 _ (lv_sub hl [0, 1, 2, 3, 4] rfl) hd
        · have hd := hd.2 h9
          refine lv_iload hx hb d_Model_against_keyLetters_12 (lv_at hl 4 rfl) ?_
          refine lv_iload_n hx hb d_Model_against_keyLetters_14 rfl (lv_at hl 3 rfl) ?_
          refine lv_icmp_ge (tgt := 40) hx hb d_Model_against_keyLetters_15 (by decide) (fun h15 => ?_) (fun h15 => ?_)
          · have hd := hd.1 h15
            exact ih.2.1 x2 x3 x4 _ (lv_sub hl [0, 1, 2, 3, 4] rfl) hd
          · have hd := hd.2 h15
            refine lv_aload_n hx hb d_Model_against_keyLetters_18 rfl (lv_at hl 0 rfl) ?_
            refine va_get (D := (dC, dI)) (ci := 9) (v := .ref mo_handa) (C := R_Model) (T := F_Model) (N := 69) hx hb hts in_Model hown hK hP 0 rfl rfl 35 (by decide) (hts _ (List.mem_cons_of_mem _ k524_fieldLink)) (fun _ h9 => h9) rfl d_Model_against_keyLetters_19 ?_
            refine lv_iload hx hb d_Model_against_keyLetters_22 (lv_at hl 4 rfl) ?_
            obtain ⟨h24, hd⟩ := hd
            refine va_iald hx hb hK hP 17 0 rfl rfl h24 d_Model_against_keyLetters_24 ?_
            refine lv_aload_n hx hb d_Model_against_keyLetters_25 rfl (lv_at hl 1 rfl) ?_
            refine lv_iload_n hx hb d_Model_against_keyLetters_26 rfl (lv_at hl 2 rfl) ?_
            refine lv_iload hx hb d_Model_against_keyLetters_27 (lv_at hl 4 rfl) ?_
            refine lv_iadd hx hb d_Model_against_keyLetters_29 ?_
            obtain ⟨h30, hd⟩ := hd
            refine va_iald hx hb hK hP 6 0 rfl rfl h30 d_Model_against_keyLetters_30 ?_
            refine lv_icmp_ne (tgt := 40) hx hb d_Model_against_keyLetters_31 (by decide) (fun h31 => ?_) (fun h31 => ?_)
            · have hd := hd.2 h31
              exact ih.2.1 x2 x3 x4 _ (lv_sub hl [0, 1, 2, 3, 4] rfl) hd
            · have hd := hd.1 h31
              refine lv_iinc (k := 4) (v := x4 + 1) (lv' := [(4, .int (x4 + 1)), (0, .ref mo), (1, .ref mo_keyLettersa), (2, .int x2), (3, .int x3)]) hx hb d_Model_against_keyLetters_34 hl rfl (congrArg (fun z => x4 + z) (by decide)) (by decide) rfl (fun ls hl => ?_)
              refine lv_goto (tgt := 3) hx hb d_Model_against_keyLetters_37 (by decide) ?_
              exact ih.1 x2 x3 (x4 + 1) _ (lv_sub hl [1, 2, 3, 4, 0] rfl) hd
      · intro x2 x3 x4 ls hl hd
        have hd : B_Model_against_keyLetters_40 mo_keyLetters mo_handLength mo_hand res (T_Model_against_keyLetters mo_keyLetters mo_handLength mo_hand res n) x2 x3 x4 := hd
        refine lv_iload hx hb d_Model_against_keyLetters_40 (lv_at hl 4 rfl) ?_
        refine lv_aload_n hx hb d_Model_against_keyLetters_42 rfl (lv_at hl 0 rfl) ?_
        refine va_get (D := (dC, dI)) (ci := 9) (v := .int mo_handLength) (C := R_Model) (T := F_Model) (N := 69) hx hb hts in_Model hown hK hP 0 rfl rfl 34 (by decide) (hts _ (List.mem_cons_of_mem _ k523_fieldLink)) (fun _ h9 => h9) rfl d_Model_against_keyLetters_43 ?_
        refine lv_icmp_ge (tgt := 59) hx hb d_Model_against_keyLetters_46 (by decide) (fun h46 => ?_) (fun h46 => ?_)
        · have hd := hd.1 h46
          refine lv_iconst (v := 0) hx hb d_Model_against_keyLetters_59 (by decide) ?_
          refine lv_istore (lv' := [(5, .int 0), (0, .ref mo), (1, .ref mo_keyLettersa), (2, .int x2), (3, .int x3), (4, .int x4)]) hx hb d_Model_against_keyLetters_60 hl (by decide) rfl (fun ls hl => ?_)
          exact ih.2.2 x2 x3 x4 0 _ (lv_sub hl [2, 3, 4, 5, 0] rfl) hd
        · have hd := hd.2 h46
          refine lv_aload_n hx hb d_Model_against_keyLetters_49 rfl (lv_at hl 0 rfl) ?_
          refine va_get (D := (dC, dI)) (ci := 9) (v := .ref mo_handa) (C := R_Model) (T := F_Model) (N := 69) hx hb hts in_Model hown hK hP 0 rfl rfl 35 (by decide) (hts _ (List.mem_cons_of_mem _ k524_fieldLink)) (fun _ h9 => h9) rfl d_Model_against_keyLetters_50 ?_
          refine lv_iload hx hb d_Model_against_keyLetters_53 (lv_at hl 4 rfl) ?_
          obtain ⟨h55, hd⟩ := hd
          refine va_iald hx hb hK hP 17 0 rfl rfl h55 d_Model_against_keyLetters_55 ?_
          refine lv_goto (tgt := 60) hx hb d_Model_against_keyLetters_56 (by decide) ?_
          refine lv_istore (lv' := [(5, .int (mo_hand (Int32.toNatClampNeg x4))), (0, .ref mo), (1, .ref mo_keyLettersa), (2, .int x2), (3, .int x3), (4, .int x4)]) hx hb d_Model_against_keyLetters_60 hl (by decide) rfl (fun ls hl => ?_)
          exact ih.2.2 x2 x3 x4 (mo_hand (Int32.toNatClampNeg x4)) _ (lv_sub hl [2, 3, 4, 5, 0] rfl) hd
      · intro x2 x3 x4 x5 ls hl hd
        have hd : B_Model_against_keyLetters_62 mo_keyLetters mo_handLength mo_hand res (T_Model_against_keyLetters mo_keyLetters mo_handLength mo_hand res n) x2 x3 x4 x5 := hd
        refine lv_iload hx hb d_Model_against_keyLetters_62 (lv_at hl 3 rfl) ?_
        refine lv_iload_n hx hb d_Model_against_keyLetters_64 rfl (lv_at hl 2 rfl) ?_
        refine lv_icmp_ge (tgt := 77) hx hb d_Model_against_keyLetters_65 (by decide) (fun h65 => ?_) (fun h65 => ?_)
        · have hd := hd.1 h65
          refine lv_iconst (v := 0) hx hb d_Model_against_keyLetters_77 (by decide) ?_
          refine lv_istore (lv' := [(6, .int 0), (1, .ref mo_keyLettersa), (2, .int x2), (3, .int x3), (4, .int x4), (5, .int x5)]) hx hb d_Model_against_keyLetters_78 hl (by decide) rfl (fun ls hl => ?_)
          refine lv_iload hx hb d_Model_against_keyLetters_80 (lv_at hl 5 rfl) ?_
          refine lv_iload hx hb d_Model_against_keyLetters_82 (lv_at hl 0 rfl) ?_
          refine lv_isub hx hb d_Model_against_keyLetters_84 ?_
          have e0 : res = x5 - 0 := hd
          subst e0
          exact ct_iretR hx hb hr hlocks d_Model_against_keyLetters_85
        · have hd := hd.2 h65
          refine lv_aload_n hx hb d_Model_against_keyLetters_68 rfl (lv_at hl 0 rfl) ?_
          refine lv_iload_n hx hb d_Model_against_keyLetters_69 rfl (lv_at hl 1 rfl) ?_
          refine lv_iload hx hb d_Model_against_keyLetters_70 (lv_at hl 3 rfl) ?_
          refine lv_iadd hx hb d_Model_against_keyLetters_72 ?_
          obtain ⟨h73, hd⟩ := hd
          refine va_iald hx hb hK hP 6 0 rfl rfl h73 d_Model_against_keyLetters_73 ?_
          refine lv_goto (tgt := 78) hx hb d_Model_against_keyLetters_74 (by decide) ?_
          refine lv_istore (lv' := [(6, .int (mo_keyLetters (Int32.toNatClampNeg (x2 + x4)))), (1, .ref mo_keyLettersa), (2, .int x2), (3, .int x3), (4, .int x4), (5, .int x5)]) hx hb d_Model_against_keyLetters_78 hl (by decide) rfl (fun ls hl => ?_)
          refine lv_iload hx hb d_Model_against_keyLetters_80 (lv_at hl 5 rfl) ?_
          refine lv_iload hx hb d_Model_against_keyLetters_82 (lv_at hl 0 rfl) ?_
          refine lv_isub hx hb d_Model_against_keyLetters_84 ?_
          have e0 : res = x5 - (mo_keyLetters (Int32.toNatClampNeg (x2 + x4))) := hd
          subst e0
          exact ct_iretR hx hb hr hlocks d_Model_against_keyLetters_85
  obtain ⟨n, hd⟩ := hd
  refine lv_iconst (v := 0) hx hb d_Model_against_keyLetters_0 (by decide) ?_
  refine lv_istore (lv' := [(4, .int 0), (0, .ref mo), (1, .ref mo_keyLettersa), (2, .int k1), (3, .int k2)]) hx hb d_Model_against_keyLetters_1 hl (by decide) rfl (fun ls hl => ?_)
  exact (key n).1 k1 k2 0 _ (lv_sub hl [1, 2, 3, 4, 0] rfl) hd
-- Model.against
abbrev b_Model_against_wordLetters : ByteArray := prog_14_method_25_code
def y_Model_against_wordLetters : MethodName := ⟨"HelpFileModel", "against", "([III)I"⟩
set_option maxRecDepth 100000 in
theorem fm_Model_against_wordLetters : Fm y_Model_against_wordLetters b_Model_against_wordLetters 7 (some .int) 3 := ⟨ga_t 1321 rfl rfl, k479_initialized, by decide, by decide, by decide +kernel⟩
def B_Model_against_wordLetters_3 (mo_wordLetters : Nat → Int32) (mo_handLength : Int32) (mo_hand : Nat → Int32) (res : Int32) (X : Nat → Int32 → Int32 → Int32 → Int32 → Prop) (x2 : Int32) (x3 : Int32) (x4 : Int32) : Prop := ((mo_handLength ≤ x4 → X 1 x2 x3 x4 0) ∧ (¬ (mo_handLength ≤ x4) → ((x3 ≤ x4 → X 1 x2 x3 x4 0) ∧ (¬ (x3 ≤ x4) → (vp_in x4 40 ∧ (vp_in (x2 + x4) 15360 ∧ (((mo_hand (Int32.toNatClampNeg x4)) = (mo_wordLetters (Int32.toNatClampNeg (x2 + x4))) → X 0 x2 x3 (x4 + 1) 0) ∧ (¬ ((mo_hand (Int32.toNatClampNeg x4)) = (mo_wordLetters (Int32.toNatClampNeg (x2 + x4)))) → X 1 x2 x3 x4 0))))))))
def B_Model_against_wordLetters_40 (mo_wordLetters : Nat → Int32) (mo_handLength : Int32) (mo_hand : Nat → Int32) (res : Int32) (X : Nat → Int32 → Int32 → Int32 → Int32 → Prop) (x2 : Int32) (x3 : Int32) (x4 : Int32) : Prop := ((mo_handLength ≤ x4 → X 2 x2 x3 x4 0) ∧ (¬ (mo_handLength ≤ x4) → (vp_in x4 40 ∧ X 2 x2 x3 x4 (mo_hand (Int32.toNatClampNeg x4)))))
def B_Model_against_wordLetters_62 (mo_wordLetters : Nat → Int32) (mo_handLength : Int32) (mo_hand : Nat → Int32) (res : Int32) (X : Nat → Int32 → Int32 → Int32 → Int32 → Prop) (x2 : Int32) (x3 : Int32) (x4 : Int32) (x5 : Int32) : Prop := ((x3 ≤ x4 → (res = x5 - 0)) ∧ (¬ (x3 ≤ x4) → (vp_in (x2 + x4) 15360 ∧ (res = x5 - (mo_wordLetters (Int32.toNatClampNeg (x2 + x4)))))))
def S_Model_against_wordLetters (mo_wordLetters : Nat → Int32) (mo_handLength : Int32) (mo_hand : Nat → Int32) (res : Int32) (X : Nat → Int32 → Int32 → Int32 → Int32 → Prop) : Nat → Int32 → Int32 → Int32 → Int32 → Prop := fun q_lab x2 x3 x4 x5 => match q_lab with | 0 => B_Model_against_wordLetters_3 mo_wordLetters mo_handLength mo_hand res X x2 x3 x4 | 1 => B_Model_against_wordLetters_40 mo_wordLetters mo_handLength mo_hand res X x2 x3 x4 | 2 => B_Model_against_wordLetters_62 mo_wordLetters mo_handLength mo_hand res X x2 x3 x4 x5 | _ => False
def T_Model_against_wordLetters (mo_wordLetters : Nat → Int32) (mo_handLength : Int32) (mo_hand : Nat → Int32) (res : Int32) : Nat → (Nat → Int32 → Int32 → Int32 → Int32 → Prop)
  | 0 => fun _ _ _ _ _ => False
  | n + 1 => S_Model_against_wordLetters mo_wordLetters mo_handLength mo_hand res (T_Model_against_wordLetters mo_wordLetters mo_handLength mo_hand res n)
def D_Model_against_wordLetters (k1 : Int32) (k2 : Int32) (mo_wordLetters : Nat → Int32) (mo_handLength : Int32) (mo_hand : Nat → Int32) (res : Int32) : Prop := ∃ n : Nat, T_Model_against_wordLetters mo_wordLetters mo_handLength mo_hand res n 0 k1 k2 0 0
theorem d_Model_against_wordLetters_0 : decode b_Model_against_wordLetters 0 = .ok (.iconst 0, 1) := by decide +kernel
theorem d_Model_against_wordLetters_1 : decode b_Model_against_wordLetters 1 = .ok (.istore 4, 2) := by decide +kernel
theorem d_Model_against_wordLetters_3 : decode b_Model_against_wordLetters 3 = .ok (.iload 4, 2) := by decide +kernel
theorem d_Model_against_wordLetters_5 : decode b_Model_against_wordLetters 5 = .ok (.aload_n 0, 1) := by decide +kernel
theorem d_Model_against_wordLetters_6 : decode b_Model_against_wordLetters 6 = .ok (.getfield 184, 3) := by decide +kernel
theorem d_Model_against_wordLetters_9 : decode b_Model_against_wordLetters 9 = .ok (.if_icmp .ge 31, 3) := by decide +kernel
theorem d_Model_against_wordLetters_12 : decode b_Model_against_wordLetters 12 = .ok (.iload 4, 2) := by decide +kernel
theorem d_Model_against_wordLetters_14 : decode b_Model_against_wordLetters 14 = .ok (.iload_n 3, 1) := by decide +kernel
theorem d_Model_against_wordLetters_15 : decode b_Model_against_wordLetters 15 = .ok (.if_icmp .ge 25, 3) := by decide +kernel
theorem d_Model_against_wordLetters_18 : decode b_Model_against_wordLetters 18 = .ok (.aload_n 0, 1) := by decide +kernel
theorem d_Model_against_wordLetters_19 : decode b_Model_against_wordLetters 19 = .ok (.getfield 62, 3) := by decide +kernel
theorem d_Model_against_wordLetters_22 : decode b_Model_against_wordLetters 22 = .ok (.iload 4, 2) := by decide +kernel
theorem d_Model_against_wordLetters_24 : decode b_Model_against_wordLetters 24 = .ok (.iaload, 1) := by decide +kernel
theorem d_Model_against_wordLetters_25 : decode b_Model_against_wordLetters 25 = .ok (.aload_n 1, 1) := by decide +kernel
theorem d_Model_against_wordLetters_26 : decode b_Model_against_wordLetters 26 = .ok (.iload_n 2, 1) := by decide +kernel
theorem d_Model_against_wordLetters_27 : decode b_Model_against_wordLetters 27 = .ok (.iload 4, 2) := by decide +kernel
theorem d_Model_against_wordLetters_29 : decode b_Model_against_wordLetters 29 = .ok (.iadd, 1) := by decide +kernel
theorem d_Model_against_wordLetters_30 : decode b_Model_against_wordLetters 30 = .ok (.iaload, 1) := by decide +kernel
theorem d_Model_against_wordLetters_31 : decode b_Model_against_wordLetters 31 = .ok (.if_icmp .ne 9, 3) := by decide +kernel
theorem d_Model_against_wordLetters_34 : decode b_Model_against_wordLetters 34 = .ok (.iinc 4 1, 3) := by decide +kernel
theorem d_Model_against_wordLetters_37 : decode b_Model_against_wordLetters 37 = .ok (.goto (-34), 3) := by decide +kernel
theorem d_Model_against_wordLetters_40 : decode b_Model_against_wordLetters 40 = .ok (.iload 4, 2) := by decide +kernel
theorem d_Model_against_wordLetters_42 : decode b_Model_against_wordLetters 42 = .ok (.aload_n 0, 1) := by decide +kernel
theorem d_Model_against_wordLetters_43 : decode b_Model_against_wordLetters 43 = .ok (.getfield 184, 3) := by decide +kernel
theorem d_Model_against_wordLetters_46 : decode b_Model_against_wordLetters 46 = .ok (.if_icmp .ge 13, 3) := by decide +kernel
theorem d_Model_against_wordLetters_49 : decode b_Model_against_wordLetters 49 = .ok (.aload_n 0, 1) := by decide +kernel
theorem d_Model_against_wordLetters_50 : decode b_Model_against_wordLetters 50 = .ok (.getfield 62, 3) := by decide +kernel
theorem d_Model_against_wordLetters_53 : decode b_Model_against_wordLetters 53 = .ok (.iload 4, 2) := by decide +kernel
theorem d_Model_against_wordLetters_55 : decode b_Model_against_wordLetters 55 = .ok (.iaload, 1) := by decide +kernel
theorem d_Model_against_wordLetters_56 : decode b_Model_against_wordLetters 56 = .ok (.goto 4, 3) := by decide +kernel
theorem d_Model_against_wordLetters_59 : decode b_Model_against_wordLetters 59 = .ok (.iconst 0, 1) := by decide +kernel
theorem d_Model_against_wordLetters_60 : decode b_Model_against_wordLetters 60 = .ok (.istore 5, 2) := by decide +kernel
theorem d_Model_against_wordLetters_62 : decode b_Model_against_wordLetters 62 = .ok (.iload 4, 2) := by decide +kernel
theorem d_Model_against_wordLetters_64 : decode b_Model_against_wordLetters 64 = .ok (.iload_n 3, 1) := by decide +kernel
theorem d_Model_against_wordLetters_65 : decode b_Model_against_wordLetters 65 = .ok (.if_icmp .ge 12, 3) := by decide +kernel
theorem d_Model_against_wordLetters_68 : decode b_Model_against_wordLetters 68 = .ok (.aload_n 1, 1) := by decide +kernel
theorem d_Model_against_wordLetters_69 : decode b_Model_against_wordLetters 69 = .ok (.iload_n 2, 1) := by decide +kernel
theorem d_Model_against_wordLetters_70 : decode b_Model_against_wordLetters 70 = .ok (.iload 4, 2) := by decide +kernel
theorem d_Model_against_wordLetters_72 : decode b_Model_against_wordLetters 72 = .ok (.iadd, 1) := by decide +kernel
theorem d_Model_against_wordLetters_73 : decode b_Model_against_wordLetters 73 = .ok (.iaload, 1) := by decide +kernel
theorem d_Model_against_wordLetters_74 : decode b_Model_against_wordLetters 74 = .ok (.goto 4, 3) := by decide +kernel
theorem d_Model_against_wordLetters_77 : decode b_Model_against_wordLetters 77 = .ok (.iconst 0, 1) := by decide +kernel
theorem d_Model_against_wordLetters_78 : decode b_Model_against_wordLetters 78 = .ok (.istore 6, 2) := by decide +kernel
theorem d_Model_against_wordLetters_80 : decode b_Model_against_wordLetters 80 = .ok (.iload 5, 2) := by decide +kernel
theorem d_Model_against_wordLetters_82 : decode b_Model_against_wordLetters 82 = .ok (.iload 6, 2) := by decide +kernel
theorem d_Model_against_wordLetters_84 : decode b_Model_against_wordLetters 84 = .ok (.isub, 1) := by decide +kernel
theorem d_Model_against_wordLetters_85 : decode b_Model_against_wordLetters 85 = .ok (.ireturn, 1) := by decide +kernel
set_option maxHeartbeats 4000000 in
set_option maxRecDepth 100000 in
theorem c_Model_against_wordLetters (l : Launch) (dC : Nat → ClassId) (dI : Nat → Nat → Nat) (cI cL cZ : ClassId) (mo : Nat) (mo_thrown : Int32) (mo_sourcea : Nat) (mo_source : Nat → Int32) (mo_size : Int32) (mo_faultLine : Int32) (mo_fault : Int32) (mo_topics : Int32) (mo_namesa : Nat) (mo_names : Nat → Int32) (mo_bodiesa : Nat) (mo_bodies : Nat → Int32) (mo_lengthsa : Nat) (mo_lengths : Nat → Int32) (mo_headingsa : Nat) (mo_headings : Nat → Int32) (mo_keywords : Int32) (mo_keyLettersa : Nat) (mo_keyLetters : Nat → Int32) (mo_keyLengthsa : Nat) (mo_keyLengths : Nat → Int32) (mo_keyBitsa : Nat) (mo_keyBits : Nat → Int32) (mo_words : Int32) (mo_wordLettersa : Nat) (mo_wordLetters : Nat → Int32) (mo_wordLengthsa : Nat) (mo_wordLengths : Nat → Int32) (mo_wordBitsa : Nat) (mo_wordBits : Nat → Int32) (mo_links : Int32) (mo_linkAta : Nat) (mo_linkAt : Nat → Int32) (mo_linkLengtha : Nat) (mo_linkLength : Nat → Int32) (mo_linkLinea : Nat) (mo_linkLine : Nat → Int32) (mo_linkToa : Nat) (mo_linkTo : Nat → Int32) (mo_inParagraph : Bool) (mo_emphasis : Bool) (mo_blank : Bool) (mo_lastLine : Int32) (mo_imageSize : Int32) (mo_imagea : Nat) (mo_image : Nat → Int32) (mo_compares : Bool) (mo_unlike : Bool) (mo_out : Int32) (mo_total : Int32) (mo_literal : Int32) (mo_handLength : Int32) (mo_handa : Nat) (mo_hand : Nat → Int32) (mo_isOpen : Bool) (mo_seenTopics : Int32) (mo_seenNamesa : Nat) (mo_seenNames : Nat → Int32) (mo_seenBodiesa : Nat) (mo_seenBodies : Nat → Int32) (mo_seenLengthsa : Nat) (mo_seenLengths : Nat → Int32) (mo_seenKeywords : Int32) (mo_seenKeyLettersa : Nat) (mo_seenKeyLetters : Nat → Int32) (mo_seenKeyLengthsa : Nat) (mo_seenKeyLengths : Nat → Int32) (mo_seenKeyBitsa : Nat) (mo_seenKeyBits : Nat → Int32) (mo_seenWords : Int32) (mo_seenWordLettersa : Nat) (mo_seenWordLetters : Nat → Int32) (mo_seenWordLengthsa : Nat) (mo_seenWordLengths : Nat → Int32) (mo_seenWordBitsa : Nat) (mo_seenWordBits : Nat → Int32) (mo_topic : Int32) (mo_backs : Int32) (mo_backa : Nat) (mo_back : Nat → Int32) (mo_forwards : Int32) (mo_forwarda : Nat) (mo_forward : Nat → Int32) (mo_typed : Int32) (mo_querya : Nat) (mo_query : Nat → Int32) (mo_visits : Int32) (mo_valuesa : Nat) (mo_values : Nat → Int32) (mo_valued : Int32) (mo_signsa : Nat) (mo_signs : Nat → Int32) (mo_signed : Int32) (mo_width : Int32) (mo_lines : Int32) (mo_lineFroma : Nat) (mo_lineFrom : Nat → Int32) (mo_lineSizea : Nat) (mo_lineSize : Nat → Int32) (mo_shown : Int32) (mo_texta : Nat) (mo_text : Nat → Int32) (mo_partLength : Int32) (mo_parta : Nat) (mo_part : Nat → Int32) (k1 : Int32) (k2 : Int32) (res : Int32) (hd : D_Model_against_wordLetters k1 k2 mo_wordLetters mo_handLength mo_hand res) : CtrR l y_Model_against_wordLetters (Cond.code y_Model_against_wordLetters b_Model_against_wordLetters 7 (some .int) :: ga) { frames := 0, cells := 0, slots := 0, locals := 0 } (dC, dI) classes (Tys cI cL cZ) [.ref mo, .ref mo_wordLettersa, .int k1, .int k2] ((sh_Model cI cL cZ mo mo_thrown mo_sourcea mo_source mo_size mo_faultLine mo_fault mo_topics mo_namesa mo_names mo_bodiesa mo_bodies mo_lengthsa mo_lengths mo_headingsa mo_headings mo_keywords mo_keyLettersa mo_keyLetters mo_keyLengthsa mo_keyLengths mo_keyBitsa mo_keyBits mo_words mo_wordLettersa mo_wordLetters mo_wordLengthsa mo_wordLengths mo_wordBitsa mo_wordBits mo_links mo_linkAta mo_linkAt mo_linkLengtha mo_linkLength mo_linkLinea mo_linkLine mo_linkToa mo_linkTo mo_inParagraph mo_emphasis mo_blank mo_lastLine mo_imageSize mo_imagea mo_image mo_compares mo_unlike mo_out mo_total mo_literal mo_handLength mo_handa mo_hand mo_isOpen mo_seenTopics mo_seenNamesa mo_seenNames mo_seenBodiesa mo_seenBodies mo_seenLengthsa mo_seenLengths mo_seenKeywords mo_seenKeyLettersa mo_seenKeyLetters mo_seenKeyLengthsa mo_seenKeyLengths mo_seenKeyBitsa mo_seenKeyBits mo_seenWords mo_seenWordLettersa mo_seenWordLetters mo_seenWordLengthsa mo_seenWordLengths mo_seenWordBitsa mo_seenWordBits mo_topic mo_backs mo_backa mo_back mo_forwards mo_forwarda mo_forward mo_typed mo_querya mo_query mo_visits mo_valuesa mo_values mo_valued mo_signsa mo_signs mo_signed mo_width mo_lines mo_lineFroma mo_lineFrom mo_lineSizea mo_lineSize mo_shown mo_texta mo_text mo_partLength mo_parta mo_part)) (some (.int res)) := by
  refine CtrR.ofW (by decide) (Nat.le_of_ble_eq_true rfl) ?_
  intro p e s m below meth c ls hx hb hr hml hown hlocks hts hK hN hP hD hl
  have hown : s.vm.findClass R_Model = some m.cls := hown
  have hl : lv_has ls 7 [(0, .ref mo), (1, .ref mo_wordLettersa), (2, .int k1), (3, .int k2)] := hl
  have key : ∀ n : Nat, (∀ (x2 : Int32) (x3 : Int32) (x4 : Int32) (ls : Array Slot), lv_has ls 7 [(0, .ref mo), (1, .ref mo_wordLettersa), (2, .int x2), (3, .int x3), (4, .int x4)] → T_Model_against_wordLetters mo_wordLetters mo_handLength mo_hand res n 0 x2 x3 x4 0 → W p l e ({ frames := 0, cells := 0, slots := 0, locals := 0 }) s m ([.ref mo, .ref mo_wordLettersa, .int k1, .int k2] : List Value).toArray below meth c s.heap [] 0 0 (MQ below (Qr (some (.int res))) ([.ref mo, .ref mo_wordLettersa, .int k1, .int k2] : List Value).toArray s 0 0 (fun _ => False)) (F0 m 3 ls [])) ∧ (∀ (x2 : Int32) (x3 : Int32) (x4 : Int32) (ls : Array Slot), lv_has ls 7 [(0, .ref mo), (1, .ref mo_wordLettersa), (2, .int x2), (3, .int x3), (4, .int x4)] → T_Model_against_wordLetters mo_wordLetters mo_handLength mo_hand res n 1 x2 x3 x4 0 → W p l e ({ frames := 0, cells := 0, slots := 0, locals := 0 }) s m ([.ref mo, .ref mo_wordLettersa, .int k1, .int k2] : List Value).toArray below meth c s.heap [] 0 0 (MQ below (Qr (some (.int res))) ([.ref mo, .ref mo_wordLettersa, .int k1, .int k2] : List Value).toArray s 0 0 (fun _ => False)) (F0 m 40 ls [])) ∧ (∀ (x2 : Int32) (x3 : Int32) (x4 : Int32) (x5 : Int32) (ls : Array Slot), lv_has ls 7 [(1, .ref mo_wordLettersa), (2, .int x2), (3, .int x3), (4, .int x4), (5, .int x5)] → T_Model_against_wordLetters mo_wordLetters mo_handLength mo_hand res n 2 x2 x3 x4 x5 → W p l e ({ frames := 0, cells := 0, slots := 0, locals := 0 }) s m ([.ref mo, .ref mo_wordLettersa, .int k1, .int k2] : List Value).toArray below meth c s.heap [] 0 0 (MQ below (Qr (some (.int res))) ([.ref mo, .ref mo_wordLettersa, .int k1, .int k2] : List Value).toArray s 0 0 (fun _ => False)) (F0 m 62 ls [])) := by
    intro n
    induction n with
    | zero =>
      exact ⟨fun _ _ _ _ _ hd => False.elim hd, fun _ _ _ _ _ hd => False.elim hd, fun _ _ _ _ _ _ hd => False.elim hd⟩
    | succ n ih =>
      refine ⟨?_, ?_, ?_⟩
      · intro x2 x3 x4 ls hl hd
        have hd : B_Model_against_wordLetters_3 mo_wordLetters mo_handLength mo_hand res (T_Model_against_wordLetters mo_wordLetters mo_handLength mo_hand res n) x2 x3 x4 := hd
        refine lv_iload hx hb d_Model_against_wordLetters_3 (lv_at hl 4 rfl) ?_
        refine lv_aload_n hx hb d_Model_against_wordLetters_5 rfl (lv_at hl 0 rfl) ?_
        refine va_get (D := (dC, dI)) (ci := 9) (v := .int mo_handLength) (C := R_Model) (T := F_Model) (N := 69) hx hb hts in_Model hown hK hP 0 rfl rfl 34 (by decide) (hts _ (List.mem_cons_of_mem _ k523_fieldLink)) (fun _ h9 => h9) rfl d_Model_against_wordLetters_6 ?_
        refine lv_icmp_ge (tgt := 40) hx hb d_Model_against_wordLetters_9 (by decide) (fun h9 => ?_) (fun h9 => ?_)
        · have hd := hd.1 h9
          exact ih.2.1 x2 x3 x4 _ (lv_sub hl [0, 1, 2, 3, 4] rfl) hd
        · have hd := hd.2 h9
          refine lv_iload hx hb d_Model_against_wordLetters_12 (lv_at hl 4 rfl) ?_
          refine lv_iload_n hx hb d_Model_against_wordLetters_14 rfl (lv_at hl 3 rfl) ?_
          refine lv_icmp_ge (tgt := 40) hx hb d_Model_against_wordLetters_15 (by decide) (fun h15 => ?_) (fun h15 => ?_)
          · have hd := hd.1 h15
            exact ih.2.1 x2 x3 x4 _ (lv_sub hl [0, 1, 2, 3, 4] rfl) hd
          · have hd := hd.2 h15
            refine lv_aload_n hx hb d_Model_against_wordLetters_18 rfl (lv_at hl 0 rfl) ?_
            refine va_get (D := (dC, dI)) (ci := 9) (v := .ref mo_handa) (C := R_Model) (T := F_Model) (N := 69) hx hb hts in_Model hown hK hP 0 rfl rfl 35 (by decide) (hts _ (List.mem_cons_of_mem _ k524_fieldLink)) (fun _ h9 => h9) rfl d_Model_against_wordLetters_19 ?_
            refine lv_iload hx hb d_Model_against_wordLetters_22 (lv_at hl 4 rfl) ?_
            obtain ⟨h24, hd⟩ := hd
            refine va_iald hx hb hK hP 17 0 rfl rfl h24 d_Model_against_wordLetters_24 ?_
            refine lv_aload_n hx hb d_Model_against_wordLetters_25 rfl (lv_at hl 1 rfl) ?_
            refine lv_iload_n hx hb d_Model_against_wordLetters_26 rfl (lv_at hl 2 rfl) ?_
            refine lv_iload hx hb d_Model_against_wordLetters_27 (lv_at hl 4 rfl) ?_
            refine lv_iadd hx hb d_Model_against_wordLetters_29 ?_
            obtain ⟨h30, hd⟩ := hd
            refine va_iald hx hb hK hP 9 0 rfl rfl h30 d_Model_against_wordLetters_30 ?_
            refine lv_icmp_ne (tgt := 40) hx hb d_Model_against_wordLetters_31 (by decide) (fun h31 => ?_) (fun h31 => ?_)
            · have hd := hd.2 h31
              exact ih.2.1 x2 x3 x4 _ (lv_sub hl [0, 1, 2, 3, 4] rfl) hd
            · have hd := hd.1 h31
              refine lv_iinc (k := 4) (v := x4 + 1) (lv' := [(4, .int (x4 + 1)), (0, .ref mo), (1, .ref mo_wordLettersa), (2, .int x2), (3, .int x3)]) hx hb d_Model_against_wordLetters_34 hl rfl (congrArg (fun z => x4 + z) (by decide)) (by decide) rfl (fun ls hl => ?_)
              refine lv_goto (tgt := 3) hx hb d_Model_against_wordLetters_37 (by decide) ?_
              exact ih.1 x2 x3 (x4 + 1) _ (lv_sub hl [1, 2, 3, 4, 0] rfl) hd
      · intro x2 x3 x4 ls hl hd
        have hd : B_Model_against_wordLetters_40 mo_wordLetters mo_handLength mo_hand res (T_Model_against_wordLetters mo_wordLetters mo_handLength mo_hand res n) x2 x3 x4 := hd
        refine lv_iload hx hb d_Model_against_wordLetters_40 (lv_at hl 4 rfl) ?_
        refine lv_aload_n hx hb d_Model_against_wordLetters_42 rfl (lv_at hl 0 rfl) ?_
        refine va_get (D := (dC, dI)) (ci := 9) (v := .int mo_handLength) (C := R_Model) (T := F_Model) (N := 69) hx hb hts in_Model hown hK hP 0 rfl rfl 34 (by decide) (hts _ (List.mem_cons_of_mem _ k523_fieldLink)) (fun _ h9 => h9) rfl d_Model_against_wordLetters_43 ?_
        refine lv_icmp_ge (tgt := 59) hx hb d_Model_against_wordLetters_46 (by decide) (fun h46 => ?_) (fun h46 => ?_)
        · have hd := hd.1 h46
          refine lv_iconst (v := 0) hx hb d_Model_against_wordLetters_59 (by decide) ?_
          refine lv_istore (lv' := [(5, .int 0), (0, .ref mo), (1, .ref mo_wordLettersa), (2, .int x2), (3, .int x3), (4, .int x4)]) hx hb d_Model_against_wordLetters_60 hl (by decide) rfl (fun ls hl => ?_)
          exact ih.2.2 x2 x3 x4 0 _ (lv_sub hl [2, 3, 4, 5, 0] rfl) hd
        · have hd := hd.2 h46
          refine lv_aload_n hx hb d_Model_against_wordLetters_49 rfl (lv_at hl 0 rfl) ?_
          refine va_get (D := (dC, dI)) (ci := 9) (v := .ref mo_handa) (C := R_Model) (T := F_Model) (N := 69) hx hb hts in_Model hown hK hP 0 rfl rfl 35 (by decide) (hts _ (List.mem_cons_of_mem _ k524_fieldLink)) (fun _ h9 => h9) rfl d_Model_against_wordLetters_50 ?_
          refine lv_iload hx hb d_Model_against_wordLetters_53 (lv_at hl 4 rfl) ?_
          obtain ⟨h55, hd⟩ := hd
          refine va_iald hx hb hK hP 17 0 rfl rfl h55 d_Model_against_wordLetters_55 ?_
          refine lv_goto (tgt := 60) hx hb d_Model_against_wordLetters_56 (by decide) ?_
          refine lv_istore (lv' := [(5, .int (mo_hand (Int32.toNatClampNeg x4))), (0, .ref mo), (1, .ref mo_wordLettersa), (2, .int x2), (3, .int x3), (4, .int x4)]) hx hb d_Model_against_wordLetters_60 hl (by decide) rfl (fun ls hl => ?_)
          exact ih.2.2 x2 x3 x4 (mo_hand (Int32.toNatClampNeg x4)) _ (lv_sub hl [2, 3, 4, 5, 0] rfl) hd
      · intro x2 x3 x4 x5 ls hl hd
        have hd : B_Model_against_wordLetters_62 mo_wordLetters mo_handLength mo_hand res (T_Model_against_wordLetters mo_wordLetters mo_handLength mo_hand res n) x2 x3 x4 x5 := hd
        refine lv_iload hx hb d_Model_against_wordLetters_62 (lv_at hl 3 rfl) ?_
        refine lv_iload_n hx hb d_Model_against_wordLetters_64 rfl (lv_at hl 2 rfl) ?_
        refine lv_icmp_ge (tgt := 77) hx hb d_Model_against_wordLetters_65 (by decide) (fun h65 => ?_) (fun h65 => ?_)
        · have hd := hd.1 h65
          refine lv_iconst (v := 0) hx hb d_Model_against_wordLetters_77 (by decide) ?_
          refine lv_istore (lv' := [(6, .int 0), (1, .ref mo_wordLettersa), (2, .int x2), (3, .int x3), (4, .int x4), (5, .int x5)]) hx hb d_Model_against_wordLetters_78 hl (by decide) rfl (fun ls hl => ?_)
          refine lv_iload hx hb d_Model_against_wordLetters_80 (lv_at hl 5 rfl) ?_
          refine lv_iload hx hb d_Model_against_wordLetters_82 (lv_at hl 0 rfl) ?_
          refine lv_isub hx hb d_Model_against_wordLetters_84 ?_
          have e0 : res = x5 - 0 := hd
          subst e0
          exact ct_iretR hx hb hr hlocks d_Model_against_wordLetters_85
        · have hd := hd.2 h65
          refine lv_aload_n hx hb d_Model_against_wordLetters_68 rfl (lv_at hl 0 rfl) ?_
          refine lv_iload_n hx hb d_Model_against_wordLetters_69 rfl (lv_at hl 1 rfl) ?_
          refine lv_iload hx hb d_Model_against_wordLetters_70 (lv_at hl 3 rfl) ?_
          refine lv_iadd hx hb d_Model_against_wordLetters_72 ?_
          obtain ⟨h73, hd⟩ := hd
          refine va_iald hx hb hK hP 9 0 rfl rfl h73 d_Model_against_wordLetters_73 ?_
          refine lv_goto (tgt := 78) hx hb d_Model_against_wordLetters_74 (by decide) ?_
          refine lv_istore (lv' := [(6, .int (mo_wordLetters (Int32.toNatClampNeg (x2 + x4)))), (1, .ref mo_wordLettersa), (2, .int x2), (3, .int x3), (4, .int x4), (5, .int x5)]) hx hb d_Model_against_wordLetters_78 hl (by decide) rfl (fun ls hl => ?_)
          refine lv_iload hx hb d_Model_against_wordLetters_80 (lv_at hl 5 rfl) ?_
          refine lv_iload hx hb d_Model_against_wordLetters_82 (lv_at hl 0 rfl) ?_
          refine lv_isub hx hb d_Model_against_wordLetters_84 ?_
          have e0 : res = x5 - (mo_wordLetters (Int32.toNatClampNeg (x2 + x4))) := hd
          subst e0
          exact ct_iretR hx hb hr hlocks d_Model_against_wordLetters_85
  obtain ⟨n, hd⟩ := hd
  refine lv_iconst (v := 0) hx hb d_Model_against_wordLetters_0 (by decide) ?_
  refine lv_istore (lv' := [(4, .int 0), (0, .ref mo), (1, .ref mo_wordLettersa), (2, .int k1), (3, .int k2)]) hx hb d_Model_against_wordLetters_1 hl (by decide) rfl (fun ls hl => ?_)
  exact (key n).1 k1 k2 0 _ (lv_sub hl [1, 2, 3, 4, 0] rfl) hd
-- Model.against
abbrev b_Model_against_seenKeyLetters : ByteArray := prog_14_method_25_code
def y_Model_against_seenKeyLetters : MethodName := ⟨"HelpFileModel", "against", "([III)I"⟩
set_option maxRecDepth 100000 in
theorem fm_Model_against_seenKeyLetters : Fm y_Model_against_seenKeyLetters b_Model_against_seenKeyLetters 7 (some .int) 3 := ⟨ga_t 1321 rfl rfl, k479_initialized, by decide, by decide, by decide +kernel⟩
def B_Model_against_seenKeyLetters_3 (mo_handLength : Int32) (mo_hand : Nat → Int32) (mo_seenKeyLetters : Nat → Int32) (res : Int32) (X : Nat → Int32 → Int32 → Int32 → Int32 → Prop) (x2 : Int32) (x3 : Int32) (x4 : Int32) : Prop := ((mo_handLength ≤ x4 → X 1 x2 x3 x4 0) ∧ (¬ (mo_handLength ≤ x4) → ((x3 ≤ x4 → X 1 x2 x3 x4 0) ∧ (¬ (x3 ≤ x4) → (vp_in x4 40 ∧ (vp_in (x2 + x4) 2000 ∧ (((mo_hand (Int32.toNatClampNeg x4)) = (mo_seenKeyLetters (Int32.toNatClampNeg (x2 + x4))) → X 0 x2 x3 (x4 + 1) 0) ∧ (¬ ((mo_hand (Int32.toNatClampNeg x4)) = (mo_seenKeyLetters (Int32.toNatClampNeg (x2 + x4)))) → X 1 x2 x3 x4 0))))))))
def B_Model_against_seenKeyLetters_40 (mo_handLength : Int32) (mo_hand : Nat → Int32) (mo_seenKeyLetters : Nat → Int32) (res : Int32) (X : Nat → Int32 → Int32 → Int32 → Int32 → Prop) (x2 : Int32) (x3 : Int32) (x4 : Int32) : Prop := ((mo_handLength ≤ x4 → X 2 x2 x3 x4 0) ∧ (¬ (mo_handLength ≤ x4) → (vp_in x4 40 ∧ X 2 x2 x3 x4 (mo_hand (Int32.toNatClampNeg x4)))))
def B_Model_against_seenKeyLetters_62 (mo_handLength : Int32) (mo_hand : Nat → Int32) (mo_seenKeyLetters : Nat → Int32) (res : Int32) (X : Nat → Int32 → Int32 → Int32 → Int32 → Prop) (x2 : Int32) (x3 : Int32) (x4 : Int32) (x5 : Int32) : Prop := ((x3 ≤ x4 → (res = x5 - 0)) ∧ (¬ (x3 ≤ x4) → (vp_in (x2 + x4) 2000 ∧ (res = x5 - (mo_seenKeyLetters (Int32.toNatClampNeg (x2 + x4)))))))
def S_Model_against_seenKeyLetters (mo_handLength : Int32) (mo_hand : Nat → Int32) (mo_seenKeyLetters : Nat → Int32) (res : Int32) (X : Nat → Int32 → Int32 → Int32 → Int32 → Prop) : Nat → Int32 → Int32 → Int32 → Int32 → Prop := fun q_lab x2 x3 x4 x5 => match q_lab with | 0 => B_Model_against_seenKeyLetters_3 mo_handLength mo_hand mo_seenKeyLetters res X x2 x3 x4 | 1 => B_Model_against_seenKeyLetters_40 mo_handLength mo_hand mo_seenKeyLetters res X x2 x3 x4 | 2 => B_Model_against_seenKeyLetters_62 mo_handLength mo_hand mo_seenKeyLetters res X x2 x3 x4 x5 | _ => False
def T_Model_against_seenKeyLetters (mo_handLength : Int32) (mo_hand : Nat → Int32) (mo_seenKeyLetters : Nat → Int32) (res : Int32) : Nat → (Nat → Int32 → Int32 → Int32 → Int32 → Prop)
  | 0 => fun _ _ _ _ _ => False
  | n + 1 => S_Model_against_seenKeyLetters mo_handLength mo_hand mo_seenKeyLetters res (T_Model_against_seenKeyLetters mo_handLength mo_hand mo_seenKeyLetters res n)
def D_Model_against_seenKeyLetters (k1 : Int32) (k2 : Int32) (mo_handLength : Int32) (mo_hand : Nat → Int32) (mo_seenKeyLetters : Nat → Int32) (res : Int32) : Prop := ∃ n : Nat, T_Model_against_seenKeyLetters mo_handLength mo_hand mo_seenKeyLetters res n 0 k1 k2 0 0
theorem d_Model_against_seenKeyLetters_0 : decode b_Model_against_seenKeyLetters 0 = .ok (.iconst 0, 1) := by decide +kernel
theorem d_Model_against_seenKeyLetters_1 : decode b_Model_against_seenKeyLetters 1 = .ok (.istore 4, 2) := by decide +kernel
theorem d_Model_against_seenKeyLetters_3 : decode b_Model_against_seenKeyLetters 3 = .ok (.iload 4, 2) := by decide +kernel
theorem d_Model_against_seenKeyLetters_5 : decode b_Model_against_seenKeyLetters 5 = .ok (.aload_n 0, 1) := by decide +kernel
theorem d_Model_against_seenKeyLetters_6 : decode b_Model_against_seenKeyLetters 6 = .ok (.getfield 184, 3) := by decide +kernel
theorem d_Model_against_seenKeyLetters_9 : decode b_Model_against_seenKeyLetters 9 = .ok (.if_icmp .ge 31, 3) := by decide +kernel
theorem d_Model_against_seenKeyLetters_12 : decode b_Model_against_seenKeyLetters 12 = .ok (.iload 4, 2) := by decide +kernel
theorem d_Model_against_seenKeyLetters_14 : decode b_Model_against_seenKeyLetters 14 = .ok (.iload_n 3, 1) := by decide +kernel
theorem d_Model_against_seenKeyLetters_15 : decode b_Model_against_seenKeyLetters 15 = .ok (.if_icmp .ge 25, 3) := by decide +kernel
theorem d_Model_against_seenKeyLetters_18 : decode b_Model_against_seenKeyLetters 18 = .ok (.aload_n 0, 1) := by decide +kernel
theorem d_Model_against_seenKeyLetters_19 : decode b_Model_against_seenKeyLetters 19 = .ok (.getfield 62, 3) := by decide +kernel
theorem d_Model_against_seenKeyLetters_22 : decode b_Model_against_seenKeyLetters 22 = .ok (.iload 4, 2) := by decide +kernel
theorem d_Model_against_seenKeyLetters_24 : decode b_Model_against_seenKeyLetters 24 = .ok (.iaload, 1) := by decide +kernel
theorem d_Model_against_seenKeyLetters_25 : decode b_Model_against_seenKeyLetters 25 = .ok (.aload_n 1, 1) := by decide +kernel
theorem d_Model_against_seenKeyLetters_26 : decode b_Model_against_seenKeyLetters 26 = .ok (.iload_n 2, 1) := by decide +kernel
theorem d_Model_against_seenKeyLetters_27 : decode b_Model_against_seenKeyLetters 27 = .ok (.iload 4, 2) := by decide +kernel
theorem d_Model_against_seenKeyLetters_29 : decode b_Model_against_seenKeyLetters 29 = .ok (.iadd, 1) := by decide +kernel
theorem d_Model_against_seenKeyLetters_30 : decode b_Model_against_seenKeyLetters 30 = .ok (.iaload, 1) := by decide +kernel
theorem d_Model_against_seenKeyLetters_31 : decode b_Model_against_seenKeyLetters 31 = .ok (.if_icmp .ne 9, 3) := by decide +kernel
theorem d_Model_against_seenKeyLetters_34 : decode b_Model_against_seenKeyLetters 34 = .ok (.iinc 4 1, 3) := by decide +kernel
theorem d_Model_against_seenKeyLetters_37 : decode b_Model_against_seenKeyLetters 37 = .ok (.goto (-34), 3) := by decide +kernel
theorem d_Model_against_seenKeyLetters_40 : decode b_Model_against_seenKeyLetters 40 = .ok (.iload 4, 2) := by decide +kernel
theorem d_Model_against_seenKeyLetters_42 : decode b_Model_against_seenKeyLetters 42 = .ok (.aload_n 0, 1) := by decide +kernel
theorem d_Model_against_seenKeyLetters_43 : decode b_Model_against_seenKeyLetters 43 = .ok (.getfield 184, 3) := by decide +kernel
theorem d_Model_against_seenKeyLetters_46 : decode b_Model_against_seenKeyLetters 46 = .ok (.if_icmp .ge 13, 3) := by decide +kernel
theorem d_Model_against_seenKeyLetters_49 : decode b_Model_against_seenKeyLetters 49 = .ok (.aload_n 0, 1) := by decide +kernel
theorem d_Model_against_seenKeyLetters_50 : decode b_Model_against_seenKeyLetters 50 = .ok (.getfield 62, 3) := by decide +kernel
theorem d_Model_against_seenKeyLetters_53 : decode b_Model_against_seenKeyLetters 53 = .ok (.iload 4, 2) := by decide +kernel
theorem d_Model_against_seenKeyLetters_55 : decode b_Model_against_seenKeyLetters 55 = .ok (.iaload, 1) := by decide +kernel
theorem d_Model_against_seenKeyLetters_56 : decode b_Model_against_seenKeyLetters 56 = .ok (.goto 4, 3) := by decide +kernel
theorem d_Model_against_seenKeyLetters_59 : decode b_Model_against_seenKeyLetters 59 = .ok (.iconst 0, 1) := by decide +kernel
theorem d_Model_against_seenKeyLetters_60 : decode b_Model_against_seenKeyLetters 60 = .ok (.istore 5, 2) := by decide +kernel
theorem d_Model_against_seenKeyLetters_62 : decode b_Model_against_seenKeyLetters 62 = .ok (.iload 4, 2) := by decide +kernel
theorem d_Model_against_seenKeyLetters_64 : decode b_Model_against_seenKeyLetters 64 = .ok (.iload_n 3, 1) := by decide +kernel
theorem d_Model_against_seenKeyLetters_65 : decode b_Model_against_seenKeyLetters 65 = .ok (.if_icmp .ge 12, 3) := by decide +kernel
theorem d_Model_against_seenKeyLetters_68 : decode b_Model_against_seenKeyLetters 68 = .ok (.aload_n 1, 1) := by decide +kernel
theorem d_Model_against_seenKeyLetters_69 : decode b_Model_against_seenKeyLetters 69 = .ok (.iload_n 2, 1) := by decide +kernel
theorem d_Model_against_seenKeyLetters_70 : decode b_Model_against_seenKeyLetters 70 = .ok (.iload 4, 2) := by decide +kernel
theorem d_Model_against_seenKeyLetters_72 : decode b_Model_against_seenKeyLetters 72 = .ok (.iadd, 1) := by decide +kernel
theorem d_Model_against_seenKeyLetters_73 : decode b_Model_against_seenKeyLetters 73 = .ok (.iaload, 1) := by decide +kernel
theorem d_Model_against_seenKeyLetters_74 : decode b_Model_against_seenKeyLetters 74 = .ok (.goto 4, 3) := by decide +kernel
theorem d_Model_against_seenKeyLetters_77 : decode b_Model_against_seenKeyLetters 77 = .ok (.iconst 0, 1) := by decide +kernel
theorem d_Model_against_seenKeyLetters_78 : decode b_Model_against_seenKeyLetters 78 = .ok (.istore 6, 2) := by decide +kernel
theorem d_Model_against_seenKeyLetters_80 : decode b_Model_against_seenKeyLetters 80 = .ok (.iload 5, 2) := by decide +kernel
theorem d_Model_against_seenKeyLetters_82 : decode b_Model_against_seenKeyLetters 82 = .ok (.iload 6, 2) := by decide +kernel
theorem d_Model_against_seenKeyLetters_84 : decode b_Model_against_seenKeyLetters 84 = .ok (.isub, 1) := by decide +kernel
theorem d_Model_against_seenKeyLetters_85 : decode b_Model_against_seenKeyLetters 85 = .ok (.ireturn, 1) := by decide +kernel
set_option maxHeartbeats 4000000 in
set_option maxRecDepth 100000 in
theorem c_Model_against_seenKeyLetters (l : Launch) (dC : Nat → ClassId) (dI : Nat → Nat → Nat) (cI cL cZ : ClassId) (mo : Nat) (mo_thrown : Int32) (mo_sourcea : Nat) (mo_source : Nat → Int32) (mo_size : Int32) (mo_faultLine : Int32) (mo_fault : Int32) (mo_topics : Int32) (mo_namesa : Nat) (mo_names : Nat → Int32) (mo_bodiesa : Nat) (mo_bodies : Nat → Int32) (mo_lengthsa : Nat) (mo_lengths : Nat → Int32) (mo_headingsa : Nat) (mo_headings : Nat → Int32) (mo_keywords : Int32) (mo_keyLettersa : Nat) (mo_keyLetters : Nat → Int32) (mo_keyLengthsa : Nat) (mo_keyLengths : Nat → Int32) (mo_keyBitsa : Nat) (mo_keyBits : Nat → Int32) (mo_words : Int32) (mo_wordLettersa : Nat) (mo_wordLetters : Nat → Int32) (mo_wordLengthsa : Nat) (mo_wordLengths : Nat → Int32) (mo_wordBitsa : Nat) (mo_wordBits : Nat → Int32) (mo_links : Int32) (mo_linkAta : Nat) (mo_linkAt : Nat → Int32) (mo_linkLengtha : Nat) (mo_linkLength : Nat → Int32) (mo_linkLinea : Nat) (mo_linkLine : Nat → Int32) (mo_linkToa : Nat) (mo_linkTo : Nat → Int32) (mo_inParagraph : Bool) (mo_emphasis : Bool) (mo_blank : Bool) (mo_lastLine : Int32) (mo_imageSize : Int32) (mo_imagea : Nat) (mo_image : Nat → Int32) (mo_compares : Bool) (mo_unlike : Bool) (mo_out : Int32) (mo_total : Int32) (mo_literal : Int32) (mo_handLength : Int32) (mo_handa : Nat) (mo_hand : Nat → Int32) (mo_isOpen : Bool) (mo_seenTopics : Int32) (mo_seenNamesa : Nat) (mo_seenNames : Nat → Int32) (mo_seenBodiesa : Nat) (mo_seenBodies : Nat → Int32) (mo_seenLengthsa : Nat) (mo_seenLengths : Nat → Int32) (mo_seenKeywords : Int32) (mo_seenKeyLettersa : Nat) (mo_seenKeyLetters : Nat → Int32) (mo_seenKeyLengthsa : Nat) (mo_seenKeyLengths : Nat → Int32) (mo_seenKeyBitsa : Nat) (mo_seenKeyBits : Nat → Int32) (mo_seenWords : Int32) (mo_seenWordLettersa : Nat) (mo_seenWordLetters : Nat → Int32) (mo_seenWordLengthsa : Nat) (mo_seenWordLengths : Nat → Int32) (mo_seenWordBitsa : Nat) (mo_seenWordBits : Nat → Int32) (mo_topic : Int32) (mo_backs : Int32) (mo_backa : Nat) (mo_back : Nat → Int32) (mo_forwards : Int32) (mo_forwarda : Nat) (mo_forward : Nat → Int32) (mo_typed : Int32) (mo_querya : Nat) (mo_query : Nat → Int32) (mo_visits : Int32) (mo_valuesa : Nat) (mo_values : Nat → Int32) (mo_valued : Int32) (mo_signsa : Nat) (mo_signs : Nat → Int32) (mo_signed : Int32) (mo_width : Int32) (mo_lines : Int32) (mo_lineFroma : Nat) (mo_lineFrom : Nat → Int32) (mo_lineSizea : Nat) (mo_lineSize : Nat → Int32) (mo_shown : Int32) (mo_texta : Nat) (mo_text : Nat → Int32) (mo_partLength : Int32) (mo_parta : Nat) (mo_part : Nat → Int32) (k1 : Int32) (k2 : Int32) (res : Int32) (hd : D_Model_against_seenKeyLetters k1 k2 mo_handLength mo_hand mo_seenKeyLetters res) : CtrR l y_Model_against_seenKeyLetters (Cond.code y_Model_against_seenKeyLetters b_Model_against_seenKeyLetters 7 (some .int) :: ga) { frames := 0, cells := 0, slots := 0, locals := 0 } (dC, dI) classes (Tys cI cL cZ) [.ref mo, .ref mo_seenKeyLettersa, .int k1, .int k2] ((sh_Model cI cL cZ mo mo_thrown mo_sourcea mo_source mo_size mo_faultLine mo_fault mo_topics mo_namesa mo_names mo_bodiesa mo_bodies mo_lengthsa mo_lengths mo_headingsa mo_headings mo_keywords mo_keyLettersa mo_keyLetters mo_keyLengthsa mo_keyLengths mo_keyBitsa mo_keyBits mo_words mo_wordLettersa mo_wordLetters mo_wordLengthsa mo_wordLengths mo_wordBitsa mo_wordBits mo_links mo_linkAta mo_linkAt mo_linkLengtha mo_linkLength mo_linkLinea mo_linkLine mo_linkToa mo_linkTo mo_inParagraph mo_emphasis mo_blank mo_lastLine mo_imageSize mo_imagea mo_image mo_compares mo_unlike mo_out mo_total mo_literal mo_handLength mo_handa mo_hand mo_isOpen mo_seenTopics mo_seenNamesa mo_seenNames mo_seenBodiesa mo_seenBodies mo_seenLengthsa mo_seenLengths mo_seenKeywords mo_seenKeyLettersa mo_seenKeyLetters mo_seenKeyLengthsa mo_seenKeyLengths mo_seenKeyBitsa mo_seenKeyBits mo_seenWords mo_seenWordLettersa mo_seenWordLetters mo_seenWordLengthsa mo_seenWordLengths mo_seenWordBitsa mo_seenWordBits mo_topic mo_backs mo_backa mo_back mo_forwards mo_forwarda mo_forward mo_typed mo_querya mo_query mo_visits mo_valuesa mo_values mo_valued mo_signsa mo_signs mo_signed mo_width mo_lines mo_lineFroma mo_lineFrom mo_lineSizea mo_lineSize mo_shown mo_texta mo_text mo_partLength mo_parta mo_part)) (some (.int res)) := by
  refine CtrR.ofW (by decide) (Nat.le_of_ble_eq_true rfl) ?_
  intro p e s m below meth c ls hx hb hr hml hown hlocks hts hK hN hP hD hl
  have hown : s.vm.findClass R_Model = some m.cls := hown
  have hl : lv_has ls 7 [(0, .ref mo), (1, .ref mo_seenKeyLettersa), (2, .int k1), (3, .int k2)] := hl
  have key : ∀ n : Nat, (∀ (x2 : Int32) (x3 : Int32) (x4 : Int32) (ls : Array Slot), lv_has ls 7 [(0, .ref mo), (1, .ref mo_seenKeyLettersa), (2, .int x2), (3, .int x3), (4, .int x4)] → T_Model_against_seenKeyLetters mo_handLength mo_hand mo_seenKeyLetters res n 0 x2 x3 x4 0 → W p l e ({ frames := 0, cells := 0, slots := 0, locals := 0 }) s m ([.ref mo, .ref mo_seenKeyLettersa, .int k1, .int k2] : List Value).toArray below meth c s.heap [] 0 0 (MQ below (Qr (some (.int res))) ([.ref mo, .ref mo_seenKeyLettersa, .int k1, .int k2] : List Value).toArray s 0 0 (fun _ => False)) (F0 m 3 ls [])) ∧ (∀ (x2 : Int32) (x3 : Int32) (x4 : Int32) (ls : Array Slot), lv_has ls 7 [(0, .ref mo), (1, .ref mo_seenKeyLettersa), (2, .int x2), (3, .int x3), (4, .int x4)] → T_Model_against_seenKeyLetters mo_handLength mo_hand mo_seenKeyLetters res n 1 x2 x3 x4 0 → W p l e ({ frames := 0, cells := 0, slots := 0, locals := 0 }) s m ([.ref mo, .ref mo_seenKeyLettersa, .int k1, .int k2] : List Value).toArray below meth c s.heap [] 0 0 (MQ below (Qr (some (.int res))) ([.ref mo, .ref mo_seenKeyLettersa, .int k1, .int k2] : List Value).toArray s 0 0 (fun _ => False)) (F0 m 40 ls [])) ∧ (∀ (x2 : Int32) (x3 : Int32) (x4 : Int32) (x5 : Int32) (ls : Array Slot), lv_has ls 7 [(1, .ref mo_seenKeyLettersa), (2, .int x2), (3, .int x3), (4, .int x4), (5, .int x5)] → T_Model_against_seenKeyLetters mo_handLength mo_hand mo_seenKeyLetters res n 2 x2 x3 x4 x5 → W p l e ({ frames := 0, cells := 0, slots := 0, locals := 0 }) s m ([.ref mo, .ref mo_seenKeyLettersa, .int k1, .int k2] : List Value).toArray below meth c s.heap [] 0 0 (MQ below (Qr (some (.int res))) ([.ref mo, .ref mo_seenKeyLettersa, .int k1, .int k2] : List Value).toArray s 0 0 (fun _ => False)) (F0 m 62 ls [])) := by
    intro n
    induction n with
    | zero =>
      exact ⟨fun _ _ _ _ _ hd => False.elim hd, fun _ _ _ _ _ hd => False.elim hd, fun _ _ _ _ _ _ hd => False.elim hd⟩
    | succ n ih =>
      refine ⟨?_, ?_, ?_⟩
      · intro x2 x3 x4 ls hl hd
        have hd : B_Model_against_seenKeyLetters_3 mo_handLength mo_hand mo_seenKeyLetters res (T_Model_against_seenKeyLetters mo_handLength mo_hand mo_seenKeyLetters res n) x2 x3 x4 := hd
        refine lv_iload hx hb d_Model_against_seenKeyLetters_3 (lv_at hl 4 rfl) ?_
        refine lv_aload_n hx hb d_Model_against_seenKeyLetters_5 rfl (lv_at hl 0 rfl) ?_
        refine va_get (D := (dC, dI)) (ci := 9) (v := .int mo_handLength) (C := R_Model) (T := F_Model) (N := 69) hx hb hts in_Model hown hK hP 0 rfl rfl 34 (by decide) (hts _ (List.mem_cons_of_mem _ k523_fieldLink)) (fun _ h9 => h9) rfl d_Model_against_seenKeyLetters_6 ?_
        refine lv_icmp_ge (tgt := 40) hx hb d_Model_against_seenKeyLetters_9 (by decide) (fun h9 => ?_) (fun h9 => ?_)
        · have hd := hd.1 h9
          exact ih.2.1 x2 x3 x4 _ (lv_sub hl [0, 1, 2, 3, 4] rfl) hd
        · have hd := hd.2 h9
          refine lv_iload hx hb d_Model_against_seenKeyLetters_12 (lv_at hl 4 rfl) ?_
          refine lv_iload_n hx hb d_Model_against_seenKeyLetters_14 rfl (lv_at hl 3 rfl) ?_
          refine lv_icmp_ge (tgt := 40) hx hb d_Model_against_seenKeyLetters_15 (by decide) (fun h15 => ?_) (fun h15 => ?_)
          · have hd := hd.1 h15
            exact ih.2.1 x2 x3 x4 _ (lv_sub hl [0, 1, 2, 3, 4] rfl) hd
          · have hd := hd.2 h15
            refine lv_aload_n hx hb d_Model_against_seenKeyLetters_18 rfl (lv_at hl 0 rfl) ?_
            refine va_get (D := (dC, dI)) (ci := 9) (v := .ref mo_handa) (C := R_Model) (T := F_Model) (N := 69) hx hb hts in_Model hown hK hP 0 rfl rfl 35 (by decide) (hts _ (List.mem_cons_of_mem _ k524_fieldLink)) (fun _ h9 => h9) rfl d_Model_against_seenKeyLetters_19 ?_
            refine lv_iload hx hb d_Model_against_seenKeyLetters_22 (lv_at hl 4 rfl) ?_
            obtain ⟨h24, hd⟩ := hd
            refine va_iald hx hb hK hP 17 0 rfl rfl h24 d_Model_against_seenKeyLetters_24 ?_
            refine lv_aload_n hx hb d_Model_against_seenKeyLetters_25 rfl (lv_at hl 1 rfl) ?_
            refine lv_iload_n hx hb d_Model_against_seenKeyLetters_26 rfl (lv_at hl 2 rfl) ?_
            refine lv_iload hx hb d_Model_against_seenKeyLetters_27 (lv_at hl 4 rfl) ?_
            refine lv_iadd hx hb d_Model_against_seenKeyLetters_29 ?_
            obtain ⟨h30, hd⟩ := hd
            refine va_iald hx hb hK hP 21 0 rfl rfl h30 d_Model_against_seenKeyLetters_30 ?_
            refine lv_icmp_ne (tgt := 40) hx hb d_Model_against_seenKeyLetters_31 (by decide) (fun h31 => ?_) (fun h31 => ?_)
            · have hd := hd.2 h31
              exact ih.2.1 x2 x3 x4 _ (lv_sub hl [0, 1, 2, 3, 4] rfl) hd
            · have hd := hd.1 h31
              refine lv_iinc (k := 4) (v := x4 + 1) (lv' := [(4, .int (x4 + 1)), (0, .ref mo), (1, .ref mo_seenKeyLettersa), (2, .int x2), (3, .int x3)]) hx hb d_Model_against_seenKeyLetters_34 hl rfl (congrArg (fun z => x4 + z) (by decide)) (by decide) rfl (fun ls hl => ?_)
              refine lv_goto (tgt := 3) hx hb d_Model_against_seenKeyLetters_37 (by decide) ?_
              exact ih.1 x2 x3 (x4 + 1) _ (lv_sub hl [1, 2, 3, 4, 0] rfl) hd
      · intro x2 x3 x4 ls hl hd
        have hd : B_Model_against_seenKeyLetters_40 mo_handLength mo_hand mo_seenKeyLetters res (T_Model_against_seenKeyLetters mo_handLength mo_hand mo_seenKeyLetters res n) x2 x3 x4 := hd
        refine lv_iload hx hb d_Model_against_seenKeyLetters_40 (lv_at hl 4 rfl) ?_
        refine lv_aload_n hx hb d_Model_against_seenKeyLetters_42 rfl (lv_at hl 0 rfl) ?_
        refine va_get (D := (dC, dI)) (ci := 9) (v := .int mo_handLength) (C := R_Model) (T := F_Model) (N := 69) hx hb hts in_Model hown hK hP 0 rfl rfl 34 (by decide) (hts _ (List.mem_cons_of_mem _ k523_fieldLink)) (fun _ h9 => h9) rfl d_Model_against_seenKeyLetters_43 ?_
        refine lv_icmp_ge (tgt := 59) hx hb d_Model_against_seenKeyLetters_46 (by decide) (fun h46 => ?_) (fun h46 => ?_)
        · have hd := hd.1 h46
          refine lv_iconst (v := 0) hx hb d_Model_against_seenKeyLetters_59 (by decide) ?_
          refine lv_istore (lv' := [(5, .int 0), (0, .ref mo), (1, .ref mo_seenKeyLettersa), (2, .int x2), (3, .int x3), (4, .int x4)]) hx hb d_Model_against_seenKeyLetters_60 hl (by decide) rfl (fun ls hl => ?_)
          exact ih.2.2 x2 x3 x4 0 _ (lv_sub hl [2, 3, 4, 5, 0] rfl) hd
        · have hd := hd.2 h46
          refine lv_aload_n hx hb d_Model_against_seenKeyLetters_49 rfl (lv_at hl 0 rfl) ?_
          refine va_get (D := (dC, dI)) (ci := 9) (v := .ref mo_handa) (C := R_Model) (T := F_Model) (N := 69) hx hb hts in_Model hown hK hP 0 rfl rfl 35 (by decide) (hts _ (List.mem_cons_of_mem _ k524_fieldLink)) (fun _ h9 => h9) rfl d_Model_against_seenKeyLetters_50 ?_
          refine lv_iload hx hb d_Model_against_seenKeyLetters_53 (lv_at hl 4 rfl) ?_
          obtain ⟨h55, hd⟩ := hd
          refine va_iald hx hb hK hP 17 0 rfl rfl h55 d_Model_against_seenKeyLetters_55 ?_
          refine lv_goto (tgt := 60) hx hb d_Model_against_seenKeyLetters_56 (by decide) ?_
          refine lv_istore (lv' := [(5, .int (mo_hand (Int32.toNatClampNeg x4))), (0, .ref mo), (1, .ref mo_seenKeyLettersa), (2, .int x2), (3, .int x3), (4, .int x4)]) hx hb d_Model_against_seenKeyLetters_60 hl (by decide) rfl (fun ls hl => ?_)
          exact ih.2.2 x2 x3 x4 (mo_hand (Int32.toNatClampNeg x4)) _ (lv_sub hl [2, 3, 4, 5, 0] rfl) hd
      · intro x2 x3 x4 x5 ls hl hd
        have hd : B_Model_against_seenKeyLetters_62 mo_handLength mo_hand mo_seenKeyLetters res (T_Model_against_seenKeyLetters mo_handLength mo_hand mo_seenKeyLetters res n) x2 x3 x4 x5 := hd
        refine lv_iload hx hb d_Model_against_seenKeyLetters_62 (lv_at hl 3 rfl) ?_
        refine lv_iload_n hx hb d_Model_against_seenKeyLetters_64 rfl (lv_at hl 2 rfl) ?_
        refine lv_icmp_ge (tgt := 77) hx hb d_Model_against_seenKeyLetters_65 (by decide) (fun h65 => ?_) (fun h65 => ?_)
        · have hd := hd.1 h65
          refine lv_iconst (v := 0) hx hb d_Model_against_seenKeyLetters_77 (by decide) ?_
          refine lv_istore (lv' := [(6, .int 0), (1, .ref mo_seenKeyLettersa), (2, .int x2), (3, .int x3), (4, .int x4), (5, .int x5)]) hx hb d_Model_against_seenKeyLetters_78 hl (by decide) rfl (fun ls hl => ?_)
          refine lv_iload hx hb d_Model_against_seenKeyLetters_80 (lv_at hl 5 rfl) ?_
          refine lv_iload hx hb d_Model_against_seenKeyLetters_82 (lv_at hl 0 rfl) ?_
          refine lv_isub hx hb d_Model_against_seenKeyLetters_84 ?_
          have e0 : res = x5 - 0 := hd
          subst e0
          exact ct_iretR hx hb hr hlocks d_Model_against_seenKeyLetters_85
        · have hd := hd.2 h65
          refine lv_aload_n hx hb d_Model_against_seenKeyLetters_68 rfl (lv_at hl 0 rfl) ?_
          refine lv_iload_n hx hb d_Model_against_seenKeyLetters_69 rfl (lv_at hl 1 rfl) ?_
          refine lv_iload hx hb d_Model_against_seenKeyLetters_70 (lv_at hl 3 rfl) ?_
          refine lv_iadd hx hb d_Model_against_seenKeyLetters_72 ?_
          obtain ⟨h73, hd⟩ := hd
          refine va_iald hx hb hK hP 21 0 rfl rfl h73 d_Model_against_seenKeyLetters_73 ?_
          refine lv_goto (tgt := 78) hx hb d_Model_against_seenKeyLetters_74 (by decide) ?_
          refine lv_istore (lv' := [(6, .int (mo_seenKeyLetters (Int32.toNatClampNeg (x2 + x4)))), (1, .ref mo_seenKeyLettersa), (2, .int x2), (3, .int x3), (4, .int x4), (5, .int x5)]) hx hb d_Model_against_seenKeyLetters_78 hl (by decide) rfl (fun ls hl => ?_)
          refine lv_iload hx hb d_Model_against_seenKeyLetters_80 (lv_at hl 5 rfl) ?_
          refine lv_iload hx hb d_Model_against_seenKeyLetters_82 (lv_at hl 0 rfl) ?_
          refine lv_isub hx hb d_Model_against_seenKeyLetters_84 ?_
          have e0 : res = x5 - (mo_seenKeyLetters (Int32.toNatClampNeg (x2 + x4))) := hd
          subst e0
          exact ct_iretR hx hb hr hlocks d_Model_against_seenKeyLetters_85
  obtain ⟨n, hd⟩ := hd
  refine lv_iconst (v := 0) hx hb d_Model_against_seenKeyLetters_0 (by decide) ?_
  refine lv_istore (lv' := [(4, .int 0), (0, .ref mo), (1, .ref mo_seenKeyLettersa), (2, .int k1), (3, .int k2)]) hx hb d_Model_against_seenKeyLetters_1 hl (by decide) rfl (fun ls hl => ?_)
  exact (key n).1 k1 k2 0 _ (lv_sub hl [1, 2, 3, 4, 0] rfl) hd
-- Model.against
abbrev b_Model_against_seenWordLetters : ByteArray := prog_14_method_25_code
def y_Model_against_seenWordLetters : MethodName := ⟨"HelpFileModel", "against", "([III)I"⟩
set_option maxRecDepth 100000 in
theorem fm_Model_against_seenWordLetters : Fm y_Model_against_seenWordLetters b_Model_against_seenWordLetters 7 (some .int) 3 := ⟨ga_t 1321 rfl rfl, k479_initialized, by decide, by decide, by decide +kernel⟩
def B_Model_against_seenWordLetters_3 (mo_handLength : Int32) (mo_hand : Nat → Int32) (mo_seenWordLetters : Nat → Int32) (res : Int32) (X : Nat → Int32 → Int32 → Int32 → Int32 → Prop) (x2 : Int32) (x3 : Int32) (x4 : Int32) : Prop := ((mo_handLength ≤ x4 → X 1 x2 x3 x4 0) ∧ (¬ (mo_handLength ≤ x4) → ((x3 ≤ x4 → X 1 x2 x3 x4 0) ∧ (¬ (x3 ≤ x4) → (vp_in x4 40 ∧ (vp_in (x2 + x4) 15360 ∧ (((mo_hand (Int32.toNatClampNeg x4)) = (mo_seenWordLetters (Int32.toNatClampNeg (x2 + x4))) → X 0 x2 x3 (x4 + 1) 0) ∧ (¬ ((mo_hand (Int32.toNatClampNeg x4)) = (mo_seenWordLetters (Int32.toNatClampNeg (x2 + x4)))) → X 1 x2 x3 x4 0))))))))
def B_Model_against_seenWordLetters_40 (mo_handLength : Int32) (mo_hand : Nat → Int32) (mo_seenWordLetters : Nat → Int32) (res : Int32) (X : Nat → Int32 → Int32 → Int32 → Int32 → Prop) (x2 : Int32) (x3 : Int32) (x4 : Int32) : Prop := ((mo_handLength ≤ x4 → X 2 x2 x3 x4 0) ∧ (¬ (mo_handLength ≤ x4) → (vp_in x4 40 ∧ X 2 x2 x3 x4 (mo_hand (Int32.toNatClampNeg x4)))))
def B_Model_against_seenWordLetters_62 (mo_handLength : Int32) (mo_hand : Nat → Int32) (mo_seenWordLetters : Nat → Int32) (res : Int32) (X : Nat → Int32 → Int32 → Int32 → Int32 → Prop) (x2 : Int32) (x3 : Int32) (x4 : Int32) (x5 : Int32) : Prop := ((x3 ≤ x4 → (res = x5 - 0)) ∧ (¬ (x3 ≤ x4) → (vp_in (x2 + x4) 15360 ∧ (res = x5 - (mo_seenWordLetters (Int32.toNatClampNeg (x2 + x4)))))))
def S_Model_against_seenWordLetters (mo_handLength : Int32) (mo_hand : Nat → Int32) (mo_seenWordLetters : Nat → Int32) (res : Int32) (X : Nat → Int32 → Int32 → Int32 → Int32 → Prop) : Nat → Int32 → Int32 → Int32 → Int32 → Prop := fun q_lab x2 x3 x4 x5 => match q_lab with | 0 => B_Model_against_seenWordLetters_3 mo_handLength mo_hand mo_seenWordLetters res X x2 x3 x4 | 1 => B_Model_against_seenWordLetters_40 mo_handLength mo_hand mo_seenWordLetters res X x2 x3 x4 | 2 => B_Model_against_seenWordLetters_62 mo_handLength mo_hand mo_seenWordLetters res X x2 x3 x4 x5 | _ => False
def T_Model_against_seenWordLetters (mo_handLength : Int32) (mo_hand : Nat → Int32) (mo_seenWordLetters : Nat → Int32) (res : Int32) : Nat → (Nat → Int32 → Int32 → Int32 → Int32 → Prop)
  | 0 => fun _ _ _ _ _ => False
  | n + 1 => S_Model_against_seenWordLetters mo_handLength mo_hand mo_seenWordLetters res (T_Model_against_seenWordLetters mo_handLength mo_hand mo_seenWordLetters res n)
def D_Model_against_seenWordLetters (k1 : Int32) (k2 : Int32) (mo_handLength : Int32) (mo_hand : Nat → Int32) (mo_seenWordLetters : Nat → Int32) (res : Int32) : Prop := ∃ n : Nat, T_Model_against_seenWordLetters mo_handLength mo_hand mo_seenWordLetters res n 0 k1 k2 0 0
theorem d_Model_against_seenWordLetters_0 : decode b_Model_against_seenWordLetters 0 = .ok (.iconst 0, 1) := by decide +kernel
theorem d_Model_against_seenWordLetters_1 : decode b_Model_against_seenWordLetters 1 = .ok (.istore 4, 2) := by decide +kernel
theorem d_Model_against_seenWordLetters_3 : decode b_Model_against_seenWordLetters 3 = .ok (.iload 4, 2) := by decide +kernel
theorem d_Model_against_seenWordLetters_5 : decode b_Model_against_seenWordLetters 5 = .ok (.aload_n 0, 1) := by decide +kernel
theorem d_Model_against_seenWordLetters_6 : decode b_Model_against_seenWordLetters 6 = .ok (.getfield 184, 3) := by decide +kernel
theorem d_Model_against_seenWordLetters_9 : decode b_Model_against_seenWordLetters 9 = .ok (.if_icmp .ge 31, 3) := by decide +kernel
theorem d_Model_against_seenWordLetters_12 : decode b_Model_against_seenWordLetters 12 = .ok (.iload 4, 2) := by decide +kernel
theorem d_Model_against_seenWordLetters_14 : decode b_Model_against_seenWordLetters 14 = .ok (.iload_n 3, 1) := by decide +kernel
theorem d_Model_against_seenWordLetters_15 : decode b_Model_against_seenWordLetters 15 = .ok (.if_icmp .ge 25, 3) := by decide +kernel
theorem d_Model_against_seenWordLetters_18 : decode b_Model_against_seenWordLetters 18 = .ok (.aload_n 0, 1) := by decide +kernel
theorem d_Model_against_seenWordLetters_19 : decode b_Model_against_seenWordLetters 19 = .ok (.getfield 62, 3) := by decide +kernel
theorem d_Model_against_seenWordLetters_22 : decode b_Model_against_seenWordLetters 22 = .ok (.iload 4, 2) := by decide +kernel
theorem d_Model_against_seenWordLetters_24 : decode b_Model_against_seenWordLetters 24 = .ok (.iaload, 1) := by decide +kernel
theorem d_Model_against_seenWordLetters_25 : decode b_Model_against_seenWordLetters 25 = .ok (.aload_n 1, 1) := by decide +kernel
theorem d_Model_against_seenWordLetters_26 : decode b_Model_against_seenWordLetters 26 = .ok (.iload_n 2, 1) := by decide +kernel
theorem d_Model_against_seenWordLetters_27 : decode b_Model_against_seenWordLetters 27 = .ok (.iload 4, 2) := by decide +kernel
theorem d_Model_against_seenWordLetters_29 : decode b_Model_against_seenWordLetters 29 = .ok (.iadd, 1) := by decide +kernel
theorem d_Model_against_seenWordLetters_30 : decode b_Model_against_seenWordLetters 30 = .ok (.iaload, 1) := by decide +kernel
theorem d_Model_against_seenWordLetters_31 : decode b_Model_against_seenWordLetters 31 = .ok (.if_icmp .ne 9, 3) := by decide +kernel
theorem d_Model_against_seenWordLetters_34 : decode b_Model_against_seenWordLetters 34 = .ok (.iinc 4 1, 3) := by decide +kernel
theorem d_Model_against_seenWordLetters_37 : decode b_Model_against_seenWordLetters 37 = .ok (.goto (-34), 3) := by decide +kernel
theorem d_Model_against_seenWordLetters_40 : decode b_Model_against_seenWordLetters 40 = .ok (.iload 4, 2) := by decide +kernel
theorem d_Model_against_seenWordLetters_42 : decode b_Model_against_seenWordLetters 42 = .ok (.aload_n 0, 1) := by decide +kernel
theorem d_Model_against_seenWordLetters_43 : decode b_Model_against_seenWordLetters 43 = .ok (.getfield 184, 3) := by decide +kernel
theorem d_Model_against_seenWordLetters_46 : decode b_Model_against_seenWordLetters 46 = .ok (.if_icmp .ge 13, 3) := by decide +kernel
theorem d_Model_against_seenWordLetters_49 : decode b_Model_against_seenWordLetters 49 = .ok (.aload_n 0, 1) := by decide +kernel
theorem d_Model_against_seenWordLetters_50 : decode b_Model_against_seenWordLetters 50 = .ok (.getfield 62, 3) := by decide +kernel
theorem d_Model_against_seenWordLetters_53 : decode b_Model_against_seenWordLetters 53 = .ok (.iload 4, 2) := by decide +kernel
theorem d_Model_against_seenWordLetters_55 : decode b_Model_against_seenWordLetters 55 = .ok (.iaload, 1) := by decide +kernel
theorem d_Model_against_seenWordLetters_56 : decode b_Model_against_seenWordLetters 56 = .ok (.goto 4, 3) := by decide +kernel
theorem d_Model_against_seenWordLetters_59 : decode b_Model_against_seenWordLetters 59 = .ok (.iconst 0, 1) := by decide +kernel
theorem d_Model_against_seenWordLetters_60 : decode b_Model_against_seenWordLetters 60 = .ok (.istore 5, 2) := by decide +kernel
theorem d_Model_against_seenWordLetters_62 : decode b_Model_against_seenWordLetters 62 = .ok (.iload 4, 2) := by decide +kernel
theorem d_Model_against_seenWordLetters_64 : decode b_Model_against_seenWordLetters 64 = .ok (.iload_n 3, 1) := by decide +kernel
theorem d_Model_against_seenWordLetters_65 : decode b_Model_against_seenWordLetters 65 = .ok (.if_icmp .ge 12, 3) := by decide +kernel
theorem d_Model_against_seenWordLetters_68 : decode b_Model_against_seenWordLetters 68 = .ok (.aload_n 1, 1) := by decide +kernel
theorem d_Model_against_seenWordLetters_69 : decode b_Model_against_seenWordLetters 69 = .ok (.iload_n 2, 1) := by decide +kernel
theorem d_Model_against_seenWordLetters_70 : decode b_Model_against_seenWordLetters 70 = .ok (.iload 4, 2) := by decide +kernel
theorem d_Model_against_seenWordLetters_72 : decode b_Model_against_seenWordLetters 72 = .ok (.iadd, 1) := by decide +kernel
theorem d_Model_against_seenWordLetters_73 : decode b_Model_against_seenWordLetters 73 = .ok (.iaload, 1) := by decide +kernel
theorem d_Model_against_seenWordLetters_74 : decode b_Model_against_seenWordLetters 74 = .ok (.goto 4, 3) := by decide +kernel
theorem d_Model_against_seenWordLetters_77 : decode b_Model_against_seenWordLetters 77 = .ok (.iconst 0, 1) := by decide +kernel
theorem d_Model_against_seenWordLetters_78 : decode b_Model_against_seenWordLetters 78 = .ok (.istore 6, 2) := by decide +kernel
theorem d_Model_against_seenWordLetters_80 : decode b_Model_against_seenWordLetters 80 = .ok (.iload 5, 2) := by decide +kernel
theorem d_Model_against_seenWordLetters_82 : decode b_Model_against_seenWordLetters 82 = .ok (.iload 6, 2) := by decide +kernel
theorem d_Model_against_seenWordLetters_84 : decode b_Model_against_seenWordLetters 84 = .ok (.isub, 1) := by decide +kernel
theorem d_Model_against_seenWordLetters_85 : decode b_Model_against_seenWordLetters 85 = .ok (.ireturn, 1) := by decide +kernel
set_option maxHeartbeats 4000000 in
set_option maxRecDepth 100000 in
theorem c_Model_against_seenWordLetters (l : Launch) (dC : Nat → ClassId) (dI : Nat → Nat → Nat) (cI cL cZ : ClassId) (mo : Nat) (mo_thrown : Int32) (mo_sourcea : Nat) (mo_source : Nat → Int32) (mo_size : Int32) (mo_faultLine : Int32) (mo_fault : Int32) (mo_topics : Int32) (mo_namesa : Nat) (mo_names : Nat → Int32) (mo_bodiesa : Nat) (mo_bodies : Nat → Int32) (mo_lengthsa : Nat) (mo_lengths : Nat → Int32) (mo_headingsa : Nat) (mo_headings : Nat → Int32) (mo_keywords : Int32) (mo_keyLettersa : Nat) (mo_keyLetters : Nat → Int32) (mo_keyLengthsa : Nat) (mo_keyLengths : Nat → Int32) (mo_keyBitsa : Nat) (mo_keyBits : Nat → Int32) (mo_words : Int32) (mo_wordLettersa : Nat) (mo_wordLetters : Nat → Int32) (mo_wordLengthsa : Nat) (mo_wordLengths : Nat → Int32) (mo_wordBitsa : Nat) (mo_wordBits : Nat → Int32) (mo_links : Int32) (mo_linkAta : Nat) (mo_linkAt : Nat → Int32) (mo_linkLengtha : Nat) (mo_linkLength : Nat → Int32) (mo_linkLinea : Nat) (mo_linkLine : Nat → Int32) (mo_linkToa : Nat) (mo_linkTo : Nat → Int32) (mo_inParagraph : Bool) (mo_emphasis : Bool) (mo_blank : Bool) (mo_lastLine : Int32) (mo_imageSize : Int32) (mo_imagea : Nat) (mo_image : Nat → Int32) (mo_compares : Bool) (mo_unlike : Bool) (mo_out : Int32) (mo_total : Int32) (mo_literal : Int32) (mo_handLength : Int32) (mo_handa : Nat) (mo_hand : Nat → Int32) (mo_isOpen : Bool) (mo_seenTopics : Int32) (mo_seenNamesa : Nat) (mo_seenNames : Nat → Int32) (mo_seenBodiesa : Nat) (mo_seenBodies : Nat → Int32) (mo_seenLengthsa : Nat) (mo_seenLengths : Nat → Int32) (mo_seenKeywords : Int32) (mo_seenKeyLettersa : Nat) (mo_seenKeyLetters : Nat → Int32) (mo_seenKeyLengthsa : Nat) (mo_seenKeyLengths : Nat → Int32) (mo_seenKeyBitsa : Nat) (mo_seenKeyBits : Nat → Int32) (mo_seenWords : Int32) (mo_seenWordLettersa : Nat) (mo_seenWordLetters : Nat → Int32) (mo_seenWordLengthsa : Nat) (mo_seenWordLengths : Nat → Int32) (mo_seenWordBitsa : Nat) (mo_seenWordBits : Nat → Int32) (mo_topic : Int32) (mo_backs : Int32) (mo_backa : Nat) (mo_back : Nat → Int32) (mo_forwards : Int32) (mo_forwarda : Nat) (mo_forward : Nat → Int32) (mo_typed : Int32) (mo_querya : Nat) (mo_query : Nat → Int32) (mo_visits : Int32) (mo_valuesa : Nat) (mo_values : Nat → Int32) (mo_valued : Int32) (mo_signsa : Nat) (mo_signs : Nat → Int32) (mo_signed : Int32) (mo_width : Int32) (mo_lines : Int32) (mo_lineFroma : Nat) (mo_lineFrom : Nat → Int32) (mo_lineSizea : Nat) (mo_lineSize : Nat → Int32) (mo_shown : Int32) (mo_texta : Nat) (mo_text : Nat → Int32) (mo_partLength : Int32) (mo_parta : Nat) (mo_part : Nat → Int32) (k1 : Int32) (k2 : Int32) (res : Int32) (hd : D_Model_against_seenWordLetters k1 k2 mo_handLength mo_hand mo_seenWordLetters res) : CtrR l y_Model_against_seenWordLetters (Cond.code y_Model_against_seenWordLetters b_Model_against_seenWordLetters 7 (some .int) :: ga) { frames := 0, cells := 0, slots := 0, locals := 0 } (dC, dI) classes (Tys cI cL cZ) [.ref mo, .ref mo_seenWordLettersa, .int k1, .int k2] ((sh_Model cI cL cZ mo mo_thrown mo_sourcea mo_source mo_size mo_faultLine mo_fault mo_topics mo_namesa mo_names mo_bodiesa mo_bodies mo_lengthsa mo_lengths mo_headingsa mo_headings mo_keywords mo_keyLettersa mo_keyLetters mo_keyLengthsa mo_keyLengths mo_keyBitsa mo_keyBits mo_words mo_wordLettersa mo_wordLetters mo_wordLengthsa mo_wordLengths mo_wordBitsa mo_wordBits mo_links mo_linkAta mo_linkAt mo_linkLengtha mo_linkLength mo_linkLinea mo_linkLine mo_linkToa mo_linkTo mo_inParagraph mo_emphasis mo_blank mo_lastLine mo_imageSize mo_imagea mo_image mo_compares mo_unlike mo_out mo_total mo_literal mo_handLength mo_handa mo_hand mo_isOpen mo_seenTopics mo_seenNamesa mo_seenNames mo_seenBodiesa mo_seenBodies mo_seenLengthsa mo_seenLengths mo_seenKeywords mo_seenKeyLettersa mo_seenKeyLetters mo_seenKeyLengthsa mo_seenKeyLengths mo_seenKeyBitsa mo_seenKeyBits mo_seenWords mo_seenWordLettersa mo_seenWordLetters mo_seenWordLengthsa mo_seenWordLengths mo_seenWordBitsa mo_seenWordBits mo_topic mo_backs mo_backa mo_back mo_forwards mo_forwarda mo_forward mo_typed mo_querya mo_query mo_visits mo_valuesa mo_values mo_valued mo_signsa mo_signs mo_signed mo_width mo_lines mo_lineFroma mo_lineFrom mo_lineSizea mo_lineSize mo_shown mo_texta mo_text mo_partLength mo_parta mo_part)) (some (.int res)) := by
  refine CtrR.ofW (by decide) (Nat.le_of_ble_eq_true rfl) ?_
  intro p e s m below meth c ls hx hb hr hml hown hlocks hts hK hN hP hD hl
  have hown : s.vm.findClass R_Model = some m.cls := hown
  have hl : lv_has ls 7 [(0, .ref mo), (1, .ref mo_seenWordLettersa), (2, .int k1), (3, .int k2)] := hl
  have key : ∀ n : Nat, (∀ (x2 : Int32) (x3 : Int32) (x4 : Int32) (ls : Array Slot), lv_has ls 7 [(0, .ref mo), (1, .ref mo_seenWordLettersa), (2, .int x2), (3, .int x3), (4, .int x4)] → T_Model_against_seenWordLetters mo_handLength mo_hand mo_seenWordLetters res n 0 x2 x3 x4 0 → W p l e ({ frames := 0, cells := 0, slots := 0, locals := 0 }) s m ([.ref mo, .ref mo_seenWordLettersa, .int k1, .int k2] : List Value).toArray below meth c s.heap [] 0 0 (MQ below (Qr (some (.int res))) ([.ref mo, .ref mo_seenWordLettersa, .int k1, .int k2] : List Value).toArray s 0 0 (fun _ => False)) (F0 m 3 ls [])) ∧ (∀ (x2 : Int32) (x3 : Int32) (x4 : Int32) (ls : Array Slot), lv_has ls 7 [(0, .ref mo), (1, .ref mo_seenWordLettersa), (2, .int x2), (3, .int x3), (4, .int x4)] → T_Model_against_seenWordLetters mo_handLength mo_hand mo_seenWordLetters res n 1 x2 x3 x4 0 → W p l e ({ frames := 0, cells := 0, slots := 0, locals := 0 }) s m ([.ref mo, .ref mo_seenWordLettersa, .int k1, .int k2] : List Value).toArray below meth c s.heap [] 0 0 (MQ below (Qr (some (.int res))) ([.ref mo, .ref mo_seenWordLettersa, .int k1, .int k2] : List Value).toArray s 0 0 (fun _ => False)) (F0 m 40 ls [])) ∧ (∀ (x2 : Int32) (x3 : Int32) (x4 : Int32) (x5 : Int32) (ls : Array Slot), lv_has ls 7 [(1, .ref mo_seenWordLettersa), (2, .int x2), (3, .int x3), (4, .int x4), (5, .int x5)] → T_Model_against_seenWordLetters mo_handLength mo_hand mo_seenWordLetters res n 2 x2 x3 x4 x5 → W p l e ({ frames := 0, cells := 0, slots := 0, locals := 0 }) s m ([.ref mo, .ref mo_seenWordLettersa, .int k1, .int k2] : List Value).toArray below meth c s.heap [] 0 0 (MQ below (Qr (some (.int res))) ([.ref mo, .ref mo_seenWordLettersa, .int k1, .int k2] : List Value).toArray s 0 0 (fun _ => False)) (F0 m 62 ls [])) := by
    intro n
    induction n with
    | zero =>
      exact ⟨fun _ _ _ _ _ hd => False.elim hd, fun _ _ _ _ _ hd => False.elim hd, fun _ _ _ _ _ _ hd => False.elim hd⟩
    | succ n ih =>
      refine ⟨?_, ?_, ?_⟩
      · intro x2 x3 x4 ls hl hd
        have hd : B_Model_against_seenWordLetters_3 mo_handLength mo_hand mo_seenWordLetters res (T_Model_against_seenWordLetters mo_handLength mo_hand mo_seenWordLetters res n) x2 x3 x4 := hd
        refine lv_iload hx hb d_Model_against_seenWordLetters_3 (lv_at hl 4 rfl) ?_
        refine lv_aload_n hx hb d_Model_against_seenWordLetters_5 rfl (lv_at hl 0 rfl) ?_
        refine va_get (D := (dC, dI)) (ci := 9) (v := .int mo_handLength) (C := R_Model) (T := F_Model) (N := 69) hx hb hts in_Model hown hK hP 0 rfl rfl 34 (by decide) (hts _ (List.mem_cons_of_mem _ k523_fieldLink)) (fun _ h9 => h9) rfl d_Model_against_seenWordLetters_6 ?_
        refine lv_icmp_ge (tgt := 40) hx hb d_Model_against_seenWordLetters_9 (by decide) (fun h9 => ?_) (fun h9 => ?_)
        · have hd := hd.1 h9
          exact ih.2.1 x2 x3 x4 _ (lv_sub hl [0, 1, 2, 3, 4] rfl) hd
        · have hd := hd.2 h9
          refine lv_iload hx hb d_Model_against_seenWordLetters_12 (lv_at hl 4 rfl) ?_
          refine lv_iload_n hx hb d_Model_against_seenWordLetters_14 rfl (lv_at hl 3 rfl) ?_
          refine lv_icmp_ge (tgt := 40) hx hb d_Model_against_seenWordLetters_15 (by decide) (fun h15 => ?_) (fun h15 => ?_)
          · have hd := hd.1 h15
            exact ih.2.1 x2 x3 x4 _ (lv_sub hl [0, 1, 2, 3, 4] rfl) hd
          · have hd := hd.2 h15
            refine lv_aload_n hx hb d_Model_against_seenWordLetters_18 rfl (lv_at hl 0 rfl) ?_
            refine va_get (D := (dC, dI)) (ci := 9) (v := .ref mo_handa) (C := R_Model) (T := F_Model) (N := 69) hx hb hts in_Model hown hK hP 0 rfl rfl 35 (by decide) (hts _ (List.mem_cons_of_mem _ k524_fieldLink)) (fun _ h9 => h9) rfl d_Model_against_seenWordLetters_19 ?_
            refine lv_iload hx hb d_Model_against_seenWordLetters_22 (lv_at hl 4 rfl) ?_
            obtain ⟨h24, hd⟩ := hd
            refine va_iald hx hb hK hP 17 0 rfl rfl h24 d_Model_against_seenWordLetters_24 ?_
            refine lv_aload_n hx hb d_Model_against_seenWordLetters_25 rfl (lv_at hl 1 rfl) ?_
            refine lv_iload_n hx hb d_Model_against_seenWordLetters_26 rfl (lv_at hl 2 rfl) ?_
            refine lv_iload hx hb d_Model_against_seenWordLetters_27 (lv_at hl 4 rfl) ?_
            refine lv_iadd hx hb d_Model_against_seenWordLetters_29 ?_
            obtain ⟨h30, hd⟩ := hd
            refine va_iald hx hb hK hP 24 0 rfl rfl h30 d_Model_against_seenWordLetters_30 ?_
            refine lv_icmp_ne (tgt := 40) hx hb d_Model_against_seenWordLetters_31 (by decide) (fun h31 => ?_) (fun h31 => ?_)
            · have hd := hd.2 h31
              exact ih.2.1 x2 x3 x4 _ (lv_sub hl [0, 1, 2, 3, 4] rfl) hd
            · have hd := hd.1 h31
              refine lv_iinc (k := 4) (v := x4 + 1) (lv' := [(4, .int (x4 + 1)), (0, .ref mo), (1, .ref mo_seenWordLettersa), (2, .int x2), (3, .int x3)]) hx hb d_Model_against_seenWordLetters_34 hl rfl (congrArg (fun z => x4 + z) (by decide)) (by decide) rfl (fun ls hl => ?_)
              refine lv_goto (tgt := 3) hx hb d_Model_against_seenWordLetters_37 (by decide) ?_
              exact ih.1 x2 x3 (x4 + 1) _ (lv_sub hl [1, 2, 3, 4, 0] rfl) hd
      · intro x2 x3 x4 ls hl hd
        have hd : B_Model_against_seenWordLetters_40 mo_handLength mo_hand mo_seenWordLetters res (T_Model_against_seenWordLetters mo_handLength mo_hand mo_seenWordLetters res n) x2 x3 x4 := hd
        refine lv_iload hx hb d_Model_against_seenWordLetters_40 (lv_at hl 4 rfl) ?_
        refine lv_aload_n hx hb d_Model_against_seenWordLetters_42 rfl (lv_at hl 0 rfl) ?_
        refine va_get (D := (dC, dI)) (ci := 9) (v := .int mo_handLength) (C := R_Model) (T := F_Model) (N := 69) hx hb hts in_Model hown hK hP 0 rfl rfl 34 (by decide) (hts _ (List.mem_cons_of_mem _ k523_fieldLink)) (fun _ h9 => h9) rfl d_Model_against_seenWordLetters_43 ?_
        refine lv_icmp_ge (tgt := 59) hx hb d_Model_against_seenWordLetters_46 (by decide) (fun h46 => ?_) (fun h46 => ?_)
        · have hd := hd.1 h46
          refine lv_iconst (v := 0) hx hb d_Model_against_seenWordLetters_59 (by decide) ?_
          refine lv_istore (lv' := [(5, .int 0), (0, .ref mo), (1, .ref mo_seenWordLettersa), (2, .int x2), (3, .int x3), (4, .int x4)]) hx hb d_Model_against_seenWordLetters_60 hl (by decide) rfl (fun ls hl => ?_)
          exact ih.2.2 x2 x3 x4 0 _ (lv_sub hl [2, 3, 4, 5, 0] rfl) hd
        · have hd := hd.2 h46
          refine lv_aload_n hx hb d_Model_against_seenWordLetters_49 rfl (lv_at hl 0 rfl) ?_
          refine va_get (D := (dC, dI)) (ci := 9) (v := .ref mo_handa) (C := R_Model) (T := F_Model) (N := 69) hx hb hts in_Model hown hK hP 0 rfl rfl 35 (by decide) (hts _ (List.mem_cons_of_mem _ k524_fieldLink)) (fun _ h9 => h9) rfl d_Model_against_seenWordLetters_50 ?_
          refine lv_iload hx hb d_Model_against_seenWordLetters_53 (lv_at hl 4 rfl) ?_
          obtain ⟨h55, hd⟩ := hd
          refine va_iald hx hb hK hP 17 0 rfl rfl h55 d_Model_against_seenWordLetters_55 ?_
          refine lv_goto (tgt := 60) hx hb d_Model_against_seenWordLetters_56 (by decide) ?_
          refine lv_istore (lv' := [(5, .int (mo_hand (Int32.toNatClampNeg x4))), (0, .ref mo), (1, .ref mo_seenWordLettersa), (2, .int x2), (3, .int x3), (4, .int x4)]) hx hb d_Model_against_seenWordLetters_60 hl (by decide) rfl (fun ls hl => ?_)
          exact ih.2.2 x2 x3 x4 (mo_hand (Int32.toNatClampNeg x4)) _ (lv_sub hl [2, 3, 4, 5, 0] rfl) hd
      · intro x2 x3 x4 x5 ls hl hd
        have hd : B_Model_against_seenWordLetters_62 mo_handLength mo_hand mo_seenWordLetters res (T_Model_against_seenWordLetters mo_handLength mo_hand mo_seenWordLetters res n) x2 x3 x4 x5 := hd
        refine lv_iload hx hb d_Model_against_seenWordLetters_62 (lv_at hl 3 rfl) ?_
        refine lv_iload_n hx hb d_Model_against_seenWordLetters_64 rfl (lv_at hl 2 rfl) ?_
        refine lv_icmp_ge (tgt := 77) hx hb d_Model_against_seenWordLetters_65 (by decide) (fun h65 => ?_) (fun h65 => ?_)
        · have hd := hd.1 h65
          refine lv_iconst (v := 0) hx hb d_Model_against_seenWordLetters_77 (by decide) ?_
          refine lv_istore (lv' := [(6, .int 0), (1, .ref mo_seenWordLettersa), (2, .int x2), (3, .int x3), (4, .int x4), (5, .int x5)]) hx hb d_Model_against_seenWordLetters_78 hl (by decide) rfl (fun ls hl => ?_)
          refine lv_iload hx hb d_Model_against_seenWordLetters_80 (lv_at hl 5 rfl) ?_
          refine lv_iload hx hb d_Model_against_seenWordLetters_82 (lv_at hl 0 rfl) ?_
          refine lv_isub hx hb d_Model_against_seenWordLetters_84 ?_
          have e0 : res = x5 - 0 := hd
          subst e0
          exact ct_iretR hx hb hr hlocks d_Model_against_seenWordLetters_85
        · have hd := hd.2 h65
          refine lv_aload_n hx hb d_Model_against_seenWordLetters_68 rfl (lv_at hl 0 rfl) ?_
          refine lv_iload_n hx hb d_Model_against_seenWordLetters_69 rfl (lv_at hl 1 rfl) ?_
          refine lv_iload hx hb d_Model_against_seenWordLetters_70 (lv_at hl 3 rfl) ?_
          refine lv_iadd hx hb d_Model_against_seenWordLetters_72 ?_
          obtain ⟨h73, hd⟩ := hd
          refine va_iald hx hb hK hP 24 0 rfl rfl h73 d_Model_against_seenWordLetters_73 ?_
          refine lv_goto (tgt := 78) hx hb d_Model_against_seenWordLetters_74 (by decide) ?_
          refine lv_istore (lv' := [(6, .int (mo_seenWordLetters (Int32.toNatClampNeg (x2 + x4)))), (1, .ref mo_seenWordLettersa), (2, .int x2), (3, .int x3), (4, .int x4), (5, .int x5)]) hx hb d_Model_against_seenWordLetters_78 hl (by decide) rfl (fun ls hl => ?_)
          refine lv_iload hx hb d_Model_against_seenWordLetters_80 (lv_at hl 5 rfl) ?_
          refine lv_iload hx hb d_Model_against_seenWordLetters_82 (lv_at hl 0 rfl) ?_
          refine lv_isub hx hb d_Model_against_seenWordLetters_84 ?_
          have e0 : res = x5 - (mo_seenWordLetters (Int32.toNatClampNeg (x2 + x4))) := hd
          subst e0
          exact ct_iretR hx hb hr hlocks d_Model_against_seenWordLetters_85
  obtain ⟨n, hd⟩ := hd
  refine lv_iconst (v := 0) hx hb d_Model_against_seenWordLetters_0 (by decide) ?_
  refine lv_istore (lv' := [(4, .int 0), (0, .ref mo), (1, .ref mo_seenWordLettersa), (2, .int k1), (3, .int k2)]) hx hb d_Model_against_seenWordLetters_1 hl (by decide) rfl (fun ls hl => ?_)
  exact (key n).1 k1 k2 0 _ (lv_sub hl [1, 2, 3, 4, 0] rfl) hd
