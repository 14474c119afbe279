/-! 40.model: what each method does, read off its bytecode (D_..), and its contract (c_..); written by a program of mine. -/
-- Model.thrown
abbrev b_Model_thrown : ByteArray := prog_14_method_2_code
def y_Model_thrown : MethodName := ⟨"HelpFileModel", "thrown", "()I"⟩
theorem k478_fieldLink : Cond.fieldLink "HelpFileModel" 122 "HelpFileModel" "thrown" "I" ∈ ga := ga_t 1036 (by decide +kernel) rfl
theorem k479_initialized : Cond.initialized "HelpFileModel" ∈ ga := ga_t 10 (by decide +kernel) rfl
set_option maxRecDepth 100000 in
theorem fm_Model_thrown : Fm y_Model_thrown b_Model_thrown 1 (some .int) 0 := ⟨ga_t 1247 rfl rfl, k479_initialized, by decide, by decide, by decide +kernel⟩
def D_Model_thrown (mo_thrown : Int32) (res : Int32) : Prop := (res = mo_thrown)
theorem d_Model_thrown_0 : decode b_Model_thrown 0 = .ok (.aload_n 0, 1) := by decide +kernel
theorem d_Model_thrown_1 : decode b_Model_thrown 1 = .ok (.getfield 122, 3) := by decide +kernel
theorem d_Model_thrown_4 : decode b_Model_thrown 4 = .ok (.ireturn, 1) := by decide +kernel
set_option maxHeartbeats 4000000 in
set_option maxRecDepth 100000 in
theorem c_Model_thrown (l : Launch) (dC : Nat → ClassId) (dI : Nat → Nat → Nat) (cI cL cZ : ClassId) (mo : Nat) (mo_thrown : Int32) (mo_sourcea : Nat) (mo_source : Nat → Int32) (mo_size : Int32) (mo_faultLine : Int32) (mo_fault : Int32) (mo_topics : Int32) (mo_namesa : Nat) (mo_names : Nat → Int32) (mo_bodiesa : Nat) (mo_bodies : Nat → Int32) (mo_lengthsa : Nat) (mo_lengths : Nat → Int32) (mo_headingsa : Nat) (mo_headings : Nat → Int32) (mo_keywords : Int32) (mo_keyLettersa : Nat) (mo_keyLetters : Nat → Int32) (mo_keyLengthsa : Nat) (mo_keyLengths : Nat → Int32) (mo_keyBitsa : Nat) (mo_keyBits : Nat → Int32) (mo_words : Int32) (mo_wordLettersa : Nat) (mo_wordLetters : Nat → Int32) (mo_wordLengthsa : Nat) (mo_wordLengths : Nat → Int32) (mo_wordBitsa : Nat) (mo_wordBits : Nat → Int32) (mo_links : Int32) (mo_linkAta : Nat) (mo_linkAt : Nat → Int32) (mo_linkLengtha : Nat) (mo_linkLength : Nat → Int32) (mo_linkLinea : Nat) (mo_linkLine : Nat → Int32) (mo_linkToa : Nat) (mo_linkTo : Nat → Int32) (mo_inParagraph : Bool) (mo_emphasis : Bool) (mo_blank : Bool) (mo_lastLine : Int32) (mo_imageSize : Int32) (mo_imagea : Nat) (mo_image : Nat → Int32) (mo_compares : Bool) (mo_unlike : Bool) (mo_out : Int32) (mo_total : Int32) (mo_literal : Int32) (mo_handLength : Int32) (mo_handa : Nat) (mo_hand : Nat → Int32) (mo_isOpen : Bool) (mo_seenTopics : Int32) (mo_seenNamesa : Nat) (mo_seenNames : Nat → Int32) (mo_seenBodiesa : Nat) (mo_seenBodies : Nat → Int32) (mo_seenLengthsa : Nat) (mo_seenLengths : Nat → Int32) (mo_seenKeywords : Int32) (mo_seenKeyLettersa : Nat) (mo_seenKeyLetters : Nat → Int32) (mo_seenKeyLengthsa : Nat) (mo_seenKeyLengths : Nat → Int32) (mo_seenKeyBitsa : Nat) (mo_seenKeyBits : Nat → Int32) (mo_seenWords : Int32) (mo_seenWordLettersa : Nat) (mo_seenWordLetters : Nat → Int32) (mo_seenWordLengthsa : Nat) (mo_seenWordLengths : Nat → Int32) (mo_seenWordBitsa : Nat) (mo_seenWordBits : Nat → Int32) (mo_topic : Int32) (mo_backs : Int32) (mo_backa : Nat) (mo_back : Nat → Int32) (mo_forwards : Int32) (mo_forwarda : Nat) (mo_forward : Nat → Int32) (mo_typed : Int32) (mo_querya : Nat) (mo_query : Nat → Int32) (mo_visits : Int32) (mo_valuesa : Nat) (mo_values : Nat → Int32) (mo_valued : Int32) (mo_signsa : Nat) (mo_signs : Nat → Int32) (mo_signed : Int32) (mo_width : Int32) (mo_lines : Int32) (mo_lineFroma : Nat) (mo_lineFrom : Nat → Int32) (mo_lineSizea : Nat) (mo_lineSize : Nat → Int32) (mo_shown : Int32) (mo_texta : Nat) (mo_text : Nat → Int32) (mo_partLength : Int32) (mo_parta : Nat) (mo_part : Nat → Int32) (res : Int32) (hd : D_Model_thrown mo_thrown res) : CtrR l y_Model_thrown (Cond.code y_Model_thrown b_Model_thrown 1 (some .int) :: ga) { frames := 0, cells := 0, slots := 0, locals := 0 } (dC, dI) classes (Tys cI cL cZ) [.ref mo] ((sh_Model cI cL cZ mo mo_thrown mo_sourcea mo_source mo_size mo_faultLine mo_fault mo_topics mo_namesa mo_names mo_bodiesa mo_bodies mo_lengthsa mo_lengths mo_headingsa mo_headings mo_keywords mo_keyLettersa mo_keyLetters mo_keyLengthsa mo_keyLengths mo_keyBitsa mo_keyBits mo_words mo_wordLettersa mo_wordLetters mo_wordLengthsa mo_wordLengths mo_wordBitsa mo_wordBits mo_links mo_linkAta mo_linkAt mo_linkLengtha mo_linkLength mo_linkLinea mo_linkLine mo_linkToa mo_linkTo mo_inParagraph mo_emphasis mo_blank mo_lastLine mo_imageSize mo_imagea mo_image mo_compares mo_unlike mo_out mo_total mo_literal mo_handLength mo_handa mo_hand mo_isOpen mo_seenTopics mo_seenNamesa mo_seenNames mo_seenBodiesa mo_seenBodies mo_seenLengthsa mo_seenLengths mo_seenKeywords mo_seenKeyLettersa mo_seenKeyLetters mo_seenKeyLengthsa mo_seenKeyLengths mo_seenKeyBitsa mo_seenKeyBits mo_seenWords mo_seenWordLettersa mo_seenWordLetters mo_seenWordLengthsa mo_seenWordLengths mo_seenWordBitsa mo_seenWordBits mo_topic mo_backs mo_backa mo_back mo_forwards mo_forwarda mo_forward mo_typed mo_querya mo_query mo_visits mo_valuesa mo_values mo_valued mo_signsa mo_signs mo_signed mo_width mo_lines mo_lineFroma mo_lineFrom mo_lineSizea mo_lineSize mo_shown mo_texta mo_text mo_partLength mo_parta mo_part)) (some (.int res)) := by
  refine CtrR.ofW (by decide) (Nat.le_of_ble_eq_true rfl) ?_
  intro p e s m below meth c ls hx hb hr hml hown hlocks hts hK hN hP hD hl
  have hown : s.vm.findClass R_Model = some m.cls := hown
  have hl : lv_has ls 1 [(0, .ref mo)] := hl
  refine lv_aload_n hx hb d_Model_thrown_0 rfl (lv_at hl 0 rfl) ?_
  refine va_get (D := (dC, dI)) (ci := 9) (v := .int mo_thrown) (C := R_Model) (T := F_Model) (N := 69) hx hb hts in_Model hown hK hP 0 rfl rfl 0 (by decide) (hts _ (List.mem_cons_of_mem _ k478_fieldLink)) (fun _ h9 => h9) rfl d_Model_thrown_1 ?_
  have e0 : res = mo_thrown := hd
  subst e0
  exact ct_iretR hx hb hr hlocks d_Model_thrown_4
-- Model.refuse
abbrev b_Model_refuse : ByteArray := prog_14_method_3_code
def y_Model_refuse : MethodName := ⟨"HelpFileModel", "refuse", "(ZZ)Z"⟩
set_option maxRecDepth 100000 in
theorem fm_Model_refuse : Fm y_Model_refuse b_Model_refuse 3 (some .boolean) 2 := ⟨ga_t 1258 rfl rfl, k479_initialized, by decide, by decide, by decide +kernel⟩
def B_Model_refuse_21 (res : Bool) (mo_thrown' : Int32) (X : Int32 → Prop) (mo_thrown : Int32) : Prop := ((mo_thrown ≤ 0 → (res = false ∧ mo_thrown' = mo_thrown)) ∧ (¬ (mo_thrown ≤ 0) → (res = true ∧ mo_thrown' = mo_thrown)))
def S_Model_refuse (res : Bool) (mo_thrown' : Int32) (X : Int32 → Prop) : Int32 → Prop := fun mo_thrown => B_Model_refuse_21 res mo_thrown' X mo_thrown
def T_Model_refuse (res : Bool) (mo_thrown' : Int32) : Nat → (Int32 → Prop)
  | 0 => fun _ => False
  | n + 1 => S_Model_refuse res mo_thrown' (T_Model_refuse res mo_thrown' n)
def D_Model_refuse (p0 : Bool) (p1 : Bool) (mo_thrown : Int32) (res : Bool) (mo_thrown' : Int32) : Prop := ∃ n : Nat, (((bI p0) = 0 → (((bI p1) = 0 → T_Model_refuse res mo_thrown' n 0) ∧ (¬ ((bI p1) = 0) → T_Model_refuse res mo_thrown' n 2))) ∧ (¬ ((bI p0) = 0) → T_Model_refuse res mo_thrown' n 1))
theorem d_Model_refuse_0 : decode b_Model_refuse 0 = .ok (.aload_n 0, 1) := by decide +kernel
theorem d_Model_refuse_1 : decode b_Model_refuse 1 = .ok (.iload_n 1, 1) := by decide +kernel
theorem d_Model_refuse_2 : decode b_Model_refuse 2 = .ok (.ifCond .eq 7, 3) := by decide +kernel
theorem d_Model_refuse_5 : decode b_Model_refuse 5 = .ok (.iconst 1, 1) := by decide +kernel
theorem d_Model_refuse_6 : decode b_Model_refuse 6 = .ok (.goto 12, 3) := by decide +kernel
theorem d_Model_refuse_9 : decode b_Model_refuse 9 = .ok (.iload_n 2, 1) := by decide +kernel
theorem d_Model_refuse_10 : decode b_Model_refuse 10 = .ok (.ifCond .eq 7, 3) := by decide +kernel
theorem d_Model_refuse_13 : decode b_Model_refuse 13 = .ok (.iconst 2, 1) := by decide +kernel
theorem d_Model_refuse_14 : decode b_Model_refuse 14 = .ok (.goto 4, 3) := by decide +kernel
theorem d_Model_refuse_17 : decode b_Model_refuse 17 = .ok (.iconst 0, 1) := by decide +kernel
theorem d_Model_refuse_18 : decode b_Model_refuse 18 = .ok (.putfield 122, 3) := by decide +kernel
theorem d_Model_refuse_21 : decode b_Model_refuse 21 = .ok (.aload_n 0, 1) := by decide +kernel
theorem d_Model_refuse_22 : decode b_Model_refuse 22 = .ok (.getfield 122, 3) := by decide +kernel
theorem d_Model_refuse_25 : decode b_Model_refuse 25 = .ok (.ifCond .le 7, 3) := by decide +kernel
theorem d_Model_refuse_28 : decode b_Model_refuse 28 = .ok (.iconst 1, 1) := by decide +kernel
theorem d_Model_refuse_29 : decode b_Model_refuse 29 = .ok (.goto 4, 3) := by decide +kernel
theorem d_Model_refuse_32 : decode b_Model_refuse 32 = .ok (.iconst 0, 1) := by decide +kernel
theorem d_Model_refuse_33 : decode b_Model_refuse 33 = .ok (.ireturn, 1) := by decide +kernel
set_option maxHeartbeats 4000000 in
set_option maxRecDepth 100000 in
theorem c_Model_refuse (l : Launch) (dC : Nat → ClassId) (dI : Nat → Nat → Nat) (cI cL cZ : ClassId) (mo : Nat) (mo_thrown : Int32) (mo_sourcea : Nat) (mo_source : Nat → Int32) (mo_size : Int32) (mo_faultLine : Int32) (mo_fault : Int32) (mo_topics : Int32) (mo_namesa : Nat) (mo_names : Nat → Int32) (mo_bodiesa : Nat) (mo_bodies : Nat → Int32) (mo_lengthsa : Nat) (mo_lengths : Nat → Int32) (mo_headingsa : Nat) (mo_headings : Nat → Int32) (mo_keywords : Int32) (mo_keyLettersa : Nat) (mo_keyLetters : Nat → Int32) (mo_keyLengthsa : Nat) (mo_keyLengths : Nat → Int32) (mo_keyBitsa : Nat) (mo_keyBits : Nat → Int32) (mo_words : Int32) (mo_wordLettersa : Nat) (mo_wordLetters : Nat → Int32) (mo_wordLengthsa : Nat) (mo_wordLengths : Nat → Int32) (mo_wordBitsa : Nat) (mo_wordBits : Nat → Int32) (mo_links : Int32) (mo_linkAta : Nat) (mo_linkAt : Nat → Int32) (mo_linkLengtha : Nat) (mo_linkLength : Nat → Int32) (mo_linkLinea : Nat) (mo_linkLine : Nat → Int32) (mo_linkToa : Nat) (mo_linkTo : Nat → Int32) (mo_inParagraph : Bool) (mo_emphasis : Bool) (mo_blank : Bool) (mo_lastLine : Int32) (mo_imageSize : Int32) (mo_imagea : Nat) (mo_image : Nat → Int32) (mo_compares : Bool) (mo_unlike : Bool) (mo_out : Int32) (mo_total : Int32) (mo_literal : Int32) (mo_handLength : Int32) (mo_handa : Nat) (mo_hand : Nat → Int32) (mo_isOpen : Bool) (mo_seenTopics : Int32) (mo_seenNamesa : Nat) (mo_seenNames : Nat → Int32) (mo_seenBodiesa : Nat) (mo_seenBodies : Nat → Int32) (mo_seenLengthsa : Nat) (mo_seenLengths : Nat → Int32) (mo_seenKeywords : Int32) (mo_seenKeyLettersa : Nat) (mo_seenKeyLetters : Nat → Int32) (mo_seenKeyLengthsa : Nat) (mo_seenKeyLengths : Nat → Int32) (mo_seenKeyBitsa : Nat) (mo_seenKeyBits : Nat → Int32) (mo_seenWords : Int32) (mo_seenWordLettersa : Nat) (mo_seenWordLetters : Nat → Int32) (mo_seenWordLengthsa : Nat) (mo_seenWordLengths : Nat → Int32) (mo_seenWordBitsa : Nat) (mo_seenWordBits : Nat → Int32) (mo_topic : Int32) (mo_backs : Int32) (mo_backa : Nat) (mo_back : Nat → Int32) (mo_forwards : Int32) (mo_forwarda : Nat) (mo_forward : Nat → Int32) (mo_typed : Int32) (mo_querya : Nat) (mo_query : Nat → Int32) (mo_visits : Int32) (mo_valuesa : Nat) (mo_values : Nat → Int32) (mo_valued : Int32) (mo_signsa : Nat) (mo_signs : Nat → Int32) (mo_signed : Int32) (mo_width : Int32) (mo_lines : Int32) (mo_lineFroma : Nat) (mo_lineFrom : Nat → Int32) (mo_lineSizea : Nat) (mo_lineSize : Nat → Int32) (mo_shown : Int32) (mo_texta : Nat) (mo_text : Nat → Int32) (mo_partLength : Int32) (mo_parta : Nat) (mo_part : Nat → Int32) (p0 : Bool) (p1 : Bool) (res : Bool) (mo_thrown' : Int32) (hd : D_Model_refuse p0 p1 mo_thrown res mo_thrown') : Ctr l y_Model_refuse (Cond.code y_Model_refuse b_Model_refuse 3 (some .boolean) :: ga) { frames := 0, cells := 0, slots := 0, locals := 0 } (dC, dI) classes (Tys cI cL cZ) [.ref mo, .int (bI p0), .int (bI p1)] ((sh_Model cI cL cZ mo mo_thrown mo_sourcea mo_source mo_size mo_faultLine mo_fault mo_topics mo_namesa mo_names mo_bodiesa mo_bodies mo_lengthsa mo_lengths mo_headingsa mo_headings mo_keywords mo_keyLettersa mo_keyLetters mo_keyLengthsa mo_keyLengths mo_keyBitsa mo_keyBits mo_words mo_wordLettersa mo_wordLetters mo_wordLengthsa mo_wordLengths mo_wordBitsa mo_wordBits mo_links mo_linkAta mo_linkAt mo_linkLengtha mo_linkLength mo_linkLinea mo_linkLine mo_linkToa mo_linkTo mo_inParagraph mo_emphasis mo_blank mo_lastLine mo_imageSize mo_imagea mo_image mo_compares mo_unlike mo_out mo_total mo_literal mo_handLength mo_handa mo_hand mo_isOpen mo_seenTopics mo_seenNamesa mo_seenNames mo_seenBodiesa mo_seenBodies mo_seenLengthsa mo_seenLengths mo_seenKeywords mo_seenKeyLettersa mo_seenKeyLetters mo_seenKeyLengthsa mo_seenKeyLengths mo_seenKeyBitsa mo_seenKeyBits mo_seenWords mo_seenWordLettersa mo_seenWordLetters mo_seenWordLengthsa mo_seenWordLengths mo_seenWordBitsa mo_seenWordBits mo_topic mo_backs mo_backa mo_back mo_forwards mo_forwarda mo_forward mo_typed mo_querya mo_query mo_visits mo_valuesa mo_values mo_valued mo_signsa mo_signs mo_signed mo_width mo_lines mo_lineFroma mo_lineFrom mo_lineSizea mo_lineSize mo_shown mo_texta mo_text mo_partLength mo_parta mo_part)) (some (.int (bI res))) ((sh_Model cI cL cZ mo mo_thrown' mo_sourcea mo_source mo_size mo_faultLine mo_fault mo_topics mo_namesa mo_names mo_bodiesa mo_bodies mo_lengthsa mo_lengths mo_headingsa mo_headings mo_keywords mo_keyLettersa mo_keyLetters mo_keyLengthsa mo_keyLengths mo_keyBitsa mo_keyBits mo_words mo_wordLettersa mo_wordLetters mo_wordLengthsa mo_wordLengths mo_wordBitsa mo_wordBits mo_links mo_linkAta mo_linkAt mo_linkLengtha mo_linkLength mo_linkLinea mo_linkLine mo_linkToa mo_linkTo mo_inParagraph mo_emphasis mo_blank mo_lastLine mo_imageSize mo_imagea mo_image mo_compares mo_unlike mo_out mo_total mo_literal mo_handLength mo_handa mo_hand mo_isOpen mo_seenTopics mo_seenNamesa mo_seenNames mo_seenBodiesa mo_seenBodies mo_seenLengthsa mo_seenLengths mo_seenKeywords mo_seenKeyLettersa mo_seenKeyLetters mo_seenKeyLengthsa mo_seenKeyLengths mo_seenKeyBitsa mo_seenKeyBits mo_seenWords mo_seenWordLettersa mo_seenWordLetters mo_seenWordLengthsa mo_seenWordLengths mo_seenWordBitsa mo_seenWordBits mo_topic mo_backs mo_backa mo_back mo_forwards mo_forwarda mo_forward mo_typed mo_querya mo_query mo_visits mo_valuesa mo_values mo_valued mo_signsa mo_signs mo_signed mo_width mo_lines mo_lineFroma mo_lineFrom mo_lineSizea mo_lineSize mo_shown mo_texta mo_text mo_partLength mo_parta mo_part)) := by
  refine Ctr.ofW (by decide) (Nat.le_of_ble_eq_true rfl) ?_
  intro p e s m below meth c A ls hx hb hr hml hown hlocks hts hK hN hA hP hD hS hl
  have hown : s.vm.findClass R_Model = some m.cls := hown
  have hl : lv_has ls 3 [(0, .ref mo), (1, .int (bI p0)), (2, .int (bI p1))] := hl
  have key : ∀ n : Nat, (∀ (mo_thrown : Int32) (ls : Array Slot) (H : Heap) (locs : List Loc), lv_has ls 3 [(0, .ref mo)] → va_P (dC, dI) classes ((sh_Model cI cL cZ mo mo_thrown mo_sourcea mo_source mo_size mo_faultLine mo_fault mo_topics mo_namesa mo_names mo_bodiesa mo_bodies mo_lengthsa mo_lengths mo_headingsa mo_headings mo_keywords mo_keyLettersa mo_keyLetters mo_keyLengthsa mo_keyLengths mo_keyBitsa mo_keyBits mo_words mo_wordLettersa mo_wordLetters mo_wordLengthsa mo_wordLengths mo_wordBitsa mo_wordBits mo_links mo_linkAta mo_linkAt mo_linkLengtha mo_linkLength mo_linkLinea mo_linkLine mo_linkToa mo_linkTo mo_inParagraph mo_emphasis mo_blank mo_lastLine mo_imageSize mo_imagea mo_image mo_compares mo_unlike mo_out mo_total mo_literal mo_handLength mo_handa mo_hand mo_isOpen mo_seenTopics mo_seenNamesa mo_seenNames mo_seenBodiesa mo_seenBodies mo_seenLengthsa mo_seenLengths mo_seenKeywords mo_seenKeyLettersa mo_seenKeyLetters mo_seenKeyLengthsa mo_seenKeyLengths mo_seenKeyBitsa mo_seenKeyBits mo_seenWords mo_seenWordLettersa mo_seenWordLetters mo_seenWordLengthsa mo_seenWordLengths mo_seenWordBitsa mo_seenWordBits mo_topic mo_backs mo_backa mo_back mo_forwards mo_forwarda mo_forward mo_typed mo_querya mo_query mo_visits mo_valuesa mo_values mo_valued mo_signsa mo_signs mo_signed mo_width mo_lines mo_lineFroma mo_lineFrom mo_lineSizea mo_lineSize mo_shown mo_texta mo_text mo_partLength mo_parta mo_part)) H → va_D A ((sh_Model cI cL cZ mo mo_thrown mo_sourcea mo_source mo_size mo_faultLine mo_fault mo_topics mo_namesa mo_names mo_bodiesa mo_bodies mo_lengthsa mo_lengths mo_headingsa mo_headings mo_keywords mo_keyLettersa mo_keyLetters mo_keyLengthsa mo_keyLengths mo_keyBitsa mo_keyBits mo_words mo_wordLettersa mo_wordLetters mo_wordLengthsa mo_wordLengths mo_wordBitsa mo_wordBits mo_links mo_linkAta mo_linkAt mo_linkLengtha mo_linkLength mo_linkLinea mo_linkLine mo_linkToa mo_linkTo mo_inParagraph mo_emphasis mo_blank mo_lastLine mo_imageSize mo_imagea mo_image mo_compares mo_unlike mo_out mo_total mo_literal mo_handLength mo_handa mo_hand mo_isOpen mo_seenTopics mo_seenNamesa mo_seenNames mo_seenBodiesa mo_seenBodies mo_seenLengthsa mo_seenLengths mo_seenKeywords mo_seenKeyLettersa mo_seenKeyLetters mo_seenKeyLengthsa mo_seenKeyLengths mo_seenKeyBitsa mo_seenKeyBits mo_seenWords mo_seenWordLettersa mo_seenWordLetters mo_seenWordLengthsa mo_seenWordLengths mo_seenWordBitsa mo_seenWordBits mo_topic mo_backs mo_backa mo_back mo_forwards mo_forwarda mo_forward mo_typed mo_querya mo_query mo_visits mo_valuesa mo_values mo_valued mo_signsa mo_signs mo_signed mo_width mo_lines mo_lineFroma mo_lineFrom mo_lineSizea mo_lineSize mo_shown mo_texta mo_text mo_partLength mo_parta mo_part)) → va_S A s.heap H locs → T_Model_refuse res mo_thrown' n mo_thrown → W p l e ({ frames := 0, cells := 0, slots := 0, locals := 0 }) s m ([.ref mo, .int (bI p0), .int (bI p1)] : List Value).toArray below meth c H locs 0 0 (MQ below (Qs (dC, dI) classes (Tys cI cL cZ) (some (.int (bI res))) ((sh_Model cI cL cZ mo mo_thrown' mo_sourcea mo_source mo_size mo_faultLine mo_fault mo_topics mo_namesa mo_names mo_bodiesa mo_bodies mo_lengthsa mo_lengths mo_headingsa mo_headings mo_keywords mo_keyLettersa mo_keyLetters mo_keyLengthsa mo_keyLengths mo_keyBitsa mo_keyBits mo_words mo_wordLettersa mo_wordLetters mo_wordLengthsa mo_wordLengths mo_wordBitsa mo_wordBits mo_links mo_linkAta mo_linkAt mo_linkLengtha mo_linkLength mo_linkLinea mo_linkLine mo_linkToa mo_linkTo mo_inParagraph mo_emphasis mo_blank mo_lastLine mo_imageSize mo_imagea mo_image mo_compares mo_unlike mo_out mo_total mo_literal mo_handLength mo_handa mo_hand mo_isOpen mo_seenTopics mo_seenNamesa mo_seenNames mo_seenBodiesa mo_seenBodies mo_seenLengthsa mo_seenLengths mo_seenKeywords mo_seenKeyLettersa mo_seenKeyLetters mo_seenKeyLengthsa mo_seenKeyLengths mo_seenKeyBitsa mo_seenKeyBits mo_seenWords mo_seenWordLettersa mo_seenWordLetters mo_seenWordLengthsa mo_seenWordLengths mo_seenWordBitsa mo_seenWordBits mo_topic mo_backs mo_backa mo_back mo_forwards mo_forwarda mo_forward mo_typed mo_querya mo_query mo_visits mo_valuesa mo_values mo_valued mo_signsa mo_signs mo_signed mo_width mo_lines mo_lineFroma mo_lineFrom mo_lineSizea mo_lineSize mo_shown mo_texta mo_text mo_partLength mo_parta mo_part)) A) ([.ref mo, .int (bI p0), .int (bI p1)] : List Value).toArray s 0 0 A) (F0 m 21 ls [])) := by
    intro n
    induction n with
    | zero =>
      exact fun _ _ _ _ _ _ _ _ hd => False.elim hd
    | succ n ih =>
      · intro mo_thrown ls H locs hl hP hD hS hd
        have hd : B_Model_refuse_21 res mo_thrown' (T_Model_refuse res mo_thrown' n) mo_thrown := hd
        refine lv_aload_n hx hb d_Model_refuse_21 rfl (lv_at hl 0 rfl) ?_
        refine va_get (D := (dC, dI)) (ci := 9) (v := .int mo_thrown) (C := R_Model) (T := F_Model) (N := 69) hx hb hts in_Model hown hK hP 0 rfl rfl 0 (by decide) (hts _ (List.mem_cons_of_mem _ k478_fieldLink)) (fun _ h9 => h9) rfl d_Model_refuse_22 ?_
        refine lv_if_le (tgt := 32) hx hb d_Model_refuse_25 (by decide) (fun h25 => ?_) (fun h25 => ?_)
        · have hd := hd.1 h25
          refine lv_iconst (v := 0) hx hb d_Model_refuse_32 (by decide) ?_
          obtain ⟨e0, e1⟩ := hd
          subst e0
          subst e1
          exact ct_zret (b := false) hx hb hr hlocks hK hP hD hS d_Model_refuse_33
        · have hd := hd.2 h25
          refine lv_iconst (v := 1) hx hb d_Model_refuse_28 (by decide) ?_
          refine lv_goto (tgt := 33) hx hb d_Model_refuse_29 (by decide) ?_
          obtain ⟨e0, e1⟩ := hd
          subst e0
          subst e1
          exact ct_zret (b := true) hx hb hr hlocks hK hP hD hS d_Model_refuse_33
  obtain ⟨n, hd⟩ := hd
  refine lv_aload_n hx hb d_Model_refuse_0 rfl (lv_at hl 0 rfl) ?_
  refine lv_iload_n hx hb d_Model_refuse_1 rfl (lv_at hl 1 rfl) ?_
  refine lv_if_eq (tgt := 9) hx hb d_Model_refuse_2 (by decide) (fun h2 => ?_) (fun h2 => ?_)
  · have hd := hd.1 h2
    refine lv_iload_n hx hb d_Model_refuse_9 rfl (lv_at hl 2 rfl) ?_
    refine lv_if_eq (tgt := 17) hx hb d_Model_refuse_10 (by decide) (fun h10 => ?_) (fun h10 => ?_)
    · have hd := hd.1 h10
      refine lv_iconst (v := 0) hx hb d_Model_refuse_17 (by decide) ?_
      refine va_put (D := (dC, dI)) (ci := 9) (v := .int 0) (ty := t_Model 0) (C := R_Model) (T := F_Model) (N := 69) hx hb hts in_Model t_Model t_Model_ok n_Model hown hK hP hD hS 0 rfl rfl 0 (by decide) (hts _ (List.mem_cons_of_mem _ k478_fieldLink)) (fun _ h9 => h9) rfl (t_Model_ok 0 (by decide)) rfl rfl (Nat.le_of_ble_eq_true rfl) d_Model_refuse_18 (fun H locs hP hD hS => ?_)
      have hP : va_P (dC, dI) classes ((sh_Model cI cL cZ mo 0 mo_sourcea mo_source mo_size mo_faultLine mo_fault mo_topics mo_namesa mo_names mo_bodiesa mo_bodies mo_lengthsa mo_lengths mo_headingsa mo_headings mo_keywords mo_keyLettersa mo_keyLetters mo_keyLengthsa mo_keyLengths mo_keyBitsa mo_keyBits mo_words mo_wordLettersa mo_wordLetters mo_wordLengthsa mo_wordLengths mo_wordBitsa mo_wordBits mo_links mo_linkAta mo_linkAt mo_linkLengtha mo_linkLength mo_linkLinea mo_linkLine mo_linkToa mo_linkTo mo_inParagraph mo_emphasis mo_blank mo_lastLine mo_imageSize mo_imagea mo_image mo_compares mo_unlike mo_out mo_total mo_literal mo_handLength mo_handa mo_hand mo_isOpen mo_seenTopics mo_seenNamesa mo_seenNames mo_seenBodiesa mo_seenBodies mo_seenLengthsa mo_seenLengths mo_seenKeywords mo_seenKeyLettersa mo_seenKeyLetters mo_seenKeyLengthsa mo_seenKeyLengths mo_seenKeyBitsa mo_seenKeyBits mo_seenWords mo_seenWordLettersa mo_seenWordLetters mo_seenWordLengthsa mo_seenWordLengths mo_seenWordBitsa mo_seenWordBits mo_topic mo_backs mo_backa mo_back mo_forwards mo_forwarda mo_forward mo_typed mo_querya mo_query mo_visits mo_valuesa mo_values mo_valued mo_signsa mo_signs mo_signed mo_width mo_lines mo_lineFroma mo_lineFrom mo_lineSizea mo_lineSize mo_shown mo_texta mo_text mo_partLength mo_parta mo_part)) H := hP
      have hD : va_D A ((sh_Model cI cL cZ mo 0 mo_sourcea mo_source mo_size mo_faultLine mo_fault mo_topics mo_namesa mo_names mo_bodiesa mo_bodies mo_lengthsa mo_lengths mo_headingsa mo_headings mo_keywords mo_keyLettersa mo_keyLetters mo_keyLengthsa mo_keyLengths mo_keyBitsa mo_keyBits mo_words mo_wordLettersa mo_wordLetters mo_wordLengthsa mo_wordLengths mo_wordBitsa mo_wordBits mo_links mo_linkAta mo_linkAt mo_linkLengtha mo_linkLength mo_linkLinea mo_linkLine mo_linkToa mo_linkTo mo_inParagraph mo_emphasis mo_blank mo_lastLine mo_imageSize mo_imagea mo_image mo_compares mo_unlike mo_out mo_total mo_literal mo_handLength mo_handa mo_hand mo_isOpen mo_seenTopics mo_seenNamesa mo_seenNames mo_seenBodiesa mo_seenBodies mo_seenLengthsa mo_seenLengths mo_seenKeywords mo_seenKeyLettersa mo_seenKeyLetters mo_seenKeyLengthsa mo_seenKeyLengths mo_seenKeyBitsa mo_seenKeyBits mo_seenWords mo_seenWordLettersa mo_seenWordLetters mo_seenWordLengthsa mo_seenWordLengths mo_seenWordBitsa mo_seenWordBits mo_topic mo_backs mo_backa mo_back mo_forwards mo_forwarda mo_forward mo_typed mo_querya mo_query mo_visits mo_valuesa mo_values mo_valued mo_signsa mo_signs mo_signed mo_width mo_lines mo_lineFroma mo_lineFrom mo_lineSizea mo_lineSize mo_shown mo_texta mo_text mo_partLength mo_parta mo_part)) := hD
      exact (key n) 0 _ _ _ (lv_sub hl [0] rfl) hP hD hS hd
    · have hd := hd.2 h10
      refine lv_iconst (v := 2) hx hb d_Model_refuse_13 (by decide) ?_
      refine lv_goto (tgt := 18) hx hb d_Model_refuse_14 (by decide) ?_
      refine va_put (D := (dC, dI)) (ci := 9) (v := .int 2) (ty := t_Model 0) (C := R_Model) (T := F_Model) (N := 69) hx hb hts in_Model t_Model t_Model_ok n_Model hown hK hP hD hS 0 rfl rfl 0 (by decide) (hts _ (List.mem_cons_of_mem _ k478_fieldLink)) (fun _ h9 => h9) rfl (t_Model_ok 0 (by decide)) rfl rfl (Nat.le_of_ble_eq_true rfl) d_Model_refuse_18 (fun H locs hP hD hS => ?_)
      have hP : va_P (dC, dI) classes ((sh_Model cI cL cZ mo 2 mo_sourcea mo_source mo_size mo_faultLine mo_fault mo_topics mo_namesa mo_names mo_bodiesa mo_bodies mo_lengthsa mo_lengths mo_headingsa mo_headings mo_keywords mo_keyLettersa mo_keyLetters mo_keyLengthsa mo_keyLengths mo_keyBitsa mo_keyBits mo_words mo_wordLettersa mo_wordLetters mo_wordLengthsa mo_wordLengths mo_wordBitsa mo_wordBits mo_links mo_linkAta mo_linkAt mo_linkLengtha mo_linkLength mo_linkLinea mo_linkLine mo_linkToa mo_linkTo mo_inParagraph mo_emphasis mo_blank mo_lastLine mo_imageSize mo_imagea mo_image mo_compares mo_unlike mo_out mo_total mo_literal mo_handLength mo_handa mo_hand mo_isOpen mo_seenTopics mo_seenNamesa mo_seenNames mo_seenBodiesa mo_seenBodies mo_seenLengthsa mo_seenLengths mo_seenKeywords mo_seenKeyLettersa mo_seenKeyLetters mo_seenKeyLengthsa mo_seenKeyLengths mo_seenKeyBitsa mo_seenKeyBits mo_seenWords mo_seenWordLettersa mo_seenWordLetters mo_seenWordLengthsa mo_seenWordLengths mo_seenWordBitsa mo_seenWordBits mo_topic mo_backs mo_backa mo_back mo_forwards mo_forwarda mo_forward mo_typed mo_querya mo_query mo_visits mo_valuesa mo_values mo_valued mo_signsa mo_signs mo_signed mo_width mo_lines mo_lineFroma mo_lineFrom mo_lineSizea mo_lineSize mo_shown mo_texta mo_text mo_partLength mo_parta mo_part)) H := hP
      have hD : va_D A ((sh_Model cI cL cZ mo 2 mo_sourcea mo_source mo_size mo_faultLine mo_fault mo_topics mo_namesa mo_names mo_bodiesa mo_bodies mo_lengthsa mo_lengths mo_headingsa mo_headings mo_keywords mo_keyLettersa mo_keyLetters mo_keyLengthsa mo_keyLengths mo_keyBitsa mo_keyBits mo_words mo_wordLettersa mo_wordLetters mo_wordLengthsa mo_wordLengths mo_wordBitsa mo_wordBits mo_links mo_linkAta mo_linkAt mo_linkLengtha mo_linkLength mo_linkLinea mo_linkLine mo_linkToa mo_linkTo mo_inParagraph mo_emphasis mo_blank mo_lastLine mo_imageSize mo_imagea mo_image mo_compares mo_unlike mo_out mo_total mo_literal mo_handLength mo_handa mo_hand mo_isOpen mo_seenTopics mo_seenNamesa mo_seenNames mo_seenBodiesa mo_seenBodies mo_seenLengthsa mo_seenLengths mo_seenKeywords mo_seenKeyLettersa mo_seenKeyLetters mo_seenKeyLengthsa mo_seenKeyLengths mo_seenKeyBitsa mo_seenKeyBits mo_seenWords mo_seenWordLettersa mo_seenWordLetters mo_seenWordLengthsa mo_seenWordLengths mo_seenWordBitsa mo_seenWordBits mo_topic mo_backs mo_backa mo_back mo_forwards mo_forwarda mo_forward mo_typed mo_querya mo_query mo_visits mo_valuesa mo_values mo_valued mo_signsa mo_signs mo_signed mo_width mo_lines mo_lineFroma mo_lineFrom mo_lineSizea mo_lineSize mo_shown mo_texta mo_text mo_partLength mo_parta mo_part)) := hD
      exact (key n) 2 _ _ _ (lv_sub hl [0] rfl) hP hD hS hd
  · have hd := hd.2 h2
    refine lv_iconst (v := 1) hx hb d_Model_refuse_5 (by decide) ?_
    refine lv_goto (tgt := 18) hx hb d_Model_refuse_6 (by decide) ?_
    refine va_put (D := (dC, dI)) (ci := 9) (v := .int 1) (ty := t_Model 0) (C := R_Model) (T := F_Model) (N := 69) hx hb hts in_Model t_Model t_Model_ok n_Model hown hK hP hD hS 0 rfl rfl 0 (by decide) (hts _ (List.mem_cons_of_mem _ k478_fieldLink)) (fun _ h9 => h9) rfl (t_Model_ok 0 (by decide)) rfl rfl (Nat.le_of_ble_eq_true rfl) d_Model_refuse_18 (fun H locs hP hD hS => ?_)
    have hP : va_P (dC, dI) classes ((sh_Model cI cL cZ mo 1 mo_sourcea mo_source mo_size mo_faultLine mo_fault mo_topics mo_namesa mo_names mo_bodiesa mo_bodies mo_lengthsa mo_lengths mo_headingsa mo_headings mo_keywords mo_keyLettersa mo_keyLetters mo_keyLengthsa mo_keyLengths mo_keyBitsa mo_keyBits mo_words mo_wordLettersa mo_wordLetters mo_wordLengthsa mo_wordLengths mo_wordBitsa mo_wordBits mo_links mo_linkAta mo_linkAt mo_linkLengtha mo_linkLength mo_linkLinea mo_linkLine mo_linkToa mo_linkTo mo_inParagraph mo_emphasis mo_blank mo_lastLine mo_imageSize mo_imagea mo_image mo_compares mo_unlike mo_out mo_total mo_literal mo_handLength mo_handa mo_hand mo_isOpen mo_seenTopics mo_seenNamesa mo_seenNames mo_seenBodiesa mo_seenBodies mo_seenLengthsa mo_seenLengths mo_seenKeywords mo_seenKeyLettersa mo_seenKeyLetters mo_seenKeyLengthsa mo_seenKeyLengths mo_seenKeyBitsa mo_seenKeyBits mo_seenWords mo_seenWordLettersa mo_seenWordLetters mo_seenWordLengthsa mo_seenWordLengths mo_seenWordBitsa mo_seenWordBits mo_topic mo_backs mo_backa mo_back mo_forwards mo_forwarda mo_forward mo_typed mo_querya mo_query mo_visits mo_valuesa mo_values mo_valued mo_signsa mo_signs mo_signed mo_width mo_lines mo_lineFroma mo_lineFrom mo_lineSizea mo_lineSize mo_shown mo_texta mo_text mo_partLength mo_parta mo_part)) H := hP
    have hD : va_D A ((sh_Model cI cL cZ mo 1 mo_sourcea mo_source mo_size mo_faultLine mo_fault mo_topics mo_namesa mo_names mo_bodiesa mo_bodies mo_lengthsa mo_lengths mo_headingsa mo_headings mo_keywords mo_keyLettersa mo_keyLetters mo_keyLengthsa mo_keyLengths mo_keyBitsa mo_keyBits mo_words mo_wordLettersa mo_wordLetters mo_wordLengthsa mo_wordLengths mo_wordBitsa mo_wordBits mo_links mo_linkAta mo_linkAt mo_linkLengtha mo_linkLength mo_linkLinea mo_linkLine mo_linkToa mo_linkTo mo_inParagraph mo_emphasis mo_blank mo_lastLine mo_imageSize mo_imagea mo_image mo_compares mo_unlike mo_out mo_total mo_literal mo_handLength mo_handa mo_hand mo_isOpen mo_seenTopics mo_seenNamesa mo_seenNames mo_seenBodiesa mo_seenBodies mo_seenLengthsa mo_seenLengths mo_seenKeywords mo_seenKeyLettersa mo_seenKeyLetters mo_seenKeyLengthsa mo_seenKeyLengths mo_seenKeyBitsa mo_seenKeyBits mo_seenWords mo_seenWordLettersa mo_seenWordLetters mo_seenWordLengthsa mo_seenWordLengths mo_seenWordBitsa mo_seenWordBits mo_topic mo_backs mo_backa mo_back mo_forwards mo_forwarda mo_forward mo_typed mo_querya mo_query mo_visits mo_valuesa mo_values mo_valued mo_signsa mo_signs mo_signed mo_width mo_lines mo_lineFroma mo_lineFrom mo_lineSizea mo_lineSize mo_shown mo_texta mo_text mo_partLength mo_parta mo_part)) := hD
    exact (key n) 1 _ _ _ (lv_sub hl [0] rfl) hP hD hS hd
-- Model.in
abbrev b_Model_in : ByteArray := prog_14_method_4_code
def y_Model_in : MethodName := ⟨"HelpFileModel", "in", "(III)Z"⟩
set_option maxRecDepth 100000 in
theorem fm_Model_in : Fm y_Model_in b_Model_in 3 (some .boolean) 3 := ⟨ga_t 1254 rfl rfl, k479_initialized, by decide, by decide, by decide +kernel⟩
def D_Model_in (k0 : Int32) (k1 : Int32) (k2 : Int32) (res : Bool) : Prop := ((k0 < k1 → (res = false)) ∧ (¬ (k0 < k1) → ((k2 < k0 → (res = false)) ∧ (¬ (k2 < k0) → (res = true)))))
theorem d_Model_in_0 : decode b_Model_in 0 = .ok (.iload_n 0, 1) := by decide +kernel
theorem d_Model_in_1 : decode b_Model_in 1 = .ok (.iload_n 1, 1) := by decide +kernel
theorem d_Model_in_2 : decode b_Model_in 2 = .ok (.if_icmp .lt 12, 3) := by decide +kernel
theorem d_Model_in_5 : decode b_Model_in 5 = .ok (.iload_n 0, 1) := by decide +kernel
theorem d_Model_in_6 : decode b_Model_in 6 = .ok (.iload_n 2, 1) := by decide +kernel
theorem d_Model_in_7 : decode b_Model_in 7 = .ok (.if_icmp .gt 7, 3) := by decide +kernel
theorem d_Model_in_10 : decode b_Model_in 10 = .ok (.iconst 1, 1) := by decide +kernel
theorem d_Model_in_11 : decode b_Model_in 11 = .ok (.goto 4, 3) := by decide +kernel
theorem d_Model_in_14 : decode b_Model_in 14 = .ok (.iconst 0, 1) := by decide +kernel
theorem d_Model_in_15 : decode b_Model_in 15 = .ok (.ireturn, 1) := by decide +kernel
set_option maxHeartbeats 4000000 in
set_option maxRecDepth 100000 in
theorem c_Model_in (l : Launch) (dC : Nat → ClassId) (dI : Nat → Nat → Nat) (cI cL cZ : ClassId) (k0 : Int32) (k1 : Int32) (k2 : Int32) (res : Bool) (hd : D_Model_in k0 k1 k2 res) : CtrR l y_Model_in (Cond.code y_Model_in b_Model_in 3 (some .boolean) :: ga) { frames := 0, cells := 0, slots := 0, locals := 0 } (dC, dI) classes (Tys cI cL cZ) [.int k0, .int k1, .int k2] (([] : va_W)) (some (.int (bI res))) := by
  refine CtrR.ofW (by decide) (Nat.le_of_ble_eq_true rfl) ?_
  intro p e s m below meth c ls hx hb hr hml hown hlocks hts hK hN hP hD hl
  have hown : s.vm.findClass R_Model = some m.cls := hown
  have hl : lv_has ls 3 [(0, .int k0), (1, .int k1), (2, .int k2)] := hl
  refine lv_iload_n hx hb d_Model_in_0 rfl (lv_at hl 0 rfl) ?_
  refine lv_iload_n hx hb d_Model_in_1 rfl (lv_at hl 1 rfl) ?_
  refine lv_icmp_lt (tgt := 14) hx hb d_Model_in_2 (by decide) (fun h2 => ?_) (fun h2 => ?_)
  · have hd := hd.1 h2
    refine lv_iconst (v := 0) hx hb d_Model_in_14 (by decide) ?_
    have e0 : res = false := hd
    subst e0
    exact ct_zretR (b := false) hx hb hr hlocks d_Model_in_15
  · have hd := hd.2 h2
    refine lv_iload_n hx hb d_Model_in_5 rfl (lv_at hl 0 rfl) ?_
    refine lv_iload_n hx hb d_Model_in_6 rfl (lv_at hl 2 rfl) ?_
    refine lv_icmp_gt (tgt := 14) hx hb d_Model_in_7 (by decide) (fun h7 => ?_) (fun h7 => ?_)
    · have hd := hd.1 h7
      refine lv_iconst (v := 0) hx hb d_Model_in_14 (by decide) ?_
      have e0 : res = false := hd
      subst e0
      exact ct_zretR (b := false) hx hb hr hlocks d_Model_in_15
    · have hd := hd.2 h7
      refine lv_iconst (v := 1) hx hb d_Model_in_10 (by decide) ?_
      refine lv_goto (tgt := 15) hx hb d_Model_in_11 (by decide) ?_
      have e0 : res = true := hd
      subst e0
      exact ct_zretR (b := true) hx hb hr hlocks d_Model_in_15
-- Model.isSmall
abbrev b_Model_isSmall : ByteArray := prog_14_method_5_code
def y_Model_isSmall : MethodName := ⟨"HelpFileModel", "isSmall", "(I)Z"⟩
theorem k480_methodLink : Cond.methodLink "HelpFileModel" 125 ⟨"HelpFileModel", "in", "(III)Z"⟩ ∈ ga := ga_t 1252 (by decide +kernel) rfl
theorem k481_static : Cond.static ⟨"HelpFileModel", "in", "(III)Z"⟩ ∈ ga := ga_t 1253 (by decide +kernel) rfl
set_option maxRecDepth 100000 in
theorem fm_Model_isSmall : Fm y_Model_isSmall b_Model_isSmall 1 (some .boolean) 1 := ⟨ga_t 1305 rfl rfl, k479_initialized, by decide, by decide, by decide +kernel⟩
def D_Model_isSmall (k0 : Int32) (res : Bool) : Prop := (∃ r5 : Bool, D_Model_in k0 97 122 r5 ∧ (res = r5))
theorem d_Model_isSmall_0 : decode b_Model_isSmall 0 = .ok (.iload_n 0, 1) := by decide +kernel
theorem d_Model_isSmall_1 : decode b_Model_isSmall 1 = .ok (.bipush 97, 2) := by decide +kernel
theorem d_Model_isSmall_3 : decode b_Model_isSmall 3 = .ok (.bipush 122, 2) := by decide +kernel
theorem d_Model_isSmall_5 : decode b_Model_isSmall 5 = .ok (.invokestatic 125, 3) := by decide +kernel
theorem d_Model_isSmall_8 : decode b_Model_isSmall 8 = .ok (.ireturn, 1) := by decide +kernel
set_option maxHeartbeats 4000000 in
set_option maxRecDepth 100000 in
theorem c_Model_isSmall (l : Launch) (dC : Nat → ClassId) (dI : Nat → Nat → Nat) (cI cL cZ : ClassId) (k0 : Int32) (res : Bool) (hd : D_Model_isSmall k0 res) : CtrR l y_Model_isSmall (Cond.code y_Model_isSmall b_Model_isSmall 1 (some .boolean) :: ga) { frames := 1, cells := 0, slots := 0, locals := 22 } (dC, dI) classes (Tys cI cL cZ) [.int k0] (([] : va_W)) (some (.int (bI res))) := by
  refine CtrR.ofW (by decide) (Nat.le_of_ble_eq_true rfl) ?_
  intro p e s m below meth c ls hx hb hr hml hown hlocks hts hK hN hP hD hl
  have hown : s.vm.findClass R_Model = some m.cls := hown
  have hl : lv_has ls 1 [(0, .int k0)] := hl
  refine lv_iload_n hx hb d_Model_isSmall_0 rfl (lv_at hl 0 rfl) ?_
  refine lv_bipush (v := 97) hx hb d_Model_isSmall_1 (by decide) ?_
  refine lv_bipush (v := 122) hx hb d_Model_isSmall_3 (by decide) ?_
  obtain ⟨r5, c5, hd⟩ := hd
  refine ct_SR (As := [.int k0, .int 97, .int 122]) (rest := []) ⟨hx, hb, hml, hown, hts⟩ fm_Model_in (c_Model_in l dC dI cI cL cZ k0 97 122 r5 c5) k480_methodLink k481_static ⟨Nat.le_of_ble_eq_true rfl, Nat.le_of_ble_eq_true rfl⟩ rfl rfl hK hN hP hD [] rfl rfl (by decide) rfl hl.1 rfl (Nat.le_of_ble_eq_true rfl) d_Model_isSmall_5 ?_
  have e0 : res = r5 := hd
  subst e0
  exact ct_zretR hx hb hr hlocks d_Model_isSmall_8
-- Model.isLetter
abbrev b_Model_isLetter : ByteArray := prog_14_method_6_code
def y_Model_isLetter : MethodName := ⟨"HelpFileModel", "isLetter", "(I)Z"⟩
theorem k482_methodLink : Cond.methodLink "HelpFileModel" 129 ⟨"HelpFileModel", "isSmall", "(I)Z"⟩ ∈ ga := ga_t 1303 (by decide +kernel) rfl
theorem k483_static : Cond.static ⟨"HelpFileModel", "isSmall", "(I)Z"⟩ ∈ ga := ga_t 1304 (by decide +kernel) rfl
set_option maxRecDepth 100000 in
theorem fm_Model_isLetter : Fm y_Model_isLetter b_Model_isLetter 1 (some .boolean) 1 := ⟨ga_t 1348 rfl rfl, k479_initialized, by decide, by decide, by decide +kernel⟩
def D_Model_isLetter (k0 : Int32) (res : Bool) : Prop := (∃ r1 : Bool, D_Model_isSmall k0 r1 ∧ (((bI r1) = 0 → (∃ r12 : Bool, D_Model_in k0 65 90 r12 ∧ (((bI r12) = 0 → (res = false)) ∧ (¬ ((bI r12) = 0) → (res = true))))) ∧ (¬ ((bI r1) = 0) → (res = true))))
theorem d_Model_isLetter_0 : decode b_Model_isLetter 0 = .ok (.iload_n 0, 1) := by decide +kernel
theorem d_Model_isLetter_1 : decode b_Model_isLetter 1 = .ok (.invokestatic 129, 3) := by decide +kernel
theorem d_Model_isLetter_4 : decode b_Model_isLetter 4 = .ok (.ifCond .ne 14, 3) := by decide +kernel
theorem d_Model_isLetter_7 : decode b_Model_isLetter 7 = .ok (.iload_n 0, 1) := by decide +kernel
theorem d_Model_isLetter_8 : decode b_Model_isLetter 8 = .ok (.bipush 65, 2) := by decide +kernel
theorem d_Model_isLetter_10 : decode b_Model_isLetter 10 = .ok (.bipush 90, 2) := by decide +kernel
theorem d_Model_isLetter_12 : decode b_Model_isLetter 12 = .ok (.invokestatic 125, 3) := by decide +kernel
theorem d_Model_isLetter_15 : decode b_Model_isLetter 15 = .ok (.ifCond .eq 7, 3) := by decide +kernel
theorem d_Model_isLetter_18 : decode b_Model_isLetter 18 = .ok (.iconst 1, 1) := by decide +kernel
theorem d_Model_isLetter_19 : decode b_Model_isLetter 19 = .ok (.goto 4, 3) := by decide +kernel
theorem d_Model_isLetter_22 : decode b_Model_isLetter 22 = .ok (.iconst 0, 1) := by decide +kernel
theorem d_Model_isLetter_23 : decode b_Model_isLetter 23 = .ok (.ireturn, 1) := by decide +kernel
set_option maxHeartbeats 4000000 in
set_option maxRecDepth 100000 in
theorem c_Model_isLetter (l : Launch) (dC : Nat → ClassId) (dI : Nat → Nat → Nat) (cI cL cZ : ClassId) (k0 : Int32) (res : Bool) (hd : D_Model_isLetter k0 res) : CtrR l y_Model_isLetter (Cond.code y_Model_isLetter b_Model_isLetter 1 (some .boolean) :: ga) { frames := 2, cells := 0, slots := 0, locals := 42 } (dC, dI) classes (Tys cI cL cZ) [.int k0] (([] : va_W)) (some (.int (bI res))) := by
  refine CtrR.ofW (by decide) (Nat.le_of_ble_eq_true rfl) ?_
  intro p e s m below meth c ls hx hb hr hml hown hlocks hts hK hN hP hD hl
  have hown : s.vm.findClass R_Model = some m.cls := hown
  have hl : lv_has ls 1 [(0, .int k0)] := hl
  refine lv_iload_n hx hb d_Model_isLetter_0 rfl (lv_at hl 0 rfl) ?_
  obtain ⟨r1, c1, hd⟩ := hd
  refine ct_SR (As := [.int k0]) (rest := []) ⟨hx, hb, hml, hown, hts⟩ fm_Model_isSmall (c_Model_isSmall l dC dI cI cL cZ k0 r1 c1) k482_methodLink k483_static ⟨Nat.le_of_ble_eq_true rfl, Nat.le_of_ble_eq_true rfl⟩ rfl rfl hK hN hP hD [] rfl rfl (by decide) rfl hl.1 rfl (Nat.le_of_ble_eq_true rfl) d_Model_isLetter_1 ?_
  refine lv_if_ne (tgt := 18) hx hb d_Model_isLetter_4 (by decide) (fun h4 => ?_) (fun h4 => ?_)
  · have hd := hd.2 h4
    refine lv_iconst (v := 1) hx hb d_Model_isLetter_18 (by decide) ?_
    refine lv_goto (tgt := 23) hx hb d_Model_isLetter_19 (by decide) ?_
    have e0 : res = true := hd
    subst e0
    exact ct_zretR (b := true) hx hb hr hlocks d_Model_isLetter_23
  · have hd := hd.1 h4
    refine lv_iload_n hx hb d_Model_isLetter_7 rfl (lv_at hl 0 rfl) ?_
    refine lv_bipush (v := 65) hx hb d_Model_isLetter_8 (by decide) ?_
    refine lv_bipush (v := 90) hx hb d_Model_isLetter_10 (by decide) ?_
    obtain ⟨r12, c12, hd⟩ := hd
    refine ct_SR (As := [.int k0, .int 65, .int 90]) (rest := []) ⟨hx, hb, hml, hown, hts⟩ fm_Model_in (c_Model_in l dC dI cI cL cZ k0 65 90 r12 c12) k480_methodLink k481_static ⟨Nat.le_of_ble_eq_true rfl, Nat.le_of_ble_eq_true rfl⟩ rfl rfl hK hN hP hD [] rfl rfl (by decide) rfl hl.1 rfl (Nat.le_of_ble_eq_true rfl) d_Model_isLetter_12 ?_
    refine lv_if_eq (tgt := 22) hx hb d_Model_isLetter_15 (by decide) (fun h15 => ?_) (fun h15 => ?_)
    · have hd := hd.1 h15
      refine lv_iconst (v := 0) hx hb d_Model_isLetter_22 (by decide) ?_
      have e0 : res = false := hd
      subst e0
      exact ct_zretR (b := false) hx hb hr hlocks d_Model_isLetter_23
    · have hd := hd.2 h15
      refine lv_iconst (v := 1) hx hb d_Model_isLetter_18 (by decide) ?_
      refine lv_goto (tgt := 23) hx hb d_Model_isLetter_19 (by decide) ?_
      have e0 : res = true := hd
      subst e0
      exact ct_zretR (b := true) hx hb hr hlocks d_Model_isLetter_23
-- Model.small
abbrev b_Model_small : ByteArray := prog_14_method_7_code
def y_Model_small : MethodName := ⟨"HelpFileModel", "small", "(I)I"⟩
set_option maxRecDepth 100000 in
theorem fm_Model_small : Fm y_Model_small b_Model_small 1 (some .int) 1 := ⟨ga_t 1351 rfl rfl, k479_initialized, by decide, by decide, by decide +kernel⟩
def D_Model_small (k0 : Int32) (res : Int32) : Prop := (∃ r5 : Bool, D_Model_in k0 65 90 r5 ∧ (((bI r5) = 0 → (res = k0)) ∧ (¬ ((bI r5) = 0) → (res = k0 + 32))))
theorem d_Model_small_0 : decode b_Model_small 0 = .ok (.iload_n 0, 1) := by decide +kernel
theorem d_Model_small_1 : decode b_Model_small 1 = .ok (.bipush 65, 2) := by decide +kernel
theorem d_Model_small_3 : decode b_Model_small 3 = .ok (.bipush 90, 2) := by decide +kernel
theorem d_Model_small_5 : decode b_Model_small 5 = .ok (.invokestatic 125, 3) := by decide +kernel
theorem d_Model_small_8 : decode b_Model_small 8 = .ok (.ifCond .eq 10, 3) := by decide +kernel
theorem d_Model_small_11 : decode b_Model_small 11 = .ok (.iload_n 0, 1) := by decide +kernel
theorem d_Model_small_12 : decode b_Model_small 12 = .ok (.bipush 32, 2) := by decide +kernel
theorem d_Model_small_14 : decode b_Model_small 14 = .ok (.iadd, 1) := by decide +kernel
theorem d_Model_small_15 : decode b_Model_small 15 = .ok (.goto 4, 3) := by decide +kernel
theorem d_Model_small_18 : decode b_Model_small 18 = .ok (.iload_n 0, 1) := by decide +kernel
theorem d_Model_small_19 : decode b_Model_small 19 = .ok (.ireturn, 1) := by decide +kernel
set_option maxHeartbeats 4000000 in
set_option maxRecDepth 100000 in
theorem c_Model_small (l : Launch) (dC : Nat → ClassId) (dI : Nat → Nat → Nat) (cI cL cZ : ClassId) (k0 : Int32) (res : Int32) (hd : D_Model_small k0 res) : CtrR l y_Model_small (Cond.code y_Model_small b_Model_small 1 (some .int) :: ga) { frames := 1, cells := 0, slots := 0, locals := 22 } (dC, dI) classes (Tys cI cL cZ) [.int k0] (([] : va_W)) (some (.int res)) := by
  refine CtrR.ofW (by decide) (Nat.le_of_ble_eq_true rfl) ?_
  intro p e s m below meth c ls hx hb hr hml hown hlocks hts hK hN hP hD hl
  have hown : s.vm.findClass R_Model = some m.cls := hown
  have hl : lv_has ls 1 [(0, .int k0)] := hl
  refine lv_iload_n hx hb d_Model_small_0 rfl (lv_at hl 0 rfl) ?_
  refine lv_bipush (v := 65) hx hb d_Model_small_1 (by decide) ?_
  refine lv_bipush (v := 90) hx hb d_Model_small_3 (by decide) ?_
  obtain ⟨r5, c5, hd⟩ := hd
  refine ct_SR (As := [.int k0, .int 65, .int 90]) (rest := []) ⟨hx, hb, hml, hown, hts⟩ fm_Model_in (c_Model_in l dC dI cI cL cZ k0 65 90 r5 c5) k480_methodLink k481_static ⟨Nat.le_of_ble_eq_true rfl, Nat.le_of_ble_eq_true rfl⟩ rfl rfl hK hN hP hD [] rfl rfl (by decide) rfl hl.1 rfl (Nat.le_of_ble_eq_true rfl) d_Model_small_5 ?_
  refine lv_if_eq (tgt := 18) hx hb d_Model_small_8 (by decide) (fun h8 => ?_) (fun h8 => ?_)
  · have hd := hd.1 h8
    refine lv_iload_n hx hb d_Model_small_18 rfl (lv_at hl 0 rfl) ?_
    have e0 : res = k0 := hd
    subst e0
    exact ct_iretR hx hb hr hlocks d_Model_small_19
  · have hd := hd.2 h8
    refine lv_iload_n hx hb d_Model_small_11 rfl (lv_at hl 0 rfl) ?_
    refine lv_bipush (v := 32) hx hb d_Model_small_12 (by decide) ?_
    refine lv_iadd hx hb d_Model_small_14 ?_
    refine lv_goto (tgt := 19) hx hb d_Model_small_15 (by decide) ?_
    have e0 : res = k0 + 32 := hd
    subst e0
    exact ct_iretR hx hb hr hlocks d_Model_small_19
-- Model.put
abbrev b_Model_put : ByteArray := prog_14_method_8_code
def y_Model_put : MethodName := ⟨"HelpFileModel", "put", "(I)I"⟩
theorem k484_fieldLink : Cond.fieldLink "HelpFileModel" 133 "HelpFileModel" "size" "I" ∈ ga := ga_t 1038 (by decide +kernel) rfl
theorem k485_methodLink : Cond.methodLink "HelpFileModel" 136 ⟨"HelpFileModel", "refuse", "(ZZ)Z"⟩ ∈ ga := ga_t 1255 (by decide +kernel) rfl
theorem k486_instanceMethod : Cond.instanceMethod ⟨"HelpFileModel", "refuse", "(ZZ)Z"⟩ ∈ ga := ga_t 1257 (by decide +kernel) rfl
theorem k487_selects : Cond.selects "HelpFileModel" ⟨"HelpFileModel", "refuse", "(ZZ)Z"⟩ ⟨"HelpFileModel", "refuse", "(ZZ)Z"⟩ ∈ ga := ga_s (q := (⟨"HelpFileModel", "refuse", "(ZZ)Z"⟩, _)) 33 rfl
theorem k488_fieldLink : Cond.fieldLink "HelpFileModel" 7 "HelpFileModel" "source" "[I" ∈ ga := ga_t 1037 (by decide +kernel) rfl
set_option maxRecDepth 100000 in
theorem fm_Model_put : Fm y_Model_put b_Model_put 6 (some .int) 1 := ⟨ga_t 1251 rfl rfl, k479_initialized, by decide, by decide, by decide +kernel⟩
def B_Model_put_7 (res : Int32) (mo_thrown' : Int32) (mo_source' : Nat → Int32) (mo_size' : Int32) (X : Nat → Int32 → Int32 → Bool → Int32 → Int32 → Int32 → (Nat → Int32) → Int32 → Prop) (x1 : Int32) (x2 : Int32) (b3 : Bool) (x4 : Int32) (mo_thrown : Int32) (mo_source : Nat → Int32) (mo_size : Int32) : Prop := ((4 ≤ x4 → (((bI b3) = 0 → (((mo_size + x2) ≤ 700 → (∃ r106 : Bool, ∃ mo_thrown_106 : Int32, D_Model_refuse true false mo_thrown r106 mo_thrown_106 ∧ (((bI r106) = 0 → X 4 x1 0 false 0 0 mo_thrown_106 mo_source mo_size) ∧ (¬ ((bI r106) = 0) → (res = 0 ∧ mo_thrown' = mo_thrown_106 ∧ mo_source' = mo_source ∧ mo_size' = mo_size))))) ∧ (¬ ((mo_size + x2) ≤ 700) → (∃ r106 : Bool, ∃ mo_thrown_106 : Int32, D_Model_refuse true true mo_thrown r106 mo_thrown_106 ∧ (((bI r106) = 0 → X 4 x1 0 false 0 0 mo_thrown_106 mo_source mo_size) ∧ (¬ ((bI r106) = 0) → (res = 0 ∧ mo_thrown' = mo_thrown_106 ∧ mo_source' = mo_source ∧ mo_size' = mo_size))))))) ∧ (¬ ((bI b3) = 0) → (((mo_size + x2) ≤ 700 → (∃ r106 : Bool, ∃ mo_thrown_106 : Int32, D_Model_refuse false false mo_thrown r106 mo_thrown_106 ∧ (((bI r106) = 0 → X 4 x1 0 false 0 0 mo_thrown_106 mo_source mo_size) ∧ (¬ ((bI r106) = 0) → (res = 0 ∧ mo_thrown' = mo_thrown_106 ∧ mo_source' = mo_source ∧ mo_size' = mo_size))))) ∧ (¬ ((mo_size + x2) ≤ 700) → (∃ r106 : Bool, ∃ mo_thrown_106 : Int32, D_Model_refuse false true mo_thrown r106 mo_thrown_106 ∧ (((bI r106) = 0 → X 4 x1 0 false 0 0 mo_thrown_106 mo_source mo_size) ∧ (¬ ((bI r106) = 0) → (res = 0 ∧ mo_thrown' = mo_thrown_106 ∧ mo_source' = mo_source ∧ mo_size' = mo_size))))))))) ∧ (¬ (4 ≤ x4) → (((bI b3) = 0 → X 2 x1 x2 false x4 ((x1 >>> ((8 * x4) &&& 31)) &&& 255) mo_thrown mo_source mo_size) ∧ (¬ ((bI b3) = 0) → ((((x1 >>> ((8 * x4) &&& 31)) &&& 255) = 0 → X 1 x1 x2 false x4 ((x1 >>> ((8 * x4) &&& 31)) &&& 255) mo_thrown mo_source mo_size) ∧ (¬ (((x1 >>> ((8 * x4) &&& 31)) &&& 255) = 0) → ((((x1 >>> ((8 * x4) &&& 31)) &&& 255) = 10 → X 1 x1 x2 false x4 ((x1 >>> ((8 * x4) &&& 31)) &&& 255) mo_thrown mo_source mo_size) ∧ (¬ (((x1 >>> ((8 * x4) &&& 31)) &&& 255) = 10) → (∃ r48 : Bool, D_Model_in ((x1 >>> ((8 * x4) &&& 31)) &&& 255) 32 126 r48 ∧ (((bI r48) = 0 → X 2 x1 x2 false x4 ((x1 >>> ((8 * x4) &&& 31)) &&& 255) mo_thrown mo_source mo_size) ∧ (¬ ((bI r48) = 0) → X 1 x1 x2 false x4 ((x1 >>> ((8 * x4) &&& 31)) &&& 255) mo_thrown mo_source mo_size)))))))))))
def B_Model_put_54 (res : Int32) (mo_thrown' : Int32) (mo_source' : Nat → Int32) (mo_size' : Int32) (X : Nat → Int32 → Int32 → Bool → Int32 → Int32 → Int32 → (Nat → Int32) → Int32 → Prop) (x1 : Int32) (x2 : Int32) (x4 : Int32) (x5 : Int32) (mo_thrown : Int32) (mo_source : Nat → Int32) (mo_size : Int32) : Prop := X 3 x1 x2 true x4 x5 mo_thrown mo_source mo_size
def B_Model_put_58 (res : Int32) (mo_thrown' : Int32) (mo_source' : Nat → Int32) (mo_size' : Int32) (X : Nat → Int32 → Int32 → Bool → Int32 → Int32 → Int32 → (Nat → Int32) → Int32 → Prop) (x1 : Int32) (x2 : Int32) (x4 : Int32) (x5 : Int32) (mo_thrown : Int32) (mo_source : Nat → Int32) (mo_size : Int32) : Prop := X 3 x1 x2 false x4 x5 mo_thrown mo_source mo_size
def B_Model_put_60 (res : Int32) (mo_thrown' : Int32) (mo_source' : Nat → Int32) (mo_size' : Int32) (X : Nat → Int32 → Int32 → Bool → Int32 → Int32 → Int32 → (Nat → Int32) → Int32 → Prop) (x1 : Int32) (x2 : Int32) (b3 : Bool) (x4 : Int32) (x5 : Int32) (mo_thrown : Int32) (mo_source : Nat → Int32) (mo_size : Int32) : Prop := ((x5 ≤ 0 → X 0 x1 x2 b3 (x4 + 1) 0 mo_thrown mo_source mo_size) ∧ (¬ (x5 ≤ 0) → X 0 x1 (x2 + 1) b3 (x4 + 1) 0 mo_thrown mo_source mo_size))
def B_Model_put_114 (res : Int32) (mo_thrown' : Int32) (mo_source' : Nat → Int32) (mo_size' : Int32) (X : Nat → Int32 → Int32 → Bool → Int32 → Int32 → Int32 → (Nat → Int32) → Int32 → Prop) (x1 : Int32) (mo_thrown : Int32) (mo_source : Nat → Int32) (mo_size : Int32) : Prop := X 5 x1 0 false 0 0 mo_thrown mo_source mo_size
def B_Model_put_117 (res : Int32) (mo_thrown' : Int32) (mo_source' : Nat → Int32) (mo_size' : Int32) (X : Nat → Int32 → Int32 → Bool → Int32 → Int32 → Int32 → (Nat → Int32) → Int32 → Prop) (x1 : Int32) (x4 : Int32) (mo_thrown : Int32) (mo_source : Nat → Int32) (mo_size : Int32) : Prop := ((4 ≤ x4 → (res = mo_size ∧ mo_thrown' = mo_thrown ∧ mo_source' = mo_source ∧ mo_size' = mo_size)) ∧ (¬ (4 ≤ x4) → ((((x1 >>> ((8 * x4) &&& 31)) &&& 255) ≤ 0 → X 5 x1 0 false (x4 + 1) 0 mo_thrown mo_source mo_size) ∧ (¬ (((x1 >>> ((8 * x4) &&& 31)) &&& 255) ≤ 0) → (vp_in mo_size 700 ∧ X 5 x1 0 false (x4 + 1) 0 mo_thrown (upd mo_source (Int32.toNatClampNeg mo_size) ((x1 >>> ((8 * x4) &&& 31)) &&& 255)) (mo_size + 1))))))
def S_Model_put (res : Int32) (mo_thrown' : Int32) (mo_source' : Nat → Int32) (mo_size' : Int32) (X : Nat → Int32 → Int32 → Bool → Int32 → Int32 → Int32 → (Nat → Int32) → Int32 → Prop) : Nat → Int32 → Int32 → Bool → Int32 → Int32 → Int32 → (Nat → Int32) → Int32 → Prop := fun q_lab x1 x2 b3 x4 x5 mo_thrown mo_source mo_size => match q_lab with | 0 => B_Model_put_7 res mo_thrown' mo_source' mo_size' X x1 x2 b3 x4 mo_thrown mo_source mo_size | 1 => B_Model_put_54 res mo_thrown' mo_source' mo_size' X x1 x2 x4 x5 mo_thrown mo_source mo_size | 2 => B_Model_put_58 res mo_thrown' mo_source' mo_size' X x1 x2 x4 x5 mo_thrown mo_source mo_size | 3 => B_Model_put_60 res mo_thrown' mo_source' mo_size' X x1 x2 b3 x4 x5 mo_thrown mo_source mo_size | 4 => B_Model_put_114 res mo_thrown' mo_source' mo_size' X x1 mo_thrown mo_source mo_size | 5 => B_Model_put_117 res mo_thrown' mo_source' mo_size' X x1 x4 mo_thrown mo_source mo_size | _ => False
def T_Model_put (res : Int32) (mo_thrown' : Int32) (mo_source' : Nat → Int32) (mo_size' : Int32) : Nat → (Nat → Int32 → Int32 → Bool → Int32 → Int32 → Int32 → (Nat → Int32) → Int32 → Prop)
  | 0 => fun _ _ _ _ _ _ _ _ _ => False
  | n + 1 => S_Model_put res mo_thrown' mo_source' mo_size' (T_Model_put res mo_thrown' mo_source' mo_size' n)
def D_Model_put (k0 : Int32) (mo_thrown : Int32) (mo_source : Nat → Int32) (mo_size : Int32) (res : Int32) (mo_thrown' : Int32) (mo_source' : Nat → Int32) (mo_size' : Int32) : Prop := ∃ n : Nat, T_Model_put res mo_thrown' mo_source' mo_size' n 0 k0 0 true 0 0 mo_thrown mo_source mo_size
theorem d_Model_put_0 : decode b_Model_put 0 = .ok (.iconst 0, 1) := by decide +kernel
theorem d_Model_put_1 : decode b_Model_put 1 = .ok (.istore_n 2, 1) := by decide +kernel
theorem d_Model_put_2 : decode b_Model_put 2 = .ok (.iconst 1, 1) := by decide +kernel
theorem d_Model_put_3 : decode b_Model_put 3 = .ok (.istore_n 3, 1) := by decide +kernel
theorem d_Model_put_4 : decode b_Model_put 4 = .ok (.iconst 0, 1) := by decide +kernel
theorem d_Model_put_5 : decode b_Model_put 5 = .ok (.istore 4, 2) := by decide +kernel
theorem d_Model_put_7 : decode b_Model_put 7 = .ok (.iload 4, 2) := by decide +kernel
theorem d_Model_put_9 : decode b_Model_put 9 = .ok (.iconst 4, 1) := by decide +kernel
theorem d_Model_put_10 : decode b_Model_put 10 = .ok (.if_icmp .ge 69, 3) := by decide +kernel
theorem d_Model_put_13 : decode b_Model_put 13 = .ok (.iload_n 1, 1) := by decide +kernel
theorem d_Model_put_14 : decode b_Model_put 14 = .ok (.bipush 8, 2) := by decide +kernel
theorem d_Model_put_16 : decode b_Model_put 16 = .ok (.iload 4, 2) := by decide +kernel
theorem d_Model_put_18 : decode b_Model_put 18 = .ok (.imul, 1) := by decide +kernel
theorem d_Model_put_19 : decode b_Model_put 19 = .ok (.ishr, 1) := by decide +kernel
theorem d_Model_put_20 : decode b_Model_put 20 = .ok (.sipush 255, 3) := by decide +kernel
theorem d_Model_put_23 : decode b_Model_put 23 = .ok (.iand, 1) := by decide +kernel
theorem d_Model_put_24 : decode b_Model_put 24 = .ok (.istore 5, 2) := by decide +kernel
theorem d_Model_put_26 : decode b_Model_put 26 = .ok (.iload_n 3, 1) := by decide +kernel
theorem d_Model_put_27 : decode b_Model_put 27 = .ok (.ifCond .eq 31, 3) := by decide +kernel
theorem d_Model_put_30 : decode b_Model_put 30 = .ok (.iload 5, 2) := by decide +kernel
theorem d_Model_put_32 : decode b_Model_put 32 = .ok (.ifCond .eq 22, 3) := by decide +kernel
theorem d_Model_put_35 : decode b_Model_put 35 = .ok (.iload 5, 2) := by decide +kernel
theorem d_Model_put_37 : decode b_Model_put 37 = .ok (.bipush 10, 2) := by decide +kernel
theorem d_Model_put_39 : decode b_Model_put 39 = .ok (.if_icmp .eq 15, 3) := by decide +kernel
theorem d_Model_put_42 : decode b_Model_put 42 = .ok (.iload 5, 2) := by decide +kernel
theorem d_Model_put_44 : decode b_Model_put 44 = .ok (.bipush 32, 2) := by decide +kernel
theorem d_Model_put_46 : decode b_Model_put 46 = .ok (.bipush 126, 2) := by decide +kernel
theorem d_Model_put_48 : decode b_Model_put 48 = .ok (.invokestatic 125, 3) := by decide +kernel
theorem d_Model_put_51 : decode b_Model_put 51 = .ok (.ifCond .eq 7, 3) := by decide +kernel
theorem d_Model_put_54 : decode b_Model_put 54 = .ok (.iconst 1, 1) := by decide +kernel
theorem d_Model_put_55 : decode b_Model_put 55 = .ok (.goto 4, 3) := by decide +kernel
theorem d_Model_put_58 : decode b_Model_put 58 = .ok (.iconst 0, 1) := by decide +kernel
theorem d_Model_put_59 : decode b_Model_put 59 = .ok (.istore_n 3, 1) := by decide +kernel
theorem d_Model_put_60 : decode b_Model_put 60 = .ok (.iload 5, 2) := by decide +kernel
theorem d_Model_put_62 : decode b_Model_put 62 = .ok (.ifCond .le 9, 3) := by decide +kernel
theorem d_Model_put_65 : decode b_Model_put 65 = .ok (.iload_n 2, 1) := by decide +kernel
theorem d_Model_put_66 : decode b_Model_put 66 = .ok (.iconst 1, 1) := by decide +kernel
theorem d_Model_put_67 : decode b_Model_put 67 = .ok (.iadd, 1) := by decide +kernel
theorem d_Model_put_68 : decode b_Model_put 68 = .ok (.goto 4, 3) := by decide +kernel
theorem d_Model_put_71 : decode b_Model_put 71 = .ok (.iload_n 2, 1) := by decide +kernel
theorem d_Model_put_72 : decode b_Model_put 72 = .ok (.istore_n 2, 1) := by decide +kernel
theorem d_Model_put_73 : decode b_Model_put 73 = .ok (.iinc 4 1, 3) := by decide +kernel
theorem d_Model_put_76 : decode b_Model_put 76 = .ok (.goto (-69), 3) := by decide +kernel
theorem d_Model_put_79 : decode b_Model_put 79 = .ok (.aload_n 0, 1) := by decide +kernel
theorem d_Model_put_80 : decode b_Model_put 80 = .ok (.iload_n 3, 1) := by decide +kernel
theorem d_Model_put_81 : decode b_Model_put 81 = .ok (.ifCond .ne 7, 3) := by decide +kernel
theorem d_Model_put_84 : decode b_Model_put 84 = .ok (.iconst 1, 1) := by decide +kernel
theorem d_Model_put_85 : decode b_Model_put 85 = .ok (.goto 4, 3) := by decide +kernel
theorem d_Model_put_88 : decode b_Model_put 88 = .ok (.iconst 0, 1) := by decide +kernel
theorem d_Model_put_89 : decode b_Model_put 89 = .ok (.aload_n 0, 1) := by decide +kernel
theorem d_Model_put_90 : decode b_Model_put 90 = .ok (.getfield 133, 3) := by decide +kernel
theorem d_Model_put_93 : decode b_Model_put 93 = .ok (.iload_n 2, 1) := by decide +kernel
theorem d_Model_put_94 : decode b_Model_put 94 = .ok (.iadd, 1) := by decide +kernel
theorem d_Model_put_95 : decode b_Model_put 95 = .ok (.sipush 700, 3) := by decide +kernel
theorem d_Model_put_98 : decode b_Model_put 98 = .ok (.if_icmp .le 7, 3) := by decide +kernel
theorem d_Model_put_101 : decode b_Model_put 101 = .ok (.iconst 1, 1) := by decide +kernel
theorem d_Model_put_102 : decode b_Model_put 102 = .ok (.goto 4, 3) := by decide +kernel
theorem d_Model_put_105 : decode b_Model_put 105 = .ok (.iconst 0, 1) := by decide +kernel
theorem d_Model_put_106 : decode b_Model_put 106 = .ok (.invokevirtual 136, 3) := by decide +kernel
theorem d_Model_put_109 : decode b_Model_put 109 = .ok (.ifCond .eq 5, 3) := by decide +kernel
theorem d_Model_put_112 : decode b_Model_put 112 = .ok (.iconst 0, 1) := by decide +kernel
theorem d_Model_put_113 : decode b_Model_put 113 = .ok (.ireturn, 1) := by decide +kernel
theorem d_Model_put_114 : decode b_Model_put 114 = .ok (.iconst 0, 1) := by decide +kernel
theorem d_Model_put_115 : decode b_Model_put 115 = .ok (.istore 4, 2) := by decide +kernel
theorem d_Model_put_117 : decode b_Model_put 117 = .ok (.iload 4, 2) := by decide +kernel
theorem d_Model_put_119 : decode b_Model_put 119 = .ok (.iconst 4, 1) := by decide +kernel
theorem d_Model_put_120 : decode b_Model_put 120 = .ok (.if_icmp .ge 48, 3) := by decide +kernel
theorem d_Model_put_123 : decode b_Model_put 123 = .ok (.iload_n 1, 1) := by decide +kernel
theorem d_Model_put_124 : decode b_Model_put 124 = .ok (.bipush 8, 2) := by decide +kernel
theorem d_Model_put_126 : decode b_Model_put 126 = .ok (.iload 4, 2) := by decide +kernel
theorem d_Model_put_128 : decode b_Model_put 128 = .ok (.imul, 1) := by decide +kernel
theorem d_Model_put_129 : decode b_Model_put 129 = .ok (.ishr, 1) := by decide +kernel
theorem d_Model_put_130 : decode b_Model_put 130 = .ok (.sipush 255, 3) := by decide +kernel
theorem d_Model_put_133 : decode b_Model_put 133 = .ok (.iand, 1) := by decide +kernel
theorem d_Model_put_134 : decode b_Model_put 134 = .ok (.istore 5, 2) := by decide +kernel
theorem d_Model_put_136 : decode b_Model_put 136 = .ok (.iload 5, 2) := by decide +kernel
theorem d_Model_put_138 : decode b_Model_put 138 = .ok (.ifCond .le 24, 3) := by decide +kernel
theorem d_Model_put_141 : decode b_Model_put 141 = .ok (.aload_n 0, 1) := by decide +kernel
theorem d_Model_put_142 : decode b_Model_put 142 = .ok (.getfield 7, 3) := by decide +kernel
theorem d_Model_put_145 : decode b_Model_put 145 = .ok (.aload_n 0, 1) := by decide +kernel
theorem d_Model_put_146 : decode b_Model_put 146 = .ok (.getfield 133, 3) := by decide +kernel
theorem d_Model_put_149 : decode b_Model_put 149 = .ok (.iload 5, 2) := by decide +kernel
theorem d_Model_put_151 : decode b_Model_put 151 = .ok (.iastore, 1) := by decide +kernel
theorem d_Model_put_152 : decode b_Model_put 152 = .ok (.aload_n 0, 1) := by decide +kernel
theorem d_Model_put_153 : decode b_Model_put 153 = .ok (.dup, 1) := by decide +kernel
theorem d_Model_put_154 : decode b_Model_put 154 = .ok (.getfield 133, 3) := by decide +kernel
theorem d_Model_put_157 : decode b_Model_put 157 = .ok (.iconst 1, 1) := by decide +kernel
theorem d_Model_put_158 : decode b_Model_put 158 = .ok (.iadd, 1) := by decide +kernel
theorem d_Model_put_159 : decode b_Model_put 159 = .ok (.putfield 133, 3) := by decide +kernel
theorem d_Model_put_162 : decode b_Model_put 162 = .ok (.iinc 4 1, 3) := by decide +kernel
theorem d_Model_put_165 : decode b_Model_put 165 = .ok (.goto (-48), 3) := by decide +kernel
theorem d_Model_put_168 : decode b_Model_put 168 = .ok (.aload_n 0, 1) := by decide +kernel
theorem d_Model_put_169 : decode b_Model_put 169 = .ok (.getfield 133, 3) := by decide +kernel
theorem d_Model_put_172 : decode b_Model_put 172 = .ok (.ireturn, 1) := by decide +kernel
set_option maxHeartbeats 4000000 in
set_option maxRecDepth 100000 in
theorem c_Model_put (l : Launch) (dC : Nat → ClassId) (dI : Nat → Nat → Nat) (cI cL cZ : ClassId) (mo : Nat) (mo_thrown : Int32) (mo_sourcea : Nat) (mo_source : Nat → Int32) (mo_size : Int32) (mo_faultLine : Int32) (mo_fault : Int32) (mo_topics : Int32) (mo_namesa : Nat) (mo_names : Nat → Int32) (mo_bodiesa : Nat) (mo_bodies : Nat → Int32) (mo_lengthsa : Nat) (mo_lengths : Nat → Int32) (mo_headingsa : Nat) (mo_headings : Nat → Int32) (mo_keywords : Int32) (mo_keyLettersa : Nat) (mo_keyLetters : Nat → Int32) (mo_keyLengthsa : Nat) (mo_keyLengths : Nat → Int32) (mo_keyBitsa : Nat) (mo_keyBits : Nat → Int32) (mo_words : Int32) (mo_wordLettersa : Nat) (mo_wordLetters : Nat → Int32) (mo_wordLengthsa : Nat) (mo_wordLengths : Nat → Int32) (mo_wordBitsa : Nat) (mo_wordBits : Nat → Int32) (mo_links : Int32) (mo_linkAta : Nat) (mo_linkAt : Nat → Int32) (mo_linkLengtha : Nat) (mo_linkLength : Nat → Int32) (mo_linkLinea : Nat) (mo_linkLine : Nat → Int32) (mo_linkToa : Nat) (mo_linkTo : Nat → Int32) (mo_inParagraph : Bool) (mo_emphasis : Bool) (mo_blank : Bool) (mo_lastLine : Int32) (mo_imageSize : Int32) (mo_imagea : Nat) (mo_image : Nat → Int32) (mo_compares : Bool) (mo_unlike : Bool) (mo_out : Int32) (mo_total : Int32) (mo_literal : Int32) (mo_handLength : Int32) (mo_handa : Nat) (mo_hand : Nat → Int32) (mo_isOpen : Bool) (mo_seenTopics : Int32) (mo_seenNamesa : Nat) (mo_seenNames : Nat → Int32) (mo_seenBodiesa : Nat) (mo_seenBodies : Nat → Int32) (mo_seenLengthsa : Nat) (mo_seenLengths : Nat → Int32) (mo_seenKeywords : Int32) (mo_seenKeyLettersa : Nat) (mo_seenKeyLetters : Nat → Int32) (mo_seenKeyLengthsa : Nat) (mo_seenKeyLengths : Nat → Int32) (mo_seenKeyBitsa : Nat) (mo_seenKeyBits : Nat → Int32) (mo_seenWords : Int32) (mo_seenWordLettersa : Nat) (mo_seenWordLetters : Nat → Int32) (mo_seenWordLengthsa : Nat) (mo_seenWordLengths : Nat → Int32) (mo_seenWordBitsa : Nat) (mo_seenWordBits : Nat → Int32) (mo_topic : Int32) (mo_backs : Int32) (mo_backa : Nat) (mo_back : Nat → Int32) (mo_forwards : Int32) (mo_forwarda : Nat) (mo_forward : Nat → Int32) (mo_typed : Int32) (mo_querya : Nat) (mo_query : Nat → Int32) (mo_visits : Int32) (mo_valuesa : Nat) (mo_values : Nat → Int32) (mo_valued : Int32) (mo_signsa : Nat) (mo_signs : Nat → Int32) (mo_signed : Int32) (mo_width : Int32) (mo_lines : Int32) (mo_lineFroma : Nat) (mo_lineFrom : Nat → Int32) (mo_lineSizea : Nat) (mo_lineSize : Nat → Int32) (mo_shown : Int32) (mo_texta : Nat) (mo_text : Nat → Int32) (mo_partLength : Int32) (mo_parta : Nat) (mo_part : Nat → Int32) (k0 : Int32) (res : Int32) (mo_thrown' : Int32) (mo_source' : Nat → Int32) (mo_size' : Int32) (hd : D_Model_put k0 mo_thrown mo_source mo_size res mo_thrown' mo_source' mo_size') : Ctr l y_Model_put (Cond.code y_Model_put b_Model_put 6 (some .int) :: ga) { frames := 1, cells := 0, slots := 0, locals := 22 } (dC, dI) classes (Tys cI cL cZ) [.ref mo, .int k0] ((sh_Model cI cL cZ mo mo_thrown mo_sourcea mo_source mo_size mo_faultLine mo_fault mo_topics mo_namesa mo_names mo_bodiesa mo_bodies mo_lengthsa mo_lengths mo_headingsa mo_headings mo_keywords mo_keyLettersa mo_keyLetters mo_keyLengthsa mo_keyLengths mo_keyBitsa mo_keyBits mo_words mo_wordLettersa mo_wordLetters mo_wordLengthsa mo_wordLengths mo_wordBitsa mo_wordBits mo_links mo_linkAta mo_linkAt mo_linkLengtha mo_linkLength mo_linkLinea mo_linkLine mo_linkToa mo_linkTo mo_inParagraph mo_emphasis mo_blank mo_lastLine mo_imageSize mo_imagea mo_image mo_compares mo_unlike mo_out mo_total mo_literal mo_handLength mo_handa mo_hand mo_isOpen mo_seenTopics mo_seenNamesa mo_seenNames mo_seenBodiesa mo_seenBodies mo_seenLengthsa mo_seenLengths mo_seenKeywords mo_seenKeyLettersa mo_seenKeyLetters mo_seenKeyLengthsa mo_seenKeyLengths mo_seenKeyBitsa mo_seenKeyBits mo_seenWords mo_seenWordLettersa mo_seenWordLetters mo_seenWordLengthsa mo_seenWordLengths mo_seenWordBitsa mo_seenWordBits mo_topic mo_backs mo_backa mo_back mo_forwards mo_forwarda mo_forward mo_typed mo_querya mo_query mo_visits mo_valuesa mo_values mo_valued mo_signsa mo_signs mo_signed mo_width mo_lines mo_lineFroma mo_lineFrom mo_lineSizea mo_lineSize mo_shown mo_texta mo_text mo_partLength mo_parta mo_part)) (some (.int res)) ((sh_Model cI cL cZ mo mo_thrown' mo_sourcea mo_source' mo_size' mo_faultLine mo_fault mo_topics mo_namesa mo_names mo_bodiesa mo_bodies mo_lengthsa mo_lengths mo_headingsa mo_headings mo_keywords mo_keyLettersa mo_keyLetters mo_keyLengthsa mo_keyLengths mo_keyBitsa mo_keyBits mo_words mo_wordLettersa mo_wordLetters mo_wordLengthsa mo_wordLengths mo_wordBitsa mo_wordBits mo_links mo_linkAta mo_linkAt mo_linkLengtha mo_linkLength mo_linkLinea mo_linkLine mo_linkToa mo_linkTo mo_inParagraph mo_emphasis mo_blank mo_lastLine mo_imageSize mo_imagea mo_image mo_compares mo_unlike mo_out mo_total mo_literal mo_handLength mo_handa mo_hand mo_isOpen mo_seenTopics mo_seenNamesa mo_seenNames mo_seenBodiesa mo_seenBodies mo_seenLengthsa mo_seenLengths mo_seenKeywords mo_seenKeyLettersa mo_seenKeyLetters mo_seenKeyLengthsa mo_seenKeyLengths mo_seenKeyBitsa mo_seenKeyBits mo_seenWords mo_seenWordLettersa mo_seenWordLetters mo_seenWordLengthsa mo_seenWordLengths mo_seenWordBitsa mo_seenWordBits mo_topic mo_backs mo_backa mo_back mo_forwards mo_forwarda mo_forward mo_typed mo_querya mo_query mo_visits mo_valuesa mo_values mo_valued mo_signsa mo_signs mo_signed mo_width mo_lines mo_lineFroma mo_lineFrom mo_lineSizea mo_lineSize mo_shown mo_texta mo_text mo_partLength mo_parta mo_part)) := by
  refine Ctr.ofW (by decide) (Nat.le_of_ble_eq_true rfl) ?_
  intro p e s m below meth c A ls hx hb hr hml hown hlocks hts hK hN hA hP hD hS hl
  have hown : s.vm.findClass R_Model = some m.cls := hown
  have hl : lv_has ls 6 [(0, .ref mo), (1, .int k0)] := hl
  have key : ∀ n : Nat, (∀ (x1 : Int32) (x2 : Int32) (b3 : Bool) (x4 : Int32) (mo_thrown : Int32) (mo_source : Nat → Int32) (mo_size : Int32) (ls : Array Slot) (H : Heap) (locs : List Loc), lv_has ls 6 [(0, .ref mo), (1, .int x1), (2, .int x2), (3, .int (bI b3)), (4, .int x4)] → va_P (dC, dI) classes ((sh_Model cI cL cZ mo mo_thrown mo_sourcea mo_source mo_size mo_faultLine mo_fault mo_topics mo_namesa mo_names mo_bodiesa mo_bodies mo_lengthsa mo_lengths mo_headingsa mo_headings mo_keywords mo_keyLettersa mo_keyLetters mo_keyLengthsa mo_keyLengths mo_keyBitsa mo_keyBits mo_words mo_wordLettersa mo_wordLetters mo_wordLengthsa mo_wordLengths mo_wordBitsa mo_wordBits mo_links mo_linkAta mo_linkAt mo_linkLengtha mo_linkLength mo_linkLinea mo_linkLine mo_linkToa mo_linkTo mo_inParagraph mo_emphasis mo_blank mo_lastLine mo_imageSize mo_imagea mo_image mo_compares mo_unlike mo_out mo_total mo_literal mo_handLength mo_handa mo_hand mo_isOpen mo_seenTopics mo_seenNamesa mo_seenNames mo_seenBodiesa mo_seenBodies mo_seenLengthsa mo_seenLengths mo_seenKeywords mo_seenKeyLettersa mo_seenKeyLetters mo_seenKeyLengthsa mo_seenKeyLengths mo_seenKeyBitsa mo_seenKeyBits mo_seenWords mo_seenWordLettersa mo_seenWordLetters mo_seenWordLengthsa mo_seenWordLengths mo_seenWordBitsa mo_seenWordBits mo_topic mo_backs mo_backa mo_back mo_forwards mo_forwarda mo_forward mo_typed mo_querya mo_query mo_visits mo_valuesa mo_values mo_valued mo_signsa mo_signs mo_signed mo_width mo_lines mo_lineFroma mo_lineFrom mo_lineSizea mo_lineSize mo_shown mo_texta mo_text mo_partLength mo_parta mo_part)) H → va_D A ((sh_Model cI cL cZ mo mo_thrown mo_sourcea mo_source mo_size mo_faultLine mo_fault mo_topics mo_namesa mo_names mo_bodiesa mo_bodies mo_lengthsa mo_lengths mo_headingsa mo_headings mo_keywords mo_keyLettersa mo_keyLetters mo_keyLengthsa mo_keyLengths mo_keyBitsa mo_keyBits mo_words mo_wordLettersa mo_wordLetters mo_wordLengthsa mo_wordLengths mo_wordBitsa mo_wordBits mo_links mo_linkAta mo_linkAt mo_linkLengtha mo_linkLength mo_linkLinea mo_linkLine mo_linkToa mo_linkTo mo_inParagraph mo_emphasis mo_blank mo_lastLine mo_imageSize mo_imagea mo_image mo_compares mo_unlike mo_out mo_total mo_literal mo_handLength mo_handa mo_hand mo_isOpen mo_seenTopics mo_seenNamesa mo_seenNames mo_seenBodiesa mo_seenBodies mo_seenLengthsa mo_seenLengths mo_seenKeywords mo_seenKeyLettersa mo_seenKeyLetters mo_seenKeyLengthsa mo_seenKeyLengths mo_seenKeyBitsa mo_seenKeyBits mo_seenWords mo_seenWordLettersa mo_seenWordLetters mo_seenWordLengthsa mo_seenWordLengths mo_seenWordBitsa mo_seenWordBits mo_topic mo_backs mo_backa mo_back mo_forwards mo_forwarda mo_forward mo_typed mo_querya mo_query mo_visits mo_valuesa mo_values mo_valued mo_signsa mo_signs mo_signed mo_width mo_lines mo_lineFroma mo_lineFrom mo_lineSizea mo_lineSize mo_shown mo_texta mo_text mo_partLength mo_parta mo_part)) → va_S A s.heap H locs → T_Model_put res mo_thrown' mo_source' mo_size' n 0 x1 x2 b3 x4 0 mo_thrown mo_source mo_size → W p l e ({ frames := 1, cells := 0, slots := 0, locals := 22 }) s m ([.ref mo, .int k0] : List Value).toArray below meth c H locs 0 0 (MQ below (Qs (dC, dI) classes (Tys cI cL cZ) (some (.int res)) ((sh_Model cI cL cZ mo mo_thrown' mo_sourcea mo_source' mo_size' mo_faultLine mo_fault mo_topics mo_namesa mo_names mo_bodiesa mo_bodies mo_lengthsa mo_lengths mo_headingsa mo_headings mo_keywords mo_keyLettersa mo_keyLetters mo_keyLengthsa mo_keyLengths mo_keyBitsa mo_keyBits mo_words mo_wordLettersa mo_wordLetters mo_wordLengthsa mo_wordLengths mo_wordBitsa mo_wordBits mo_links mo_linkAta mo_linkAt mo_linkLengtha mo_linkLength mo_linkLinea mo_linkLine mo_linkToa mo_linkTo mo_inParagraph mo_emphasis mo_blank mo_lastLine mo_imageSize mo_imagea mo_image mo_compares mo_unlike mo_out mo_total mo_literal mo_handLength mo_handa mo_hand mo_isOpen mo_seenTopics mo_seenNamesa mo_seenNames mo_seenBodiesa mo_seenBodies mo_seenLengthsa mo_seenLengths mo_seenKeywords mo_seenKeyLettersa mo_seenKeyLetters mo_seenKeyLengthsa mo_seenKeyLengths mo_seenKeyBitsa mo_seenKeyBits mo_seenWords mo_seenWordLettersa mo_seenWordLetters mo_seenWordLengthsa mo_seenWordLengths mo_seenWordBitsa mo_seenWordBits mo_topic mo_backs mo_backa mo_back mo_forwards mo_forwarda mo_forward mo_typed mo_querya mo_query mo_visits mo_valuesa mo_values mo_valued mo_signsa mo_signs mo_signed mo_width mo_lines mo_lineFroma mo_lineFrom mo_lineSizea mo_lineSize mo_shown mo_texta mo_text mo_partLength mo_parta mo_part)) A) ([.ref mo, .int k0] : List Value).toArray s 0 0 A) (F0 m 7 ls [])) ∧ (∀ (x1 : Int32) (x2 : Int32) (x4 : Int32) (x5 : Int32) (mo_thrown : Int32) (mo_source : Nat → Int32) (mo_size : Int32) (ls : Array Slot) (H : Heap) (locs : List Loc), lv_has ls 6 [(0, .ref mo), (1, .int x1), (2, .int x2), (4, .int x4), (5, .int x5)] → va_P (dC, dI) classes ((sh_Model cI cL cZ mo mo_thrown mo_sourcea mo_source mo_size mo_faultLine mo_fault mo_topics mo_namesa mo_names mo_bodiesa mo_bodies mo_lengthsa mo_lengths mo_headingsa mo_headings mo_keywords mo_keyLettersa mo_keyLetters mo_keyLengthsa mo_keyLengths mo_keyBitsa mo_keyBits mo_words mo_wordLettersa mo_wordLetters mo_wordLengthsa mo_wordLengths mo_wordBitsa mo_wordBits mo_links mo_linkAta mo_linkAt mo_linkLengtha mo_linkLength mo_linkLinea mo_linkLine mo_linkToa mo_linkTo mo_inParagraph mo_emphasis mo_blank mo_lastLine mo_imageSize mo_imagea mo_image mo_compares mo_unlike mo_out mo_total mo_literal mo_handLength mo_handa mo_hand mo_isOpen mo_seenTopics mo_seenNamesa mo_seenNames mo_seenBodiesa mo_seenBodies mo_seenLengthsa mo_seenLengths mo_seenKeywords mo_seenKeyLettersa mo_seenKeyLetters mo_seenKeyLengthsa mo_seenKeyLengths mo_seenKeyBitsa mo_seenKeyBits mo_seenWords mo_seenWordLettersa mo_seenWordLetters mo_seenWordLengthsa mo_seenWordLengths mo_seenWordBitsa mo_seenWordBits mo_topic mo_backs mo_backa mo_back mo_forwards mo_forwarda mo_forward mo_typed mo_querya mo_query mo_visits mo_valuesa mo_values mo_valued mo_signsa mo_signs mo_signed mo_width mo_lines mo_lineFroma mo_lineFrom mo_lineSizea mo_lineSize mo_shown mo_texta mo_text mo_partLength mo_parta mo_part)) H → va_D A ((sh_Model cI cL cZ mo mo_thrown mo_sourcea mo_source mo_size mo_faultLine mo_fault mo_topics mo_namesa mo_names mo_bodiesa mo_bodies mo_lengthsa mo_lengths mo_headingsa mo_headings mo_keywords mo_keyLettersa mo_keyLetters mo_keyLengthsa mo_keyLengths mo_keyBitsa mo_keyBits mo_words mo_wordLettersa mo_wordLetters mo_wordLengthsa mo_wordLengths mo_wordBitsa mo_wordBits mo_links mo_linkAta mo_linkAt mo_linkLengtha mo_linkLength mo_linkLinea mo_linkLine mo_linkToa mo_linkTo mo_inParagraph mo_emphasis mo_blank mo_lastLine mo_imageSize mo_imagea mo_image mo_compares mo_unlike mo_out mo_total mo_literal mo_handLength mo_handa mo_hand mo_isOpen mo_seenTopics mo_seenNamesa mo_seenNames mo_seenBodiesa mo_seenBodies mo_seenLengthsa mo_seenLengths mo_seenKeywords mo_seenKeyLettersa mo_seenKeyLetters mo_seenKeyLengthsa mo_seenKeyLengths mo_seenKeyBitsa mo_seenKeyBits mo_seenWords mo_seenWordLettersa mo_seenWordLetters mo_seenWordLengthsa mo_seenWordLengths mo_seenWordBitsa mo_seenWordBits mo_topic mo_backs mo_backa mo_back mo_forwards mo_forwarda mo_forward mo_typed mo_querya mo_query mo_visits mo_valuesa mo_values mo_valued mo_signsa mo_signs mo_signed mo_width mo_lines mo_lineFroma mo_lineFrom mo_lineSizea mo_lineSize mo_shown mo_texta mo_text mo_partLength mo_parta mo_part)) → va_S A s.heap H locs → T_Model_put res mo_thrown' mo_source' mo_size' n 1 x1 x2 false x4 x5 mo_thrown mo_source mo_size → W p l e ({ frames := 1, cells := 0, slots := 0, locals := 22 }) s m ([.ref mo, .int k0] : List Value).toArray below meth c H locs 0 0 (MQ below (Qs (dC, dI) classes (Tys cI cL cZ) (some (.int res)) ((sh_Model cI cL cZ mo mo_thrown' mo_sourcea mo_source' mo_size' mo_faultLine mo_fault mo_topics mo_namesa mo_names mo_bodiesa mo_bodies mo_lengthsa mo_lengths mo_headingsa mo_headings mo_keywords mo_keyLettersa mo_keyLetters mo_keyLengthsa mo_keyLengths mo_keyBitsa mo_keyBits mo_words mo_wordLettersa mo_wordLetters mo_wordLengthsa mo_wordLengths mo_wordBitsa mo_wordBits mo_links mo_linkAta mo_linkAt mo_linkLengtha mo_linkLength mo_linkLinea mo_linkLine mo_linkToa mo_linkTo mo_inParagraph mo_emphasis mo_blank mo_lastLine mo_imageSize mo_imagea mo_image mo_compares mo_unlike mo_out mo_total mo_literal mo_handLength mo_handa mo_hand mo_isOpen mo_seenTopics mo_seenNamesa mo_seenNames mo_seenBodiesa mo_seenBodies mo_seenLengthsa mo_seenLengths mo_seenKeywords mo_seenKeyLettersa mo_seenKeyLetters mo_seenKeyLengthsa mo_seenKeyLengths mo_seenKeyBitsa mo_seenKeyBits mo_seenWords mo_seenWordLettersa mo_seenWordLetters mo_seenWordLengthsa mo_seenWordLengths mo_seenWordBitsa mo_seenWordBits mo_topic mo_backs mo_backa mo_back mo_forwards mo_forwarda mo_forward mo_typed mo_querya mo_query mo_visits mo_valuesa mo_values mo_valued mo_signsa mo_signs mo_signed mo_width mo_lines mo_lineFroma mo_lineFrom mo_lineSizea mo_lineSize mo_shown mo_texta mo_text mo_partLength mo_parta mo_part)) A) ([.ref mo, .int k0] : List Value).toArray s 0 0 A) (F0 m 54 ls [])) ∧ (∀ (x1 : Int32) (x2 : Int32) (x4 : Int32) (x5 : Int32) (mo_thrown : Int32) (mo_source : Nat → Int32) (mo_size : Int32) (ls : Array Slot) (H : Heap) (locs : List Loc), lv_has ls 6 [(0, .ref mo), (1, .int x1), (2, .int x2), (4, .int x4), (5, .int x5)] → va_P (dC, dI) classes ((sh_Model cI cL cZ mo mo_thrown mo_sourcea mo_source mo_size mo_faultLine mo_fault mo_topics mo_namesa mo_names mo_bodiesa mo_bodies mo_lengthsa mo_lengths mo_headingsa mo_headings mo_keywords mo_keyLettersa mo_keyLetters mo_keyLengthsa mo_keyLengths mo_keyBitsa mo_keyBits mo_words mo_wordLettersa mo_wordLetters mo_wordLengthsa mo_wordLengths mo_wordBitsa mo_wordBits mo_links mo_linkAta mo_linkAt mo_linkLengtha mo_linkLength mo_linkLinea mo_linkLine mo_linkToa mo_linkTo mo_inParagraph mo_emphasis mo_blank mo_lastLine mo_imageSize mo_imagea mo_image mo_compares mo_unlike mo_out mo_total mo_literal mo_handLength mo_handa mo_hand mo_isOpen mo_seenTopics mo_seenNamesa mo_seenNames mo_seenBodiesa mo_seenBodies mo_seenLengthsa mo_seenLengths mo_seenKeywords mo_seenKeyLettersa mo_seenKeyLetters mo_seenKeyLengthsa mo_seenKeyLengths mo_seenKeyBitsa mo_seenKeyBits mo_seenWords mo_seenWordLettersa mo_seenWordLetters mo_seenWordLengthsa mo_seenWordLengths mo_seenWordBitsa mo_seenWordBits mo_topic mo_backs mo_backa mo_back mo_forwards mo_forwarda mo_forward mo_typed mo_querya mo_query mo_visits mo_valuesa mo_values mo_valued mo_signsa mo_signs mo_signed mo_width mo_lines mo_lineFroma mo_lineFrom mo_lineSizea mo_lineSize mo_shown mo_texta mo_text mo_partLength mo_parta mo_part)) H → va_D A ((sh_Model cI cL cZ mo mo_thrown mo_sourcea mo_source mo_size mo_faultLine mo_fault mo_topics mo_namesa mo_names mo_bodiesa mo_bodies mo_lengthsa mo_lengths mo_headingsa mo_headings mo_keywords mo_keyLettersa mo_keyLetters mo_keyLengthsa mo_keyLengths mo_keyBitsa mo_keyBits mo_words mo_wordLettersa mo_wordLetters mo_wordLengthsa mo_wordLengths mo_wordBitsa mo_wordBits mo_links mo_linkAta mo_linkAt mo_linkLengtha mo_linkLength mo_linkLinea mo_linkLine mo_linkToa mo_linkTo mo_inParagraph mo_emphasis mo_blank mo_lastLine mo_imageSize mo_imagea mo_image mo_compares mo_unlike mo_out mo_total mo_literal mo_handLength mo_handa mo_hand mo_isOpen mo_seenTopics mo_seenNamesa mo_seenNames mo_seenBodiesa mo_seenBodies mo_seenLengthsa mo_seenLengths mo_seenKeywords mo_seenKeyLettersa mo_seenKeyLetters mo_seenKeyLengthsa mo_seenKeyLengths mo_seenKeyBitsa mo_seenKeyBits mo_seenWords mo_seenWordLettersa mo_seenWordLetters mo_seenWordLengthsa mo_seenWordLengths mo_seenWordBitsa mo_seenWordBits mo_topic mo_backs mo_backa mo_back mo_forwards mo_forwarda mo_forward mo_typed mo_querya mo_query mo_visits mo_valuesa mo_values mo_valued mo_signsa mo_signs mo_signed mo_width mo_lines mo_lineFroma mo_lineFrom mo_lineSizea mo_lineSize mo_shown mo_texta mo_text mo_partLength mo_parta mo_part)) → va_S A s.heap H locs → T_Model_put res mo_thrown' mo_source' mo_size' n 2 x1 x2 false x4 x5 mo_thrown mo_source mo_size → W p l e ({ frames := 1, cells := 0, slots := 0, locals := 22 }) s m ([.ref mo, .int k0] : List Value).toArray below meth c H locs 0 0 (MQ below (Qs (dC, dI) classes (Tys cI cL cZ) (some (.int res)) ((sh_Model cI cL cZ mo mo_thrown' mo_sourcea mo_source' mo_size' mo_faultLine mo_fault mo_topics mo_namesa mo_names mo_bodiesa mo_bodies mo_lengthsa mo_lengths mo_headingsa mo_headings mo_keywords mo_keyLettersa mo_keyLetters mo_keyLengthsa mo_keyLengths mo_keyBitsa mo_keyBits mo_words mo_wordLettersa mo_wordLetters mo_wordLengthsa mo_wordLengths mo_wordBitsa mo_wordBits mo_links mo_linkAta mo_linkAt mo_linkLengtha mo_linkLength mo_linkLinea mo_linkLine mo_linkToa mo_linkTo mo_inParagraph mo_emphasis mo_blank mo_lastLine mo_imageSize mo_imagea mo_image mo_compares mo_unlike mo_out mo_total mo_literal mo_handLength mo_handa mo_hand mo_isOpen mo_seenTopics mo_seenNamesa mo_seenNames mo_seenBodiesa mo_seenBodies mo_seenLengthsa mo_seenLengths mo_seenKeywords mo_seenKeyLettersa mo_seenKeyLetters mo_seenKeyLengthsa mo_seenKeyLengths mo_seenKeyBitsa mo_seenKeyBits mo_seenWords mo_seenWordLettersa mo_seenWordLetters mo_seenWordLengthsa mo_seenWordLengths mo_seenWordBitsa mo_seenWordBits mo_topic mo_backs mo_backa mo_back mo_forwards mo_forwarda mo_forward mo_typed mo_querya mo_query mo_visits mo_valuesa mo_values mo_valued mo_signsa mo_signs mo_signed mo_width mo_lines mo_lineFroma mo_lineFrom mo_lineSizea mo_lineSize mo_shown mo_texta mo_text mo_partLength mo_parta mo_part)) A) ([.ref mo, .int k0] : List Value).toArray s 0 0 A) (F0 m 58 ls [])) ∧ (∀ (x1 : Int32) (x2 : Int32) (b3 : Bool) (x4 : Int32) (x5 : Int32) (mo_thrown : Int32) (mo_source : Nat → Int32) (mo_size : Int32) (ls : Array Slot) (H : Heap) (locs : List Loc), lv_has ls 6 [(0, .ref mo), (1, .int x1), (2, .int x2), (3, .int (bI b3)), (4, .int x4), (5, .int x5)] → va_P (dC, dI) classes ((sh_Model cI cL cZ mo mo_thrown mo_sourcea mo_source mo_size mo_faultLine mo_fault mo_topics mo_namesa mo_names mo_bodiesa mo_bodies mo_lengthsa mo_lengths mo_headingsa mo_headings mo_keywords mo_keyLettersa mo_keyLetters mo_keyLengthsa mo_keyLengths mo_keyBitsa mo_keyBits mo_words mo_wordLettersa mo_wordLetters mo_wordLengthsa mo_wordLengths mo_wordBitsa mo_wordBits mo_links mo_linkAta mo_linkAt mo_linkLengtha mo_linkLength mo_linkLinea mo_linkLine mo_linkToa mo_linkTo mo_inParagraph mo_emphasis mo_blank mo_lastLine mo_imageSize mo_imagea mo_image mo_compares mo_unlike mo_out mo_total mo_literal mo_handLength mo_handa mo_hand mo_isOpen mo_seenTopics mo_seenNamesa mo_seenNames mo_seenBodiesa mo_seenBodies mo_seenLengthsa mo_seenLengths mo_seenKeywords mo_seenKeyLettersa mo_seenKeyLetters mo_seenKeyLengthsa mo_seenKeyLengths mo_seenKeyBitsa mo_seenKeyBits mo_seenWords mo_seenWordLettersa mo_seenWordLetters mo_seenWordLengthsa mo_seenWordLengths mo_seenWordBitsa mo_seenWordBits mo_topic mo_backs mo_backa mo_back mo_forwards mo_forwarda mo_forward mo_typed mo_querya mo_query mo_visits mo_valuesa mo_values mo_valued mo_signsa mo_signs mo_signed mo_width mo_lines mo_lineFroma mo_lineFrom mo_lineSizea mo_lineSize mo_shown mo_texta mo_text mo_partLength mo_parta mo_part)) H → va_D A ((sh_Model cI cL cZ mo mo_thrown mo_sourcea mo_source mo_size mo_faultLine mo_fault mo_topics mo_namesa mo_names mo_bodiesa mo_bodies mo_lengthsa mo_lengths mo_headingsa mo_headings mo_keywords mo_keyLettersa mo_keyLetters mo_keyLengthsa mo_keyLengths mo_keyBitsa mo_keyBits mo_words mo_wordLettersa mo_wordLetters mo_wordLengthsa mo_wordLengths mo_wordBitsa mo_wordBits mo_links mo_linkAta mo_linkAt mo_linkLengtha mo_linkLength mo_linkLinea mo_linkLine mo_linkToa mo_linkTo mo_inParagraph mo_emphasis mo_blank mo_lastLine mo_imageSize mo_imagea mo_image mo_compares mo_unlike mo_out mo_total mo_literal mo_handLength mo_handa mo_hand mo_isOpen mo_seenTopics mo_seenNamesa mo_seenNames mo_seenBodiesa mo_seenBodies mo_seenLengthsa mo_seenLengths mo_seenKeywords mo_seenKeyLettersa mo_seenKeyLetters mo_seenKeyLengthsa mo_seenKeyLengths mo_seenKeyBitsa mo_seenKeyBits mo_seenWords mo_seenWordLettersa mo_seenWordLetters mo_seenWordLengthsa mo_seenWordLengths mo_seenWordBitsa mo_seenWordBits mo_topic mo_backs mo_backa mo_back mo_forwards mo_forwarda mo_forward mo_typed mo_querya mo_query mo_visits mo_valuesa mo_values mo_valued mo_signsa mo_signs mo_signed mo_width mo_lines mo_lineFroma mo_lineFrom mo_lineSizea mo_lineSize mo_shown mo_texta mo_text mo_partLength mo_parta mo_part)) → va_S A s.heap H locs → T_Model_put res mo_thrown' mo_source' mo_size' n 3 x1 x2 b3 x4 x5 mo_thrown mo_source mo_size → W p l e ({ frames := 1, cells := 0, slots := 0, locals := 22 }) s m ([.ref mo, .int k0] : List Value).toArray below meth c H locs 0 0 (MQ below (Qs (dC, dI) classes (Tys cI cL cZ) (some (.int res)) ((sh_Model cI cL cZ mo mo_thrown' mo_sourcea mo_source' mo_size' mo_faultLine mo_fault mo_topics mo_namesa mo_names mo_bodiesa mo_bodies mo_lengthsa mo_lengths mo_headingsa mo_headings mo_keywords mo_keyLettersa mo_keyLetters mo_keyLengthsa mo_keyLengths mo_keyBitsa mo_keyBits mo_words mo_wordLettersa mo_wordLetters mo_wordLengthsa mo_wordLengths mo_wordBitsa mo_wordBits mo_links mo_linkAta mo_linkAt mo_linkLengtha mo_linkLength mo_linkLinea mo_linkLine mo_linkToa mo_linkTo mo_inParagraph mo_emphasis mo_blank mo_lastLine mo_imageSize mo_imagea mo_image mo_compares mo_unlike mo_out mo_total mo_literal mo_handLength mo_handa mo_hand mo_isOpen mo_seenTopics mo_seenNamesa mo_seenNames mo_seenBodiesa mo_seenBodies mo_seenLengthsa mo_seenLengths mo_seenKeywords mo_seenKeyLettersa mo_seenKeyLetters mo_seenKeyLengthsa mo_seenKeyLengths mo_seenKeyBitsa mo_seenKeyBits mo_seenWords mo_seenWordLettersa mo_seenWordLetters mo_seenWordLengthsa mo_seenWordLengths mo_seenWordBitsa mo_seenWordBits mo_topic mo_backs mo_backa mo_back mo_forwards mo_forwarda mo_forward mo_typed mo_querya mo_query mo_visits mo_valuesa mo_values mo_valued mo_signsa mo_signs mo_signed mo_width mo_lines mo_lineFroma mo_lineFrom mo_lineSizea mo_lineSize mo_shown mo_texta mo_text mo_partLength mo_parta mo_part)) A) ([.ref mo, .int k0] : List Value).toArray s 0 0 A) (F0 m 60 ls [])) ∧ (∀ (x1 : Int32) (mo_thrown : Int32) (mo_source : Nat → Int32) (mo_size : Int32) (ls : Array Slot) (H : Heap) (locs : List Loc), lv_has ls 6 [(0, .ref mo), (1, .int x1)] → va_P (dC, dI) classes ((sh_Model cI cL cZ mo mo_thrown mo_sourcea mo_source mo_size mo_faultLine mo_fault mo_topics mo_namesa mo_names mo_bodiesa mo_bodies mo_lengthsa mo_lengths mo_headingsa mo_headings mo_keywords mo_keyLettersa mo_keyLetters mo_keyLengthsa mo_keyLengths mo_keyBitsa mo_keyBits mo_words mo_wordLettersa mo_wordLetters mo_wordLengthsa mo_wordLengths mo_wordBitsa mo_wordBits mo_links mo_linkAta mo_linkAt mo_linkLengtha mo_linkLength mo_linkLinea mo_linkLine mo_linkToa mo_linkTo mo_inParagraph mo_emphasis mo_blank mo_lastLine mo_imageSize mo_imagea mo_image mo_compares mo_unlike mo_out mo_total mo_literal mo_handLength mo_handa mo_hand mo_isOpen mo_seenTopics mo_seenNamesa mo_seenNames mo_seenBodiesa mo_seenBodies mo_seenLengthsa mo_seenLengths mo_seenKeywords mo_seenKeyLettersa mo_seenKeyLetters mo_seenKeyLengthsa mo_seenKeyLengths mo_seenKeyBitsa mo_seenKeyBits mo_seenWords mo_seenWordLettersa mo_seenWordLetters mo_seenWordLengthsa mo_seenWordLengths mo_seenWordBitsa mo_seenWordBits mo_topic mo_backs mo_backa mo_back mo_forwards mo_forwarda mo_forward mo_typed mo_querya mo_query mo_visits mo_valuesa mo_values mo_valued mo_signsa mo_signs mo_signed mo_width mo_lines mo_lineFroma mo_lineFrom mo_lineSizea mo_lineSize mo_shown mo_texta mo_text mo_partLength mo_parta mo_part)) H → va_D A ((sh_Model cI cL cZ mo mo_thrown mo_sourcea mo_source mo_size mo_faultLine mo_fault mo_topics mo_namesa mo_names mo_bodiesa mo_bodies mo_lengthsa mo_lengths mo_headingsa mo_headings mo_keywords mo_keyLettersa mo_keyLetters mo_keyLengthsa mo_keyLengths mo_keyBitsa mo_keyBits mo_words mo_wordLettersa mo_wordLetters mo_wordLengthsa mo_wordLengths mo_wordBitsa mo_wordBits mo_links mo_linkAta mo_linkAt mo_linkLengtha mo_linkLength mo_linkLinea mo_linkLine mo_linkToa mo_linkTo mo_inParagraph mo_emphasis mo_blank mo_lastLine mo_imageSize mo_imagea mo_image mo_compares mo_unlike mo_out mo_total mo_literal mo_handLength mo_handa mo_hand mo_isOpen mo_seenTopics mo_seenNamesa mo_seenNames mo_seenBodiesa mo_seenBodies mo_seenLengthsa mo_seenLengths mo_seenKeywords mo_seenKeyLettersa mo_seenKeyLetters mo_seenKeyLengthsa mo_seenKeyLengths mo_seenKeyBitsa mo_seenKeyBits mo_seenWords mo_seenWordLettersa mo_seenWordLetters mo_seenWordLengthsa mo_seenWordLengths mo_seenWordBitsa mo_seenWordBits mo_topic mo_backs mo_backa mo_back mo_forwards mo_forwarda mo_forward mo_typed mo_querya mo_query mo_visits mo_valuesa mo_values mo_valued mo_signsa mo_signs mo_signed mo_width mo_lines mo_lineFroma mo_lineFrom mo_lineSizea mo_lineSize mo_shown mo_texta mo_text mo_partLength mo_parta mo_part)) → va_S A s.heap H locs → T_Model_put res mo_thrown' mo_source' mo_size' n 4 x1 0 false 0 0 mo_thrown mo_source mo_size → W p l e ({ frames := 1, cells := 0, slots := 0, locals := 22 }) s m ([.ref mo, .int k0] : List Value).toArray below meth c H locs 0 0 (MQ below (Qs (dC, dI) classes (Tys cI cL cZ) (some (.int res)) ((sh_Model cI cL cZ mo mo_thrown' mo_sourcea mo_source' mo_size' mo_faultLine mo_fault mo_topics mo_namesa mo_names mo_bodiesa mo_bodies mo_lengthsa mo_lengths mo_headingsa mo_headings mo_keywords mo_keyLettersa mo_keyLetters mo_keyLengthsa mo_keyLengths mo_keyBitsa mo_keyBits mo_words mo_wordLettersa mo_wordLetters mo_wordLengthsa mo_wordLengths mo_wordBitsa mo_wordBits mo_links mo_linkAta mo_linkAt mo_linkLengtha mo_linkLength mo_linkLinea mo_linkLine mo_linkToa mo_linkTo mo_inParagraph mo_emphasis mo_blank mo_lastLine mo_imageSize mo_imagea mo_image mo_compares mo_unlike mo_out mo_total mo_literal mo_handLength mo_handa mo_hand mo_isOpen mo_seenTopics mo_seenNamesa mo_seenNames mo_seenBodiesa mo_seenBodies mo_seenLengthsa mo_seenLengths mo_seenKeywords mo_seenKeyLettersa mo_seenKeyLetters mo_seenKeyLengthsa mo_seenKeyLengths mo_seenKeyBitsa mo_seenKeyBits mo_seenWords mo_seenWordLettersa mo_seenWordLetters mo_seenWordLengthsa mo_seenWordLengths mo_seenWordBitsa mo_seenWordBits mo_topic mo_backs mo_backa mo_back mo_forwards mo_forwarda mo_forward mo_typed mo_querya mo_query mo_visits mo_valuesa mo_values mo_valued mo_signsa mo_signs mo_signed mo_width mo_lines mo_lineFroma mo_lineFrom mo_lineSizea mo_lineSize mo_shown mo_texta mo_text mo_partLength mo_parta mo_part)) A) ([.ref mo, .int k0] : List Value).toArray s 0 0 A) (F0 m 114 ls [])) ∧ (∀ (x1 : Int32) (x4 : Int32) (mo_thrown : Int32) (mo_source : Nat → Int32) (mo_size : Int32) (ls : Array Slot) (H : Heap) (locs : List Loc), lv_has ls 6 [(0, .ref mo), (1, .int x1), (4, .int x4)] → va_P (dC, dI) classes ((sh_Model cI cL cZ mo mo_thrown mo_sourcea mo_source mo_size mo_faultLine mo_fault mo_topics mo_namesa mo_names mo_bodiesa mo_bodies mo_lengthsa mo_lengths mo_headingsa mo_headings mo_keywords mo_keyLettersa mo_keyLetters mo_keyLengthsa mo_keyLengths mo_keyBitsa mo_keyBits mo_words mo_wordLettersa mo_wordLetters mo_wordLengthsa mo_wordLengths mo_wordBitsa mo_wordBits mo_links mo_linkAta mo_linkAt mo_linkLengtha mo_linkLength mo_linkLinea mo_linkLine mo_linkToa mo_linkTo mo_inParagraph mo_emphasis mo_blank mo_lastLine mo_imageSize mo_imagea mo_image mo_compares mo_unlike mo_out mo_total mo_literal mo_handLength mo_handa mo_hand mo_isOpen mo_seenTopics mo_seenNamesa mo_seenNames mo_seenBodiesa mo_seenBodies mo_seenLengthsa mo_seenLengths mo_seenKeywords mo_seenKeyLettersa mo_seenKeyLetters mo_seenKeyLengthsa mo_seenKeyLengths mo_seenKeyBitsa mo_seenKeyBits mo_seenWords mo_seenWordLettersa mo_seenWordLetters mo_seenWordLengthsa mo_seenWordLengths mo_seenWordBitsa mo_seenWordBits mo_topic mo_backs mo_backa mo_back mo_forwards mo_forwarda mo_forward mo_typed mo_querya mo_query mo_visits mo_valuesa mo_values mo_valued mo_signsa mo_signs mo_signed mo_width mo_lines mo_lineFroma mo_lineFrom mo_lineSizea mo_lineSize mo_shown mo_texta mo_text mo_partLength mo_parta mo_part)) H → va_D A ((sh_Model cI cL cZ mo mo_thrown mo_sourcea mo_source mo_size mo_faultLine mo_fault mo_topics mo_namesa mo_names mo_bodiesa mo_bodies mo_lengthsa mo_lengths mo_headingsa mo_headings mo_keywords mo_keyLettersa mo_keyLetters mo_keyLengthsa mo_keyLengths mo_keyBitsa mo_keyBits mo_words mo_wordLettersa mo_wordLetters mo_wordLengthsa mo_wordLengths mo_wordBitsa mo_wordBits mo_links mo_linkAta mo_linkAt mo_linkLengtha mo_linkLength mo_linkLinea mo_linkLine mo_linkToa mo_linkTo mo_inParagraph mo_emphasis mo_blank mo_lastLine mo_imageSize mo_imagea mo_image mo_compares mo_unlike mo_out mo_total mo_literal mo_handLength mo_handa mo_hand mo_isOpen mo_seenTopics mo_seenNamesa mo_seenNames mo_seenBodiesa mo_seenBodies mo_seenLengthsa mo_seenLengths mo_seenKeywords mo_seenKeyLettersa mo_seenKeyLetters mo_seenKeyLengthsa mo_seenKeyLengths mo_seenKeyBitsa mo_seenKeyBits mo_seenWords mo_seenWordLettersa mo_seenWordLetters mo_seenWordLengthsa mo_seenWordLengths mo_seenWordBitsa mo_seenWordBits mo_topic mo_backs mo_backa mo_back mo_forwards mo_forwarda mo_forward mo_typed mo_querya mo_query mo_visits mo_valuesa mo_values mo_valued mo_signsa mo_signs mo_signed mo_width mo_lines mo_lineFroma mo_lineFrom mo_lineSizea mo_lineSize mo_shown mo_texta mo_text mo_partLength mo_parta mo_part)) → va_S A s.heap H locs → T_Model_put res mo_thrown' mo_source' mo_size' n 5 x1 0 false x4 0 mo_thrown mo_source mo_size → W p l e ({ frames := 1, cells := 0, slots := 0, locals := 22 }) s m ([.ref mo, .int k0] : List Value).toArray below meth c H locs 0 0 (MQ below (Qs (dC, dI) classes (Tys cI cL cZ) (some (.int res)) ((sh_Model cI cL cZ mo mo_thrown' mo_sourcea mo_source' mo_size' mo_faultLine mo_fault mo_topics mo_namesa mo_names mo_bodiesa mo_bodies mo_lengthsa mo_lengths mo_headingsa mo_headings mo_keywords mo_keyLettersa mo_keyLetters mo_keyLengthsa mo_keyLengths mo_keyBitsa mo_keyBits mo_words mo_wordLettersa mo_wordLetters mo_wordLengthsa mo_wordLengths mo_wordBitsa mo_wordBits mo_links mo_linkAta mo_linkAt mo_linkLengtha mo_linkLength mo_linkLinea mo_linkLine mo_linkToa mo_linkTo mo_inParagraph mo_emphasis mo_blank mo_lastLine mo_imageSize mo_imagea mo_image mo_compares mo_unlike mo_out mo_total mo_literal mo_handLength mo_handa mo_hand mo_isOpen mo_seenTopics mo_seenNamesa mo_seenNames mo_seenBodiesa mo_seenBodies mo_seenLengthsa mo_seenLengths mo_seenKeywords mo_seenKeyLettersa mo_seenKeyLetters mo_seenKeyLengthsa mo_seenKeyLengths mo_seenKeyBitsa mo_seenKeyBits mo_seenWords mo_seenWordLettersa mo_seenWordLetters mo_seenWordLengthsa mo_seenWordLengths mo_seenWordBitsa mo_seenWordBits mo_topic mo_backs mo_backa mo_back mo_forwards mo_forwarda mo_forward mo_typed mo_querya mo_query mo_visits mo_valuesa mo_values mo_valued mo_signsa mo_signs mo_signed mo_width mo_lines mo_lineFroma mo_lineFrom mo_lineSizea mo_lineSize mo_shown mo_texta mo_text mo_partLength mo_parta mo_part)) A) ([.ref mo, .int k0] : List Value).toArray s 0 0 A) (F0 m 117 ls [])) := by
    intro n
    induction n with
    | zero =>
      exact ⟨fun _ _ _ _ _ _ _ _ _ _ _ _ _ _ hd => False.elim hd, fun _ _ _ _ _ _ _ _ _ _ _ _ _ _ hd => False.elim hd, fun _ _ _ _ _ _ _ _ _ _ _ _ _ _ hd => False.elim hd, fun _ _ _ _ _ _ _ _ _ _ _ _ _ _ _ hd => False.elim hd, fun _ _ _ _ _ _ _ _ _ _ _ hd => False.elim hd, fun _ _ _ _ _ _ _ _ _ _ _ _ hd => False.elim hd⟩
    | succ n ih =>
      refine ⟨?_, ?_, ?_, ?_, ?_, ?_⟩
      · intro x1 x2 b3 x4 mo_thrown mo_source mo_size ls H locs hl hP hD hS hd
        have hd : B_Model_put_7 res mo_thrown' mo_source' mo_size' (T_Model_put res mo_thrown' mo_source' mo_size' n) x1 x2 b3 x4 mo_thrown mo_source mo_size := hd
        refine lv_iload hx hb d_Model_put_7 (lv_at hl 4 rfl) ?_
        refine lv_iconst (v := 4) hx hb d_Model_put_9 (by decide) ?_
        refine lv_icmp_ge (tgt := 79) hx hb d_Model_put_10 (by decide) (fun h10 => ?_) (fun h10 => ?_)
        · have hd := hd.1 h10
          refine lv_aload_n hx hb d_Model_put_79 rfl (lv_at hl 0 rfl) ?_
          refine lv_iload_n hx hb d_Model_put_80 rfl (lv_at hl 3 rfl) ?_
          refine lv_if_ne (tgt := 88) hx hb d_Model_put_81 (by decide) (fun h81 => ?_) (fun h81 => ?_)
          · have hd := hd.2 h81
            refine lv_iconst (v := 0) hx hb d_Model_put_88 (by decide) ?_
            refine lv_aload_n hx hb d_Model_put_89 rfl (lv_at hl 0 rfl) ?_
            refine va_get (D := (dC, dI)) (ci := 9) (v := .int mo_size) (C := R_Model) (T := F_Model) (N := 69) hx hb hts in_Model hown hK hP 0 rfl rfl 2 (by decide) (hts _ (List.mem_cons_of_mem _ k484_fieldLink)) (fun _ h9 => h9) rfl d_Model_put_90 ?_
            refine lv_iload_n hx hb d_Model_put_93 rfl (lv_at hl 2 rfl) ?_
            refine lv_iadd hx hb d_Model_put_94 ?_
            refine lv_sipush (v := 700) hx hb d_Model_put_95 (by decide) ?_
            refine lv_icmp_le (tgt := 105) hx hb d_Model_put_98 (by decide) (fun h98 => ?_) (fun h98 => ?_)
            · have hd := hd.1 h98
              refine lv_iconst (v := 0) hx hb d_Model_put_105 (by decide) ?_
              obtain ⟨r106, mo_thrown_106, c106, hd⟩ := hd
              refine ct_V (As := [.int 0, .int 0]) (rest := []) (C := R_Model) (ci := 9) (q := (R_Model, F_Model, 69)) ⟨hx, hb, hml, hown, hts⟩ fm_Model_refuse (c_Model_refuse l dC dI cI cL cZ mo mo_thrown mo_sourcea mo_source mo_size mo_faultLine mo_fault mo_topics mo_namesa mo_names mo_bodiesa mo_bodies mo_lengthsa mo_lengths mo_headingsa mo_headings mo_keywords mo_keyLettersa mo_keyLetters mo_keyLengthsa mo_keyLengths mo_keyBitsa mo_keyBits mo_words mo_wordLettersa mo_wordLetters mo_wordLengthsa mo_wordLengths mo_wordBitsa mo_wordBits mo_links mo_linkAta mo_linkAt mo_linkLengtha mo_linkLength mo_linkLinea mo_linkLine mo_linkToa mo_linkTo mo_inParagraph mo_emphasis mo_blank mo_lastLine mo_imageSize mo_imagea mo_image mo_compares mo_unlike mo_out mo_total mo_literal mo_handLength mo_handa mo_hand mo_isOpen mo_seenTopics mo_seenNamesa mo_seenNames mo_seenBodiesa mo_seenBodies mo_seenLengthsa mo_seenLengths mo_seenKeywords mo_seenKeyLettersa mo_seenKeyLetters mo_seenKeyLengthsa mo_seenKeyLengths mo_seenKeyBitsa mo_seenKeyBits mo_seenWords mo_seenWordLettersa mo_seenWordLetters mo_seenWordLengthsa mo_seenWordLengths mo_seenWordBitsa mo_seenWordBits mo_topic mo_backs mo_backa mo_back mo_forwards mo_forwarda mo_forward mo_typed mo_querya mo_query mo_visits mo_valuesa mo_values mo_valued mo_signsa mo_signs mo_signed mo_width mo_lines mo_lineFroma mo_lineFrom mo_lineSizea mo_lineSize mo_shown mo_texta mo_text mo_partLength mo_parta mo_part false false r106 mo_thrown_106 c106) k485_methodLink k486_instanceMethod k487_selects ⟨Nat.le_of_ble_eq_true rfl, Nat.le_of_ble_eq_true rfl⟩ rfl rfl hK hN hP hD hS hA [0, 1, 2, 3, 4, 5, 6, 7, 8, 9, 10, 11, 12, 13, 14, 15, 16, 17, 18, 19, 20, 21, 22, 23, 24, 25, 26, 27, 28, 29, 30, 31, 32, 33, 34, 35] [] rfl rfl rfl (by decide) (by decide) (by decide) 0 rfl rfl rfl rfl hl.1 rfl (Nat.le_of_ble_eq_true rfl) d_Model_put_106 (fun H locs hP hD hS => ?_)
              have hP : va_P (dC, dI) classes ((sh_Model cI cL cZ mo mo_thrown_106 mo_sourcea mo_source mo_size mo_faultLine mo_fault mo_topics mo_namesa mo_names mo_bodiesa mo_bodies mo_lengthsa mo_lengths mo_headingsa mo_headings mo_keywords mo_keyLettersa mo_keyLetters mo_keyLengthsa mo_keyLengths mo_keyBitsa mo_keyBits mo_words mo_wordLettersa mo_wordLetters mo_wordLengthsa mo_wordLengths mo_wordBitsa mo_wordBits mo_links mo_linkAta mo_linkAt mo_linkLengtha mo_linkLength mo_linkLinea mo_linkLine mo_linkToa mo_linkTo mo_inParagraph mo_emphasis mo_blank mo_lastLine mo_imageSize mo_imagea mo_image mo_compares mo_unlike mo_out mo_total mo_literal mo_handLength mo_handa mo_hand mo_isOpen mo_seenTopics mo_seenNamesa mo_seenNames mo_seenBodiesa mo_seenBodies mo_seenLengthsa mo_seenLengths mo_seenKeywords mo_seenKeyLettersa mo_seenKeyLetters mo_seenKeyLengthsa mo_seenKeyLengths mo_seenKeyBitsa mo_seenKeyBits mo_seenWords mo_seenWordLettersa mo_seenWordLetters mo_seenWordLengthsa mo_seenWordLengths mo_seenWordBitsa mo_seenWordBits mo_topic mo_backs mo_backa mo_back mo_forwards mo_forwarda mo_forward mo_typed mo_querya mo_query mo_visits mo_valuesa mo_values mo_valued mo_signsa mo_signs mo_signed mo_width mo_lines mo_lineFroma mo_lineFrom mo_lineSizea mo_lineSize mo_shown mo_texta mo_text mo_partLength mo_parta mo_part)) H := hP.sub [0, 1, 2, 3, 4, 5, 6, 7, 8, 9, 10, 11, 12, 13, 14, 15, 16, 17, 18, 19, 20, 21, 22, 23, 24, 25, 26, 27, 28, 29, 30, 31, 32, 33, 34, 35] rfl
              have hD : va_D A ((sh_Model cI cL cZ mo mo_thrown_106 mo_sourcea mo_source mo_size mo_faultLine mo_fault mo_topics mo_namesa mo_names mo_bodiesa mo_bodies mo_lengthsa mo_lengths mo_headingsa mo_headings mo_keywords mo_keyLettersa mo_keyLetters mo_keyLengthsa mo_keyLengths mo_keyBitsa mo_keyBits mo_words mo_wordLettersa mo_wordLetters mo_wordLengthsa mo_wordLengths mo_wordBitsa mo_wordBits mo_links mo_linkAta mo_linkAt mo_linkLengtha mo_linkLength mo_linkLinea mo_linkLine mo_linkToa mo_linkTo mo_inParagraph mo_emphasis mo_blank mo_lastLine mo_imageSize mo_imagea mo_image mo_compares mo_unlike mo_out mo_total mo_literal mo_handLength mo_handa mo_hand mo_isOpen mo_seenTopics mo_seenNamesa mo_seenNames mo_seenBodiesa mo_seenBodies mo_seenLengthsa mo_seenLengths mo_seenKeywords mo_seenKeyLettersa mo_seenKeyLetters mo_seenKeyLengthsa mo_seenKeyLengths mo_seenKeyBitsa mo_seenKeyBits mo_seenWords mo_seenWordLettersa mo_seenWordLetters mo_seenWordLengthsa mo_seenWordLengths mo_seenWordBitsa mo_seenWordBits mo_topic mo_backs mo_backa mo_back mo_forwards mo_forwarda mo_forward mo_typed mo_querya mo_query mo_visits mo_valuesa mo_values mo_valued mo_signsa mo_signs mo_signed mo_width mo_lines mo_lineFroma mo_lineFrom mo_lineSizea mo_lineSize mo_shown mo_texta mo_text mo_partLength mo_parta mo_part)) := hD.sub [0, 1, 2, 3, 4, 5, 6, 7, 8, 9, 10, 11, 12, 13, 14, 15, 16, 17, 18, 19, 20, 21, 22, 23, 24, 25, 26, 27, 28, 29, 30, 31, 32, 33, 34, 35] (by decide) rfl
              refine lv_if_eq (tgt := 114) hx hb d_Model_put_109 (by decide) (fun h109 => ?_) (fun h109 => ?_)
              · have hd := hd.1 h109
                exact ih.2.2.2.2.1 x1 mo_thrown_106 mo_source mo_size _ _ _ (lv_sub hl [0, 1] rfl) hP hD hS hd
              · have hd := hd.2 h109
                refine lv_iconst (v := 0) hx hb d_Model_put_112 (by decide) ?_
                obtain ⟨e0, e1, e2, e3⟩ := hd
                subst e0
                subst e1
                subst e2
                subst e3
                exact ct_iret hx hb hr hlocks hK hP hD hS d_Model_put_113
            · have hd := hd.2 h98
              refine lv_iconst (v := 1) hx hb d_Model_put_101 (by decide) ?_
              refine lv_goto (tgt := 106) hx hb d_Model_put_102 (by decide) ?_
              obtain ⟨r106, mo_thrown_106, c106, hd⟩ := hd
              refine ct_V (As := [.int 0, .int 1]) (rest := []) (C := R_Model) (ci := 9) (q := (R_Model, F_Model, 69)) ⟨hx, hb, hml, hown, hts⟩ fm_Model_refuse (c_Model_refuse l dC dI cI cL cZ mo mo_thrown mo_sourcea mo_source mo_size mo_faultLine mo_fault mo_topics mo_namesa mo_names mo_bodiesa mo_bodies mo_lengthsa mo_lengths mo_headingsa mo_headings mo_keywords mo_keyLettersa mo_keyLetters mo_keyLengthsa mo_keyLengths mo_keyBitsa mo_keyBits mo_words mo_wordLettersa mo_wordLetters mo_wordLengthsa mo_wordLengths mo_wordBitsa mo_wordBits mo_links mo_linkAta mo_linkAt mo_linkLengtha mo_linkLength mo_linkLinea mo_linkLine mo_linkToa mo_linkTo mo_inParagraph mo_emphasis mo_blank mo_lastLine mo_imageSize mo_imagea mo_image mo_compares mo_unlike mo_out mo_total mo_literal mo_handLength mo_handa mo_hand mo_isOpen mo_seenTopics mo_seenNamesa mo_seenNames mo_seenBodiesa mo_seenBodies mo_seenLengthsa mo_seenLengths mo_seenKeywords mo_seenKeyLettersa mo_seenKeyLetters mo_seenKeyLengthsa mo_seenKeyLengths mo_seenKeyBitsa mo_seenKeyBits mo_seenWords mo_seenWordLettersa mo_seenWordLetters mo_seenWordLengthsa mo_seenWordLengths mo_seenWordBitsa mo_seenWordBits mo_topic mo_backs mo_backa mo_back mo_forwards mo_forwarda mo_forward mo_typed mo_querya mo_query mo_visits mo_valuesa mo_values mo_valued mo_signsa mo_signs mo_signed mo_width mo_lines mo_lineFroma mo_lineFrom mo_lineSizea mo_lineSize mo_shown mo_texta mo_text mo_partLength mo_parta mo_part false true r106 mo_thrown_106 c106) k485_methodLink k486_instanceMethod k487_selects ⟨Nat.le_of_ble_eq_true rfl, Nat.le_of_ble_eq_true rfl⟩ rfl rfl hK hN hP hD hS hA [0, 1, 2, 3, 4, 5, 6, 7, 8, 9, 10, 11, 12, 13, 14, 15, 16, 17, 18, 19, 20, 21, 22, 23, 24, 25, 26, 27, 28, 29, 30, 31, 32, 33, 34, 35] [] rfl rfl rfl (by decide) (by decide) (by decide) 0 rfl rfl rfl rfl hl.1 rfl (Nat.le_of_ble_eq_true rfl) d_Model_put_106 (fun H locs hP hD hS => ?_)
              have hP : va_P (dC, dI) classes ((sh_Model cI cL cZ mo mo_thrown_106 mo_sourcea mo_source mo_size mo_faultLine mo_fault mo_topics mo_namesa mo_names mo_bodiesa mo_bodies mo_lengthsa mo_lengths mo_headingsa mo_headings mo_keywords mo_keyLettersa mo_keyLetters mo_keyLengthsa mo_keyLengths mo_keyBitsa mo_keyBits mo_words mo_wordLettersa mo_wordLetters mo_wordLengthsa mo_wordLengths mo_wordBitsa mo_wordBits mo_links mo_linkAta mo_linkAt mo_linkLengtha mo_linkLength mo_linkLinea mo_linkLine mo_linkToa mo_linkTo mo_inParagraph mo_emphasis mo_blank mo_lastLine mo_imageSize mo_imagea mo_image mo_compares mo_unlike mo_out mo_total mo_literal mo_handLength mo_handa mo_hand mo_isOpen mo_seenTopics mo_seenNamesa mo_seenNames mo_seenBodiesa mo_seenBodies mo_seenLengthsa mo_seenLengths mo_seenKeywords mo_seenKeyLettersa mo_seenKeyLetters mo_seenKeyLengthsa mo_seenKeyLengths mo_seenKeyBitsa mo_seenKeyBits mo_seenWords mo_seenWordLettersa mo_seenWordLetters mo_seenWordLengthsa mo_seenWordLengths mo_seenWordBitsa mo_seenWordBits mo_topic mo_backs mo_backa mo_back mo_forwards mo_forwarda mo_forward mo_typed mo_querya mo_query mo_visits mo_valuesa mo_values mo_valued mo_signsa mo_signs mo_signed mo_width mo_lines mo_lineFroma mo_lineFrom mo_lineSizea mo_lineSize mo_shown mo_texta mo_text mo_partLength mo_parta mo_part)) H := hP.sub [0, 1, 2, 3, 4, 5, 6, 7, 8, 9, 10, 11, 12, 13, 14, 15, 16, 17, 18, 19, 20, 21, 22, 23, 24, 25, 26, 27, 28, 29, 30, 31, 32, 33, 34, 35] rfl
              have hD : va_D A ((sh_Model cI cL cZ mo mo_thrown_106 mo_sourcea mo_source mo_size mo_faultLine mo_fault mo_topics mo_namesa mo_names mo_bodiesa mo_bodies mo_lengthsa mo_lengths mo_headingsa mo_headings mo_keywords mo_keyLettersa mo_keyLetters mo_keyLengthsa mo_keyLengths mo_keyBitsa mo_keyBits mo_words mo_wordLettersa mo_wordLetters mo_wordLengthsa mo_wordLengths mo_wordBitsa mo_wordBits mo_links mo_linkAta mo_linkAt mo_linkLengtha mo_linkLength mo_linkLinea mo_linkLine mo_linkToa mo_linkTo mo_inParagraph mo_emphasis mo_blank mo_lastLine mo_imageSize mo_imagea mo_image mo_compares mo_unlike mo_out mo_total mo_literal mo_handLength mo_handa mo_hand mo_isOpen mo_seenTopics mo_seenNamesa mo_seenNames mo_seenBodiesa mo_seenBodies mo_seenLengthsa mo_seenLengths mo_seenKeywords mo_seenKeyLettersa mo_seenKeyLetters mo_seenKeyLengthsa mo_seenKeyLengths mo_seenKeyBitsa mo_seenKeyBits mo_seenWords mo_seenWordLettersa mo_seenWordLetters mo_seenWordLengthsa mo_seenWordLengths mo_seenWordBitsa mo_seenWordBits mo_topic mo_backs mo_backa mo_back mo_forwards mo_forwarda mo_forward mo_typed mo_querya mo_query mo_visits mo_valuesa mo_values mo_valued mo_signsa mo_signs mo_signed mo_width mo_lines mo_lineFroma mo_lineFrom mo_lineSizea mo_lineSize mo_shown mo_texta mo_text mo_partLength mo_parta mo_part)) := hD.sub [0, 1, 2, 3, 4, 5, 6, 7, 8, 9, 10, 11, 12, 13, 14, 15, 16, 17, 18, 19, 20, 21, 22, 23, 24, 25, 26, 27, 28, 29, 30, 31, 32, 33, 34, 35] (by decide) rfl
              refine lv_if_eq (tgt := 114) hx hb d_Model_put_109 (by decide) (fun h109 => ?_) (fun h109 => ?_)
              · have hd := hd.1 h109
                exact ih.2.2.2.2.1 x1 mo_thrown_106 mo_source mo_size _ _ _ (lv_sub hl [0, 1] rfl) hP hD hS hd
              · have hd := hd.2 h109
                refine lv_iconst (v := 0) hx hb d_Model_put_112 (by decide) ?_
                obtain ⟨e0, e1, e2, e3⟩ := hd
                subst e0
                subst e1
                subst e2
                subst e3
                exact ct_iret hx hb hr hlocks hK hP hD hS d_Model_put_113
          · have hd := hd.1 h81
            refine lv_iconst (v := 1) hx hb d_Model_put_84 (by decide) ?_
            refine lv_goto (tgt := 89) hx hb d_Model_put_85 (by decide) ?_
            refine lv_aload_n hx hb d_Model_put_89 rfl (lv_at hl 0 rfl) ?_
            refine va_get (D := (dC, dI)) (ci := 9) (v := .int mo_size) (C := R_Model) (T := F_Model) (N := 69) hx hb hts in_Model hown hK hP 0 rfl rfl 2 (by decide) (hts _ (List.mem_cons_of_mem _ k484_fieldLink)) (fun _ h9 => h9) rfl d_Model_put_90 ?_
            refine lv_iload_n hx hb d_Model_put_93 rfl (lv_at hl 2 rfl) ?_
            refine lv_iadd hx hb d_Model_put_94 ?_
            refine lv_sipush (v := 700) hx hb d_Model_put_95 (by decide) ?_
            refine lv_icmp_le (tgt := 105) hx hb d_Model_put_98 (by decide) (fun h98 => ?_) (fun h98 => ?_)
            · have hd := hd.1 h98
              refine lv_iconst (v := 0) hx hb d_Model_put_105 (by decide) ?_
              obtain ⟨r106, mo_thrown_106, c106, hd⟩ := hd
              refine ct_V (As := [.int 1, .int 0]) (rest := []) (C := R_Model) (ci := 9) (q := (R_Model, F_Model, 69)) ⟨hx, hb, hml, hown, hts⟩ fm_Model_refuse (c_Model_refuse l dC dI cI cL cZ mo mo_thrown mo_sourcea mo_source mo_size mo_faultLine mo_fault mo_topics mo_namesa mo_names mo_bodiesa mo_bodies mo_lengthsa mo_lengths mo_headingsa mo_headings mo_keywords mo_keyLettersa mo_keyLetters mo_keyLengthsa mo_keyLengths mo_keyBitsa mo_keyBits mo_words mo_wordLettersa mo_wordLetters mo_wordLengthsa mo_wordLengths mo_wordBitsa mo_wordBits mo_links mo_linkAta mo_linkAt mo_linkLengtha mo_linkLength mo_linkLinea mo_linkLine mo_linkToa mo_linkTo mo_inParagraph mo_emphasis mo_blank mo_lastLine mo_imageSize mo_imagea mo_image mo_compares mo_unlike mo_out mo_total mo_literal mo_handLength mo_handa mo_hand mo_isOpen mo_seenTopics mo_seenNamesa mo_seenNames mo_seenBodiesa mo_seenBodies mo_seenLengthsa mo_seenLengths mo_seenKeywords mo_seenKeyLettersa mo_seenKeyLetters mo_seenKeyLengthsa mo_seenKeyLengths mo_seenKeyBitsa mo_seenKeyBits mo_seenWords mo_seenWordLettersa mo_seenWordLetters mo_seenWordLengthsa mo_seenWordLengths mo_seenWordBitsa mo_seenWordBits mo_topic mo_backs mo_backa mo_back mo_forwards mo_forwarda mo_forward mo_typed mo_querya mo_query mo_visits mo_valuesa mo_values mo_valued mo_signsa mo_signs mo_signed mo_width mo_lines mo_lineFroma mo_lineFrom mo_lineSizea mo_lineSize mo_shown mo_texta mo_text mo_partLength mo_parta mo_part true false r106 mo_thrown_106 c106) k485_methodLink k486_instanceMethod k487_selects ⟨Nat.le_of_ble_eq_true rfl, Nat.le_of_ble_eq_true rfl⟩ rfl rfl hK hN hP hD hS hA [0, 1, 2, 3, 4, 5, 6, 7, 8, 9, 10, 11, 12, 13, 14, 15, 16, 17, 18, 19, 20, 21, 22, 23, 24, 25, 26, 27, 28, 29, 30, 31, 32, 33, 34, 35] [] rfl rfl rfl (by decide) (by decide) (by decide) 0 rfl rfl rfl rfl hl.1 rfl (Nat.le_of_ble_eq_true rfl) d_Model_put_106 (fun H locs hP hD hS => ?_)
              have hP : va_P (dC, dI) classes ((sh_Model cI cL cZ mo mo_thrown_106 mo_sourcea mo_source mo_size mo_faultLine mo_fault mo_topics mo_namesa mo_names mo_bodiesa mo_bodies mo_lengthsa mo_lengths mo_headingsa mo_headings mo_keywords mo_keyLettersa mo_keyLetters mo_keyLengthsa mo_keyLengths mo_keyBitsa mo_keyBits mo_words mo_wordLettersa mo_wordLetters mo_wordLengthsa mo_wordLengths mo_wordBitsa mo_wordBits mo_links mo_linkAta mo_linkAt mo_linkLengtha mo_linkLength mo_linkLinea mo_linkLine mo_linkToa mo_linkTo mo_inParagraph mo_emphasis mo_blank mo_lastLine mo_imageSize mo_imagea mo_image mo_compares mo_unlike mo_out mo_total mo_literal mo_handLength mo_handa mo_hand mo_isOpen mo_seenTopics mo_seenNamesa mo_seenNames mo_seenBodiesa mo_seenBodies mo_seenLengthsa mo_seenLengths mo_seenKeywords mo_seenKeyLettersa mo_seenKeyLetters mo_seenKeyLengthsa mo_seenKeyLengths mo_seenKeyBitsa mo_seenKeyBits mo_seenWords mo_seenWordLettersa mo_seenWordLetters mo_seenWordLengthsa mo_seenWordLengths mo_seenWordBitsa mo_seenWordBits mo_topic mo_backs mo_backa mo_back mo_forwards mo_forwarda mo_forward mo_typed mo_querya mo_query mo_visits mo_valuesa mo_values mo_valued mo_signsa mo_signs mo_signed mo_width mo_lines mo_lineFroma mo_lineFrom mo_lineSizea mo_lineSize mo_shown mo_texta mo_text mo_partLength mo_parta mo_part)) H := hP.sub [0, 1, 2, 3, 4, 5, 6, 7, 8, 9, 10, 11, 12, 13, 14, 15, 16, 17, 18, 19, 20, 21, 22, 23, 24, 25, 26, 27, 28, 29, 30, 31, 32, 33, 34, 35] rfl
              have hD : va_D A ((sh_Model cI cL cZ mo mo_thrown_106 mo_sourcea mo_source mo_size mo_faultLine mo_fault mo_topics mo_namesa mo_names mo_bodiesa mo_bodies mo_lengthsa mo_lengths mo_headingsa mo_headings mo_keywords mo_keyLettersa mo_keyLetters mo_keyLengthsa mo_keyLengths mo_keyBitsa mo_keyBits mo_words mo_wordLettersa mo_wordLetters mo_wordLengthsa mo_wordLengths mo_wordBitsa mo_wordBits mo_links mo_linkAta mo_linkAt mo_linkLengtha mo_linkLength mo_linkLinea mo_linkLine mo_linkToa mo_linkTo mo_inParagraph mo_emphasis mo_blank mo_lastLine mo_imageSize mo_imagea mo_image mo_compares mo_unlike mo_out mo_total mo_literal mo_handLength mo_handa mo_hand mo_isOpen mo_seenTopics mo_seenNamesa mo_seenNames mo_seenBodiesa mo_seenBodies mo_seenLengthsa mo_seenLengths mo_seenKeywords mo_seenKeyLettersa mo_seenKeyLetters mo_seenKeyLengthsa mo_seenKeyLengths mo_seenKeyBitsa mo_seenKeyBits mo_seenWords mo_seenWordLettersa mo_seenWordLetters mo_seenWordLengthsa mo_seenWordLengths mo_seenWordBitsa mo_seenWordBits mo_topic mo_backs mo_backa mo_back mo_forwards mo_forwarda mo_forward mo_typed mo_querya mo_query mo_visits mo_valuesa mo_values mo_valued mo_signsa mo_signs mo_signed mo_width mo_lines mo_lineFroma mo_lineFrom mo_lineSizea mo_lineSize mo_shown mo_texta mo_text mo_partLength mo_parta mo_part)) := hD.sub [0, 1, 2, 3, 4, 5, 6, 7, 8, 9, 10, 11, 12, 13, 14, 15, 16, 17, 18, 19, 20, 21, 22, 23, 24, 25, 26, 27, 28, 29, 30, 31, 32, 33, 34, 35] (by decide) rfl
              refine lv_if_eq (tgt := 114) hx hb d_Model_put_109 (by decide) (fun h109 => ?_) (fun h109 => ?_)
              · have hd := hd.1 h109
                exact ih.2.2.2.2.1 x1 mo_thrown_106 mo_source mo_size _ _ _ (lv_sub hl [0, 1] rfl) hP hD hS hd
              · have hd := hd.2 h109
                refine lv_iconst (v := 0) hx hb d_Model_put_112 (by decide) ?_
                obtain ⟨e0, e1, e2, e3⟩ := hd
                subst e0
                subst e1
                subst e2
                subst e3
                exact ct_iret hx hb hr hlocks hK hP hD hS d_Model_put_113
            · have hd := hd.2 h98
              refine lv_iconst (v := 1) hx hb d_Model_put_101 (by decide) ?_
              refine lv_goto (tgt := 106) hx hb d_Model_put_102 (by decide) ?_
              obtain ⟨r106, mo_thrown_106, c106, hd⟩ := hd
              refine ct_V (As := [.int 1, .int 1]) (rest := []) (C := R_Model) (ci := 9) (q := (R_Model, F_Model, 69)) ⟨hx, hb, hml, hown, hts⟩ fm_Model_refuse (c_Model_refuse l dC dI cI cL cZ mo mo_thrown mo_sourcea mo_source mo_size mo_faultLine mo_fault mo_topics mo_namesa mo_names mo_bodiesa mo_bodies mo_lengthsa mo_lengths mo_headingsa mo_headings mo_keywords mo_keyLettersa mo_keyLetters mo_keyLengthsa mo_keyLengths mo_keyBitsa mo_keyBits mo_words mo_wordLettersa mo_wordLetters mo_wordLengthsa mo_wordLengths mo_wordBitsa mo_wordBits mo_links mo_linkAta mo_linkAt mo_linkLengtha mo_linkLength mo_linkLinea mo_linkLine mo_linkToa mo_linkTo mo_inParagraph mo_emphasis mo_blank mo_lastLine mo_imageSize mo_imagea mo_image mo_compares mo_unlike mo_out mo_total mo_literal mo_handLength mo_handa mo_hand mo_isOpen mo_seenTopics mo_seenNamesa mo_seenNames mo_seenBodiesa mo_seenBodies mo_seenLengthsa mo_seenLengths mo_seenKeywords mo_seenKeyLettersa mo_seenKeyLetters mo_seenKeyLengthsa mo_seenKeyLengths mo_seenKeyBitsa mo_seenKeyBits mo_seenWords mo_seenWordLettersa mo_seenWordLetters mo_seenWordLengthsa mo_seenWordLengths mo_seenWordBitsa mo_seenWordBits mo_topic mo_backs mo_backa mo_back mo_forwards mo_forwarda mo_forward mo_typed mo_querya mo_query mo_visits mo_valuesa mo_values mo_valued mo_signsa mo_signs mo_signed mo_width mo_lines mo_lineFroma mo_lineFrom mo_lineSizea mo_lineSize mo_shown mo_texta mo_text mo_partLength mo_parta mo_part true true r106 mo_thrown_106 c106) k485_methodLink k486_instanceMethod k487_selects ⟨Nat.le_of_ble_eq_true rfl, Nat.le_of_ble_eq_true rfl⟩ rfl rfl hK hN hP hD hS hA [0, 1, 2, 3, 4, 5, 6, 7, 8, 9, 10, 11, 12, 13, 14, 15, 16, 17, 18, 19, 20, 21, 22, 23, 24, 25, 26, 27, 28, 29, 30, 31, 32, 33, 34, 35] [] rfl rfl rfl (by decide) (by decide) (by decide) 0 rfl rfl rfl rfl hl.1 rfl (Nat.le_of_ble_eq_true rfl) d_Model_put_106 (fun H locs hP hD hS => ?_)
              have hP : va_P (dC, dI) classes ((sh_Model cI cL cZ mo mo_thrown_106 mo_sourcea mo_source mo_size mo_faultLine mo_fault mo_topics mo_namesa mo_names mo_bodiesa mo_bodies mo_lengthsa mo_lengths mo_headingsa mo_headings mo_keywords mo_keyLettersa mo_keyLetters mo_keyLengthsa mo_keyLengths mo_keyBitsa mo_keyBits mo_words mo_wordLettersa mo_wordLetters mo_wordLengthsa mo_wordLengths mo_wordBitsa mo_wordBits mo_links mo_linkAta mo_linkAt mo_linkLengtha mo_linkLength mo_linkLinea mo_linkLine mo_linkToa mo_linkTo mo_inParagraph mo_emphasis mo_blank mo_lastLine mo_imageSize mo_imagea mo_image mo_compares mo_unlike mo_out mo_total mo_literal mo_handLength mo_handa mo_hand mo_isOpen mo_seenTopics mo_seenNamesa mo_seenNames mo_seenBodiesa mo_seenBodies mo_seenLengthsa mo_seenLengths mo_seenKeywords mo_seenKeyLettersa mo_seenKeyLetters mo_seenKeyLengthsa mo_seenKeyLengths mo_seenKeyBitsa mo_seenKeyBits mo_seenWords mo_seenWordLettersa mo_seenWordLetters mo_seenWordLengthsa mo_seenWordLengths mo_seenWordBitsa mo_seenWordBits mo_topic mo_backs mo_backa mo_back mo_forwards mo_forwarda mo_forward mo_typed mo_querya mo_query mo_visits mo_valuesa mo_values mo_valued mo_signsa mo_signs mo_signed mo_width mo_lines mo_lineFroma mo_lineFrom mo_lineSizea mo_lineSize mo_shown mo_texta mo_text mo_partLength mo_parta mo_part)) H := hP.sub [0, 1, 2, 3, 4, 5, 6, 7, 8, 9, 10, 11, 12, 13, 14, 15, 16, 17, 18, 19, 20, 21, 22, 23, 24, 25, 26, 27, 28, 29, 30, 31, 32, 33, 34, 35] rfl
              have hD : va_D A ((sh_Model cI cL cZ mo mo_thrown_106 mo_sourcea mo_source mo_size mo_faultLine mo_fault mo_topics mo_namesa mo_names mo_bodiesa mo_bodies mo_lengthsa mo_lengths mo_headingsa mo_headings mo_keywords mo_keyLettersa mo_keyLetters mo_keyLengthsa mo_keyLengths mo_keyBitsa mo_keyBits mo_words mo_wordLettersa mo_wordLetters mo_wordLengthsa mo_wordLengths mo_wordBitsa mo_wordBits mo_links mo_linkAta mo_linkAt mo_linkLengtha mo_linkLength mo_linkLinea mo_linkLine mo_linkToa mo_linkTo mo_inParagraph mo_emphasis mo_blank mo_lastLine mo_imageSize mo_imagea mo_image mo_compares mo_unlike mo_out mo_total mo_literal mo_handLength mo_handa mo_hand mo_isOpen mo_seenTopics mo_seenNamesa mo_seenNames mo_seenBodiesa mo_seenBodies mo_seenLengthsa mo_seenLengths mo_seenKeywords mo_seenKeyLettersa mo_seenKeyLetters mo_seenKeyLengthsa mo_seenKeyLengths mo_seenKeyBitsa mo_seenKeyBits mo_seenWords mo_seenWordLettersa mo_seenWordLetters mo_seenWordLengthsa mo_seenWordLengths mo_seenWordBitsa mo_seenWordBits mo_topic mo_backs mo_backa mo_back mo_forwards mo_forwarda mo_forward mo_typed mo_querya mo_query mo_visits mo_valuesa mo_values mo_valued mo_signsa mo_signs mo_signed mo_width mo_lines mo_lineFroma mo_lineFrom mo_lineSizea mo_lineSize mo_shown mo_texta mo_text mo_partLength mo_parta mo_part)) := hD.sub [0, 1, 2, 3, 4, 5, 6, 7, 8, 9, 10, 11, 12, 13, 14, 15, 16, 17, 18, 19, 20, 21, 22, 23, 24, 25, 26, 27, 28, 29, 30, 31, 32, 33, 34, 35] (by decide) rfl
              refine lv_if_eq (tgt := 114) hx hb d_Model_put_109 (by decide) (fun h109 => ?_) (fun h109 => ?_)
              · have hd := hd.1 h109
                exact ih.2.2.2.2.1 x1 mo_thrown_106 mo_source mo_size _ _ _ (lv_sub hl [0, 1] rfl) hP hD hS hd
              · have hd := hd.2 h109
                refine lv_iconst (v := 0) hx hb d_Model_put_112 (by decide) ?_
                obtain ⟨e0, e1, e2, e3⟩ := hd
                subst e0
                subst e1
                subst e2
                subst e3
                exact ct_iret hx hb hr hlocks hK hP hD hS d_Model_put_113
        · have hd := hd.2 h10
          refine lv_iload_n hx hb d_Model_put_13 rfl (lv_at hl 1 rfl) ?_
          refine lv_bipush (v := 8) hx hb d_Model_put_14 (by decide) ?_
          refine lv_iload hx hb d_Model_put_16 (lv_at hl 4 rfl) ?_
          refine lv_imul hx hb d_Model_put_18 ?_
          refine lv_ishr hx hb d_Model_put_19 ?_
          refine lv_sipush (v := 255) hx hb d_Model_put_20 (by decide) ?_
          refine lv_iand hx hb d_Model_put_23 ?_
          refine lv_istore (lv' := [(5, .int ((x1 >>> ((8 * x4) &&& 31)) &&& 255)), (0, .ref mo), (1, .int x1), (2, .int x2), (3, .int (bI b3)), (4, .int x4)]) hx hb d_Model_put_24 hl (by decide) rfl (fun ls hl => ?_)
          refine lv_iload_n hx hb d_Model_put_26 rfl (lv_at hl 4 rfl) ?_
          refine lv_if_eq (tgt := 58) hx hb d_Model_put_27 (by decide) (fun h27 => ?_) (fun h27 => ?_)
          · have hd := hd.1 h27
            exact ih.2.2.1 x1 x2 x4 ((x1 >>> ((8 * x4) &&& 31)) &&& 255) mo_thrown mo_source mo_size _ _ _ (lv_sub hl [1, 2, 3, 5, 0] rfl) hP hD hS hd
          · have hd := hd.2 h27
            refine lv_iload hx hb d_Model_put_30 (lv_at hl 0 rfl) ?_
            refine lv_if_eq (tgt := 54) hx hb d_Model_put_32 (by decide) (fun h32 => ?_) (fun h32 => ?_)
            · have hd := hd.1 h32
              exact ih.2.1 x1 x2 x4 ((x1 >>> ((8 * x4) &&& 31)) &&& 255) mo_thrown mo_source mo_size _ _ _ (lv_sub hl [1, 2, 3, 5, 0] rfl) hP hD hS hd
            · have hd := hd.2 h32
              refine lv_iload hx hb d_Model_put_35 (lv_at hl 0 rfl) ?_
              refine lv_bipush (v := 10) hx hb d_Model_put_37 (by decide) ?_
              refine lv_icmp_eq (tgt := 54) hx hb d_Model_put_39 (by decide) (fun h39 => ?_) (fun h39 => ?_)
              · have hd := hd.1 h39
                exact ih.2.1 x1 x2 x4 ((x1 >>> ((8 * x4) &&& 31)) &&& 255) mo_thrown mo_source mo_size _ _ _ (lv_sub hl [1, 2, 3, 5, 0] rfl) hP hD hS hd
              · have hd := hd.2 h39
                refine lv_iload hx hb d_Model_put_42 (lv_at hl 0 rfl) ?_
                refine lv_bipush (v := 32) hx hb d_Model_put_44 (by decide) ?_
                refine lv_bipush (v := 126) hx hb d_Model_put_46 (by decide) ?_
                obtain ⟨r48, c48, hd⟩ := hd
                refine ct_SR (As := [.int ((x1 >>> ((8 * x4) &&& 31)) &&& 255), .int 32, .int 126]) (rest := []) ⟨hx, hb, hml, hown, hts⟩ fm_Model_in (c_Model_in l dC dI cI cL cZ ((x1 >>> ((8 * x4) &&& 31)) &&& 255) 32 126 r48 c48) k480_methodLink k481_static ⟨Nat.le_of_ble_eq_true rfl, Nat.le_of_ble_eq_true rfl⟩ rfl rfl hK hN hP hD [] rfl rfl (by decide) rfl hl.1 rfl (Nat.le_of_ble_eq_true rfl) d_Model_put_48 ?_
                refine lv_if_eq (tgt := 58) hx hb d_Model_put_51 (by decide) (fun h51 => ?_) (fun h51 => ?_)
                · have hd := hd.1 h51
                  exact ih.2.2.1 x1 x2 x4 ((x1 >>> ((8 * x4) &&& 31)) &&& 255) mo_thrown mo_source mo_size _ _ _ (lv_sub hl [1, 2, 3, 5, 0] rfl) hP hD hS hd
                · have hd := hd.2 h51
                  exact ih.2.1 x1 x2 x4 ((x1 >>> ((8 * x4) &&& 31)) &&& 255) mo_thrown mo_source mo_size _ _ _ (lv_sub hl [1, 2, 3, 5, 0] rfl) hP hD hS hd
      · intro x1 x2 x4 x5 mo_thrown mo_source mo_size ls H locs hl hP hD hS hd
        have hd : B_Model_put_54 res mo_thrown' mo_source' mo_size' (T_Model_put res mo_thrown' mo_source' mo_size' n) x1 x2 x4 x5 mo_thrown mo_source mo_size := hd
        refine lv_iconst (v := 1) hx hb d_Model_put_54 (by decide) ?_
        refine lv_goto (tgt := 59) hx hb d_Model_put_55 (by decide) ?_
        refine lv_istore_n (lv' := [(3, .int 1), (0, .ref mo), (1, .int x1), (2, .int x2), (4, .int x4), (5, .int x5)]) hx hb d_Model_put_59 rfl hl (by decide) rfl (fun ls hl => ?_)
        exact ih.2.2.2.1 x1 x2 true x4 x5 mo_thrown mo_source mo_size _ _ _ (lv_sub hl [1, 2, 3, 0, 4, 5] rfl) hP hD hS hd
      · intro x1 x2 x4 x5 mo_thrown mo_source mo_size ls H locs hl hP hD hS hd
        have hd : B_Model_put_58 res mo_thrown' mo_source' mo_size' (T_Model_put res mo_thrown' mo_source' mo_size' n) x1 x2 x4 x5 mo_thrown mo_source mo_size := hd
        refine lv_iconst (v := 0) hx hb d_Model_put_58 (by decide) ?_
        refine lv_istore_n (lv' := [(3, .int 0), (0, .ref mo), (1, .int x1), (2, .int x2), (4, .int x4), (5, .int x5)]) hx hb d_Model_put_59 rfl hl (by decide) rfl (fun ls hl => ?_)
        exact ih.2.2.2.1 x1 x2 false x4 x5 mo_thrown mo_source mo_size _ _ _ (lv_sub hl [1, 2, 3, 0, 4, 5] rfl) hP hD hS hd
      · intro x1 x2 b3 x4 x5 mo_thrown mo_source mo_size ls H locs hl hP hD hS hd
        have hd : B_Model_put_60 res mo_thrown' mo_source' mo_size' (T_Model_put res mo_thrown' mo_source' mo_size' n) x1 x2 b3 x4 x5 mo_thrown mo_source mo_size := hd
        refine lv_iload hx hb d_Model_put_60 (lv_at hl 5 rfl) ?_
        refine lv_if_le (tgt := 71) hx hb d_Model_put_62 (by decide) (fun h62 => ?_) (fun h62 => ?_)
        · have hd := hd.1 h62
          refine lv_iload_n hx hb d_Model_put_71 rfl (lv_at hl 2 rfl) ?_
          refine lv_istore_n (lv' := [(2, .int x2), (0, .ref mo), (1, .int x1), (3, .int (bI b3)), (4, .int x4), (5, .int x5)]) hx hb d_Model_put_72 rfl hl (by decide) rfl (fun ls hl => ?_)
          refine lv_iinc (k := 4) (v := x4 + 1) (lv' := [(4, .int (x4 + 1)), (2, .int x2), (0, .ref mo), (1, .int x1), (3, .int (bI b3)), (5, .int x5)]) hx hb d_Model_put_73 hl rfl (congrArg (fun z => x4 + z) (by decide)) (by decide) rfl (fun ls hl => ?_)
          refine lv_goto (tgt := 7) hx hb d_Model_put_76 (by decide) ?_
          exact ih.1 x1 x2 b3 (x4 + 1) mo_thrown mo_source mo_size _ _ _ (lv_sub hl [2, 3, 1, 4, 0] rfl) hP hD hS hd
        · have hd := hd.2 h62
          refine lv_iload_n hx hb d_Model_put_65 rfl (lv_at hl 2 rfl) ?_
          refine lv_iconst (v := 1) hx hb d_Model_put_66 (by decide) ?_
          refine lv_iadd hx hb d_Model_put_67 ?_
          refine lv_goto (tgt := 72) hx hb d_Model_put_68 (by decide) ?_
          refine lv_istore_n (lv' := [(2, .int (x2 + 1)), (0, .ref mo), (1, .int x1), (3, .int (bI b3)), (4, .int x4), (5, .int x5)]) hx hb d_Model_put_72 rfl hl (by decide) rfl (fun ls hl => ?_)
          refine lv_iinc (k := 4) (v := x4 + 1) (lv' := [(4, .int (x4 + 1)), (2, .int (x2 + 1)), (0, .ref mo), (1, .int x1), (3, .int (bI b3)), (5, .int x5)]) hx hb d_Model_put_73 hl rfl (congrArg (fun z => x4 + z) (by decide)) (by decide) rfl (fun ls hl => ?_)
          refine lv_goto (tgt := 7) hx hb d_Model_put_76 (by decide) ?_
          exact ih.1 x1 (x2 + 1) b3 (x4 + 1) mo_thrown mo_source mo_size _ _ _ (lv_sub hl [2, 3, 1, 4, 0] rfl) hP hD hS hd
      · intro x1 mo_thrown mo_source mo_size ls H locs hl hP hD hS hd
        have hd : B_Model_put_114 res mo_thrown' mo_source' mo_size' (T_Model_put res mo_thrown' mo_source' mo_size' n) x1 mo_thrown mo_source mo_size := hd
        refine lv_iconst (v := 0) hx hb d_Model_put_114 (by decide) ?_
        refine lv_istore (lv' := [(4, .int 0), (0, .ref mo), (1, .int x1)]) hx hb d_Model_put_115 hl (by decide) rfl (fun ls hl => ?_)
        exact ih.2.2.2.2.2 x1 0 mo_thrown mo_source mo_size _ _ _ (lv_sub hl [1, 2, 0] rfl) hP hD hS hd
      · intro x1 x4 mo_thrown mo_source mo_size ls H locs hl hP hD hS hd
        have hd : B_Model_put_117 res mo_thrown' mo_source' mo_size' (T_Model_put res mo_thrown' mo_source' mo_size' n) x1 x4 mo_thrown mo_source mo_size := hd
        refine lv_iload hx hb d_Model_put_117 (lv_at hl 2 rfl) ?_
        refine lv_iconst (v := 4) hx hb d_Model_put_119 (by decide) ?_
        refine lv_icmp_ge (tgt := 168) hx hb d_Model_put_120 (by decide) (fun h120 => ?_) (fun h120 => ?_)
        · have hd := hd.1 h120
          refine lv_aload_n hx hb d_Model_put_168 rfl (lv_at hl 0 rfl) ?_
          refine va_get (D := (dC, dI)) (ci := 9) (v := .int mo_size) (C := R_Model) (T := F_Model) (N := 69) hx hb hts in_Model hown hK hP 0 rfl rfl 2 (by decide) (hts _ (List.mem_cons_of_mem _ k484_fieldLink)) (fun _ h9 => h9) rfl d_Model_put_169 ?_
          obtain ⟨e0, e1, e2, e3⟩ := hd
          subst e0
          subst e1
          subst e2
          subst e3
          exact ct_iret hx hb hr hlocks hK hP hD hS d_Model_put_172
        · have hd := hd.2 h120
          refine lv_iload_n hx hb d_Model_put_123 rfl (lv_at hl 1 rfl) ?_
          refine lv_bipush (v := 8) hx hb d_Model_put_124 (by decide) ?_
          refine lv_iload hx hb d_Model_put_126 (lv_at hl 2 rfl) ?_
          refine lv_imul hx hb d_Model_put_128 ?_
          refine lv_ishr hx hb d_Model_put_129 ?_
          refine lv_sipush (v := 255) hx hb d_Model_put_130 (by decide) ?_
          refine lv_iand hx hb d_Model_put_133 ?_
          refine lv_istore (lv' := [(5, .int ((x1 >>> ((8 * x4) &&& 31)) &&& 255)), (0, .ref mo), (1, .int x1), (4, .int x4)]) hx hb d_Model_put_134 hl (by decide) rfl (fun ls hl => ?_)
          refine lv_iload hx hb d_Model_put_136 (lv_at hl 0 rfl) ?_
          refine lv_if_le (tgt := 162) hx hb d_Model_put_138 (by decide) (fun h138 => ?_) (fun h138 => ?_)
          · have hd := hd.1 h138
            refine lv_iinc (k := 3) (v := x4 + 1) (lv' := [(4, .int (x4 + 1)), (5, .int ((x1 >>> ((8 * x4) &&& 31)) &&& 255)), (0, .ref mo), (1, .int x1)]) hx hb d_Model_put_162 hl rfl (congrArg (fun z => x4 + z) (by decide)) (by decide) rfl (fun ls hl => ?_)
            refine lv_goto (tgt := 117) hx hb d_Model_put_165 (by decide) ?_
            exact ih.2.2.2.2.2 x1 (x4 + 1) mo_thrown mo_source mo_size _ _ _ (lv_sub hl [2, 3, 0] rfl) hP hD hS hd
          · have hd := hd.2 h138
            refine lv_aload_n hx hb d_Model_put_141 rfl (lv_at hl 1 rfl) ?_
            refine va_get (D := (dC, dI)) (ci := 9) (v := .ref mo_sourcea) (C := R_Model) (T := F_Model) (N := 69) hx hb hts in_Model hown hK hP 0 rfl rfl 1 (by decide) (hts _ (List.mem_cons_of_mem _ k488_fieldLink)) (fun _ h9 => h9) rfl d_Model_put_142 ?_
            refine lv_aload_n hx hb d_Model_put_145 rfl (lv_at hl 1 rfl) ?_
            refine va_get (D := (dC, dI)) (ci := 9) (v := .int mo_size) (C := R_Model) (T := F_Model) (N := 69) hx hb hts in_Model hown hK hP 0 rfl rfl 2 (by decide) (hts _ (List.mem_cons_of_mem _ k484_fieldLink)) (fun _ h9 => h9) rfl d_Model_put_146 ?_
            refine lv_iload hx hb d_Model_put_149 (lv_at hl 0 rfl) ?_
            obtain ⟨h151, hd⟩ := hd
            refine va_iast hx hb hK hP hD hS 1 0 rfl rfl h151 d_Model_put_151 (fun H locs hP hD hS => ?_)
            have hP : va_P (dC, dI) classes ((sh_Model cI cL cZ mo mo_thrown mo_sourcea (upd mo_source (Int32.toNatClampNeg mo_size) ((x1 >>> ((8 * x4) &&& 31)) &&& 255)) mo_size mo_faultLine mo_fault mo_topics mo_namesa mo_names mo_bodiesa mo_bodies mo_lengthsa mo_lengths mo_headingsa mo_headings mo_keywords mo_keyLettersa mo_keyLetters mo_keyLengthsa mo_keyLengths mo_keyBitsa mo_keyBits mo_words mo_wordLettersa mo_wordLetters mo_wordLengthsa mo_wordLengths mo_wordBitsa mo_wordBits mo_links mo_linkAta mo_linkAt mo_linkLengtha mo_linkLength mo_linkLinea mo_linkLine mo_linkToa mo_linkTo mo_inParagraph mo_emphasis mo_blank mo_lastLine mo_imageSize mo_imagea mo_image mo_compares mo_unlike mo_out mo_total mo_literal mo_handLength mo_handa mo_hand mo_isOpen mo_seenTopics mo_seenNamesa mo_seenNames mo_seenBodiesa mo_seenBodies mo_seenLengthsa mo_seenLengths mo_seenKeywords mo_seenKeyLettersa mo_seenKeyLetters mo_seenKeyLengthsa mo_seenKeyLengths mo_seenKeyBitsa mo_seenKeyBits mo_seenWords mo_seenWordLettersa mo_seenWordLetters mo_seenWordLengthsa mo_seenWordLengths mo_seenWordBitsa mo_seenWordBits mo_topic mo_backs mo_backa mo_back mo_forwards mo_forwarda mo_forward mo_typed mo_querya mo_query mo_visits mo_valuesa mo_values mo_valued mo_signsa mo_signs mo_signed mo_width mo_lines mo_lineFroma mo_lineFrom mo_lineSizea mo_lineSize mo_shown mo_texta mo_text mo_partLength mo_parta mo_part)) H := hP
            have hD : va_D A ((sh_Model cI cL cZ mo mo_thrown mo_sourcea (upd mo_source (Int32.toNatClampNeg mo_size) ((x1 >>> ((8 * x4) &&& 31)) &&& 255)) mo_size mo_faultLine mo_fault mo_topics mo_namesa mo_names mo_bodiesa mo_bodies mo_lengthsa mo_lengths mo_headingsa mo_headings mo_keywords mo_keyLettersa mo_keyLetters mo_keyLengthsa mo_keyLengths mo_keyBitsa mo_keyBits mo_words mo_wordLettersa mo_wordLetters mo_wordLengthsa mo_wordLengths mo_wordBitsa mo_wordBits mo_links mo_linkAta mo_linkAt mo_linkLengtha mo_linkLength mo_linkLinea mo_linkLine mo_linkToa mo_linkTo mo_inParagraph mo_emphasis mo_blank mo_lastLine mo_imageSize mo_imagea mo_image mo_compares mo_unlike mo_out mo_total mo_literal mo_handLength mo_handa mo_hand mo_isOpen mo_seenTopics mo_seenNamesa mo_seenNames mo_seenBodiesa mo_seenBodies mo_seenLengthsa mo_seenLengths mo_seenKeywords mo_seenKeyLettersa mo_seenKeyLetters mo_seenKeyLengthsa mo_seenKeyLengths mo_seenKeyBitsa mo_seenKeyBits mo_seenWords mo_seenWordLettersa mo_seenWordLetters mo_seenWordLengthsa mo_seenWordLengths mo_seenWordBitsa mo_seenWordBits mo_topic mo_backs mo_backa mo_back mo_forwards mo_forwarda mo_forward mo_typed mo_querya mo_query mo_visits mo_valuesa mo_values mo_valued mo_signsa mo_signs mo_signed mo_width mo_lines mo_lineFroma mo_lineFrom mo_lineSizea mo_lineSize mo_shown mo_texta mo_text mo_partLength mo_parta mo_part)) := hD
            refine lv_aload_n hx hb d_Model_put_152 rfl (lv_at hl 1 rfl) ?_
            refine lv_dup hx hb d_Model_put_153 rfl ?_
            refine va_get (D := (dC, dI)) (ci := 9) (v := .int mo_size) (C := R_Model) (T := F_Model) (N := 69) hx hb hts in_Model hown hK hP 0 rfl rfl 2 (by decide) (hts _ (List.mem_cons_of_mem _ k484_fieldLink)) (fun _ h9 => h9) rfl d_Model_put_154 ?_
            refine lv_iconst (v := 1) hx hb d_Model_put_157 (by decide) ?_
            refine lv_iadd hx hb d_Model_put_158 ?_
            refine va_put (D := (dC, dI)) (ci := 9) (v := .int (mo_size + 1)) (ty := t_Model 2) (C := R_Model) (T := F_Model) (N := 69) hx hb hts in_Model t_Model t_Model_ok n_Model hown hK hP hD hS 0 rfl rfl 2 (by decide) (hts _ (List.mem_cons_of_mem _ k484_fieldLink)) (fun _ h9 => h9) rfl (t_Model_ok 2 (by decide)) rfl rfl (Nat.le_of_ble_eq_true rfl) d_Model_put_159 (fun H locs hP hD hS => ?_)
            have hP : va_P (dC, dI) classes ((sh_Model cI cL cZ mo mo_thrown mo_sourcea (upd mo_source (Int32.toNatClampNeg mo_size) ((x1 >>> ((8 * x4) &&& 31)) &&& 255)) (mo_size + 1) mo_faultLine mo_fault mo_topics mo_namesa mo_names mo_bodiesa mo_bodies mo_lengthsa mo_lengths mo_headingsa mo_headings mo_keywords mo_keyLettersa mo_keyLetters mo_keyLengthsa mo_keyLengths mo_keyBitsa mo_keyBits mo_words mo_wordLettersa mo_wordLetters mo_wordLengthsa mo_wordLengths mo_wordBitsa mo_wordBits mo_links mo_linkAta mo_linkAt mo_linkLengtha mo_linkLength mo_linkLinea mo_linkLine mo_linkToa mo_linkTo mo_inParagraph mo_emphasis mo_blank mo_lastLine mo_imageSize mo_imagea mo_image mo_compares mo_unlike mo_out mo_total mo_literal mo_handLength mo_handa mo_hand mo_isOpen mo_seenTopics mo_seenNamesa mo_seenNames mo_seenBodiesa mo_seenBodies mo_seenLengthsa mo_seenLengths mo_seenKeywords mo_seenKeyLettersa mo_seenKeyLetters mo_seenKeyLengthsa mo_seenKeyLengths mo_seenKeyBitsa mo_seenKeyBits mo_seenWords mo_seenWordLettersa mo_seenWordLetters mo_seenWordLengthsa mo_seenWordLengths mo_seenWordBitsa mo_seenWordBits mo_topic mo_backs mo_backa mo_back mo_forwards mo_forwarda mo_forward mo_typed mo_querya mo_query mo_visits mo_valuesa mo_values mo_valued mo_signsa mo_signs mo_signed mo_width mo_lines mo_lineFroma mo_lineFrom mo_lineSizea mo_lineSize mo_shown mo_texta mo_text mo_partLength mo_parta mo_part)) H := hP
            have hD : va_D A ((sh_Model cI cL cZ mo mo_thrown mo_sourcea (upd mo_source (Int32.toNatClampNeg mo_size) ((x1 >>> ((8 * x4) &&& 31)) &&& 255)) (mo_size + 1) mo_faultLine mo_fault mo_topics mo_namesa mo_names mo_bodiesa mo_bodies mo_lengthsa mo_lengths mo_headingsa mo_headings mo_keywords mo_keyLettersa mo_keyLetters mo_keyLengthsa mo_keyLengths mo_keyBitsa mo_keyBits mo_words mo_wordLettersa mo_wordLetters mo_wordLengthsa mo_wordLengths mo_wordBitsa mo_wordBits mo_links mo_linkAta mo_linkAt mo_linkLengtha mo_linkLength mo_linkLinea mo_linkLine mo_linkToa mo_linkTo mo_inParagraph mo_emphasis mo_blank mo_lastLine mo_imageSize mo_imagea mo_image mo_compares mo_unlike mo_out mo_total mo_literal mo_handLength mo_handa mo_hand mo_isOpen mo_seenTopics mo_seenNamesa mo_seenNames mo_seenBodiesa mo_seenBodies mo_seenLengthsa mo_seenLengths mo_seenKeywords mo_seenKeyLettersa mo_seenKeyLetters mo_seenKeyLengthsa mo_seenKeyLengths mo_seenKeyBitsa mo_seenKeyBits mo_seenWords mo_seenWordLettersa mo_seenWordLetters mo_seenWordLengthsa mo_seenWordLengths mo_seenWordBitsa mo_seenWordBits mo_topic mo_backs mo_backa mo_back mo_forwards mo_forwarda mo_forward mo_typed mo_querya mo_query mo_visits mo_valuesa mo_values mo_valued mo_signsa mo_signs mo_signed mo_width mo_lines mo_lineFroma mo_lineFrom mo_lineSizea mo_lineSize mo_shown mo_texta mo_text mo_partLength mo_parta mo_part)) := hD
            refine lv_iinc (k := 3) (v := x4 + 1) (lv' := [(4, .int (x4 + 1)), (5, .int ((x1 >>> ((8 * x4) &&& 31)) &&& 255)), (0, .ref mo), (1, .int x1)]) hx hb d_Model_put_162 hl rfl (congrArg (fun z => x4 + z) (by decide)) (by decide) rfl (fun ls hl => ?_)
            refine lv_goto (tgt := 117) hx hb d_Model_put_165 (by decide) ?_
            exact ih.2.2.2.2.2 x1 (x4 + 1) mo_thrown (upd mo_source (Int32.toNatClampNeg mo_size) ((x1 >>> ((8 * x4) &&& 31)) &&& 255)) (mo_size + 1) _ _ _ (lv_sub hl [2, 3, 0] rfl) hP hD hS hd
  obtain ⟨n, hd⟩ := hd
  refine lv_iconst (v := 0) hx hb d_Model_put_0 (by decide) ?_
  refine lv_istore_n (lv' := [(2, .int 0), (0, .ref mo), (1, .int k0)]) hx hb d_Model_put_1 rfl hl (by decide) rfl (fun ls hl => ?_)
  refine lv_iconst (v := 1) hx hb d_Model_put_2 (by decide) ?_
  refine lv_istore_n (lv' := [(3, .int 1), (2, .int 0), (0, .ref mo), (1, .int k0)]) hx hb d_Model_put_3 rfl hl (by decide) rfl (fun ls hl => ?_)
  refine lv_iconst (v := 0) hx hb d_Model_put_4 (by decide) ?_
  refine lv_istore (lv' := [(4, .int 0), (3, .int 1), (2, .int 0), (0, .ref mo), (1, .int k0)]) hx hb d_Model_put_5 hl (by decide) rfl (fun ls hl => ?_)
  exact (key n).1 k0 0 true 0 mo_thrown mo_source mo_size _ _ _ (lv_sub hl [3, 4, 2, 1, 0] rfl) hP hD hS hd
-- Model.end
abbrev b_Model_end : ByteArray := prog_14_method_9_code
def y_Model_end : MethodName := ⟨"HelpFileModel", "end", "(I)V"⟩
set_option maxRecDepth 100000 in
theorem fm_Model_end : Fm y_Model_end b_Model_end 2 none 1 := ⟨ga_t 1262 rfl rfl, k479_initialized, by decide, by decide, by decide +kernel⟩
def D_Model_end (k0 : Int32) (mo_thrown : Int32) (mo_size : Int32) (mo_thrown' : Int32) (mo_size' : Int32) : Prop := (∃ r7 : Bool, D_Model_in k0 0 mo_size r7 ∧ (((bI r7) = 0 → (∃ r19 : Bool, ∃ mo_thrown_19 : Int32, D_Model_refuse true false mo_thrown r19 mo_thrown_19 ∧ (((bI r19) = 0 → (mo_thrown' = mo_thrown_19 ∧ mo_size' = k0)) ∧ (¬ ((bI r19) = 0) → (mo_thrown' = mo_thrown_19 ∧ mo_size' = mo_size))))) ∧ (¬ ((bI r7) = 0) → (∃ r19 : Bool, ∃ mo_thrown_19 : Int32, D_Model_refuse false false mo_thrown r19 mo_thrown_19 ∧ (((bI r19) = 0 → (mo_thrown' = mo_thrown_19 ∧ mo_size' = k0)) ∧ (¬ ((bI r19) = 0) → (mo_thrown' = mo_thrown_19 ∧ mo_size' = mo_size)))))))
theorem d_Model_end_0 : decode b_Model_end 0 = .ok (.aload_n 0, 1) := by decide +kernel
theorem d_Model_end_1 : decode b_Model_end 1 = .ok (.iload_n 1, 1) := by decide +kernel
theorem d_Model_end_2 : decode b_Model_end 2 = .ok (.iconst 0, 1) := by decide +kernel
theorem d_Model_end_3 : decode b_Model_end 3 = .ok (.aload_n 0, 1) := by decide +kernel
theorem d_Model_end_4 : decode b_Model_end 4 = .ok (.getfield 133, 3) := by decide +kernel
theorem d_Model_end_7 : decode b_Model_end 7 = .ok (.invokestatic 125, 3) := by decide +kernel
theorem d_Model_end_10 : decode b_Model_end 10 = .ok (.ifCond .ne 7, 3) := by decide +kernel
theorem d_Model_end_13 : decode b_Model_end 13 = .ok (.iconst 1, 1) := by decide +kernel
theorem d_Model_end_14 : decode b_Model_end 14 = .ok (.goto 4, 3) := by decide +kernel
theorem d_Model_end_17 : decode b_Model_end 17 = .ok (.iconst 0, 1) := by decide +kernel
theorem d_Model_end_18 : decode b_Model_end 18 = .ok (.iconst 0, 1) := by decide +kernel
theorem d_Model_end_19 : decode b_Model_end 19 = .ok (.invokevirtual 136, 3) := by decide +kernel
theorem d_Model_end_22 : decode b_Model_end 22 = .ok (.ifCond .ne 8, 3) := by decide +kernel
theorem d_Model_end_25 : decode b_Model_end 25 = .ok (.aload_n 0, 1) := by decide +kernel
theorem d_Model_end_26 : decode b_Model_end 26 = .ok (.iload_n 1, 1) := by decide +kernel
theorem d_Model_end_27 : decode b_Model_end 27 = .ok (.putfield 133, 3) := by decide +kernel
theorem d_Model_end_30 : decode b_Model_end 30 = .ok (.return_, 1) := by decide +kernel
set_option maxHeartbeats 4000000 in
set_option maxRecDepth 100000 in
theorem c_Model_end (l : Launch) (dC : Nat → ClassId) (dI : Nat → Nat → Nat) (cI cL cZ : ClassId) (mo : Nat) (mo_thrown : Int32) (mo_sourcea : Nat) (mo_source : Nat → Int32) (mo_size : Int32) (mo_faultLine : Int32) (mo_fault : Int32) (mo_topics : Int32) (mo_namesa : Nat) (mo_names : Nat → Int32) (mo_bodiesa : Nat) (mo_bodies : Nat → Int32) (mo_lengthsa : Nat) (mo_lengths : Nat → Int32) (mo_headingsa : Nat) (mo_headings : Nat → Int32) (mo_keywords : Int32) (mo_keyLettersa : Nat) (mo_keyLetters : Nat → Int32) (mo_keyLengthsa : Nat) (mo_keyLengths : Nat → Int32) (mo_keyBitsa : Nat) (mo_keyBits : Nat → Int32) (mo_words : Int32) (mo_wordLettersa : Nat) (mo_wordLetters : Nat → Int32) (mo_wordLengthsa : Nat) (mo_wordLengths : Nat → Int32) (mo_wordBitsa : Nat) (mo_wordBits : Nat → Int32) (mo_links : Int32) (mo_linkAta : Nat) (mo_linkAt : Nat → Int32) (mo_linkLengtha : Nat) (mo_linkLength : Nat → Int32) (mo_linkLinea : Nat) (mo_linkLine : Nat → Int32) (mo_linkToa : Nat) (mo_linkTo : Nat → Int32) (mo_inParagraph : Bool) (mo_emphasis : Bool) (mo_blank : Bool) (mo_lastLine : Int32) (mo_imageSize : Int32) (mo_imagea : Nat) (mo_image : Nat → Int32) (mo_compares : Bool) (mo_unlike : Bool) (mo_out : Int32) (mo_total : Int32) (mo_literal : Int32) (mo_handLength : Int32) (mo_handa : Nat) (mo_hand : Nat → Int32) (mo_isOpen : Bool) (mo_seenTopics : Int32) (mo_seenNamesa : Nat) (mo_seenNames : Nat → Int32) (mo_seenBodiesa : Nat) (mo_seenBodies : Nat → Int32) (mo_seenLengthsa : Nat) (mo_seenLengths : Nat → Int32) (mo_seenKeywords : Int32) (mo_seenKeyLettersa : Nat) (mo_seenKeyLetters : Nat → Int32) (mo_seenKeyLengthsa : Nat) (mo_seenKeyLengths : Nat → Int32) (mo_seenKeyBitsa : Nat) (mo_seenKeyBits : Nat → Int32) (mo_seenWords : Int32) (mo_seenWordLettersa : Nat) (mo_seenWordLetters : Nat → Int32) (mo_seenWordLengthsa : Nat) (mo_seenWordLengths : Nat → Int32) (mo_seenWordBitsa : Nat) (mo_seenWordBits : Nat → Int32) (mo_topic : Int32) (mo_backs : Int32) (mo_backa : Nat) (mo_back : Nat → Int32) (mo_forwards : Int32) (mo_forwarda : Nat) (mo_forward : Nat → Int32) (mo_typed : Int32) (mo_querya : Nat) (mo_query : Nat → Int32) (mo_visits : Int32) (mo_valuesa : Nat) (mo_values : Nat → Int32) (mo_valued : Int32) (mo_signsa : Nat) (mo_signs : Nat → Int32) (mo_signed : Int32) (mo_width : Int32) (mo_lines : Int32) (mo_lineFroma : Nat) (mo_lineFrom : Nat → Int32) (mo_lineSizea : Nat) (mo_lineSize : Nat → Int32) (mo_shown : Int32) (mo_texta : Nat) (mo_text : Nat → Int32) (mo_partLength : Int32) (mo_parta : Nat) (mo_part : Nat → Int32) (k0 : Int32) (mo_thrown' : Int32) (mo_size' : Int32) (hd : D_Model_end k0 mo_thrown mo_size mo_thrown' mo_size') : Ctr l y_Model_end (Cond.code y_Model_end b_Model_end 2 none :: ga) { frames := 1, cells := 0, slots := 0, locals := 22 } (dC, dI) classes (Tys cI cL cZ) [.ref mo, .int k0] ((sh_Model cI cL cZ mo mo_thrown mo_sourcea mo_source mo_size mo_faultLine mo_fault mo_topics mo_namesa mo_names mo_bodiesa mo_bodies mo_lengthsa mo_lengths mo_headingsa mo_headings mo_keywords mo_keyLettersa mo_keyLetters mo_keyLengthsa mo_keyLengths mo_keyBitsa mo_keyBits mo_words mo_wordLettersa mo_wordLetters mo_wordLengthsa mo_wordLengths mo_wordBitsa mo_wordBits mo_links mo_linkAta mo_linkAt mo_linkLengtha mo_linkLength mo_linkLinea mo_linkLine mo_linkToa mo_linkTo mo_inParagraph mo_emphasis mo_blank mo_lastLine mo_imageSize mo_imagea mo_image mo_compares mo_unlike mo_out mo_total mo_literal mo_handLength mo_handa mo_hand mo_isOpen mo_seenTopics mo_seenNamesa mo_seenNames mo_seenBodiesa mo_seenBodies mo_seenLengthsa mo_seenLengths mo_seenKeywords mo_seenKeyLettersa mo_seenKeyLetters mo_seenKeyLengthsa mo_seenKeyLengths mo_seenKeyBitsa mo_seenKeyBits mo_seenWords mo_seenWordLettersa mo_seenWordLetters mo_seenWordLengthsa mo_seenWordLengths mo_seenWordBitsa mo_seenWordBits mo_topic mo_backs mo_backa mo_back mo_forwards mo_forwarda mo_forward mo_typed mo_querya mo_query mo_visits mo_valuesa mo_values mo_valued mo_signsa mo_signs mo_signed mo_width mo_lines mo_lineFroma mo_lineFrom mo_lineSizea mo_lineSize mo_shown mo_texta mo_text mo_partLength mo_parta mo_part)) none ((sh_Model cI cL cZ mo mo_thrown' mo_sourcea mo_source mo_size' mo_faultLine mo_fault mo_topics mo_namesa mo_names mo_bodiesa mo_bodies mo_lengthsa mo_lengths mo_headingsa mo_headings mo_keywords mo_keyLettersa mo_keyLetters mo_keyLengthsa mo_keyLengths mo_keyBitsa mo_keyBits mo_words mo_wordLettersa mo_wordLetters mo_wordLengthsa mo_wordLengths mo_wordBitsa mo_wordBits mo_links mo_linkAta mo_linkAt mo_linkLengtha mo_linkLength mo_linkLinea mo_linkLine mo_linkToa mo_linkTo mo_inParagraph mo_emphasis mo_blank mo_lastLine mo_imageSize mo_imagea mo_image mo_compares mo_unlike mo_out mo_total mo_literal mo_handLength mo_handa mo_hand mo_isOpen mo_seenTopics mo_seenNamesa mo_seenNames mo_seenBodiesa mo_seenBodies mo_seenLengthsa mo_seenLengths mo_seenKeywords mo_seenKeyLettersa mo_seenKeyLetters mo_seenKeyLengthsa mo_seenKeyLengths mo_seenKeyBitsa mo_seenKeyBits mo_seenWords mo_seenWordLettersa mo_seenWordLetters mo_seenWordLengthsa mo_seenWordLengths mo_seenWordBitsa mo_seenWordBits mo_topic mo_backs mo_backa mo_back mo_forwards mo_forwarda mo_forward mo_typed mo_querya mo_query mo_visits mo_valuesa mo_values mo_valued mo_signsa mo_signs mo_signed mo_width mo_lines mo_lineFroma mo_lineFrom mo_lineSizea mo_lineSize mo_shown mo_texta mo_text mo_partLength mo_parta mo_part)) := by
  refine Ctr.ofW (by decide) (Nat.le_of_ble_eq_true rfl) ?_
  intro p e s m below meth c A ls hx hb hr hml hown hlocks hts hK hN hA hP hD hS hl
  have hown : s.vm.findClass R_Model = some m.cls := hown
  have hl : lv_has ls 2 [(0, .ref mo), (1, .int k0)] := hl
  refine lv_aload_n hx hb d_Model_end_0 rfl (lv_at hl 0 rfl) ?_
  refine lv_iload_n hx hb d_Model_end_1 rfl (lv_at hl 1 rfl) ?_
  refine lv_iconst (v := 0) hx hb d_Model_end_2 (by decide) ?_
  refine lv_aload_n hx hb d_Model_end_3 rfl (lv_at hl 0 rfl) ?_
  refine va_get (D := (dC, dI)) (ci := 9) (v := .int mo_size) (C := R_Model) (T := F_Model) (N := 69) hx hb hts in_Model hown hK hP 0 rfl rfl 2 (by decide) (hts _ (List.mem_cons_of_mem _ k484_fieldLink)) (fun _ h9 => h9) rfl d_Model_end_4 ?_
  obtain ⟨r7, c7, hd⟩ := hd
  refine ct_SR (As := [.int k0, .int 0, .int mo_size]) (rest := [.ref mo]) ⟨hx, hb, hml, hown, hts⟩ fm_Model_in (c_Model_in l dC dI cI cL cZ k0 0 mo_size r7 c7) k480_methodLink k481_static ⟨Nat.le_of_ble_eq_true rfl, Nat.le_of_ble_eq_true rfl⟩ rfl rfl hK hN hP hD [] rfl rfl (by decide) rfl hl.1 rfl (Nat.le_of_ble_eq_true rfl) d_Model_end_7 ?_
  refine lv_if_ne (tgt := 17) hx hb d_Model_end_10 (by decide) (fun h10 => ?_) (fun h10 => ?_)
  · have hd := hd.2 h10
    refine lv_iconst (v := 0) hx hb d_Model_end_17 (by decide) ?_
    refine lv_iconst (v := 0) hx hb d_Model_end_18 (by decide) ?_
    obtain ⟨r19, mo_thrown_19, c19, hd⟩ := hd
    refine ct_V (As := [.int 0, .int 0]) (rest := []) (C := R_Model) (ci := 9) (q := (R_Model, F_Model, 69)) ⟨hx, hb, hml, hown, hts⟩ fm_Model_refuse (c_Model_refuse l dC dI cI cL cZ mo mo_thrown mo_sourcea mo_source mo_size mo_faultLine mo_fault mo_topics mo_namesa mo_names mo_bodiesa mo_bodies mo_lengthsa mo_lengths mo_headingsa mo_headings mo_keywords mo_keyLettersa mo_keyLetters mo_keyLengthsa mo_keyLengths mo_keyBitsa mo_keyBits mo_words mo_wordLettersa mo_wordLetters mo_wordLengthsa mo_wordLengths mo_wordBitsa mo_wordBits mo_links mo_linkAta mo_linkAt mo_linkLengtha mo_linkLength mo_linkLinea mo_linkLine mo_linkToa mo_linkTo mo_inParagraph mo_emphasis mo_blank mo_lastLine mo_imageSize mo_imagea mo_image mo_compares mo_unlike mo_out mo_total mo_literal mo_handLength mo_handa mo_hand mo_isOpen mo_seenTopics mo_seenNamesa mo_seenNames mo_seenBodiesa mo_seenBodies mo_seenLengthsa mo_seenLengths mo_seenKeywords mo_seenKeyLettersa mo_seenKeyLetters mo_seenKeyLengthsa mo_seenKeyLengths mo_seenKeyBitsa mo_seenKeyBits mo_seenWords mo_seenWordLettersa mo_seenWordLetters mo_seenWordLengthsa mo_seenWordLengths mo_seenWordBitsa mo_seenWordBits mo_topic mo_backs mo_backa mo_back mo_forwards mo_forwarda mo_forward mo_typed mo_querya mo_query mo_visits mo_valuesa mo_values mo_valued mo_signsa mo_signs mo_signed mo_width mo_lines mo_lineFroma mo_lineFrom mo_lineSizea mo_lineSize mo_shown mo_texta mo_text mo_partLength mo_parta mo_part false false r19 mo_thrown_19 c19) k485_methodLink k486_instanceMethod k487_selects ⟨Nat.le_of_ble_eq_true rfl, Nat.le_of_ble_eq_true rfl⟩ rfl rfl hK hN hP hD hS hA [0, 1, 2, 3, 4, 5, 6, 7, 8, 9, 10, 11, 12, 13, 14, 15, 16, 17, 18, 19, 20, 21, 22, 23, 24, 25, 26, 27, 28, 29, 30, 31, 32, 33, 34, 35] [] rfl rfl rfl (by decide) (by decide) (by decide) 0 rfl rfl rfl rfl hl.1 rfl (Nat.le_of_ble_eq_true rfl) d_Model_end_19 (fun H locs hP hD hS => ?_)
    have hP : va_P (dC, dI) classes ((sh_Model cI cL cZ mo mo_thrown_19 mo_sourcea mo_source mo_size mo_faultLine mo_fault mo_topics mo_namesa mo_names mo_bodiesa mo_bodies mo_lengthsa mo_lengths mo_headingsa mo_headings mo_keywords mo_keyLettersa mo_keyLetters mo_keyLengthsa mo_keyLengths mo_keyBitsa mo_keyBits mo_words mo_wordLettersa mo_wordLetters mo_wordLengthsa mo_wordLengths mo_wordBitsa mo_wordBits mo_links mo_linkAta mo_linkAt mo_linkLengtha mo_linkLength mo_linkLinea mo_linkLine mo_linkToa mo_linkTo mo_inParagraph mo_emphasis mo_blank mo_lastLine mo_imageSize mo_imagea mo_image mo_compares mo_unlike mo_out mo_total mo_literal mo_handLength mo_handa mo_hand mo_isOpen mo_seenTopics mo_seenNamesa mo_seenNames mo_seenBodiesa mo_seenBodies mo_seenLengthsa mo_seenLengths mo_seenKeywords mo_seenKeyLettersa mo_seenKeyLetters mo_seenKeyLengthsa mo_seenKeyLengths mo_seenKeyBitsa mo_seenKeyBits mo_seenWords mo_seenWordLettersa mo_seenWordLetters mo_seenWordLengthsa mo_seenWordLengths mo_seenWordBitsa mo_seenWordBits mo_topic mo_backs mo_backa mo_back mo_forwards mo_forwarda mo_forward mo_typed mo_querya mo_query mo_visits mo_valuesa mo_values mo_valued mo_signsa mo_signs mo_signed mo_width mo_lines mo_lineFroma mo_lineFrom mo_lineSizea mo_lineSize mo_shown mo_texta mo_text mo_partLength mo_parta mo_part)) H := hP.sub [0, 1, 2, 3, 4, 5, 6, 7, 8, 9, 10, 11, 12, 13, 14, 15, 16, 17, 18, 19, 20, 21, 22, 23, 24, 25, 26, 27, 28, 29, 30, 31, 32, 33, 34, 35] rfl
    have hD : va_D A ((sh_Model cI cL cZ mo mo_thrown_19 mo_sourcea mo_source mo_size mo_faultLine mo_fault mo_topics mo_namesa mo_names mo_bodiesa mo_bodies mo_lengthsa mo_lengths mo_headingsa mo_headings mo_keywords mo_keyLettersa mo_keyLetters mo_keyLengthsa mo_keyLengths mo_keyBitsa mo_keyBits mo_words mo_wordLettersa mo_wordLetters mo_wordLengthsa mo_wordLengths mo_wordBitsa mo_wordBits mo_links mo_linkAta mo_linkAt mo_linkLengtha mo_linkLength mo_linkLinea mo_linkLine mo_linkToa mo_linkTo mo_inParagraph mo_emphasis mo_blank mo_lastLine mo_imageSize mo_imagea mo_image mo_compares mo_unlike mo_out mo_total mo_literal mo_handLength mo_handa mo_hand mo_isOpen mo_seenTopics mo_seenNamesa mo_seenNames mo_seenBodiesa mo_seenBodies mo_seenLengthsa mo_seenLengths mo_seenKeywords mo_seenKeyLettersa mo_seenKeyLetters mo_seenKeyLengthsa mo_seenKeyLengths mo_seenKeyBitsa mo_seenKeyBits mo_seenWords mo_seenWordLettersa mo_seenWordLetters mo_seenWordLengthsa mo_seenWordLengths mo_seenWordBitsa mo_seenWordBits mo_topic mo_backs mo_backa mo_back mo_forwards mo_forwarda mo_forward mo_typed mo_querya mo_query mo_visits mo_valuesa mo_values mo_valued mo_signsa mo_signs mo_signed mo_width mo_lines mo_lineFroma mo_lineFrom mo_lineSizea mo_lineSize mo_shown mo_texta mo_text mo_partLength mo_parta mo_part)) := hD.sub [0, 1, 2, 3, 4, 5, 6, 7, 8, 9, 10, 11, 12, 13, 14, 15, 16, 17, 18, 19, 20, 21, 22, 23, 24, 25, 26, 27, 28, 29, 30, 31, 32, 33, 34, 35] (by decide) rfl
    refine lv_if_ne (tgt := 30) hx hb d_Model_end_22 (by decide) (fun h22 => ?_) (fun h22 => ?_)
    · have hd := hd.2 h22
      obtain ⟨e0, e1⟩ := hd
      subst e0
      subst e1
      exact ct_vret hx hb hr hlocks hK hP hD hS d_Model_end_30
    · have hd := hd.1 h22
      refine lv_aload_n hx hb d_Model_end_25 rfl (lv_at hl 0 rfl) ?_
      refine lv_iload_n hx hb d_Model_end_26 rfl (lv_at hl 1 rfl) ?_
      refine va_put (D := (dC, dI)) (ci := 9) (v := .int k0) (ty := t_Model 2) (C := R_Model) (T := F_Model) (N := 69) hx hb hts in_Model t_Model t_Model_ok n_Model hown hK hP hD hS 0 rfl rfl 2 (by decide) (hts _ (List.mem_cons_of_mem _ k484_fieldLink)) (fun _ h9 => h9) rfl (t_Model_ok 2 (by decide)) rfl rfl (Nat.le_of_ble_eq_true rfl) d_Model_end_27 (fun H locs hP hD hS => ?_)
      have hP : va_P (dC, dI) classes ((sh_Model cI cL cZ mo mo_thrown_19 mo_sourcea mo_source k0 mo_faultLine mo_fault mo_topics mo_namesa mo_names mo_bodiesa mo_bodies mo_lengthsa mo_lengths mo_headingsa mo_headings mo_keywords mo_keyLettersa mo_keyLetters mo_keyLengthsa mo_keyLengths mo_keyBitsa mo_keyBits mo_words mo_wordLettersa mo_wordLetters mo_wordLengthsa mo_wordLengths mo_wordBitsa mo_wordBits mo_links mo_linkAta mo_linkAt mo_linkLengtha mo_linkLength mo_linkLinea mo_linkLine mo_linkToa mo_linkTo mo_inParagraph mo_emphasis mo_blank mo_lastLine mo_imageSize mo_imagea mo_image mo_compares mo_unlike mo_out mo_total mo_literal mo_handLength mo_handa mo_hand mo_isOpen mo_seenTopics mo_seenNamesa mo_seenNames mo_seenBodiesa mo_seenBodies mo_seenLengthsa mo_seenLengths mo_seenKeywords mo_seenKeyLettersa mo_seenKeyLetters mo_seenKeyLengthsa mo_seenKeyLengths mo_seenKeyBitsa mo_seenKeyBits mo_seenWords mo_seenWordLettersa mo_seenWordLetters mo_seenWordLengthsa mo_seenWordLengths mo_seenWordBitsa mo_seenWordBits mo_topic mo_backs mo_backa mo_back mo_forwards mo_forwarda mo_forward mo_typed mo_querya mo_query mo_visits mo_valuesa mo_values mo_valued mo_signsa mo_signs mo_signed mo_width mo_lines mo_lineFroma mo_lineFrom mo_lineSizea mo_lineSize mo_shown mo_texta mo_text mo_partLength mo_parta mo_part)) H := hP
      have hD : va_D A ((sh_Model cI cL cZ mo mo_thrown_19 mo_sourcea mo_source k0 mo_faultLine mo_fault mo_topics mo_namesa mo_names mo_bodiesa mo_bodies mo_lengthsa mo_lengths mo_headingsa mo_headings mo_keywords mo_keyLettersa mo_keyLetters mo_keyLengthsa mo_keyLengths mo_keyBitsa mo_keyBits mo_words mo_wordLettersa mo_wordLetters mo_wordLengthsa mo_wordLengths mo_wordBitsa mo_wordBits mo_links mo_linkAta mo_linkAt mo_linkLengtha mo_linkLength mo_linkLinea mo_linkLine mo_linkToa mo_linkTo mo_inParagraph mo_emphasis mo_blank mo_lastLine mo_imageSize mo_imagea mo_image mo_compares mo_unlike mo_out mo_total mo_literal mo_handLength mo_handa mo_hand mo_isOpen mo_seenTopics mo_seenNamesa mo_seenNames mo_seenBodiesa mo_seenBodies mo_seenLengthsa mo_seenLengths mo_seenKeywords mo_seenKeyLettersa mo_seenKeyLetters mo_seenKeyLengthsa mo_seenKeyLengths mo_seenKeyBitsa mo_seenKeyBits mo_seenWords mo_seenWordLettersa mo_seenWordLetters mo_seenWordLengthsa mo_seenWordLengths mo_seenWordBitsa mo_seenWordBits mo_topic mo_backs mo_backa mo_back mo_forwards mo_forwarda mo_forward mo_typed mo_querya mo_query mo_visits mo_valuesa mo_values mo_valued mo_signsa mo_signs mo_signed mo_width mo_lines mo_lineFroma mo_lineFrom mo_lineSizea mo_lineSize mo_shown mo_texta mo_text mo_partLength mo_parta mo_part)) := hD
      obtain ⟨e0, e1⟩ := hd
      subst e0
      subst e1
      exact ct_vret hx hb hr hlocks hK hP hD hS d_Model_end_30
  · have hd := hd.1 h10
    refine lv_iconst (v := 1) hx hb d_Model_end_13 (by decide) ?_
    refine lv_goto (tgt := 18) hx hb d_Model_end_14 (by decide) ?_
    refine lv_iconst (v := 0) hx hb d_Model_end_18 (by decide) ?_
    obtain ⟨r19, mo_thrown_19, c19, hd⟩ := hd
    refine ct_V (As := [.int 1, .int 0]) (rest := []) (C := R_Model) (ci := 9) (q := (R_Model, F_Model, 69)) ⟨hx, hb, hml, hown, hts⟩ fm_Model_refuse (c_Model_refuse l dC dI cI cL cZ mo mo_thrown mo_sourcea mo_source mo_size mo_faultLine mo_fault mo_topics mo_namesa mo_names mo_bodiesa mo_bodies mo_lengthsa mo_lengths mo_headingsa mo_headings mo_keywords mo_keyLettersa mo_keyLetters mo_keyLengthsa mo_keyLengths mo_keyBitsa mo_keyBits mo_words mo_wordLettersa mo_wordLetters mo_wordLengthsa mo_wordLengths mo_wordBitsa mo_wordBits mo_links mo_linkAta mo_linkAt mo_linkLengtha mo_linkLength mo_linkLinea mo_linkLine mo_linkToa mo_linkTo mo_inParagraph mo_emphasis mo_blank mo_lastLine mo_imageSize mo_imagea mo_image mo_compares mo_unlike mo_out mo_total mo_literal mo_handLength mo_handa mo_hand mo_isOpen mo_seenTopics mo_seenNamesa mo_seenNames mo_seenBodiesa mo_seenBodies mo_seenLengthsa mo_seenLengths mo_seenKeywords mo_seenKeyLettersa mo_seenKeyLetters mo_seenKeyLengthsa mo_seenKeyLengths mo_seenKeyBitsa mo_seenKeyBits mo_seenWords mo_seenWordLettersa mo_seenWordLetters mo_seenWordLengthsa mo_seenWordLengths mo_seenWordBitsa mo_seenWordBits mo_topic mo_backs mo_backa mo_back mo_forwards mo_forwarda mo_forward mo_typed mo_querya mo_query mo_visits mo_valuesa mo_values mo_valued mo_signsa mo_signs mo_signed mo_width mo_lines mo_lineFroma mo_lineFrom mo_lineSizea mo_lineSize mo_shown mo_texta mo_text mo_partLength mo_parta mo_part true false r19 mo_thrown_19 c19) k485_methodLink k486_instanceMethod k487_selects ⟨Nat.le_of_ble_eq_true rfl, Nat.le_of_ble_eq_true rfl⟩ rfl rfl hK hN hP hD hS hA [0, 1, 2, 3, 4, 5, 6, 7, 8, 9, 10, 11, 12, 13, 14, 15, 16, 17, 18, 19, 20, 21, 22, 23, 24, 25, 26, 27, 28, 29, 30, 31, 32, 33, 34, 35] [] rfl rfl rfl (by decide) (by decide) (by decide) 0 rfl rfl rfl rfl hl.1 rfl (Nat.le_of_ble_eq_true rfl) d_Model_end_19 (fun H locs hP hD hS => ?_)
    have hP : va_P (dC, dI) classes ((sh_Model cI cL cZ mo mo_thrown_19 mo_sourcea mo_source mo_size mo_faultLine mo_fault mo_topics mo_namesa mo_names mo_bodiesa mo_bodies mo_lengthsa mo_lengths mo_headingsa mo_headings mo_keywords mo_keyLettersa mo_keyLetters mo_keyLengthsa mo_keyLengths mo_keyBitsa mo_keyBits mo_words mo_wordLettersa mo_wordLetters mo_wordLengthsa mo_wordLengths mo_wordBitsa mo_wordBits mo_links mo_linkAta mo_linkAt mo_linkLengtha mo_linkLength mo_linkLinea mo_linkLine mo_linkToa mo_linkTo mo_inParagraph mo_emphasis mo_blank mo_lastLine mo_imageSize mo_imagea mo_image mo_compares mo_unlike mo_out mo_total mo_literal mo_handLength mo_handa mo_hand mo_isOpen mo_seenTopics mo_seenNamesa mo_seenNames mo_seenBodiesa mo_seenBodies mo_seenLengthsa mo_seenLengths mo_seenKeywords mo_seenKeyLettersa mo_seenKeyLetters mo_seenKeyLengthsa mo_seenKeyLengths mo_seenKeyBitsa mo_seenKeyBits mo_seenWords mo_seenWordLettersa mo_seenWordLetters mo_seenWordLengthsa mo_seenWordLengths mo_seenWordBitsa mo_seenWordBits mo_topic mo_backs mo_backa mo_back mo_forwards mo_forwarda mo_forward mo_typed mo_querya mo_query mo_visits mo_valuesa mo_values mo_valued mo_signsa mo_signs mo_signed mo_width mo_lines mo_lineFroma mo_lineFrom mo_lineSizea mo_lineSize mo_shown mo_texta mo_text mo_partLength mo_parta mo_part)) H := hP.sub [0, 1, 2, 3, 4, 5, 6, 7, 8, 9, 10, 11, 12, 13, 14, 15, 16, 17, 18, 19, 20, 21, 22, 23, 24, 25, 26, 27, 28, 29, 30, 31, 32, 33, 34, 35] rfl
    have hD : va_D A ((sh_Model cI cL cZ mo mo_thrown_19 mo_sourcea mo_source mo_size mo_faultLine mo_fault mo_topics mo_namesa mo_names mo_bodiesa mo_bodies mo_lengthsa mo_lengths mo_headingsa mo_headings mo_keywords mo_keyLettersa mo_keyLetters mo_keyLengthsa mo_keyLengths mo_keyBitsa mo_keyBits mo_words mo_wordLettersa mo_wordLetters mo_wordLengthsa mo_wordLengths mo_wordBitsa mo_wordBits mo_links mo_linkAta mo_linkAt mo_linkLengtha mo_linkLength mo_linkLinea mo_linkLine mo_linkToa mo_linkTo mo_inParagraph mo_emphasis mo_blank mo_lastLine mo_imageSize mo_imagea mo_image mo_compares mo_unlike mo_out mo_total mo_literal mo_handLength mo_handa mo_hand mo_isOpen mo_seenTopics mo_seenNamesa mo_seenNames mo_seenBodiesa mo_seenBodies mo_seenLengthsa mo_seenLengths mo_seenKeywords mo_seenKeyLettersa mo_seenKeyLetters mo_seenKeyLengthsa mo_seenKeyLengths mo_seenKeyBitsa mo_seenKeyBits mo_seenWords mo_seenWordLettersa mo_seenWordLetters mo_seenWordLengthsa mo_seenWordLengths mo_seenWordBitsa mo_seenWordBits mo_topic mo_backs mo_backa mo_back mo_forwards mo_forwarda mo_forward mo_typed mo_querya mo_query mo_visits mo_valuesa mo_values mo_valued mo_signsa mo_signs mo_signed mo_width mo_lines mo_lineFroma mo_lineFrom mo_lineSizea mo_lineSize mo_shown mo_texta mo_text mo_partLength mo_parta mo_part)) := hD.sub [0, 1, 2, 3, 4, 5, 6, 7, 8, 9, 10, 11, 12, 13, 14, 15, 16, 17, 18, 19, 20, 21, 22, 23, 24, 25, 26, 27, 28, 29, 30, 31, 32, 33, 34, 35] (by decide) rfl
    refine lv_if_ne (tgt := 30) hx hb d_Model_end_22 (by decide) (fun h22 => ?_) (fun h22 => ?_)
    · have hd := hd.2 h22
      obtain ⟨e0, e1⟩ := hd
      subst e0
      subst e1
      exact ct_vret hx hb hr hlocks hK hP hD hS d_Model_end_30
    · have hd := hd.1 h22
      refine lv_aload_n hx hb d_Model_end_25 rfl (lv_at hl 0 rfl) ?_
      refine lv_iload_n hx hb d_Model_end_26 rfl (lv_at hl 1 rfl) ?_
      refine va_put (D := (dC, dI)) (ci := 9) (v := .int k0) (ty := t_Model 2) (C := R_Model) (T := F_Model) (N := 69) hx hb hts in_Model t_Model t_Model_ok n_Model hown hK hP hD hS 0 rfl rfl 2 (by decide) (hts _ (List.mem_cons_of_mem _ k484_fieldLink)) (fun _ h9 => h9) rfl (t_Model_ok 2 (by decide)) rfl rfl (Nat.le_of_ble_eq_true rfl) d_Model_end_27 (fun H locs hP hD hS => ?_)
      have hP : va_P (dC, dI) classes ((sh_Model cI cL cZ mo mo_thrown_19 mo_sourcea mo_source k0 mo_faultLine mo_fault mo_topics mo_namesa mo_names mo_bodiesa mo_bodies mo_lengthsa mo_lengths mo_headingsa mo_headings mo_keywords mo_keyLettersa mo_keyLetters mo_keyLengthsa mo_keyLengths mo_keyBitsa mo_keyBits mo_words mo_wordLettersa mo_wordLetters mo_wordLengthsa mo_wordLengths mo_wordBitsa mo_wordBits mo_links mo_linkAta mo_linkAt mo_linkLengtha mo_linkLength mo_linkLinea mo_linkLine mo_linkToa mo_linkTo mo_inParagraph mo_emphasis mo_blank mo_lastLine mo_imageSize mo_imagea mo_image mo_compares mo_unlike mo_out mo_total mo_literal mo_handLength mo_handa mo_hand mo_isOpen mo_seenTopics mo_seenNamesa mo_seenNames mo_seenBodiesa mo_seenBodies mo_seenLengthsa mo_seenLengths mo_seenKeywords mo_seenKeyLettersa mo_seenKeyLetters mo_seenKeyLengthsa mo_seenKeyLengths mo_seenKeyBitsa mo_seenKeyBits mo_seenWords mo_seenWordLettersa mo_seenWordLetters mo_seenWordLengthsa mo_seenWordLengths mo_seenWordBitsa mo_seenWordBits mo_topic mo_backs mo_backa mo_back mo_forwards mo_forwarda mo_forward mo_typed mo_querya mo_query mo_visits mo_valuesa mo_values mo_valued mo_signsa mo_signs mo_signed mo_width mo_lines mo_lineFroma mo_lineFrom mo_lineSizea mo_lineSize mo_shown mo_texta mo_text mo_partLength mo_parta mo_part)) H := hP
      have hD : va_D A ((sh_Model cI cL cZ mo mo_thrown_19 mo_sourcea mo_source k0 mo_faultLine mo_fault mo_topics mo_namesa mo_names mo_bodiesa mo_bodies mo_lengthsa mo_lengths mo_headingsa mo_headings mo_keywords mo_keyLettersa mo_keyLetters mo_keyLengthsa mo_keyLengths mo_keyBitsa mo_keyBits mo_words mo_wordLettersa mo_wordLetters mo_wordLengthsa mo_wordLengths mo_wordBitsa mo_wordBits mo_links mo_linkAta mo_linkAt mo_linkLengtha mo_linkLength mo_linkLinea mo_linkLine mo_linkToa mo_linkTo mo_inParagraph mo_emphasis mo_blank mo_lastLine mo_imageSize mo_imagea mo_image mo_compares mo_unlike mo_out mo_total mo_literal mo_handLength mo_handa mo_hand mo_isOpen mo_seenTopics mo_seenNamesa mo_seenNames mo_seenBodiesa mo_seenBodies mo_seenLengthsa mo_seenLengths mo_seenKeywords mo_seenKeyLettersa mo_seenKeyLetters mo_seenKeyLengthsa mo_seenKeyLengths mo_seenKeyBitsa mo_seenKeyBits mo_seenWords mo_seenWordLettersa mo_seenWordLetters mo_seenWordLengthsa mo_seenWordLengths mo_seenWordBitsa mo_seenWordBits mo_topic mo_backs mo_backa mo_back mo_forwards mo_forwarda mo_forward mo_typed mo_querya mo_query mo_visits mo_valuesa mo_values mo_valued mo_signsa mo_signs mo_signed mo_width mo_lines mo_lineFroma mo_lineFrom mo_lineSizea mo_lineSize mo_shown mo_texta mo_text mo_partLength mo_parta mo_part)) := hD
      obtain ⟨e0, e1⟩ := hd
      subst e0
      subst e1
      exact ct_vret hx hb hr hlocks hK hP hD hS d_Model_end_30
-- Model.fail
abbrev b_Model_fail : ByteArray := prog_14_method_10_code
def y_Model_fail : MethodName := ⟨"HelpFileModel", "fail", "(II)V"⟩
theorem k489_fieldLink : Cond.fieldLink "HelpFileModel" 140 "HelpFileModel" "fault" "I" ∈ ga := ga_t 1040 (by decide +kernel) rfl
theorem k490_fieldLink : Cond.fieldLink "HelpFileModel" 13 "HelpFileModel" "faultLine" "I" ∈ ga := ga_t 1039 (by decide +kernel) rfl
set_option maxRecDepth 100000 in
theorem fm_Model_fail : Fm y_Model_fail b_Model_fail 3 none 2 := ⟨ga_t 1290 rfl rfl, k479_initialized, by decide, by decide, by decide +kernel⟩
def D_Model_fail (k0 : Int32) (k1 : Int32) (mo_faultLine : Int32) (mo_fault : Int32) (mo_faultLine' : Int32) (mo_fault' : Int32) : Prop := ((mo_fault = 0 → (mo_faultLine' = k1 ∧ mo_fault' = k0)) ∧ (¬ (mo_fault = 0) → (mo_faultLine' = mo_faultLine ∧ mo_fault' = mo_fault)))
theorem d_Model_fail_0 : decode b_Model_fail 0 = .ok (.aload_n 0, 1) := by decide +kernel
theorem d_Model_fail_1 : decode b_Model_fail 1 = .ok (.getfield 140, 3) := by decide +kernel
theorem d_Model_fail_4 : decode b_Model_fail 4 = .ok (.ifCond .ne 13, 3) := by decide +kernel
theorem d_Model_fail_7 : decode b_Model_fail 7 = .ok (.aload_n 0, 1) := by decide +kernel
theorem d_Model_fail_8 : decode b_Model_fail 8 = .ok (.iload_n 1, 1) := by decide +kernel
theorem d_Model_fail_9 : decode b_Model_fail 9 = .ok (.putfield 140, 3) := by decide +kernel
theorem d_Model_fail_12 : decode b_Model_fail 12 = .ok (.aload_n 0, 1) := by decide +kernel
theorem d_Model_fail_13 : decode b_Model_fail 13 = .ok (.iload_n 2, 1) := by decide +kernel
theorem d_Model_fail_14 : decode b_Model_fail 14 = .ok (.putfield 13, 3) := by decide +kernel
theorem d_Model_fail_17 : decode b_Model_fail 17 = .ok (.return_, 1) := by decide +kernel
set_option maxHeartbeats 4000000 in
set_option maxRecDepth 100000 in
theorem c_Model_fail (l : Launch) (dC : Nat → ClassId) (dI : Nat → Nat → Nat) (cI cL cZ : ClassId) (mo : Nat) (mo_thrown : Int32) (mo_sourcea : Nat) (mo_source : Nat → Int32) (mo_size : Int32) (mo_faultLine : Int32) (mo_fault : Int32) (mo_topics : Int32) (mo_namesa : Nat) (mo_names : Nat → Int32) (mo_bodiesa : Nat) (mo_bodies : Nat → Int32) (mo_lengthsa : Nat) (mo_lengths : Nat → Int32) (mo_headingsa : Nat) (mo_headings : Nat → Int32) (mo_keywords : Int32) (mo_keyLettersa : Nat) (mo_keyLetters : Nat → Int32) (mo_keyLengthsa : Nat) (mo_keyLengths : Nat → Int32) (mo_keyBitsa : Nat) (mo_keyBits : Nat → Int32) (mo_words : Int32) (mo_wordLettersa : Nat) (mo_wordLetters : Nat → Int32) (mo_wordLengthsa : Nat) (mo_wordLengths : Nat → Int32) (mo_wordBitsa : Nat) (mo_wordBits : Nat → Int32) (mo_links : Int32) (mo_linkAta : Nat) (mo_linkAt : Nat → Int32) (mo_linkLengtha : Nat) (mo_linkLength : Nat → Int32) (mo_linkLinea : Nat) (mo_linkLine : Nat → Int32) (mo_linkToa : Nat) (mo_linkTo : Nat → Int32) (mo_inParagraph : Bool) (mo_emphasis : Bool) (mo_blank : Bool) (mo_lastLine : Int32) (mo_imageSize : Int32) (mo_imagea : Nat) (mo_image : Nat → Int32) (mo_compares : Bool) (mo_unlike : Bool) (mo_out : Int32) (mo_total : Int32) (mo_literal : Int32) (mo_handLength : Int32) (mo_handa : Nat) (mo_hand : Nat → Int32) (mo_isOpen : Bool) (mo_seenTopics : Int32) (mo_seenNamesa : Nat) (mo_seenNames : Nat → Int32) (mo_seenBodiesa : Nat) (mo_seenBodies : Nat → Int32) (mo_seenLengthsa : Nat) (mo_seenLengths : Nat → Int32) (mo_seenKeywords : Int32) (mo_seenKeyLettersa : Nat) (mo_seenKeyLetters : Nat → Int32) (mo_seenKeyLengthsa : Nat) (mo_seenKeyLengths : Nat → Int32) (mo_seenKeyBitsa : Nat) (mo_seenKeyBits : Nat → Int32) (mo_seenWords : Int32) (mo_seenWordLettersa : Nat) (mo_seenWordLetters : Nat → Int32) (mo_seenWordLengthsa : Nat) (mo_seenWordLengths : Nat → Int32) (mo_seenWordBitsa : Nat) (mo_seenWordBits : Nat → Int32) (mo_topic : Int32) (mo_backs : Int32) (mo_backa : Nat) (mo_back : Nat → Int32) (mo_forwards : Int32) (mo_forwarda : Nat) (mo_forward : Nat → Int32) (mo_typed : Int32) (mo_querya : Nat) (mo_query : Nat → Int32) (mo_visits : Int32) (mo_valuesa : Nat) (mo_values : Nat → Int32) (mo_valued : Int32) (mo_signsa : Nat) (mo_signs : Nat → Int32) (mo_signed : Int32) (mo_width : Int32) (mo_lines : Int32) (mo_lineFroma : Nat) (mo_lineFrom : Nat → Int32) (mo_lineSizea : Nat) (mo_lineSize : Nat → Int32) (mo_shown : Int32) (mo_texta : Nat) (mo_text : Nat → Int32) (mo_partLength : Int32) (mo_parta : Nat) (mo_part : Nat → Int32) (k0 : Int32) (k1 : Int32) (mo_faultLine' : Int32) (mo_fault' : Int32) (hd : D_Model_fail k0 k1 mo_faultLine mo_fault mo_faultLine' mo_fault') : Ctr l y_Model_fail (Cond.code y_Model_fail b_Model_fail 3 none :: ga) { frames := 0, cells := 0, slots := 0, locals := 0 } (dC, dI) classes (Tys cI cL cZ) [.ref mo, .int k0, .int k1] ((sh_Model cI cL cZ mo mo_thrown mo_sourcea mo_source mo_size mo_faultLine mo_fault mo_topics mo_namesa mo_names mo_bodiesa mo_bodies mo_lengthsa mo_lengths mo_headingsa mo_headings mo_keywords mo_keyLettersa mo_keyLetters mo_keyLengthsa mo_keyLengths mo_keyBitsa mo_keyBits mo_words mo_wordLettersa mo_wordLetters mo_wordLengthsa mo_wordLengths mo_wordBitsa mo_wordBits mo_links mo_linkAta mo_linkAt mo_linkLengtha mo_linkLength mo_linkLinea mo_linkLine mo_linkToa mo_linkTo mo_inParagraph mo_emphasis mo_blank mo_lastLine mo_imageSize mo_imagea mo_image mo_compares mo_unlike mo_out mo_total mo_literal mo_handLength mo_handa mo_hand mo_isOpen mo_seenTopics mo_seenNamesa mo_seenNames mo_seenBodiesa mo_seenBodies mo_seenLengthsa mo_seenLengths mo_seenKeywords mo_seenKeyLettersa mo_seenKeyLetters mo_seenKeyLengthsa mo_seenKeyLengths mo_seenKeyBitsa mo_seenKeyBits mo_seenWords mo_seenWordLettersa mo_seenWordLetters mo_seenWordLengthsa mo_seenWordLengths mo_seenWordBitsa mo_seenWordBits mo_topic mo_backs mo_backa mo_back mo_forwards mo_forwarda mo_forward mo_typed mo_querya mo_query mo_visits mo_valuesa mo_values mo_valued mo_signsa mo_signs mo_signed mo_width mo_lines mo_lineFroma mo_lineFrom mo_lineSizea mo_lineSize mo_shown mo_texta mo_text mo_partLength mo_parta mo_part)) none ((sh_Model cI cL cZ mo mo_thrown mo_sourcea mo_source mo_size mo_faultLine' mo_fault' mo_topics mo_namesa mo_names mo_bodiesa mo_bodies mo_lengthsa mo_lengths mo_headingsa mo_headings mo_keywords mo_keyLettersa mo_keyLetters mo_keyLengthsa mo_keyLengths mo_keyBitsa mo_keyBits mo_words mo_wordLettersa mo_wordLetters mo_wordLengthsa mo_wordLengths mo_wordBitsa mo_wordBits mo_links mo_linkAta mo_linkAt mo_linkLengtha mo_linkLength mo_linkLinea mo_linkLine mo_linkToa mo_linkTo mo_inParagraph mo_emphasis mo_blank mo_lastLine mo_imageSize mo_imagea mo_image mo_compares mo_unlike mo_out mo_total mo_literal mo_handLength mo_handa mo_hand mo_isOpen mo_seenTopics mo_seenNamesa mo_seenNames mo_seenBodiesa mo_seenBodies mo_seenLengthsa mo_seenLengths mo_seenKeywords mo_seenKeyLettersa mo_seenKeyLetters mo_seenKeyLengthsa mo_seenKeyLengths mo_seenKeyBitsa mo_seenKeyBits mo_seenWords mo_seenWordLettersa mo_seenWordLetters mo_seenWordLengthsa mo_seenWordLengths mo_seenWordBitsa mo_seenWordBits mo_topic mo_backs mo_backa mo_back mo_forwards mo_forwarda mo_forward mo_typed mo_querya mo_query mo_visits mo_valuesa mo_values mo_valued mo_signsa mo_signs mo_signed mo_width mo_lines mo_lineFroma mo_lineFrom mo_lineSizea mo_lineSize mo_shown mo_texta mo_text mo_partLength mo_parta mo_part)) := by
  refine Ctr.ofW (by decide) (Nat.le_of_ble_eq_true rfl) ?_
  intro p e s m below meth c A ls hx hb hr hml hown hlocks hts hK hN hA hP hD hS hl
  have hown : s.vm.findClass R_Model = some m.cls := hown
  have hl : lv_has ls 3 [(0, .ref mo), (1, .int k0), (2, .int k1)] := hl
  refine lv_aload_n hx hb d_Model_fail_0 rfl (lv_at hl 0 rfl) ?_
  refine va_get (D := (dC, dI)) (ci := 9) (v := .int mo_fault) (C := R_Model) (T := F_Model) (N := 69) hx hb hts in_Model hown hK hP 0 rfl rfl 4 (by decide) (hts _ (List.mem_cons_of_mem _ k489_fieldLink)) (fun _ h9 => h9) rfl d_Model_fail_1 ?_
  refine lv_if_ne (tgt := 17) hx hb d_Model_fail_4 (by decide) (fun h4 => ?_) (fun h4 => ?_)
  · have hd := hd.2 h4
    obtain ⟨e0, e1⟩ := hd
    subst e0
    subst e1
    exact ct_vret hx hb hr hlocks hK hP hD hS d_Model_fail_17
  · have hd := hd.1 h4
    refine lv_aload_n hx hb d_Model_fail_7 rfl (lv_at hl 0 rfl) ?_
    refine lv_iload_n hx hb d_Model_fail_8 rfl (lv_at hl 1 rfl) ?_
    refine va_put (D := (dC, dI)) (ci := 9) (v := .int k0) (ty := t_Model 4) (C := R_Model) (T := F_Model) (N := 69) hx hb hts in_Model t_Model t_Model_ok n_Model hown hK hP hD hS 0 rfl rfl 4 (by decide) (hts _ (List.mem_cons_of_mem _ k489_fieldLink)) (fun _ h9 => h9) rfl (t_Model_ok 4 (by decide)) rfl rfl (Nat.le_of_ble_eq_true rfl) d_Model_fail_9 (fun H locs hP hD hS => ?_)
    have hP : va_P (dC, dI) classes ((sh_Model cI cL cZ mo mo_thrown mo_sourcea mo_source mo_size mo_faultLine k0 mo_topics mo_namesa mo_names mo_bodiesa mo_bodies mo_lengthsa mo_lengths mo_headingsa mo_headings mo_keywords mo_keyLettersa mo_keyLetters mo_keyLengthsa mo_keyLengths mo_keyBitsa mo_keyBits mo_words mo_wordLettersa mo_wordLetters mo_wordLengthsa mo_wordLengths mo_wordBitsa mo_wordBits mo_links mo_linkAta mo_linkAt mo_linkLengtha mo_linkLength mo_linkLinea mo_linkLine mo_linkToa mo_linkTo mo_inParagraph mo_emphasis mo_blank mo_lastLine mo_imageSize mo_imagea mo_image mo_compares mo_unlike mo_out mo_total mo_literal mo_handLength mo_handa mo_hand mo_isOpen mo_seenTopics mo_seenNamesa mo_seenNames mo_seenBodiesa mo_seenBodies mo_seenLengthsa mo_seenLengths mo_seenKeywords mo_seenKeyLettersa mo_seenKeyLetters mo_seenKeyLengthsa mo_seenKeyLengths mo_seenKeyBitsa mo_seenKeyBits mo_seenWords mo_seenWordLettersa mo_seenWordLetters mo_seenWordLengthsa mo_seenWordLengths mo_seenWordBitsa mo_seenWordBits mo_topic mo_backs mo_backa mo_back mo_forwards mo_forwarda mo_forward mo_typed mo_querya mo_query mo_visits mo_valuesa mo_values mo_valued mo_signsa mo_signs mo_signed mo_width mo_lines mo_lineFroma mo_lineFrom mo_lineSizea mo_lineSize mo_shown mo_texta mo_text mo_partLength mo_parta mo_part)) H := hP
    have hD : va_D A ((sh_Model cI cL cZ mo mo_thrown mo_sourcea mo_source mo_size mo_faultLine k0 mo_topics mo_namesa mo_names mo_bodiesa mo_bodies mo_lengthsa mo_lengths mo_headingsa mo_headings mo_keywords mo_keyLettersa mo_keyLetters mo_keyLengthsa mo_keyLengths mo_keyBitsa mo_keyBits mo_words mo_wordLettersa mo_wordLetters mo_wordLengthsa mo_wordLengths mo_wordBitsa mo_wordBits mo_links mo_linkAta mo_linkAt mo_linkLengtha mo_linkLength mo_linkLinea mo_linkLine mo_linkToa mo_linkTo mo_inParagraph mo_emphasis mo_blank mo_lastLine mo_imageSize mo_imagea mo_image mo_compares mo_unlike mo_out mo_total mo_literal mo_handLength mo_handa mo_hand mo_isOpen mo_seenTopics mo_seenNamesa mo_seenNames mo_seenBodiesa mo_seenBodies mo_seenLengthsa mo_seenLengths mo_seenKeywords mo_seenKeyLettersa mo_seenKeyLetters mo_seenKeyLengthsa mo_seenKeyLengths mo_seenKeyBitsa mo_seenKeyBits mo_seenWords mo_seenWordLettersa mo_seenWordLetters mo_seenWordLengthsa mo_seenWordLengths mo_seenWordBitsa mo_seenWordBits mo_topic mo_backs mo_backa mo_back mo_forwards mo_forwarda mo_forward mo_typed mo_querya mo_query mo_visits mo_valuesa mo_values mo_valued mo_signsa mo_signs mo_signed mo_width mo_lines mo_lineFroma mo_lineFrom mo_lineSizea mo_lineSize mo_shown mo_texta mo_text mo_partLength mo_parta mo_part)) := hD
    refine lv_aload_n hx hb d_Model_fail_12 rfl (lv_at hl 0 rfl) ?_
    refine lv_iload_n hx hb d_Model_fail_13 rfl (lv_at hl 2 rfl) ?_
    refine va_put (D := (dC, dI)) (ci := 9) (v := .int k1) (ty := t_Model 3) (C := R_Model) (T := F_Model) (N := 69) hx hb hts in_Model t_Model t_Model_ok n_Model hown hK hP hD hS 0 rfl rfl 3 (by decide) (hts _ (List.mem_cons_of_mem _ k490_fieldLink)) (fun _ h9 => h9) rfl (t_Model_ok 3 (by decide)) rfl rfl (Nat.le_of_ble_eq_true rfl) d_Model_fail_14 (fun H locs hP hD hS => ?_)
    have hP : va_P (dC, dI) classes ((sh_Model cI cL cZ mo mo_thrown mo_sourcea mo_source mo_size k1 k0 mo_topics mo_namesa mo_names mo_bodiesa mo_bodies mo_lengthsa mo_lengths mo_headingsa mo_headings mo_keywords mo_keyLettersa mo_keyLetters mo_keyLengthsa mo_keyLengths mo_keyBitsa mo_keyBits mo_words mo_wordLettersa mo_wordLetters mo_wordLengthsa mo_wordLengths mo_wordBitsa mo_wordBits mo_links mo_linkAta mo_linkAt mo_linkLengtha mo_linkLength mo_linkLinea mo_linkLine mo_linkToa mo_linkTo mo_inParagraph mo_emphasis mo_blank mo_lastLine mo_imageSize mo_imagea mo_image mo_compares mo_unlike mo_out mo_total mo_literal mo_handLength mo_handa mo_hand mo_isOpen mo_seenTopics mo_seenNamesa mo_seenNames mo_seenBodiesa mo_seenBodies mo_seenLengthsa mo_seenLengths mo_seenKeywords mo_seenKeyLettersa mo_seenKeyLetters mo_seenKeyLengthsa mo_seenKeyLengths mo_seenKeyBitsa mo_seenKeyBits mo_seenWords mo_seenWordLettersa mo_seenWordLetters mo_seenWordLengthsa mo_seenWordLengths mo_seenWordBitsa mo_seenWordBits mo_topic mo_backs mo_backa mo_back mo_forwards mo_forwarda mo_forward mo_typed mo_querya mo_query mo_visits mo_valuesa mo_values mo_valued mo_signsa mo_signs mo_signed mo_width mo_lines mo_lineFroma mo_lineFrom mo_lineSizea mo_lineSize mo_shown mo_texta mo_text mo_partLength mo_parta mo_part)) H := hP
    have hD : va_D A ((sh_Model cI cL cZ mo mo_thrown mo_sourcea mo_source mo_size k1 k0 mo_topics mo_namesa mo_names mo_bodiesa mo_bodies mo_lengthsa mo_lengths mo_headingsa mo_headings mo_keywords mo_keyLettersa mo_keyLetters mo_keyLengthsa mo_keyLengths mo_keyBitsa mo_keyBits mo_words mo_wordLettersa mo_wordLetters mo_wordLengthsa mo_wordLengths mo_wordBitsa mo_wordBits mo_links mo_linkAta mo_linkAt mo_linkLengtha mo_linkLength mo_linkLinea mo_linkLine mo_linkToa mo_linkTo mo_inParagraph mo_emphasis mo_blank mo_lastLine mo_imageSize mo_imagea mo_image mo_compares mo_unlike mo_out mo_total mo_literal mo_handLength mo_handa mo_hand mo_isOpen mo_seenTopics mo_seenNamesa mo_seenNames mo_seenBodiesa mo_seenBodies mo_seenLengthsa mo_seenLengths mo_seenKeywords mo_seenKeyLettersa mo_seenKeyLetters mo_seenKeyLengthsa mo_seenKeyLengths mo_seenKeyBitsa mo_seenKeyBits mo_seenWords mo_seenWordLettersa mo_seenWordLetters mo_seenWordLengthsa mo_seenWordLengths mo_seenWordBitsa mo_seenWordBits mo_topic mo_backs mo_backa mo_back mo_forwards mo_forwarda mo_forward mo_typed mo_querya mo_query mo_visits mo_valuesa mo_values mo_valued mo_signsa mo_signs mo_signed mo_width mo_lines mo_lineFroma mo_lineFrom mo_lineSizea mo_lineSize mo_shown mo_texta mo_text mo_partLength mo_parta mo_part)) := hD
    obtain ⟨e0, e1⟩ := hd
    subst e0
    subst e1
    exact ct_vret hx hb hr hlocks hK hP hD hS d_Model_fail_17
-- Model.lineEnd
abbrev b_Model_lineEnd : ByteArray := prog_14_method_11_code
def y_Model_lineEnd : MethodName := ⟨"HelpFileModel", "lineEnd", "(I)I"⟩
set_option maxRecDepth 100000 in
theorem fm_Model_lineEnd : Fm y_Model_lineEnd b_Model_lineEnd 3 (some .int) 1 := ⟨ga_t 1274 rfl rfl, k479_initialized, by decide, by decide, by decide +kernel⟩
def B_Model_lineEnd_2 (mo_source : Nat → Int32) (mo_size : Int32) (res : Int32) (X : Int32 → Prop) (x2 : Int32) : Prop := ((mo_size ≤ x2 → (res = x2)) ∧ (¬ (mo_size ≤ x2) → (vp_in x2 700 ∧ (((mo_source (Int32.toNatClampNeg x2)) = 10 → (res = x2)) ∧ (¬ ((mo_source (Int32.toNatClampNeg x2)) = 10) → X (x2 + 1))))))
def S_Model_lineEnd (mo_source : Nat → Int32) (mo_size : Int32) (res : Int32) (X : Int32 → Prop) : Int32 → Prop := fun x2 => B_Model_lineEnd_2 mo_source mo_size res X x2
def T_Model_lineEnd (mo_source : Nat → Int32) (mo_size : Int32) (res : Int32) : Nat → (Int32 → Prop)
  | 0 => fun _ => False
  | n + 1 => S_Model_lineEnd mo_source mo_size res (T_Model_lineEnd mo_source mo_size res n)
def D_Model_lineEnd (k0 : Int32) (mo_source : Nat → Int32) (mo_size : Int32) (res : Int32) : Prop := ∃ n : Nat, T_Model_lineEnd mo_source mo_size res n k0
theorem d_Model_lineEnd_0 : decode b_Model_lineEnd 0 = .ok (.iload_n 1, 1) := by decide +kernel
theorem d_Model_lineEnd_1 : decode b_Model_lineEnd 1 = .ok (.istore_n 2, 1) := by decide +kernel
theorem d_Model_lineEnd_2 : decode b_Model_lineEnd 2 = .ok (.iload_n 2, 1) := by decide +kernel
theorem d_Model_lineEnd_3 : decode b_Model_lineEnd 3 = .ok (.aload_n 0, 1) := by decide +kernel
theorem d_Model_lineEnd_4 : decode b_Model_lineEnd 4 = .ok (.getfield 133, 3) := by decide +kernel
theorem d_Model_lineEnd_7 : decode b_Model_lineEnd 7 = .ok (.if_icmp .ge 20, 3) := by decide +kernel
theorem d_Model_lineEnd_10 : decode b_Model_lineEnd 10 = .ok (.aload_n 0, 1) := by decide +kernel
theorem d_Model_lineEnd_11 : decode b_Model_lineEnd 11 = .ok (.getfield 7, 3) := by decide +kernel
theorem d_Model_lineEnd_14 : decode b_Model_lineEnd 14 = .ok (.iload_n 2, 1) := by decide +kernel
theorem d_Model_lineEnd_15 : decode b_Model_lineEnd 15 = .ok (.iaload, 1) := by decide +kernel
theorem d_Model_lineEnd_16 : decode b_Model_lineEnd 16 = .ok (.bipush 10, 2) := by decide +kernel
theorem d_Model_lineEnd_18 : decode b_Model_lineEnd 18 = .ok (.if_icmp .eq 9, 3) := by decide +kernel
theorem d_Model_lineEnd_21 : decode b_Model_lineEnd 21 = .ok (.iinc 2 1, 3) := by decide +kernel
theorem d_Model_lineEnd_24 : decode b_Model_lineEnd 24 = .ok (.goto (-22), 3) := by decide +kernel
theorem d_Model_lineEnd_27 : decode b_Model_lineEnd 27 = .ok (.iload_n 2, 1) := by decide +kernel
theorem d_Model_lineEnd_28 : decode b_Model_lineEnd 28 = .ok (.ireturn, 1) := by decide +kernel
set_option maxHeartbeats 4000000 in
set_option maxRecDepth 100000 in
theorem c_Model_lineEnd (l : Launch) (dC : Nat → ClassId) (dI : Nat → Nat → Nat) (cI cL cZ : ClassId) (mo : Nat) (mo_thrown : Int32) (mo_sourcea : Nat) (mo_source : Nat → Int32) (mo_size : Int32) (mo_faultLine : Int32) (mo_fault : Int32) (mo_topics : Int32) (mo_namesa : Nat) (mo_names : Nat → Int32) (mo_bodiesa : Nat) (mo_bodies : Nat → Int32) (mo_lengthsa : Nat) (mo_lengths : Nat → Int32) (mo_headingsa : Nat) (mo_headings : Nat → Int32) (mo_keywords : Int32) (mo_keyLettersa : Nat) (mo_keyLetters : Nat → Int32) (mo_keyLengthsa : Nat) (mo_keyLengths : Nat → Int32) (mo_keyBitsa : Nat) (mo_keyBits : Nat → Int32) (mo_words : Int32) (mo_wordLettersa : Nat) (mo_wordLetters : Nat → Int32) (mo_wordLengthsa : Nat) (mo_wordLengths : Nat → Int32) (mo_wordBitsa : Nat) (mo_wordBits : Nat → Int32) (mo_links : Int32) (mo_linkAta : Nat) (mo_linkAt : Nat → Int32) (mo_linkLengtha : Nat) (mo_linkLength : Nat → Int32) (mo_linkLinea : Nat) (mo_linkLine : Nat → Int32) (mo_linkToa : Nat) (mo_linkTo : Nat → Int32) (mo_inParagraph : Bool) (mo_emphasis : Bool) (mo_blank : Bool) (mo_lastLine : Int32) (mo_imageSize : Int32) (mo_imagea : Nat) (mo_image : Nat → Int32) (mo_compares : Bool) (mo_unlike : Bool) (mo_out : Int32) (mo_total : Int32) (mo_literal : Int32) (mo_handLength : Int32) (mo_handa : Nat) (mo_hand : Nat → Int32) (mo_isOpen : Bool) (mo_seenTopics : Int32) (mo_seenNamesa : Nat) (mo_seenNames : Nat → Int32) (mo_seenBodiesa : Nat) (mo_seenBodies : Nat → Int32) (mo_seenLengthsa : Nat) (mo_seenLengths : Nat → Int32) (mo_seenKeywords : Int32) (mo_seenKeyLettersa : Nat) (mo_seenKeyLetters : Nat → Int32) (mo_seenKeyLengthsa : Nat) (mo_seenKeyLengths : Nat → Int32) (mo_seenKeyBitsa : Nat) (mo_seenKeyBits : Nat → Int32) (mo_seenWords : Int32) (mo_seenWordLettersa : Nat) (mo_seenWordLetters : Nat → Int32) (mo_seenWordLengthsa : Nat) (mo_seenWordLengths : Nat → Int32) (mo_seenWordBitsa : Nat) (mo_seenWordBits : Nat → Int32) (mo_topic : Int32) (mo_backs : Int32) (mo_backa : Nat) (mo_back : Nat → Int32) (mo_forwards : Int32) (mo_forwarda : Nat) (mo_forward : Nat → Int32) (mo_typed : Int32) (mo_querya : Nat) (mo_query : Nat → Int32) (mo_visits : Int32) (mo_valuesa : Nat) (mo_values : Nat → Int32) (mo_valued : Int32) (mo_signsa : Nat) (mo_signs : Nat → Int32) (mo_signed : Int32) (mo_width : Int32) (mo_lines : Int32) (mo_lineFroma : Nat) (mo_lineFrom : Nat → Int32) (mo_lineSizea : Nat) (mo_lineSize : Nat → Int32) (mo_shown : Int32) (mo_texta : Nat) (mo_text : Nat → Int32) (mo_partLength : Int32) (mo_parta : Nat) (mo_part : Nat → Int32) (k0 : Int32) (res : Int32) (hd : D_Model_lineEnd k0 mo_source mo_size res) : CtrR l y_Model_lineEnd (Cond.code y_Model_lineEnd b_Model_lineEnd 3 (some .int) :: ga) { frames := 0, cells := 0, slots := 0, locals := 0 } (dC, dI) classes (Tys cI cL cZ) [.ref mo, .int k0] ((sh_Model cI cL cZ mo mo_thrown mo_sourcea mo_source mo_size mo_faultLine mo_fault mo_topics mo_namesa mo_names mo_bodiesa mo_bodies mo_lengthsa mo_lengths mo_headingsa mo_headings mo_keywords mo_keyLettersa mo_keyLetters mo_keyLengthsa mo_keyLengths mo_keyBitsa mo_keyBits mo_words mo_wordLettersa mo_wordLetters mo_wordLengthsa mo_wordLengths mo_wordBitsa mo_wordBits mo_links mo_linkAta mo_linkAt mo_linkLengtha mo_linkLength mo_linkLinea mo_linkLine mo_linkToa mo_linkTo mo_inParagraph mo_emphasis mo_blank mo_lastLine mo_imageSize mo_imagea mo_image mo_compares mo_unlike mo_out mo_total mo_literal mo_handLength mo_handa mo_hand mo_isOpen mo_seenTopics mo_seenNamesa mo_seenNames mo_seenBodiesa mo_seenBodies mo_seenLengthsa mo_seenLengths mo_seenKeywords mo_seenKeyLettersa mo_seenKeyLetters mo_seenKeyLengthsa mo_seenKeyLengths mo_seenKeyBitsa mo_seenKeyBits mo_seenWords mo_seenWordLettersa mo_seenWordLetters mo_seenWordLengthsa mo_seenWordLengths mo_seenWordBitsa mo_seenWordBits mo_topic mo_backs mo_backa mo_back mo_forwards mo_forwarda mo_forward mo_typed mo_querya mo_query mo_visits mo_valuesa mo_values mo_valued mo_signsa mo_signs mo_signed mo_width mo_lines mo_lineFroma mo_lineFrom mo_lineSizea mo_lineSize mo_shown mo_texta mo_text mo_partLength mo_parta mo_part)) (some (.int res)) := by
  refine CtrR.ofW (by decide) (Nat.le_of_ble_eq_true rfl) ?_
  intro p e s m below meth c ls hx hb hr hml hown hlocks hts hK hN hP hD hl
  have hown : s.vm.findClass R_Model = some m.cls := hown
  have hl : lv_has ls 3 [(0, .ref mo), (1, .int k0)] := hl
  have key : ∀ n : Nat, (∀ (x2 : Int32) (ls : Array Slot), lv_has ls 3 [(0, .ref mo), (2, .int x2)] → T_Model_lineEnd mo_source mo_size res n x2 → W p l e ({ frames := 0, cells := 0, slots := 0, locals := 0 }) s m ([.ref mo, .int k0] : List Value).toArray below meth c s.heap [] 0 0 (MQ below (Qr (some (.int res))) ([.ref mo, .int k0] : List Value).toArray s 0 0 (fun _ => False)) (F0 m 2 ls [])) := by
    intro n
    induction n with
    | zero =>
      exact fun _ _ _ hd => False.elim hd
    | succ n ih =>
      · intro x2 ls hl hd
        have hd : B_Model_lineEnd_2 mo_source mo_size res (T_Model_lineEnd mo_source mo_size res n) x2 := hd
        refine lv_iload_n hx hb d_Model_lineEnd_2 rfl (lv_at hl 1 rfl) ?_
        refine lv_aload_n hx hb d_Model_lineEnd_3 rfl (lv_at hl 0 rfl) ?_
        refine va_get (D := (dC, dI)) (ci := 9) (v := .int mo_size) (C := R_Model) (T := F_Model) (N := 69) hx hb hts in_Model hown hK hP 0 rfl rfl 2 (by decide) (hts _ (List.mem_cons_of_mem _ k484_fieldLink)) (fun _ h9 => h9) rfl d_Model_lineEnd_4 ?_
        refine lv_icmp_ge (tgt := 27) hx hb d_Model_lineEnd_7 (by decide) (fun h7 => ?_) (fun h7 => ?_)
        · have hd := hd.1 h7
          refine lv_iload_n hx hb d_Model_lineEnd_27 rfl (lv_at hl 1 rfl) ?_
          have e0 : res = x2 := hd
          subst e0
          exact ct_iretR hx hb hr hlocks d_Model_lineEnd_28
        · have hd := hd.2 h7
          refine lv_aload_n hx hb d_Model_lineEnd_10 rfl (lv_at hl 0 rfl) ?_
          refine va_get (D := (dC, dI)) (ci := 9) (v := .ref mo_sourcea) (C := R_Model) (T := F_Model) (N := 69) hx hb hts in_Model hown hK hP 0 rfl rfl 1 (by decide) (hts _ (List.mem_cons_of_mem _ k488_fieldLink)) (fun _ h9 => h9) rfl d_Model_lineEnd_11 ?_
          refine lv_iload_n hx hb d_Model_lineEnd_14 rfl (lv_at hl 1 rfl) ?_
          obtain ⟨h15, hd⟩ := hd
          refine va_iald hx hb hK hP 1 0 rfl rfl h15 d_Model_lineEnd_15 ?_
          refine lv_bipush (v := 10) hx hb d_Model_lineEnd_16 (by decide) ?_
          refine lv_icmp_eq (tgt := 27) hx hb d_Model_lineEnd_18 (by decide) (fun h18 => ?_) (fun h18 => ?_)
          · have hd := hd.1 h18
            refine lv_iload_n hx hb d_Model_lineEnd_27 rfl (lv_at hl 1 rfl) ?_
            have e0 : res = x2 := hd
            subst e0
            exact ct_iretR hx hb hr hlocks d_Model_lineEnd_28
          · have hd := hd.2 h18
            refine lv_iinc (k := 1) (v := x2 + 1) (lv' := [(2, .int (x2 + 1)), (0, .ref mo)]) hx hb d_Model_lineEnd_21 hl rfl (congrArg (fun z => x2 + z) (by decide)) (by decide) rfl (fun ls hl => ?_)
            refine lv_goto (tgt := 2) hx hb d_Model_lineEnd_24 (by decide) ?_
            exact ih (x2 + 1) _ (lv_sub hl [1, 0] rfl) hd
  obtain ⟨n, hd⟩ := hd
  refine lv_iload_n hx hb d_Model_lineEnd_0 rfl (lv_at hl 1 rfl) ?_
  refine lv_istore_n (lv' := [(2, .int k0), (0, .ref mo), (1, .int k0)]) hx hb d_Model_lineEnd_1 rfl hl (by decide) rfl (fun ls hl => ?_)
  exact (key n) k0 _ (lv_sub hl [1, 0] rfl) hd
-- Model.isBlank
abbrev b_Model_isBlank : ByteArray := prog_14_method_12_code
def y_Model_isBlank : MethodName := ⟨"HelpFileModel", "isBlank", "(II)Z"⟩
set_option maxRecDepth 100000 in
theorem fm_Model_isBlank : Fm y_Model_isBlank b_Model_isBlank 5 (some .boolean) 2 := ⟨ga_t 1282 rfl rfl, k479_initialized, by decide, by decide, by decide +kernel⟩
def B_Model_isBlank_5 (mo_source : Nat → Int32) (res : Bool) (X : Nat → Int32 → Bool → Int32 → Prop) (x2 : Int32) (b3 : Bool) (x4 : Int32) : Prop := ((x2 ≤ x4 → (res = b3)) ∧ (¬ (x2 ≤ x4) → (((bI b3) = 0 → X 1 x2 false x4) ∧ (¬ ((bI b3) = 0) → (vp_in x4 700 ∧ (((mo_source (Int32.toNatClampNeg x4)) = 32 → X 0 x2 true (x4 + 1)) ∧ (¬ ((mo_source (Int32.toNatClampNeg x4)) = 32) → X 1 x2 false x4)))))))
def B_Model_isBlank_31 (mo_source : Nat → Int32) (res : Bool) (X : Nat → Int32 → Bool → Int32 → Prop) (x2 : Int32) (x4 : Int32) : Prop := X 0 x2 false (x4 + 1)
def S_Model_isBlank (mo_source : Nat → Int32) (res : Bool) (X : Nat → Int32 → Bool → Int32 → Prop) : Nat → Int32 → Bool → Int32 → Prop := fun q_lab x2 b3 x4 => match q_lab with | 0 => B_Model_isBlank_5 mo_source res X x2 b3 x4 | 1 => B_Model_isBlank_31 mo_source res X x2 x4 | _ => False
def T_Model_isBlank (mo_source : Nat → Int32) (res : Bool) : Nat → (Nat → Int32 → Bool → Int32 → Prop)
  | 0 => fun _ _ _ _ => False
  | n + 1 => S_Model_isBlank mo_source res (T_Model_isBlank mo_source res n)
def D_Model_isBlank (k0 : Int32) (k1 : Int32) (mo_source : Nat → Int32) (res : Bool) : Prop := ∃ n : Nat, T_Model_isBlank mo_source res n 0 k1 true k0
theorem d_Model_isBlank_0 : decode b_Model_isBlank 0 = .ok (.iconst 1, 1) := by decide +kernel
theorem d_Model_isBlank_1 : decode b_Model_isBlank 1 = .ok (.istore_n 3, 1) := by decide +kernel
theorem d_Model_isBlank_2 : decode b_Model_isBlank 2 = .ok (.iload_n 1, 1) := by decide +kernel
theorem d_Model_isBlank_3 : decode b_Model_isBlank 3 = .ok (.istore 4, 2) := by decide +kernel
theorem d_Model_isBlank_5 : decode b_Model_isBlank 5 = .ok (.iload 4, 2) := by decide +kernel
theorem d_Model_isBlank_7 : decode b_Model_isBlank 7 = .ok (.iload_n 2, 1) := by decide +kernel
theorem d_Model_isBlank_8 : decode b_Model_isBlank 8 = .ok (.if_icmp .ge 31, 3) := by decide +kernel
theorem d_Model_isBlank_11 : decode b_Model_isBlank 11 = .ok (.iload_n 3, 1) := by decide +kernel
theorem d_Model_isBlank_12 : decode b_Model_isBlank 12 = .ok (.ifCond .eq 19, 3) := by decide +kernel
theorem d_Model_isBlank_15 : decode b_Model_isBlank 15 = .ok (.aload_n 0, 1) := by decide +kernel
theorem d_Model_isBlank_16 : decode b_Model_isBlank 16 = .ok (.getfield 7, 3) := by decide +kernel
theorem d_Model_isBlank_19 : decode b_Model_isBlank 19 = .ok (.iload 4, 2) := by decide +kernel
theorem d_Model_isBlank_21 : decode b_Model_isBlank 21 = .ok (.iaload, 1) := by decide +kernel
theorem d_Model_isBlank_22 : decode b_Model_isBlank 22 = .ok (.bipush 32, 2) := by decide +kernel
theorem d_Model_isBlank_24 : decode b_Model_isBlank 24 = .ok (.if_icmp .ne 7, 3) := by decide +kernel
theorem d_Model_isBlank_27 : decode b_Model_isBlank 27 = .ok (.iconst 1, 1) := by decide +kernel
theorem d_Model_isBlank_28 : decode b_Model_isBlank 28 = .ok (.goto 4, 3) := by decide +kernel
theorem d_Model_isBlank_31 : decode b_Model_isBlank 31 = .ok (.iconst 0, 1) := by decide +kernel
theorem d_Model_isBlank_32 : decode b_Model_isBlank 32 = .ok (.istore_n 3, 1) := by decide +kernel
theorem d_Model_isBlank_33 : decode b_Model_isBlank 33 = .ok (.iinc 4 1, 3) := by decide +kernel
theorem d_Model_isBlank_36 : decode b_Model_isBlank 36 = .ok (.goto (-31), 3) := by decide +kernel
theorem d_Model_isBlank_39 : decode b_Model_isBlank 39 = .ok (.iload_n 3, 1) := by decide +kernel
theorem d_Model_isBlank_40 : decode b_Model_isBlank 40 = .ok (.ireturn, 1) := by decide +kernel
set_option maxHeartbeats 4000000 in
set_option maxRecDepth 100000 in
theorem c_Model_isBlank (l : Launch) (dC : Nat → ClassId) (dI : Nat → Nat → Nat) (cI cL cZ : ClassId) (mo : Nat) (mo_thrown : Int32) (mo_sourcea : Nat) (mo_source : Nat → Int32) (mo_size : Int32) (mo_faultLine : Int32) (mo_fault : Int32) (mo_topics : Int32) (mo_namesa : Nat) (mo_names : Nat → Int32) (mo_bodiesa : Nat) (mo_bodies : Nat → Int32) (mo_lengthsa : Nat) (mo_lengths : Nat → Int32) (mo_headingsa : Nat) (mo_headings : Nat → Int32) (mo_keywords : Int32) (mo_keyLettersa : Nat) (mo_keyLetters : Nat → Int32) (mo_keyLengthsa : Nat) (mo_keyLengths : Nat → Int32) (mo_keyBitsa : Nat) (mo_keyBits : Nat → Int32) (mo_words : Int32) (mo_wordLettersa : Nat) (mo_wordLetters : Nat → Int32) (mo_wordLengthsa : Nat) (mo_wordLengths : Nat → Int32) (mo_wordBitsa : Nat) (mo_wordBits : Nat → Int32) (mo_links : Int32) (mo_linkAta : Nat) (mo_linkAt : Nat → Int32) (mo_linkLengtha : Nat) (mo_linkLength : Nat → Int32) (mo_linkLinea : Nat) (mo_linkLine : Nat → Int32) (mo_linkToa : Nat) (mo_linkTo : Nat → Int32) (mo_inParagraph : Bool) (mo_emphasis : Bool) (mo_blank : Bool) (mo_lastLine : Int32) (mo_imageSize : Int32) (mo_imagea : Nat) (mo_image : Nat → Int32) (mo_compares : Bool) (mo_unlike : Bool) (mo_out : Int32) (mo_total : Int32) (mo_literal : Int32) (mo_handLength : Int32) (mo_handa : Nat) (mo_hand : Nat → Int32) (mo_isOpen : Bool) (mo_seenTopics : Int32) (mo_seenNamesa : Nat) (mo_seenNames : Nat → Int32) (mo_seenBodiesa : Nat) (mo_seenBodies : Nat → Int32) (mo_seenLengthsa : Nat) (mo_seenLengths : Nat → Int32) (mo_seenKeywords : Int32) (mo_seenKeyLettersa : Nat) (mo_seenKeyLetters : Nat → Int32) (mo_seenKeyLengthsa : Nat) (mo_seenKeyLengths : Nat → Int32) (mo_seenKeyBitsa : Nat) (mo_seenKeyBits : Nat → Int32) (mo_seenWords : Int32) (mo_seenWordLettersa : Nat) (mo_seenWordLetters : Nat → Int32) (mo_seenWordLengthsa : Nat) (mo_seenWordLengths : Nat → Int32) (mo_seenWordBitsa : Nat) (mo_seenWordBits : Nat → Int32) (mo_topic : Int32) (mo_backs : Int32) (mo_backa : Nat) (mo_back : Nat → Int32) (mo_forwards : Int32) (mo_forwarda : Nat) (mo_forward : Nat → Int32) (mo_typed : Int32) (mo_querya : Nat) (mo_query : Nat → Int32) (mo_visits : Int32) (mo_valuesa : Nat) (mo_values : Nat → Int32) (mo_valued : Int32) (mo_signsa : Nat) (mo_signs : Nat → Int32) (mo_signed : Int32) (mo_width : Int32) (mo_lines : Int32) (mo_lineFroma : Nat) (mo_lineFrom : Nat → Int32) (mo_lineSizea : Nat) (mo_lineSize : Nat → Int32) (mo_shown : Int32) (mo_texta : Nat) (mo_text : Nat → Int32) (mo_partLength : Int32) (mo_parta : Nat) (mo_part : Nat → Int32) (k0 : Int32) (k1 : Int32) (res : Bool) (hd : D_Model_isBlank k0 k1 mo_source res) : CtrR l y_Model_isBlank (Cond.code y_Model_isBlank b_Model_isBlank 5 (some .boolean) :: ga) { frames := 0, cells := 0, slots := 0, locals := 0 } (dC, dI) classes (Tys cI cL cZ) [.ref mo, .int k0, .int k1] ((sh_Model cI cL cZ mo mo_thrown mo_sourcea mo_source mo_size mo_faultLine mo_fault mo_topics mo_namesa mo_names mo_bodiesa mo_bodies mo_lengthsa mo_lengths mo_headingsa mo_headings mo_keywords mo_keyLettersa mo_keyLetters mo_keyLengthsa mo_keyLengths mo_keyBitsa mo_keyBits mo_words mo_wordLettersa mo_wordLetters mo_wordLengthsa mo_wordLengths mo_wordBitsa mo_wordBits mo_links mo_linkAta mo_linkAt mo_linkLengtha mo_linkLength mo_linkLinea mo_linkLine mo_linkToa mo_linkTo mo_inParagraph mo_emphasis mo_blank mo_lastLine mo_imageSize mo_imagea mo_image mo_compares mo_unlike mo_out mo_total mo_literal mo_handLength mo_handa mo_hand mo_isOpen mo_seenTopics mo_seenNamesa mo_seenNames mo_seenBodiesa mo_seenBodies mo_seenLengthsa mo_seenLengths mo_seenKeywords mo_seenKeyLettersa mo_seenKeyLetters mo_seenKeyLengthsa mo_seenKeyLengths mo_seenKeyBitsa mo_seenKeyBits mo_seenWords mo_seenWordLettersa mo_seenWordLetters mo_seenWordLengthsa mo_seenWordLengths mo_seenWordBitsa mo_seenWordBits mo_topic mo_backs mo_backa mo_back mo_forwards mo_forwarda mo_forward mo_typed mo_querya mo_query mo_visits mo_valuesa mo_values mo_valued mo_signsa mo_signs mo_signed mo_width mo_lines mo_lineFroma mo_lineFrom mo_lineSizea mo_lineSize mo_shown mo_texta mo_text mo_partLength mo_parta mo_part)) (some (.int (bI res))) := by
  refine CtrR.ofW (by decide) (Nat.le_of_ble_eq_true rfl) ?_
  intro p e s m below meth c ls hx hb hr hml hown hlocks hts hK hN hP hD hl
  have hown : s.vm.findClass R_Model = some m.cls := hown
  have hl : lv_has ls 5 [(0, .ref mo), (1, .int k0), (2, .int k1)] := hl
  have key : ∀ n : Nat, (∀ (x2 : Int32) (b3 : Bool) (x4 : Int32) (ls : Array Slot), lv_has ls 5 [(0, .ref mo), (2, .int x2), (3, .int (bI b3)), (4, .int x4)] → T_Model_isBlank mo_source res n 0 x2 b3 x4 → W p l e ({ frames := 0, cells := 0, slots := 0, locals := 0 }) s m ([.ref mo, .int k0, .int k1] : List Value).toArray below meth c s.heap [] 0 0 (MQ below (Qr (some (.int (bI res)))) ([.ref mo, .int k0, .int k1] : List Value).toArray s 0 0 (fun _ => False)) (F0 m 5 ls [])) ∧ (∀ (x2 : Int32) (x4 : Int32) (ls : Array Slot), lv_has ls 5 [(0, .ref mo), (2, .int x2), (4, .int x4)] → T_Model_isBlank mo_source res n 1 x2 false x4 → W p l e ({ frames := 0, cells := 0, slots := 0, locals := 0 }) s m ([.ref mo, .int k0, .int k1] : List Value).toArray below meth c s.heap [] 0 0 (MQ below (Qr (some (.int (bI res)))) ([.ref mo, .int k0, .int k1] : List Value).toArray s 0 0 (fun _ => False)) (F0 m 31 ls [])) := by
    intro n
    induction n with
    | zero =>
      exact ⟨fun _ _ _ _ _ hd => False.elim hd, fun _ _ _ _ hd => False.elim hd⟩
    | succ n ih =>
      refine ⟨?_, ?_⟩
      · intro x2 b3 x4 ls hl hd
        have hd : B_Model_isBlank_5 mo_source res (T_Model_isBlank mo_source res n) x2 b3 x4 := hd
        refine lv_iload hx hb d_Model_isBlank_5 (lv_at hl 3 rfl) ?_
        refine lv_iload_n hx hb d_Model_isBlank_7 rfl (lv_at hl 1 rfl) ?_
        refine lv_icmp_ge (tgt := 39) hx hb d_Model_isBlank_8 (by decide) (fun h8 => ?_) (fun h8 => ?_)
        · have hd := hd.1 h8
          refine lv_iload_n hx hb d_Model_isBlank_39 rfl (lv_at hl 2 rfl) ?_
          have e0 : res = b3 := hd
          subst e0
          exact ct_zretR hx hb hr hlocks d_Model_isBlank_40
        · have hd := hd.2 h8
          refine lv_iload_n hx hb d_Model_isBlank_11 rfl (lv_at hl 2 rfl) ?_
          refine lv_if_eq (tgt := 31) hx hb d_Model_isBlank_12 (by decide) (fun h12 => ?_) (fun h12 => ?_)
          · have hd := hd.1 h12
            exact ih.2 x2 x4 _ (lv_sub hl [0, 1, 3] rfl) hd
          · have hd := hd.2 h12
            refine lv_aload_n hx hb d_Model_isBlank_15 rfl (lv_at hl 0 rfl) ?_
            refine va_get (D := (dC, dI)) (ci := 9) (v := .ref mo_sourcea) (C := R_Model) (T := F_Model) (N := 69) hx hb hts in_Model hown hK hP 0 rfl rfl 1 (by decide) (hts _ (List.mem_cons_of_mem _ k488_fieldLink)) (fun _ h9 => h9) rfl d_Model_isBlank_16 ?_
            refine lv_iload hx hb d_Model_isBlank_19 (lv_at hl 3 rfl) ?_
            obtain ⟨h21, hd⟩ := hd
            refine va_iald hx hb hK hP 1 0 rfl rfl h21 d_Model_isBlank_21 ?_
            refine lv_bipush (v := 32) hx hb d_Model_isBlank_22 (by decide) ?_
            refine lv_icmp_ne (tgt := 31) hx hb d_Model_isBlank_24 (by decide) (fun h24 => ?_) (fun h24 => ?_)
            · have hd := hd.2 h24
              exact ih.2 x2 x4 _ (lv_sub hl [0, 1, 3] rfl) hd
            · have hd := hd.1 h24
              refine lv_iconst (v := 1) hx hb d_Model_isBlank_27 (by decide) ?_
              refine lv_goto (tgt := 32) hx hb d_Model_isBlank_28 (by decide) ?_
              refine lv_istore_n (lv' := [(3, .int 1), (0, .ref mo), (2, .int x2), (4, .int x4)]) hx hb d_Model_isBlank_32 rfl hl (by decide) rfl (fun ls hl => ?_)
              refine lv_iinc (k := 3) (v := x4 + 1) (lv' := [(4, .int (x4 + 1)), (3, .int 1), (0, .ref mo), (2, .int x2)]) hx hb d_Model_isBlank_33 hl rfl (congrArg (fun z => x4 + z) (by decide)) (by decide) rfl (fun ls hl => ?_)
              refine lv_goto (tgt := 5) hx hb d_Model_isBlank_36 (by decide) ?_
              exact ih.1 x2 true (x4 + 1) _ (lv_sub hl [2, 3, 1, 0] rfl) hd
      · intro x2 x4 ls hl hd
        have hd : B_Model_isBlank_31 mo_source res (T_Model_isBlank mo_source res n) x2 x4 := hd
        refine lv_iconst (v := 0) hx hb d_Model_isBlank_31 (by decide) ?_
        refine lv_istore_n (lv' := [(3, .int 0), (0, .ref mo), (2, .int x2), (4, .int x4)]) hx hb d_Model_isBlank_32 rfl hl (by decide) rfl (fun ls hl => ?_)
        refine lv_iinc (k := 3) (v := x4 + 1) (lv' := [(4, .int (x4 + 1)), (3, .int 0), (0, .ref mo), (2, .int x2)]) hx hb d_Model_isBlank_33 hl rfl (congrArg (fun z => x4 + z) (by decide)) (by decide) rfl (fun ls hl => ?_)
        refine lv_goto (tgt := 5) hx hb d_Model_isBlank_36 (by decide) ?_
        exact ih.1 x2 false (x4 + 1) _ (lv_sub hl [2, 3, 1, 0] rfl) hd
  obtain ⟨n, hd⟩ := hd
  refine lv_iconst (v := 1) hx hb d_Model_isBlank_0 (by decide) ?_
  refine lv_istore_n (lv' := [(3, .int 1), (0, .ref mo), (1, .int k0), (2, .int k1)]) hx hb d_Model_isBlank_1 rfl hl (by decide) rfl (fun ls hl => ?_)
  refine lv_iload_n hx hb d_Model_isBlank_2 rfl (lv_at hl 2 rfl) ?_
  refine lv_istore (lv' := [(4, .int k0), (3, .int 1), (0, .ref mo), (1, .int k0), (2, .int k1)]) hx hb d_Model_isBlank_3 hl (by decide) rfl (fun ls hl => ?_)
  exact (key n).1 k1 true k0 _ (lv_sub hl [2, 4, 1, 0] rfl) hd
-- Model.isName
abbrev b_Model_isName : ByteArray := prog_14_method_13_code
def y_Model_isName : MethodName := ⟨"HelpFileModel", "isName", "(III)Z"⟩
set_option maxRecDepth 100000 in
theorem fm_Model_isName : Fm y_Model_isName b_Model_isName 6 (some .boolean) 3 := ⟨ga_t 1302 rfl rfl, k479_initialized, by decide, by decide, by decide +kernel⟩
def B_Model_isName_16 (mo_source : Nat → Int32) (res : Bool) (X : Nat → Int32 → Int32 → Bool → Int32 → Prop) (x1 : Int32) (x2 : Int32) : Prop := X 1 x1 x2 false 0
def B_Model_isName_19 (mo_source : Nat → Int32) (res : Bool) (X : Nat → Int32 → Int32 → Bool → Int32 → Prop) (x1 : Int32) (x2 : Int32) (b4 : Bool) : Prop := X 2 0 x2 b4 x1
def B_Model_isName_22 (mo_source : Nat → Int32) (res : Bool) (X : Nat → Int32 → Int32 → Bool → Int32 → Prop) (x2 : Int32) (b4 : Bool) (x5 : Int32) : Prop := ((x2 ≤ x5 → (res = b4)) ∧ (¬ (x2 ≤ x5) → (((bI b4) = 0 → X 3 0 x2 false x5) ∧ (¬ ((bI b4) = 0) → (vp_in x5 700 ∧ (∃ r40 : Bool, D_Model_isSmall (mo_source (Int32.toNatClampNeg x5)) r40 ∧ (((bI r40) = 0 → X 3 0 x2 false x5) ∧ (¬ ((bI r40) = 0) → X 2 0 x2 true (x5 + 1)))))))))
def B_Model_isName_50 (mo_source : Nat → Int32) (res : Bool) (X : Nat → Int32 → Int32 → Bool → Int32 → Prop) (x2 : Int32) (x5 : Int32) : Prop := X 2 0 x2 false (x5 + 1)
def S_Model_isName (mo_source : Nat → Int32) (res : Bool) (X : Nat → Int32 → Int32 → Bool → Int32 → Prop) : Nat → Int32 → Int32 → Bool → Int32 → Prop := fun q_lab x1 x2 b4 x5 => match q_lab with | 0 => B_Model_isName_16 mo_source res X x1 x2 | 1 => B_Model_isName_19 mo_source res X x1 x2 b4 | 2 => B_Model_isName_22 mo_source res X x2 b4 x5 | 3 => B_Model_isName_50 mo_source res X x2 x5 | _ => False
def T_Model_isName (mo_source : Nat → Int32) (res : Bool) : Nat → (Nat → Int32 → Int32 → Bool → Int32 → Prop)
  | 0 => fun _ _ _ _ _ => False
  | n + 1 => S_Model_isName mo_source res (T_Model_isName mo_source res n)
def D_Model_isName (k0 : Int32) (k1 : Int32) (k2 : Int32) (mo_source : Nat → Int32) (res : Bool) : Prop := ∃ n : Nat, ((k1 ≤ k0 → T_Model_isName mo_source res n 0 k0 k1 false 0) ∧ (¬ (k1 ≤ k0) → ((k2 < (k1 - k0) → T_Model_isName mo_source res n 0 k0 k1 false 0) ∧ (¬ (k2 < (k1 - k0)) → T_Model_isName mo_source res n 1 k0 k1 true 0))))
theorem d_Model_isName_0 : decode b_Model_isName 0 = .ok (.iload_n 2, 1) := by decide +kernel
theorem d_Model_isName_1 : decode b_Model_isName 1 = .ok (.iload_n 1, 1) := by decide +kernel
theorem d_Model_isName_2 : decode b_Model_isName 2 = .ok (.if_icmp .le 14, 3) := by decide +kernel
theorem d_Model_isName_5 : decode b_Model_isName 5 = .ok (.iload_n 2, 1) := by decide +kernel
theorem d_Model_isName_6 : decode b_Model_isName 6 = .ok (.iload_n 1, 1) := by decide +kernel
theorem d_Model_isName_7 : decode b_Model_isName 7 = .ok (.isub, 1) := by decide +kernel
theorem d_Model_isName_8 : decode b_Model_isName 8 = .ok (.iload_n 3, 1) := by decide +kernel
theorem d_Model_isName_9 : decode b_Model_isName 9 = .ok (.if_icmp .gt 7, 3) := by decide +kernel
theorem d_Model_isName_12 : decode b_Model_isName 12 = .ok (.iconst 1, 1) := by decide +kernel
theorem d_Model_isName_13 : decode b_Model_isName 13 = .ok (.goto 4, 3) := by decide +kernel
theorem d_Model_isName_16 : decode b_Model_isName 16 = .ok (.iconst 0, 1) := by decide +kernel
theorem d_Model_isName_17 : decode b_Model_isName 17 = .ok (.istore 4, 2) := by decide +kernel
theorem d_Model_isName_19 : decode b_Model_isName 19 = .ok (.iload_n 1, 1) := by decide +kernel
theorem d_Model_isName_20 : decode b_Model_isName 20 = .ok (.istore 5, 2) := by decide +kernel
theorem d_Model_isName_22 : decode b_Model_isName 22 = .ok (.iload 5, 2) := by decide +kernel
theorem d_Model_isName_24 : decode b_Model_isName 24 = .ok (.iload_n 2, 1) := by decide +kernel
theorem d_Model_isName_25 : decode b_Model_isName 25 = .ok (.if_icmp .ge 34, 3) := by decide +kernel
theorem d_Model_isName_28 : decode b_Model_isName 28 = .ok (.iload 4, 2) := by decide +kernel
theorem d_Model_isName_30 : decode b_Model_isName 30 = .ok (.ifCond .eq 20, 3) := by decide +kernel
theorem d_Model_isName_33 : decode b_Model_isName 33 = .ok (.aload_n 0, 1) := by decide +kernel
theorem d_Model_isName_34 : decode b_Model_isName 34 = .ok (.getfield 7, 3) := by decide +kernel
theorem d_Model_isName_37 : decode b_Model_isName 37 = .ok (.iload 5, 2) := by decide +kernel
theorem d_Model_isName_39 : decode b_Model_isName 39 = .ok (.iaload, 1) := by decide +kernel
theorem d_Model_isName_40 : decode b_Model_isName 40 = .ok (.invokestatic 129, 3) := by decide +kernel
theorem d_Model_isName_43 : decode b_Model_isName 43 = .ok (.ifCond .eq 7, 3) := by decide +kernel
theorem d_Model_isName_46 : decode b_Model_isName 46 = .ok (.iconst 1, 1) := by decide +kernel
theorem d_Model_isName_47 : decode b_Model_isName 47 = .ok (.goto 4, 3) := by decide +kernel
theorem d_Model_isName_50 : decode b_Model_isName 50 = .ok (.iconst 0, 1) := by decide +kernel
theorem d_Model_isName_51 : decode b_Model_isName 51 = .ok (.istore 4, 2) := by decide +kernel
theorem d_Model_isName_53 : decode b_Model_isName 53 = .ok (.iinc 5 1, 3) := by decide +kernel
theorem d_Model_isName_56 : decode b_Model_isName 56 = .ok (.goto (-34), 3) := by decide +kernel
theorem d_Model_isName_59 : decode b_Model_isName 59 = .ok (.iload 4, 2) := by decide +kernel
theorem d_Model_isName_61 : decode b_Model_isName 61 = .ok (.ireturn, 1) := by decide +kernel
set_option maxHeartbeats 4000000 in
set_option maxRecDepth 100000 in
theorem c_Model_isName (l : Launch) (dC : Nat → ClassId) (dI : Nat → Nat → Nat) (cI cL cZ : ClassId) (mo : Nat) (mo_thrown : Int32) (mo_sourcea : Nat) (mo_source : Nat → Int32) (mo_size : Int32) (mo_faultLine : Int32) (mo_fault : Int32) (mo_topics : Int32) (mo_namesa : Nat) (mo_names : Nat → Int32) (mo_bodiesa : Nat) (mo_bodies : Nat → Int32) (mo_lengthsa : Nat) (mo_lengths : Nat → Int32) (mo_headingsa : Nat) (mo_headings : Nat → Int32) (mo_keywords : Int32) (mo_keyLettersa : Nat) (mo_keyLetters : Nat → Int32) (mo_keyLengthsa : Nat) (mo_keyLengths : Nat → Int32) (mo_keyBitsa : Nat) (mo_keyBits : Nat → Int32) (mo_words : Int32) (mo_wordLettersa : Nat) (mo_wordLetters : Nat → Int32) (mo_wordLengthsa : Nat) (mo_wordLengths : Nat → Int32) (mo_wordBitsa : Nat) (mo_wordBits : Nat → Int32) (mo_links : Int32) (mo_linkAta : Nat) (mo_linkAt : Nat → Int32) (mo_linkLengtha : Nat) (mo_linkLength : Nat → Int32) (mo_linkLinea : Nat) (mo_linkLine : Nat → Int32) (mo_linkToa : Nat) (mo_linkTo : Nat → Int32) (mo_inParagraph : Bool) (mo_emphasis : Bool) (mo_blank : Bool) (mo_lastLine : Int32) (mo_imageSize : Int32) (mo_imagea : Nat) (mo_image : Nat → Int32) (mo_compares : Bool) (mo_unlike : Bool) (mo_out : Int32) (mo_total : Int32) (mo_literal : Int32) (mo_handLength : Int32) (mo_handa : Nat) (mo_hand : Nat → Int32) (mo_isOpen : Bool) (mo_seenTopics : Int32) (mo_seenNamesa : Nat) (mo_seenNames : Nat → Int32) (mo_seenBodiesa : Nat) (mo_seenBodies : Nat → Int32) (mo_seenLengthsa : Nat) (mo_seenLengths : Nat → Int32) (mo_seenKeywords : Int32) (mo_seenKeyLettersa : Nat) (mo_seenKeyLetters : Nat → Int32) (mo_seenKeyLengthsa : Nat) (mo_seenKeyLengths : Nat → Int32) (mo_seenKeyBitsa : Nat) (mo_seenKeyBits : Nat → Int32) (mo_seenWords : Int32) (mo_seenWordLettersa : Nat) (mo_seenWordLetters : Nat → Int32) (mo_seenWordLengthsa : Nat) (mo_seenWordLengths : Nat → Int32) (mo_seenWordBitsa : Nat) (mo_seenWordBits : Nat → Int32) (mo_topic : Int32) (mo_backs : Int32) (mo_backa : Nat) (mo_back : Nat → Int32) (mo_forwards : Int32) (mo_forwarda : Nat) (mo_forward : Nat → Int32) (mo_typed : Int32) (mo_querya : Nat) (mo_query : Nat → Int32) (mo_visits : Int32) (mo_valuesa : Nat) (mo_values : Nat → Int32) (mo_valued : Int32) (mo_signsa : Nat) (mo_signs : Nat → Int32) (mo_signed : Int32) (mo_width : Int32) (mo_lines : Int32) (mo_lineFroma : Nat) (mo_lineFrom : Nat → Int32) (mo_lineSizea : Nat) (mo_lineSize : Nat → Int32) (mo_shown : Int32) (mo_texta : Nat) (mo_text : Nat → Int32) (mo_partLength : Int32) (mo_parta : Nat) (mo_part : Nat → Int32) (k0 : Int32) (k1 : Int32) (k2 : Int32) (res : Bool) (hd : D_Model_isName k0 k1 k2 mo_source res) : CtrR l y_Model_isName (Cond.code y_Model_isName b_Model_isName 6 (some .boolean) :: ga) { frames := 2, cells := 0, slots := 0, locals := 42 } (dC, dI) classes (Tys cI cL cZ) [.ref mo, .int k0, .int k1, .int k2] ((sh_Model cI cL cZ mo mo_thrown mo_sourcea mo_source mo_size mo_faultLine mo_fault mo_topics mo_namesa mo_names mo_bodiesa mo_bodies mo_lengthsa mo_lengths mo_headingsa mo_headings mo_keywords mo_keyLettersa mo_keyLetters mo_keyLengthsa mo_keyLengths mo_keyBitsa mo_keyBits mo_words mo_wordLettersa mo_wordLetters mo_wordLengthsa mo_wordLengths mo_wordBitsa mo_wordBits mo_links mo_linkAta mo_linkAt mo_linkLengtha mo_linkLength mo_linkLinea mo_linkLine mo_linkToa mo_linkTo mo_inParagraph mo_emphasis mo_blank mo_lastLine mo_imageSize mo_imagea mo_image mo_compares mo_unlike mo_out mo_total mo_literal mo_handLength mo_handa mo_hand mo_isOpen mo_seenTopics mo_seenNamesa mo_seenNames mo_seenBodiesa mo_seenBodies mo_seenLengthsa mo_seenLengths mo_seenKeywords mo_seenKeyLettersa mo_seenKeyLetters mo_seenKeyLengthsa mo_seenKeyLengths mo_seenKeyBitsa mo_seenKeyBits mo_seenWords mo_seenWordLettersa mo_seenWordLetters mo_seenWordLengthsa mo_seenWordLengths mo_seenWordBitsa mo_seenWordBits mo_topic mo_backs mo_backa mo_back mo_forwards mo_forwarda mo_forward mo_typed mo_querya mo_query mo_visits mo_valuesa mo_values mo_valued mo_signsa mo_signs mo_signed mo_width mo_lines mo_lineFroma mo_lineFrom mo_lineSizea mo_lineSize mo_shown mo_texta mo_text mo_partLength mo_parta mo_part)) (some (.int (bI res))) := by
  refine CtrR.ofW (by decide) (Nat.le_of_ble_eq_true rfl) ?_
  intro p e s m below meth c ls hx hb hr hml hown hlocks hts hK hN hP hD hl
  have hown : s.vm.findClass R_Model = some m.cls := hown
  have hl : lv_has ls 6 [(0, .ref mo), (1, .int k0), (2, .int k1), (3, .int k2)] := hl
  have key : ∀ n : Nat, (∀ (x1 : Int32) (x2 : Int32) (ls : Array Slot), lv_has ls 6 [(0, .ref mo), (1, .int x1), (2, .int x2)] → T_Model_isName mo_source res n 0 x1 x2 false 0 → W p l e ({ frames := 2, cells := 0, slots := 0, locals := 42 }) s m ([.ref mo, .int k0, .int k1, .int k2] : List Value).toArray below meth c s.heap [] 0 0 (MQ below (Qr (some (.int (bI res)))) ([.ref mo, .int k0, .int k1, .int k2] : List Value).toArray s 0 0 (fun _ => False)) (F0 m 16 ls [])) ∧ (∀ (x1 : Int32) (x2 : Int32) (b4 : Bool) (ls : Array Slot), lv_has ls 6 [(0, .ref mo), (1, .int x1), (2, .int x2), (4, .int (bI b4))] → T_Model_isName mo_source res n 1 x1 x2 b4 0 → W p l e ({ frames := 2, cells := 0, slots := 0, locals := 42 }) s m ([.ref mo, .int k0, .int k1, .int k2] : List Value).toArray below meth c s.heap [] 0 0 (MQ below (Qr (some (.int (bI res)))) ([.ref mo, .int k0, .int k1, .int k2] : List Value).toArray s 0 0 (fun _ => False)) (F0 m 19 ls [])) ∧ (∀ (x2 : Int32) (b4 : Bool) (x5 : Int32) (ls : Array Slot), lv_has ls 6 [(0, .ref mo), (2, .int x2), (4, .int (bI b4)), (5, .int x5)] → T_Model_isName mo_source res n 2 0 x2 b4 x5 → W p l e ({ frames := 2, cells := 0, slots := 0, locals := 42 }) s m ([.ref mo, .int k0, .int k1, .int k2] : List Value).toArray below meth c s.heap [] 0 0 (MQ below (Qr (some (.int (bI res)))) ([.ref mo, .int k0, .int k1, .int k2] : List Value).toArray s 0 0 (fun _ => False)) (F0 m 22 ls [])) ∧ (∀ (x2 : Int32) (x5 : Int32) (ls : Array Slot), lv_has ls 6 [(0, .ref mo), (2, .int x2), (5, .int x5)] → T_Model_isName mo_source res n 3 0 x2 false x5 → W p l e ({ frames := 2, cells := 0, slots := 0, locals := 42 }) s m ([.ref mo, .int k0, .int k1, .int k2] : List Value).toArray below meth c s.heap [] 0 0 (MQ below (Qr (some (.int (bI res)))) ([.ref mo, .int k0, .int k1, .int k2] : List Value).toArray s 0 0 (fun _ => False)) (F0 m 50 ls [])) := by
    intro n
    induction n with
    | zero =>
      exact ⟨fun _ _ _ _ hd => False.elim hd, fun _ _ _ _ _ hd => False.elim hd, fun _ _ _ _ _ hd => False.elim hd, fun _ _ _ _ hd => False.elim hd⟩
    | succ n ih =>
      refine ⟨?_, ?_, ?_, ?_⟩
      · intro x1 x2 ls hl hd
        have hd : B_Model_isName_16 mo_source res (T_Model_isName mo_source res n) x1 x2 := hd
        refine lv_iconst (v := 0) hx hb d_Model_isName_16 (by decide) ?_
        refine lv_istore (lv' := [(4, .int 0), (0, .ref mo), (1, .int x1), (2, .int x2)]) hx hb d_Model_isName_17 hl (by decide) rfl (fun ls hl => ?_)
        exact ih.2.1 x1 x2 false _ (lv_sub hl [1, 2, 3, 0] rfl) hd
      · intro x1 x2 b4 ls hl hd
        have hd : B_Model_isName_19 mo_source res (T_Model_isName mo_source res n) x1 x2 b4 := hd
        refine lv_iload_n hx hb d_Model_isName_19 rfl (lv_at hl 1 rfl) ?_
        refine lv_istore (lv' := [(5, .int x1), (0, .ref mo), (1, .int x1), (2, .int x2), (4, .int (bI b4))]) hx hb d_Model_isName_20 hl (by decide) rfl (fun ls hl => ?_)
        exact ih.2.2.1 x2 b4 x1 _ (lv_sub hl [1, 3, 4, 0] rfl) hd
      · intro x2 b4 x5 ls hl hd
        have hd : B_Model_isName_22 mo_source res (T_Model_isName mo_source res n) x2 b4 x5 := hd
        refine lv_iload hx hb d_Model_isName_22 (lv_at hl 3 rfl) ?_
        refine lv_iload_n hx hb d_Model_isName_24 rfl (lv_at hl 1 rfl) ?_
        refine lv_icmp_ge (tgt := 59) hx hb d_Model_isName_25 (by decide) (fun h25 => ?_) (fun h25 => ?_)
        · have hd := hd.1 h25
          refine lv_iload hx hb d_Model_isName_59 (lv_at hl 2 rfl) ?_
          have e0 : res = b4 := hd
          subst e0
          exact ct_zretR hx hb hr hlocks d_Model_isName_61
        · have hd := hd.2 h25
          refine lv_iload hx hb d_Model_isName_28 (lv_at hl 2 rfl) ?_
          refine lv_if_eq (tgt := 50) hx hb d_Model_isName_30 (by decide) (fun h30 => ?_) (fun h30 => ?_)
          · have hd := hd.1 h30
            exact ih.2.2.2 x2 x5 _ (lv_sub hl [0, 1, 3] rfl) hd
          · have hd := hd.2 h30
            refine lv_aload_n hx hb d_Model_isName_33 rfl (lv_at hl 0 rfl) ?_
            refine va_get (D := (dC, dI)) (ci := 9) (v := .ref mo_sourcea) (C := R_Model) (T := F_Model) (N := 69) hx hb hts in_Model hown hK hP 0 rfl rfl 1 (by decide) (hts _ (List.mem_cons_of_mem _ k488_fieldLink)) (fun _ h9 => h9) rfl d_Model_isName_34 ?_
            refine lv_iload hx hb d_Model_isName_37 (lv_at hl 3 rfl) ?_
            obtain ⟨h39, hd⟩ := hd
            refine va_iald hx hb hK hP 1 0 rfl rfl h39 d_Model_isName_39 ?_
            obtain ⟨r40, c40, hd⟩ := hd
            refine ct_SR (As := [.int (mo_source (Int32.toNatClampNeg x5))]) (rest := []) ⟨hx, hb, hml, hown, hts⟩ fm_Model_isSmall (c_Model_isSmall l dC dI cI cL cZ (mo_source (Int32.toNatClampNeg x5)) r40 c40) k482_methodLink k483_static ⟨Nat.le_of_ble_eq_true rfl, Nat.le_of_ble_eq_true rfl⟩ rfl rfl hK hN hP hD [] rfl rfl (by decide) rfl hl.1 rfl (Nat.le_of_ble_eq_true rfl) d_Model_isName_40 ?_
            refine lv_if_eq (tgt := 50) hx hb d_Model_isName_43 (by decide) (fun h43 => ?_) (fun h43 => ?_)
            · have hd := hd.1 h43
              exact ih.2.2.2 x2 x5 _ (lv_sub hl [0, 1, 3] rfl) hd
            · have hd := hd.2 h43
              refine lv_iconst (v := 1) hx hb d_Model_isName_46 (by decide) ?_
              refine lv_goto (tgt := 51) hx hb d_Model_isName_47 (by decide) ?_
              refine lv_istore (lv' := [(4, .int 1), (0, .ref mo), (2, .int x2), (5, .int x5)]) hx hb d_Model_isName_51 hl (by decide) rfl (fun ls hl => ?_)
              refine lv_iinc (k := 3) (v := x5 + 1) (lv' := [(5, .int (x5 + 1)), (4, .int 1), (0, .ref mo), (2, .int x2)]) hx hb d_Model_isName_53 hl rfl (congrArg (fun z => x5 + z) (by decide)) (by decide) rfl (fun ls hl => ?_)
              refine lv_goto (tgt := 22) hx hb d_Model_isName_56 (by decide) ?_
              exact ih.2.2.1 x2 true (x5 + 1) _ (lv_sub hl [2, 3, 1, 0] rfl) hd
      · intro x2 x5 ls hl hd
        have hd : B_Model_isName_50 mo_source res (T_Model_isName mo_source res n) x2 x5 := hd
        refine lv_iconst (v := 0) hx hb d_Model_isName_50 (by decide) ?_
        refine lv_istore (lv' := [(4, .int 0), (0, .ref mo), (2, .int x2), (5, .int x5)]) hx hb d_Model_isName_51 hl (by decide) rfl (fun ls hl => ?_)
        refine lv_iinc (k := 3) (v := x5 + 1) (lv' := [(5, .int (x5 + 1)), (4, .int 0), (0, .ref mo), (2, .int x2)]) hx hb d_Model_isName_53 hl rfl (congrArg (fun z => x5 + z) (by decide)) (by decide) rfl (fun ls hl => ?_)
        refine lv_goto (tgt := 22) hx hb d_Model_isName_56 (by decide) ?_
        exact ih.2.2.1 x2 false (x5 + 1) _ (lv_sub hl [2, 3, 1, 0] rfl) hd
  obtain ⟨n, hd⟩ := hd
  refine lv_iload_n hx hb d_Model_isName_0 rfl (lv_at hl 2 rfl) ?_
  refine lv_iload_n hx hb d_Model_isName_1 rfl (lv_at hl 1 rfl) ?_
  refine lv_icmp_le (tgt := 16) hx hb d_Model_isName_2 (by decide) (fun h2 => ?_) (fun h2 => ?_)
  · have hd := hd.1 h2
    exact (key n).1 k0 k1 _ (lv_sub hl [0, 1, 2] rfl) hd
  · have hd := hd.2 h2
    refine lv_iload_n hx hb d_Model_isName_5 rfl (lv_at hl 2 rfl) ?_
    refine lv_iload_n hx hb d_Model_isName_6 rfl (lv_at hl 1 rfl) ?_
    refine lv_isub hx hb d_Model_isName_7 ?_
    refine lv_iload_n hx hb d_Model_isName_8 rfl (lv_at hl 3 rfl) ?_
    refine lv_icmp_gt (tgt := 16) hx hb d_Model_isName_9 (by decide) (fun h9 => ?_) (fun h9 => ?_)
    · have hd := hd.1 h9
      exact (key n).1 k0 k1 _ (lv_sub hl [0, 1, 2] rfl) hd
    · have hd := hd.2 h9
      refine lv_iconst (v := 1) hx hb d_Model_isName_12 (by decide) ?_
      refine lv_goto (tgt := 17) hx hb d_Model_isName_13 (by decide) ?_
      refine lv_istore (lv' := [(4, .int 1), (0, .ref mo), (1, .int k0), (2, .int k1), (3, .int k2)]) hx hb d_Model_isName_17 hl (by decide) rfl (fun ls hl => ?_)
      exact (key n).2.1 k0 k1 true _ (lv_sub hl [1, 2, 3, 0] rfl) hd
-- Model.topicNamed
abbrev b_Model_topicNamed : ByteArray := prog_14_method_14_code
def y_Model_topicNamed : MethodName := ⟨"HelpFileModel", "topicNamed", "(II)I"⟩
theorem k491_fieldLink : Cond.fieldLink "HelpFileModel" 143 "HelpFileModel" "topics" "I" ∈ ga := ga_t 1041 (by decide +kernel) rfl
theorem k492_fieldLink : Cond.fieldLink "HelpFileModel" 17 "HelpFileModel" "names" "[I" ∈ ga := ga_t 1042 (by decide +kernel) rfl
set_option maxRecDepth 100000 in
theorem fm_Model_topicNamed : Fm y_Model_topicNamed b_Model_topicNamed 7 (some .int) 2 := ⟨ga_t 1309 rfl rfl, k479_initialized, by decide, by decide, by decide +kernel⟩
def B_Model_topicNamed_5 (mo_source : Nat → Int32) (mo_topics : Int32) (mo_names : Nat → Int32) (res : Int32) (X : Nat → Int32 → Int32 → Int32 → Int32 → Bool → Int32 → Prop) (x1 : Int32) (x2 : Int32) (x3 : Int32) (x4 : Int32) : Prop := ((mo_topics ≤ x4 → (res = x3)) ∧ (¬ (mo_topics ≤ x4) → X 1 x1 x2 x3 x4 true 0))
def B_Model_topicNamed_20 (mo_source : Nat → Int32) (mo_topics : Int32) (mo_names : Nat → Int32) (res : Int32) (X : Nat → Int32 → Int32 → Int32 → Int32 → Bool → Int32 → Prop) (x1 : Int32) (x2 : Int32) (x3 : Int32) (x4 : Int32) (b5 : Bool) (x6 : Int32) : Prop := ((6 ≤ x6 → (((bI b5) = 0 → X 4 x1 x2 x3 x4 false 0) ∧ (¬ ((bI b5) = 0) → ((0 ≤ x3 → X 4 x1 x2 x3 x4 false 0) ∧ (¬ (0 ≤ x3) → X 0 x1 x2 x4 (x4 + 1) false 0))))) ∧ (¬ (6 ≤ x6) → (((bI b5) = 0 → X 3 x1 x2 x3 x4 false x6) ∧ (¬ ((bI b5) = 0) → (vp_in ((6 * x4) + x6) 60 ∧ ((x2 ≤ x6 → (((mo_names (Int32.toNatClampNeg ((6 * x4) + x6))) = 0 → X 2 x1 x2 x3 x4 false x6) ∧ (¬ ((mo_names (Int32.toNatClampNeg ((6 * x4) + x6))) = 0) → X 3 x1 x2 x3 x4 false x6))) ∧ (¬ (x2 ≤ x6) → (vp_in (x1 + x6) 700 ∧ (((mo_names (Int32.toNatClampNeg ((6 * x4) + x6))) = (mo_source (Int32.toNatClampNeg (x1 + x6))) → X 2 x1 x2 x3 x4 false x6) ∧ (¬ ((mo_names (Int32.toNatClampNeg ((6 * x4) + x6))) = (mo_source (Int32.toNatClampNeg (x1 + x6)))) → X 3 x1 x2 x3 x4 false x6))))))))))
def B_Model_topicNamed_67 (mo_source : Nat → Int32) (mo_topics : Int32) (mo_names : Nat → Int32) (res : Int32) (X : Nat → Int32 → Int32 → Int32 → Int32 → Bool → Int32 → Prop) (x1 : Int32) (x2 : Int32) (x3 : Int32) (x4 : Int32) (x6 : Int32) : Prop := X 1 x1 x2 x3 x4 true (x6 + 1)
def B_Model_topicNamed_71 (mo_source : Nat → Int32) (mo_topics : Int32) (mo_names : Nat → Int32) (res : Int32) (X : Nat → Int32 → Int32 → Int32 → Int32 → Bool → Int32 → Prop) (x1 : Int32) (x2 : Int32) (x3 : Int32) (x4 : Int32) (x6 : Int32) : Prop := X 1 x1 x2 x3 x4 false (x6 + 1)
def B_Model_topicNamed_94 (mo_source : Nat → Int32) (mo_topics : Int32) (mo_names : Nat → Int32) (res : Int32) (X : Nat → Int32 → Int32 → Int32 → Int32 → Bool → Int32 → Prop) (x1 : Int32) (x2 : Int32) (x3 : Int32) (x4 : Int32) : Prop := X 0 x1 x2 x3 (x4 + 1) false 0
def S_Model_topicNamed (mo_source : Nat → Int32) (mo_topics : Int32) (mo_names : Nat → Int32) (res : Int32) (X : Nat → Int32 → Int32 → Int32 → Int32 → Bool → Int32 → Prop) : Nat → Int32 → Int32 → Int32 → Int32 → Bool → Int32 → Prop := fun q_lab x1 x2 x3 x4 b5 x6 => match q_lab with | 0 => B_Model_topicNamed_5 mo_source mo_topics mo_names res X x1 x2 x3 x4 | 1 => B_Model_topicNamed_20 mo_source mo_topics mo_names res X x1 x2 x3 x4 b5 x6 | 2 => B_Model_topicNamed_67 mo_source mo_topics mo_names res X x1 x2 x3 x4 x6 | 3 => B_Model_topicNamed_71 mo_source mo_topics mo_names res X x1 x2 x3 x4 x6 | 4 => B_Model_topicNamed_94 mo_source mo_topics mo_names res X x1 x2 x3 x4 | _ => False
def T_Model_topicNamed (mo_source : Nat → Int32) (mo_topics : Int32) (mo_names : Nat → Int32) (res : Int32) : Nat → (Nat → Int32 → Int32 → Int32 → Int32 → Bool → Int32 → Prop)
  | 0 => fun _ _ _ _ _ _ _ => False
  | n + 1 => S_Model_topicNamed mo_source mo_topics mo_names res (T_Model_topicNamed mo_source mo_topics mo_names res n)
def D_Model_topicNamed (k0 : Int32) (k1 : Int32) (mo_source : Nat → Int32) (mo_topics : Int32) (mo_names : Nat → Int32) (res : Int32) : Prop := ∃ n : Nat, T_Model_topicNamed mo_source mo_topics mo_names res n 0 k0 k1 (-1) 0 false 0
theorem d_Model_topicNamed_0 : decode b_Model_topicNamed 0 = .ok (.iconst (-1), 1) := by decide +kernel
theorem d_Model_topicNamed_1 : decode b_Model_topicNamed 1 = .ok (.istore_n 3, 1) := by decide +kernel
theorem d_Model_topicNamed_2 : decode b_Model_topicNamed 2 = .ok (.iconst 0, 1) := by decide +kernel
theorem d_Model_topicNamed_3 : decode b_Model_topicNamed 3 = .ok (.istore 4, 2) := by decide +kernel
theorem d_Model_topicNamed_5 : decode b_Model_topicNamed 5 = .ok (.iload 4, 2) := by decide +kernel
theorem d_Model_topicNamed_7 : decode b_Model_topicNamed 7 = .ok (.aload_n 0, 1) := by decide +kernel
theorem d_Model_topicNamed_8 : decode b_Model_topicNamed 8 = .ok (.getfield 143, 3) := by decide +kernel
theorem d_Model_topicNamed_11 : decode b_Model_topicNamed 11 = .ok (.if_icmp .ge 91, 3) := by decide +kernel
theorem d_Model_topicNamed_14 : decode b_Model_topicNamed 14 = .ok (.iconst 1, 1) := by decide +kernel
theorem d_Model_topicNamed_15 : decode b_Model_topicNamed 15 = .ok (.istore 5, 2) := by decide +kernel
theorem d_Model_topicNamed_17 : decode b_Model_topicNamed 17 = .ok (.iconst 0, 1) := by decide +kernel
theorem d_Model_topicNamed_18 : decode b_Model_topicNamed 18 = .ok (.istore 6, 2) := by decide +kernel
theorem d_Model_topicNamed_20 : decode b_Model_topicNamed 20 = .ok (.iload 6, 2) := by decide +kernel
theorem d_Model_topicNamed_22 : decode b_Model_topicNamed 22 = .ok (.bipush 6, 2) := by decide +kernel
theorem d_Model_topicNamed_24 : decode b_Model_topicNamed 24 = .ok (.if_icmp .ge 56, 3) := by decide +kernel
theorem d_Model_topicNamed_27 : decode b_Model_topicNamed 27 = .ok (.iload 5, 2) := by decide +kernel
theorem d_Model_topicNamed_29 : decode b_Model_topicNamed 29 = .ok (.ifCond .eq 42, 3) := by decide +kernel
theorem d_Model_topicNamed_32 : decode b_Model_topicNamed 32 = .ok (.aload_n 0, 1) := by decide +kernel
theorem d_Model_topicNamed_33 : decode b_Model_topicNamed 33 = .ok (.getfield 17, 3) := by decide +kernel
theorem d_Model_topicNamed_36 : decode b_Model_topicNamed 36 = .ok (.bipush 6, 2) := by decide +kernel
theorem d_Model_topicNamed_38 : decode b_Model_topicNamed 38 = .ok (.iload 4, 2) := by decide +kernel
theorem d_Model_topicNamed_40 : decode b_Model_topicNamed 40 = .ok (.imul, 1) := by decide +kernel
theorem d_Model_topicNamed_41 : decode b_Model_topicNamed 41 = .ok (.iload 6, 2) := by decide +kernel
theorem d_Model_topicNamed_43 : decode b_Model_topicNamed 43 = .ok (.iadd, 1) := by decide +kernel
theorem d_Model_topicNamed_44 : decode b_Model_topicNamed 44 = .ok (.iaload, 1) := by decide +kernel
theorem d_Model_topicNamed_45 : decode b_Model_topicNamed 45 = .ok (.iload 6, 2) := by decide +kernel
theorem d_Model_topicNamed_47 : decode b_Model_topicNamed 47 = .ok (.iload_n 2, 1) := by decide +kernel
theorem d_Model_topicNamed_48 : decode b_Model_topicNamed 48 = .ok (.if_icmp .ge 15, 3) := by decide +kernel
theorem d_Model_topicNamed_51 : decode b_Model_topicNamed 51 = .ok (.aload_n 0, 1) := by decide +kernel
theorem d_Model_topicNamed_52 : decode b_Model_topicNamed 52 = .ok (.getfield 7, 3) := by decide +kernel
theorem d_Model_topicNamed_55 : decode b_Model_topicNamed 55 = .ok (.iload_n 1, 1) := by decide +kernel
theorem d_Model_topicNamed_56 : decode b_Model_topicNamed 56 = .ok (.iload 6, 2) := by decide +kernel
theorem d_Model_topicNamed_58 : decode b_Model_topicNamed 58 = .ok (.iadd, 1) := by decide +kernel
theorem d_Model_topicNamed_59 : decode b_Model_topicNamed 59 = .ok (.iaload, 1) := by decide +kernel
theorem d_Model_topicNamed_60 : decode b_Model_topicNamed 60 = .ok (.goto 4, 3) := by decide +kernel
theorem d_Model_topicNamed_63 : decode b_Model_topicNamed 63 = .ok (.iconst 0, 1) := by decide +kernel
theorem d_Model_topicNamed_64 : decode b_Model_topicNamed 64 = .ok (.if_icmp .ne 7, 3) := by decide +kernel
theorem d_Model_topicNamed_67 : decode b_Model_topicNamed 67 = .ok (.iconst 1, 1) := by decide +kernel
theorem d_Model_topicNamed_68 : decode b_Model_topicNamed 68 = .ok (.goto 4, 3) := by decide +kernel
theorem d_Model_topicNamed_71 : decode b_Model_topicNamed 71 = .ok (.iconst 0, 1) := by decide +kernel
theorem d_Model_topicNamed_72 : decode b_Model_topicNamed 72 = .ok (.istore 5, 2) := by decide +kernel
theorem d_Model_topicNamed_74 : decode b_Model_topicNamed 74 = .ok (.iinc 6 1, 3) := by decide +kernel
theorem d_Model_topicNamed_77 : decode b_Model_topicNamed 77 = .ok (.goto (-57), 3) := by decide +kernel
theorem d_Model_topicNamed_80 : decode b_Model_topicNamed 80 = .ok (.iload 5, 2) := by decide +kernel
theorem d_Model_topicNamed_82 : decode b_Model_topicNamed 82 = .ok (.ifCond .eq 12, 3) := by decide +kernel
theorem d_Model_topicNamed_85 : decode b_Model_topicNamed 85 = .ok (.iload_n 3, 1) := by decide +kernel
theorem d_Model_topicNamed_86 : decode b_Model_topicNamed 86 = .ok (.ifCond .ge 8, 3) := by decide +kernel
theorem d_Model_topicNamed_89 : decode b_Model_topicNamed 89 = .ok (.iload 4, 2) := by decide +kernel
theorem d_Model_topicNamed_91 : decode b_Model_topicNamed 91 = .ok (.goto 4, 3) := by decide +kernel
theorem d_Model_topicNamed_94 : decode b_Model_topicNamed 94 = .ok (.iload_n 3, 1) := by decide +kernel
theorem d_Model_topicNamed_95 : decode b_Model_topicNamed 95 = .ok (.istore_n 3, 1) := by decide +kernel
theorem d_Model_topicNamed_96 : decode b_Model_topicNamed 96 = .ok (.iinc 4 1, 3) := by decide +kernel
theorem d_Model_topicNamed_99 : decode b_Model_topicNamed 99 = .ok (.goto (-94), 3) := by decide +kernel
theorem d_Model_topicNamed_102 : decode b_Model_topicNamed 102 = .ok (.iload_n 3, 1) := by decide +kernel
theorem d_Model_topicNamed_103 : decode b_Model_topicNamed 103 = .ok (.ireturn, 1) := by decide +kernel
set_option maxHeartbeats 4000000 in
set_option maxRecDepth 100000 in
theorem c_Model_topicNamed (l : Launch) (dC : Nat → ClassId) (dI : Nat → Nat → Nat) (cI cL cZ : ClassId) (mo : Nat) (mo_thrown : Int32) (mo_sourcea : Nat) (mo_source : Nat → Int32) (mo_size : Int32) (mo_faultLine : Int32) (mo_fault : Int32) (mo_topics : Int32) (mo_namesa : Nat) (mo_names : Nat → Int32) (mo_bodiesa : Nat) (mo_bodies : Nat → Int32) (mo_lengthsa : Nat) (mo_lengths : Nat → Int32) (mo_headingsa : Nat) (mo_headings : Nat → Int32) (mo_keywords : Int32) (mo_keyLettersa : Nat) (mo_keyLetters : Nat → Int32) (mo_keyLengthsa : Nat) (mo_keyLengths : Nat → Int32) (mo_keyBitsa : Nat) (mo_keyBits : Nat → Int32) (mo_words : Int32) (mo_wordLettersa : Nat) (mo_wordLetters : Nat → Int32) (mo_wordLengthsa : Nat) (mo_wordLengths : Nat → Int32) (mo_wordBitsa : Nat) (mo_wordBits : Nat → Int32) (mo_links : Int32) (mo_linkAta : Nat) (mo_linkAt : Nat → Int32) (mo_linkLengtha : Nat) (mo_linkLength : Nat → Int32) (mo_linkLinea : Nat) (mo_linkLine : Nat → Int32) (mo_linkToa : Nat) (mo_linkTo : Nat → Int32) (mo_inParagraph : Bool) (mo_emphasis : Bool) (mo_blank : Bool) (mo_lastLine : Int32) (mo_imageSize : Int32) (mo_imagea : Nat) (mo_image : Nat → Int32) (mo_compares : Bool) (mo_unlike : Bool) (mo_out : Int32) (mo_total : Int32) (mo_literal : Int32) (mo_handLength : Int32) (mo_handa : Nat) (mo_hand : Nat → Int32) (mo_isOpen : Bool) (mo_seenTopics : Int32) (mo_seenNamesa : Nat) (mo_seenNames : Nat → Int32) (mo_seenBodiesa : Nat) (mo_seenBodies : Nat → Int32) (mo_seenLengthsa : Nat) (mo_seenLengths : Nat → Int32) (mo_seenKeywords : Int32) (mo_seenKeyLettersa : Nat) (mo_seenKeyLetters : Nat → Int32) (mo_seenKeyLengthsa : Nat) (mo_seenKeyLengths : Nat → Int32) (mo_seenKeyBitsa : Nat) (mo_seenKeyBits : Nat → Int32) (mo_seenWords : Int32) (mo_seenWordLettersa : Nat) (mo_seenWordLetters : Nat → Int32) (mo_seenWordLengthsa : Nat) (mo_seenWordLengths : Nat → Int32) (mo_seenWordBitsa : Nat) (mo_seenWordBits : Nat → Int32) (mo_topic : Int32) (mo_backs : Int32) (mo_backa : Nat) (mo_back : Nat → Int32) (mo_forwards : Int32) (mo_forwarda : Nat) (mo_forward : Nat → Int32) (mo_typed : Int32) (mo_querya : Nat) (mo_query : Nat → Int32) (mo_visits : Int32) (mo_valuesa : Nat) (mo_values : Nat → Int32) (mo_valued : Int32) (mo_signsa : Nat) (mo_signs : Nat → Int32) (mo_signed : Int32) (mo_width : Int32) (mo_lines : Int32) (mo_lineFroma : Nat) (mo_lineFrom : Nat → Int32) (mo_lineSizea : Nat) (mo_lineSize : Nat → Int32) (mo_shown : Int32) (mo_texta : Nat) (mo_text : Nat → Int32) (mo_partLength : Int32) (mo_parta : Nat) (mo_part : Nat → Int32) (k0 : Int32) (k1 : Int32) (res : Int32) (hd : D_Model_topicNamed k0 k1 mo_source mo_topics mo_names res) : CtrR l y_Model_topicNamed (Cond.code y_Model_topicNamed b_Model_topicNamed 7 (some .int) :: ga) { frames := 0, cells := 0, slots := 0, locals := 0 } (dC, dI) classes (Tys cI cL cZ) [.ref mo, .int k0, .int k1] ((sh_Model cI cL cZ mo mo_thrown mo_sourcea mo_source mo_size mo_faultLine mo_fault mo_topics mo_namesa mo_names mo_bodiesa mo_bodies mo_lengthsa mo_lengths mo_headingsa mo_headings mo_keywords mo_keyLettersa mo_keyLetters mo_keyLengthsa mo_keyLengths mo_keyBitsa mo_keyBits mo_words mo_wordLettersa mo_wordLetters mo_wordLengthsa mo_wordLengths mo_wordBitsa mo_wordBits mo_links mo_linkAta mo_linkAt mo_linkLengtha mo_linkLength mo_linkLinea mo_linkLine mo_linkToa mo_linkTo mo_inParagraph mo_emphasis mo_blank mo_lastLine mo_imageSize mo_imagea mo_image mo_compares mo_unlike mo_out mo_total mo_literal mo_handLength mo_handa mo_hand mo_isOpen mo_seenTopics mo_seenNamesa mo_seenNames mo_seenBodiesa mo_seenBodies mo_seenLengthsa mo_seenLengths mo_seenKeywords mo_seenKeyLettersa mo_seenKeyLetters mo_seenKeyLengthsa mo_seenKeyLengths mo_seenKeyBitsa mo_seenKeyBits mo_seenWords mo_seenWordLettersa mo_seenWordLetters mo_seenWordLengthsa mo_seenWordLengths mo_seenWordBitsa mo_seenWordBits mo_topic mo_backs mo_backa mo_back mo_forwards mo_forwarda mo_forward mo_typed mo_querya mo_query mo_visits mo_valuesa mo_values mo_valued mo_signsa mo_signs mo_signed mo_width mo_lines mo_lineFroma mo_lineFrom mo_lineSizea mo_lineSize mo_shown mo_texta mo_text mo_partLength mo_parta mo_part)) (some (.int res)) := by
  refine CtrR.ofW (by decide) (Nat.le_of_ble_eq_true rfl) ?_
  intro p e s m below meth c ls hx hb hr hml hown hlocks hts hK hN hP hD hl
  have hown : s.vm.findClass R_Model = some m.cls := hown
  have hl : lv_has ls 7 [(0, .ref mo), (1, .int k0), (2, .int k1)] := hl
  have key : ∀ n : Nat, (∀ (x1 : Int32) (x2 : Int32) (x3 : Int32) (x4 : Int32) (ls : Array Slot), lv_has ls 7 [(0, .ref mo), (1, .int x1), (2, .int x2), (3, .int x3), (4, .int x4)] → T_Model_topicNamed mo_source mo_topics mo_names res n 0 x1 x2 x3 x4 false 0 → W p l e ({ frames := 0, cells := 0, slots := 0, locals := 0 }) s m ([.ref mo, .int k0, .int k1] : List Value).toArray below meth c s.heap [] 0 0 (MQ below (Qr (some (.int res))) ([.ref mo, .int k0, .int k1] : List Value).toArray s 0 0 (fun _ => False)) (F0 m 5 ls [])) ∧ (∀ (x1 : Int32) (x2 : Int32) (x3 : Int32) (x4 : Int32) (b5 : Bool) (x6 : Int32) (ls : Array Slot), lv_has ls 7 [(0, .ref mo), (1, .int x1), (2, .int x2), (3, .int x3), (4, .int x4), (5, .int (bI b5)), (6, .int x6)] → T_Model_topicNamed mo_source mo_topics mo_names res n 1 x1 x2 x3 x4 b5 x6 → W p l e ({ frames := 0, cells := 0, slots := 0, locals := 0 }) s m ([.ref mo, .int k0, .int k1] : List Value).toArray below meth c s.heap [] 0 0 (MQ below (Qr (some (.int res))) ([.ref mo, .int k0, .int k1] : List Value).toArray s 0 0 (fun _ => False)) (F0 m 20 ls [])) ∧ (∀ (x1 : Int32) (x2 : Int32) (x3 : Int32) (x4 : Int32) (x6 : Int32) (ls : Array Slot), lv_has ls 7 [(0, .ref mo), (1, .int x1), (2, .int x2), (3, .int x3), (4, .int x4), (6, .int x6)] → T_Model_topicNamed mo_source mo_topics mo_names res n 2 x1 x2 x3 x4 false x6 → W p l e ({ frames := 0, cells := 0, slots := 0, locals := 0 }) s m ([.ref mo, .int k0, .int k1] : List Value).toArray below meth c s.heap [] 0 0 (MQ below (Qr (some (.int res))) ([.ref mo, .int k0, .int k1] : List Value).toArray s 0 0 (fun _ => False)) (F0 m 67 ls [])) ∧ (∀ (x1 : Int32) (x2 : Int32) (x3 : Int32) (x4 : Int32) (x6 : Int32) (ls : Array Slot), lv_has ls 7 [(0, .ref mo), (1, .int x1), (2, .int x2), (3, .int x3), (4, .int x4), (6, .int x6)] → T_Model_topicNamed mo_source mo_topics mo_names res n 3 x1 x2 x3 x4 false x6 → W p l e ({ frames := 0, cells := 0, slots := 0, locals := 0 }) s m ([.ref mo, .int k0, .int k1] : List Value).toArray below meth c s.heap [] 0 0 (MQ below (Qr (some (.int res))) ([.ref mo, .int k0, .int k1] : List Value).toArray s 0 0 (fun _ => False)) (F0 m 71 ls [])) ∧ (∀ (x1 : Int32) (x2 : Int32) (x3 : Int32) (x4 : Int32) (ls : Array Slot), lv_has ls 7 [(0, .ref mo), (1, .int x1), (2, .int x2), (3, .int x3), (4, .int x4)] → T_Model_topicNamed mo_source mo_topics mo_names res n 4 x1 x2 x3 x4 false 0 → W p l e ({ frames := 0, cells := 0, slots := 0, locals := 0 }) s m ([.ref mo, .int k0, .int k1] : List Value).toArray below meth c s.heap [] 0 0 (MQ below (Qr (some (.int res))) ([.ref mo, .int k0, .int k1] : List Value).toArray s 0 0 (fun _ => False)) (F0 m 94 ls [])) := by
    intro n
    induction n with
    | zero =>
      exact ⟨fun _ _ _ _ _ _ hd => False.elim hd, fun _ _ _ _ _ _ _ _ hd => False.elim hd, fun _ _ _ _ _ _ _ hd => False.elim hd, fun _ _ _ _ _ _ _ hd => False.elim hd, fun _ _ _ _ _ _ hd => False.elim hd⟩
    | succ n ih =>
      refine ⟨?_, ?_, ?_, ?_, ?_⟩
      · intro x1 x2 x3 x4 ls hl hd
        have hd : B_Model_topicNamed_5 mo_source mo_topics mo_names res (T_Model_topicNamed mo_source mo_topics mo_names res n) x1 x2 x3 x4 := hd
        refine lv_iload hx hb d_Model_topicNamed_5 (lv_at hl 4 rfl) ?_
        refine lv_aload_n hx hb d_Model_topicNamed_7 rfl (lv_at hl 0 rfl) ?_
        refine va_get (D := (dC, dI)) (ci := 9) (v := .int mo_topics) (C := R_Model) (T := F_Model) (N := 69) hx hb hts in_Model hown hK hP 0 rfl rfl 5 (by decide) (hts _ (List.mem_cons_of_mem _ k491_fieldLink)) (fun _ h9 => h9) rfl d_Model_topicNamed_8 ?_
        refine lv_icmp_ge (tgt := 102) hx hb d_Model_topicNamed_11 (by decide) (fun h11 => ?_) (fun h11 => ?_)
        · have hd := hd.1 h11
          refine lv_iload_n hx hb d_Model_topicNamed_102 rfl (lv_at hl 3 rfl) ?_
          have e0 : res = x3 := hd
          subst e0
          exact ct_iretR hx hb hr hlocks d_Model_topicNamed_103
        · have hd := hd.2 h11
          refine lv_iconst (v := 1) hx hb d_Model_topicNamed_14 (by decide) ?_
          refine lv_istore (lv' := [(5, .int 1), (0, .ref mo), (1, .int x1), (2, .int x2), (3, .int x3), (4, .int x4)]) hx hb d_Model_topicNamed_15 hl (by decide) rfl (fun ls hl => ?_)
          refine lv_iconst (v := 0) hx hb d_Model_topicNamed_17 (by decide) ?_
          refine lv_istore (lv' := [(6, .int 0), (5, .int 1), (0, .ref mo), (1, .int x1), (2, .int x2), (3, .int x3), (4, .int x4)]) hx hb d_Model_topicNamed_18 hl (by decide) rfl (fun ls hl => ?_)
          exact ih.2.1 x1 x2 x3 x4 true 0 _ (lv_sub hl [2, 3, 4, 5, 6, 1, 0] rfl) hd
      · intro x1 x2 x3 x4 b5 x6 ls hl hd
        have hd : B_Model_topicNamed_20 mo_source mo_topics mo_names res (T_Model_topicNamed mo_source mo_topics mo_names res n) x1 x2 x3 x4 b5 x6 := hd
        refine lv_iload hx hb d_Model_topicNamed_20 (lv_at hl 6 rfl) ?_
        refine lv_bipush (v := 6) hx hb d_Model_topicNamed_22 (by decide) ?_
        refine lv_icmp_ge (tgt := 80) hx hb d_Model_topicNamed_24 (by decide) (fun h24 => ?_) (fun h24 => ?_)
        · have hd := hd.1 h24
          refine lv_iload hx hb d_Model_topicNamed_80 (lv_at hl 5 rfl) ?_
          refine lv_if_eq (tgt := 94) hx hb d_Model_topicNamed_82 (by decide) (fun h82 => ?_) (fun h82 => ?_)
          · have hd := hd.1 h82
            exact ih.2.2.2.2 x1 x2 x3 x4 _ (lv_sub hl [0, 1, 2, 3, 4] rfl) hd
          · have hd := hd.2 h82
            refine lv_iload_n hx hb d_Model_topicNamed_85 rfl (lv_at hl 3 rfl) ?_
            refine lv_if_ge (tgt := 94) hx hb d_Model_topicNamed_86 (by decide) (fun h86 => ?_) (fun h86 => ?_)
            · have hd := hd.1 h86
              exact ih.2.2.2.2 x1 x2 x3 x4 _ (lv_sub hl [0, 1, 2, 3, 4] rfl) hd
            · have hd := hd.2 h86
              refine lv_iload hx hb d_Model_topicNamed_89 (lv_at hl 4 rfl) ?_
              refine lv_goto (tgt := 95) hx hb d_Model_topicNamed_91 (by decide) ?_
              refine lv_istore_n (lv' := [(3, .int x4), (0, .ref mo), (1, .int x1), (2, .int x2), (4, .int x4), (5, .int (bI b5)), (6, .int x6)]) hx hb d_Model_topicNamed_95 rfl hl (by decide) rfl (fun ls hl => ?_)
              refine lv_iinc (k := 4) (v := x4 + 1) (lv' := [(4, .int (x4 + 1)), (3, .int x4), (0, .ref mo), (1, .int x1), (2, .int x2), (5, .int (bI b5)), (6, .int x6)]) hx hb d_Model_topicNamed_96 hl rfl (congrArg (fun z => x4 + z) (by decide)) (by decide) rfl (fun ls hl => ?_)
              refine lv_goto (tgt := 5) hx hb d_Model_topicNamed_99 (by decide) ?_
              exact ih.1 x1 x2 x4 (x4 + 1) _ (lv_sub hl [2, 3, 4, 1, 0] rfl) hd
        · have hd := hd.2 h24
          refine lv_iload hx hb d_Model_topicNamed_27 (lv_at hl 5 rfl) ?_
          refine lv_if_eq (tgt := 71) hx hb d_Model_topicNamed_29 (by decide) (fun h29 => ?_) (fun h29 => ?_)
          · have hd := hd.1 h29
            exact ih.2.2.2.1 x1 x2 x3 x4 x6 _ (lv_sub hl [0, 1, 2, 3, 4, 6] rfl) hd
          · have hd := hd.2 h29
            refine lv_aload_n hx hb d_Model_topicNamed_32 rfl (lv_at hl 0 rfl) ?_
            refine va_get (D := (dC, dI)) (ci := 9) (v := .ref mo_namesa) (C := R_Model) (T := F_Model) (N := 69) hx hb hts in_Model hown hK hP 0 rfl rfl 6 (by decide) (hts _ (List.mem_cons_of_mem _ k492_fieldLink)) (fun _ h9 => h9) rfl d_Model_topicNamed_33 ?_
            refine lv_bipush (v := 6) hx hb d_Model_topicNamed_36 (by decide) ?_
            refine lv_iload hx hb d_Model_topicNamed_38 (lv_at hl 4 rfl) ?_
            refine lv_imul hx hb d_Model_topicNamed_40 ?_
            refine lv_iload hx hb d_Model_topicNamed_41 (lv_at hl 6 rfl) ?_
            refine lv_iadd hx hb d_Model_topicNamed_43 ?_
            obtain ⟨h44, hd⟩ := hd
            refine va_iald hx hb hK hP 2 0 rfl rfl h44 d_Model_topicNamed_44 ?_
            refine lv_iload hx hb d_Model_topicNamed_45 (lv_at hl 6 rfl) ?_
            refine lv_iload_n hx hb d_Model_topicNamed_47 rfl (lv_at hl 2 rfl) ?_
            refine lv_icmp_ge (tgt := 63) hx hb d_Model_topicNamed_48 (by decide) (fun h48 => ?_) (fun h48 => ?_)
            · have hd := hd.1 h48
              refine lv_iconst (v := 0) hx hb d_Model_topicNamed_63 (by decide) ?_
              refine lv_icmp_ne (tgt := 71) hx hb d_Model_topicNamed_64 (by decide) (fun h64 => ?_) (fun h64 => ?_)
              · have hd := hd.2 h64
                exact ih.2.2.2.1 x1 x2 x3 x4 x6 _ (lv_sub hl [0, 1, 2, 3, 4, 6] rfl) hd
              · have hd := hd.1 h64
                exact ih.2.2.1 x1 x2 x3 x4 x6 _ (lv_sub hl [0, 1, 2, 3, 4, 6] rfl) hd
            · have hd := hd.2 h48
              refine lv_aload_n hx hb d_Model_topicNamed_51 rfl (lv_at hl 0 rfl) ?_
              refine va_get (D := (dC, dI)) (ci := 9) (v := .ref mo_sourcea) (C := R_Model) (T := F_Model) (N := 69) hx hb hts in_Model hown hK hP 0 rfl rfl 1 (by decide) (hts _ (List.mem_cons_of_mem _ k488_fieldLink)) (fun _ h9 => h9) rfl d_Model_topicNamed_52 ?_
              refine lv_iload_n hx hb d_Model_topicNamed_55 rfl (lv_at hl 1 rfl) ?_
              refine lv_iload hx hb d_Model_topicNamed_56 (lv_at hl 6 rfl) ?_
              refine lv_iadd hx hb d_Model_topicNamed_58 ?_
              obtain ⟨h59, hd⟩ := hd
              refine va_iald hx hb hK hP 1 0 rfl rfl h59 d_Model_topicNamed_59 ?_
              refine lv_goto (tgt := 64) hx hb d_Model_topicNamed_60 (by decide) ?_
              refine lv_icmp_ne (tgt := 71) hx hb d_Model_topicNamed_64 (by decide) (fun h64 => ?_) (fun h64 => ?_)
              · have hd := hd.2 h64
                exact ih.2.2.2.1 x1 x2 x3 x4 x6 _ (lv_sub hl [0, 1, 2, 3, 4, 6] rfl) hd
              · have hd := hd.1 h64
                exact ih.2.2.1 x1 x2 x3 x4 x6 _ (lv_sub hl [0, 1, 2, 3, 4, 6] rfl) hd
      · intro x1 x2 x3 x4 x6 ls hl hd
        have hd : B_Model_topicNamed_67 mo_source mo_topics mo_names res (T_Model_topicNamed mo_source mo_topics mo_names res n) x1 x2 x3 x4 x6 := hd
        refine lv_iconst (v := 1) hx hb d_Model_topicNamed_67 (by decide) ?_
        refine lv_goto (tgt := 72) hx hb d_Model_topicNamed_68 (by decide) ?_
        refine lv_istore (lv' := [(5, .int 1), (0, .ref mo), (1, .int x1), (2, .int x2), (3, .int x3), (4, .int x4), (6, .int x6)]) hx hb d_Model_topicNamed_72 hl (by decide) rfl (fun ls hl => ?_)
        refine lv_iinc (k := 6) (v := x6 + 1) (lv' := [(6, .int (x6 + 1)), (5, .int 1), (0, .ref mo), (1, .int x1), (2, .int x2), (3, .int x3), (4, .int x4)]) hx hb d_Model_topicNamed_74 hl rfl (congrArg (fun z => x6 + z) (by decide)) (by decide) rfl (fun ls hl => ?_)
        refine lv_goto (tgt := 20) hx hb d_Model_topicNamed_77 (by decide) ?_
        exact ih.2.1 x1 x2 x3 x4 true (x6 + 1) _ (lv_sub hl [2, 3, 4, 5, 6, 1, 0] rfl) hd
      · intro x1 x2 x3 x4 x6 ls hl hd
        have hd : B_Model_topicNamed_71 mo_source mo_topics mo_names res (T_Model_topicNamed mo_source mo_topics mo_names res n) x1 x2 x3 x4 x6 := hd
        refine lv_iconst (v := 0) hx hb d_Model_topicNamed_71 (by decide) ?_
        refine lv_istore (lv' := [(5, .int 0), (0, .ref mo), (1, .int x1), (2, .int x2), (3, .int x3), (4, .int x4), (6, .int x6)]) hx hb d_Model_topicNamed_72 hl (by decide) rfl (fun ls hl => ?_)
        refine lv_iinc (k := 6) (v := x6 + 1) (lv' := [(6, .int (x6 + 1)), (5, .int 0), (0, .ref mo), (1, .int x1), (2, .int x2), (3, .int x3), (4, .int x4)]) hx hb d_Model_topicNamed_74 hl rfl (congrArg (fun z => x6 + z) (by decide)) (by decide) rfl (fun ls hl => ?_)
        refine lv_goto (tgt := 20) hx hb d_Model_topicNamed_77 (by decide) ?_
        exact ih.2.1 x1 x2 x3 x4 false (x6 + 1) _ (lv_sub hl [2, 3, 4, 5, 6, 1, 0] rfl) hd
      · intro x1 x2 x3 x4 ls hl hd
        have hd : B_Model_topicNamed_94 mo_source mo_topics mo_names res (T_Model_topicNamed mo_source mo_topics mo_names res n) x1 x2 x3 x4 := hd
        refine lv_iload_n hx hb d_Model_topicNamed_94 rfl (lv_at hl 3 rfl) ?_
        refine lv_istore_n (lv' := [(3, .int x3), (0, .ref mo), (1, .int x1), (2, .int x2), (4, .int x4)]) hx hb d_Model_topicNamed_95 rfl hl (by decide) rfl (fun ls hl => ?_)
        refine lv_iinc (k := 4) (v := x4 + 1) (lv' := [(4, .int (x4 + 1)), (3, .int x3), (0, .ref mo), (1, .int x1), (2, .int x2)]) hx hb d_Model_topicNamed_96 hl rfl (congrArg (fun z => x4 + z) (by decide)) (by decide) rfl (fun ls hl => ?_)
        refine lv_goto (tgt := 5) hx hb d_Model_topicNamed_99 (by decide) ?_
        exact ih.1 x1 x2 x3 (x4 + 1) _ (lv_sub hl [2, 3, 4, 1, 0] rfl) hd
  obtain ⟨n, hd⟩ := hd
  refine lv_iconst (v := (-1)) hx hb d_Model_topicNamed_0 (by decide) ?_
  refine lv_istore_n (lv' := [(3, .int (-1)), (0, .ref mo), (1, .int k0), (2, .int k1)]) hx hb d_Model_topicNamed_1 rfl hl (by decide) rfl (fun ls hl => ?_)
  refine lv_iconst (v := 0) hx hb d_Model_topicNamed_2 (by decide) ?_
  refine lv_istore (lv' := [(4, .int 0), (3, .int (-1)), (0, .ref mo), (1, .int k0), (2, .int k1)]) hx hb d_Model_topicNamed_3 hl (by decide) rfl (fun ls hl => ?_)
  exact (key n).1 k0 k1 (-1) 0 _ (lv_sub hl [2, 3, 4, 1, 0] rfl) hd
