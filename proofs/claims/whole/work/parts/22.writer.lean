/-! 22.writer: what each method does, read off its bytecode (D_..), and its contract (c_..); written by a program of mine. -/
-- Integer.bitCount
abbrev b_Integer_bitCount : ByteArray := prog_19_method_49_code
def y_Integer_bitCount : MethodName := ⟨"java/lang/Integer", "bitCount", "(I)I"⟩
theorem k191_constant : Cond.constant "java/lang/Integer" 265 1431655765 ∈ ga := ga_t 549 (by decide +kernel) rfl
theorem k192_constant : Cond.constant "java/lang/Integer" 266 858993459 ∈ ga := ga_t 550 (by decide +kernel) rfl
theorem k193_constant : Cond.constant "java/lang/Integer" 267 252645135 ∈ ga := ga_t 551 (by decide +kernel) rfl
theorem k194_initialized : Cond.initialized "java/lang/Integer" ∈ ga := ga_t 20 (by decide +kernel) rfl
set_option maxRecDepth 100000 in
theorem fm_Integer_bitCount : Fm y_Integer_bitCount b_Integer_bitCount 1 (some .int) 1 := ⟨ga_t 548 rfl rfl, k194_initialized, by decide, by decide, by decide +kernel⟩
def D_Integer_bitCount (k0 : Int32) (res : Int32) : Prop := (res = (((((((k0 - (((Int32.toUInt32 k0 >>> (Int32.toUInt32 1 &&& Int32.toUInt32 31)).toInt32) &&& 1431655765)) &&& 858993459) + (((Int32.toUInt32 (k0 - (((Int32.toUInt32 k0 >>> (Int32.toUInt32 1 &&& Int32.toUInt32 31)).toInt32) &&& 1431655765)) >>> (Int32.toUInt32 2 &&& Int32.toUInt32 31)).toInt32) &&& 858993459)) + ((Int32.toUInt32 (((k0 - (((Int32.toUInt32 k0 >>> (Int32.toUInt32 1 &&& Int32.toUInt32 31)).toInt32) &&& 1431655765)) &&& 858993459) + (((Int32.toUInt32 (k0 - (((Int32.toUInt32 k0 >>> (Int32.toUInt32 1 &&& Int32.toUInt32 31)).toInt32) &&& 1431655765)) >>> (Int32.toUInt32 2 &&& Int32.toUInt32 31)).toInt32) &&& 858993459)) >>> (Int32.toUInt32 4 &&& Int32.toUInt32 31)).toInt32)) &&& 252645135) + ((Int32.toUInt32 (((((k0 - (((Int32.toUInt32 k0 >>> (Int32.toUInt32 1 &&& Int32.toUInt32 31)).toInt32) &&& 1431655765)) &&& 858993459) + (((Int32.toUInt32 (k0 - (((Int32.toUInt32 k0 >>> (Int32.toUInt32 1 &&& Int32.toUInt32 31)).toInt32) &&& 1431655765)) >>> (Int32.toUInt32 2 &&& Int32.toUInt32 31)).toInt32) &&& 858993459)) + ((Int32.toUInt32 (((k0 - (((Int32.toUInt32 k0 >>> (Int32.toUInt32 1 &&& Int32.toUInt32 31)).toInt32) &&& 1431655765)) &&& 858993459) + (((Int32.toUInt32 (k0 - (((Int32.toUInt32 k0 >>> (Int32.toUInt32 1 &&& Int32.toUInt32 31)).toInt32) &&& 1431655765)) >>> (Int32.toUInt32 2 &&& Int32.toUInt32 31)).toInt32) &&& 858993459)) >>> (Int32.toUInt32 4 &&& Int32.toUInt32 31)).toInt32)) &&& 252645135) >>> (Int32.toUInt32 8 &&& Int32.toUInt32 31)).toInt32)) + ((Int32.toUInt32 ((((((k0 - (((Int32.toUInt32 k0 >>> (Int32.toUInt32 1 &&& Int32.toUInt32 31)).toInt32) &&& 1431655765)) &&& 858993459) + (((Int32.toUInt32 (k0 - (((Int32.toUInt32 k0 >>> (Int32.toUInt32 1 &&& Int32.toUInt32 31)).toInt32) &&& 1431655765)) >>> (Int32.toUInt32 2 &&& Int32.toUInt32 31)).toInt32) &&& 858993459)) + ((Int32.toUInt32 (((k0 - (((Int32.toUInt32 k0 >>> (Int32.toUInt32 1 &&& Int32.toUInt32 31)).toInt32) &&& 1431655765)) &&& 858993459) + (((Int32.toUInt32 (k0 - (((Int32.toUInt32 k0 >>> (Int32.toUInt32 1 &&& Int32.toUInt32 31)).toInt32) &&& 1431655765)) >>> (Int32.toUInt32 2 &&& Int32.toUInt32 31)).toInt32) &&& 858993459)) >>> (Int32.toUInt32 4 &&& Int32.toUInt32 31)).toInt32)) &&& 252645135) + ((Int32.toUInt32 (((((k0 - (((Int32.toUInt32 k0 >>> (Int32.toUInt32 1 &&& Int32.toUInt32 31)).toInt32) &&& 1431655765)) &&& 858993459) + (((Int32.toUInt32 (k0 - (((Int32.toUInt32 k0 >>> (Int32.toUInt32 1 &&& Int32.toUInt32 31)).toInt32) &&& 1431655765)) >>> (Int32.toUInt32 2 &&& Int32.toUInt32 31)).toInt32) &&& 858993459)) + ((Int32.toUInt32 (((k0 - (((Int32.toUInt32 k0 >>> (Int32.toUInt32 1 &&& Int32.toUInt32 31)).toInt32) &&& 1431655765)) &&& 858993459) + (((Int32.toUInt32 (k0 - (((Int32.toUInt32 k0 >>> (Int32.toUInt32 1 &&& Int32.toUInt32 31)).toInt32) &&& 1431655765)) >>> (Int32.toUInt32 2 &&& Int32.toUInt32 31)).toInt32) &&& 858993459)) >>> (Int32.toUInt32 4 &&& Int32.toUInt32 31)).toInt32)) &&& 252645135) >>> (Int32.toUInt32 8 &&& Int32.toUInt32 31)).toInt32)) >>> (Int32.toUInt32 16 &&& Int32.toUInt32 31)).toInt32)) &&& 63)
theorem d_Integer_bitCount_0 : decode b_Integer_bitCount 0 = .ok (.iload_n 0, 1) := by decide +kernel
theorem d_Integer_bitCount_1 : decode b_Integer_bitCount 1 = .ok (.iload_n 0, 1) := by decide +kernel
theorem d_Integer_bitCount_2 : decode b_Integer_bitCount 2 = .ok (.iconst 1, 1) := by decide +kernel
theorem d_Integer_bitCount_3 : decode b_Integer_bitCount 3 = .ok (.iushr, 1) := by decide +kernel
theorem d_Integer_bitCount_4 : decode b_Integer_bitCount 4 = .ok (.ldc_w 265, 3) := by decide +kernel
theorem d_Integer_bitCount_7 : decode b_Integer_bitCount 7 = .ok (.iand, 1) := by decide +kernel
theorem d_Integer_bitCount_8 : decode b_Integer_bitCount 8 = .ok (.isub, 1) := by decide +kernel
theorem d_Integer_bitCount_9 : decode b_Integer_bitCount 9 = .ok (.istore_n 0, 1) := by decide +kernel
theorem d_Integer_bitCount_10 : decode b_Integer_bitCount 10 = .ok (.iload_n 0, 1) := by decide +kernel
theorem d_Integer_bitCount_11 : decode b_Integer_bitCount 11 = .ok (.ldc_w 266, 3) := by decide +kernel
theorem d_Integer_bitCount_14 : decode b_Integer_bitCount 14 = .ok (.iand, 1) := by decide +kernel
theorem d_Integer_bitCount_15 : decode b_Integer_bitCount 15 = .ok (.iload_n 0, 1) := by decide +kernel
theorem d_Integer_bitCount_16 : decode b_Integer_bitCount 16 = .ok (.iconst 2, 1) := by decide +kernel
theorem d_Integer_bitCount_17 : decode b_Integer_bitCount 17 = .ok (.iushr, 1) := by decide +kernel
theorem d_Integer_bitCount_18 : decode b_Integer_bitCount 18 = .ok (.ldc_w 266, 3) := by decide +kernel
theorem d_Integer_bitCount_21 : decode b_Integer_bitCount 21 = .ok (.iand, 1) := by decide +kernel
theorem d_Integer_bitCount_22 : decode b_Integer_bitCount 22 = .ok (.iadd, 1) := by decide +kernel
theorem d_Integer_bitCount_23 : decode b_Integer_bitCount 23 = .ok (.istore_n 0, 1) := by decide +kernel
theorem d_Integer_bitCount_24 : decode b_Integer_bitCount 24 = .ok (.iload_n 0, 1) := by decide +kernel
theorem d_Integer_bitCount_25 : decode b_Integer_bitCount 25 = .ok (.iload_n 0, 1) := by decide +kernel
theorem d_Integer_bitCount_26 : decode b_Integer_bitCount 26 = .ok (.iconst 4, 1) := by decide +kernel
theorem d_Integer_bitCount_27 : decode b_Integer_bitCount 27 = .ok (.iushr, 1) := by decide +kernel
theorem d_Integer_bitCount_28 : decode b_Integer_bitCount 28 = .ok (.iadd, 1) := by decide +kernel
theorem d_Integer_bitCount_29 : decode b_Integer_bitCount 29 = .ok (.ldc_w 267, 3) := by decide +kernel
theorem d_Integer_bitCount_32 : decode b_Integer_bitCount 32 = .ok (.iand, 1) := by decide +kernel
theorem d_Integer_bitCount_33 : decode b_Integer_bitCount 33 = .ok (.istore_n 0, 1) := by decide +kernel
theorem d_Integer_bitCount_34 : decode b_Integer_bitCount 34 = .ok (.iload_n 0, 1) := by decide +kernel
theorem d_Integer_bitCount_35 : decode b_Integer_bitCount 35 = .ok (.iload_n 0, 1) := by decide +kernel
theorem d_Integer_bitCount_36 : decode b_Integer_bitCount 36 = .ok (.bipush 8, 2) := by decide +kernel
theorem d_Integer_bitCount_38 : decode b_Integer_bitCount 38 = .ok (.iushr, 1) := by decide +kernel
theorem d_Integer_bitCount_39 : decode b_Integer_bitCount 39 = .ok (.iadd, 1) := by decide +kernel
theorem d_Integer_bitCount_40 : decode b_Integer_bitCount 40 = .ok (.istore_n 0, 1) := by decide +kernel
theorem d_Integer_bitCount_41 : decode b_Integer_bitCount 41 = .ok (.iload_n 0, 1) := by decide +kernel
theorem d_Integer_bitCount_42 : decode b_Integer_bitCount 42 = .ok (.iload_n 0, 1) := by decide +kernel
theorem d_Integer_bitCount_43 : decode b_Integer_bitCount 43 = .ok (.bipush 16, 2) := by decide +kernel
theorem d_Integer_bitCount_45 : decode b_Integer_bitCount 45 = .ok (.iushr, 1) := by decide +kernel
theorem d_Integer_bitCount_46 : decode b_Integer_bitCount 46 = .ok (.iadd, 1) := by decide +kernel
theorem d_Integer_bitCount_47 : decode b_Integer_bitCount 47 = .ok (.istore_n 0, 1) := by decide +kernel
theorem d_Integer_bitCount_48 : decode b_Integer_bitCount 48 = .ok (.iload_n 0, 1) := by decide +kernel
theorem d_Integer_bitCount_49 : decode b_Integer_bitCount 49 = .ok (.bipush 63, 2) := by decide +kernel
theorem d_Integer_bitCount_51 : decode b_Integer_bitCount 51 = .ok (.iand, 1) := by decide +kernel
theorem d_Integer_bitCount_52 : decode b_Integer_bitCount 52 = .ok (.ireturn, 1) := by decide +kernel
set_option maxHeartbeats 4000000 in
set_option maxRecDepth 100000 in
theorem c_Integer_bitCount (l : Launch) (dC : Nat → ClassId) (dI : Nat → Nat → Nat) (cI cL cZ : ClassId) (k0 : Int32) (res : Int32) (hd : D_Integer_bitCount k0 res) : CtrR l y_Integer_bitCount (Cond.code y_Integer_bitCount b_Integer_bitCount 1 (some .int) :: ga) { frames := 0, cells := 0, slots := 0, locals := 0 } (dC, dI) classes (Tys cI cL cZ) [.int k0] (([] : va_W)) (some (.int res)) := by
  refine CtrR.ofW (by decide) (Nat.le_of_ble_eq_true rfl) ?_
  intro p e s m below meth c ls hx hb hr hml hown hlocks hts hK hN hP hD hl
  have hown : s.vm.findClass R_Integer = some m.cls := hown
  have hl : lv_has ls 1 [(0, .int k0)] := hl
  refine lv_iload_n hx hb d_Integer_bitCount_0 rfl (lv_at hl 0 rfl) ?_
  refine lv_iload_n hx hb d_Integer_bitCount_1 rfl (lv_at hl 0 rfl) ?_
  refine lv_iconst (v := 1) hx hb d_Integer_bitCount_2 (by decide) ?_
  refine lv_iushr (v := (Int32.toUInt32 k0 >>> (Int32.toUInt32 1 &&& Int32.toUInt32 31)).toInt32) hx hb d_Integer_bitCount_3 rfl ?_
  refine lv_ldcw (v := 1431655765) hx hb hown (hts _ (List.mem_cons_of_mem _ k191_constant)) d_Integer_bitCount_4 ?_
  refine lv_iand hx hb d_Integer_bitCount_7 ?_
  refine lv_isub hx hb d_Integer_bitCount_8 ?_
  refine lv_istore_n (lv' := [(0, .int (k0 - (((Int32.toUInt32 k0 >>> (Int32.toUInt32 1 &&& Int32.toUInt32 31)).toInt32) &&& 1431655765)))]) hx hb d_Integer_bitCount_9 rfl hl (by decide) rfl (fun ls hl => ?_)
  refine lv_iload_n hx hb d_Integer_bitCount_10 rfl (lv_at hl 0 rfl) ?_
  refine lv_ldcw (v := 858993459) hx hb hown (hts _ (List.mem_cons_of_mem _ k192_constant)) d_Integer_bitCount_11 ?_
  refine lv_iand hx hb d_Integer_bitCount_14 ?_
  refine lv_iload_n hx hb d_Integer_bitCount_15 rfl (lv_at hl 0 rfl) ?_
  refine lv_iconst (v := 2) hx hb d_Integer_bitCount_16 (by decide) ?_
  refine lv_iushr (v := (Int32.toUInt32 (k0 - (((Int32.toUInt32 k0 >>> (Int32.toUInt32 1 &&& Int32.toUInt32 31)).toInt32) &&& 1431655765)) >>> (Int32.toUInt32 2 &&& Int32.toUInt32 31)).toInt32) hx hb d_Integer_bitCount_17 rfl ?_
  refine lv_ldcw (v := 858993459) hx hb hown (hts _ (List.mem_cons_of_mem _ k192_constant)) d_Integer_bitCount_18 ?_
  refine lv_iand hx hb d_Integer_bitCount_21 ?_
  refine lv_iadd hx hb d_Integer_bitCount_22 ?_
  refine lv_istore_n (lv' := [(0, .int (((k0 - (((Int32.toUInt32 k0 >>> (Int32.toUInt32 1 &&& Int32.toUInt32 31)).toInt32) &&& 1431655765)) &&& 858993459) + (((Int32.toUInt32 (k0 - (((Int32.toUInt32 k0 >>> (Int32.toUInt32 1 &&& Int32.toUInt32 31)).toInt32) &&& 1431655765)) >>> (Int32.toUInt32 2 &&& Int32.toUInt32 31)).toInt32) &&& 858993459)))]) hx hb d_Integer_bitCount_23 rfl hl (by decide) rfl (fun ls hl => ?_)
  refine lv_iload_n hx hb d_Integer_bitCount_24 rfl (lv_at hl 0 rfl) ?_
  refine lv_iload_n hx hb d_Integer_bitCount_25 rfl (lv_at hl 0 rfl) ?_
  refine lv_iconst (v := 4) hx hb d_Integer_bitCount_26 (by decide) ?_
  refine lv_iushr (v := (Int32.toUInt32 (((k0 - (((Int32.toUInt32 k0 >>> (Int32.toUInt32 1 &&& Int32.toUInt32 31)).toInt32) &&& 1431655765)) &&& 858993459) + (((Int32.toUInt32 (k0 - (((Int32.toUInt32 k0 >>> (Int32.toUInt32 1 &&& Int32.toUInt32 31)).toInt32) &&& 1431655765)) >>> (Int32.toUInt32 2 &&& Int32.toUInt32 31)).toInt32) &&& 858993459)) >>> (Int32.toUInt32 4 &&& Int32.toUInt32 31)).toInt32) hx hb d_Integer_bitCount_27 rfl ?_
  refine lv_iadd hx hb d_Integer_bitCount_28 ?_
  refine lv_ldcw (v := 252645135) hx hb hown (hts _ (List.mem_cons_of_mem _ k193_constant)) d_Integer_bitCount_29 ?_
  refine lv_iand hx hb d_Integer_bitCount_32 ?_
  refine lv_istore_n (lv' := [(0, .int (((((k0 - (((Int32.toUInt32 k0 >>> (Int32.toUInt32 1 &&& Int32.toUInt32 31)).toInt32) &&& 1431655765)) &&& 858993459) + (((Int32.toUInt32 (k0 - (((Int32.toUInt32 k0 >>> (Int32.toUInt32 1 &&& Int32.toUInt32 31)).toInt32) &&& 1431655765)) >>> (Int32.toUInt32 2 &&& Int32.toUInt32 31)).toInt32) &&& 858993459)) + ((Int32.toUInt32 (((k0 - (((Int32.toUInt32 k0 >>> (Int32.toUInt32 1 &&& Int32.toUInt32 31)).toInt32) &&& 1431655765)) &&& 858993459) + (((Int32.toUInt32 (k0 - (((Int32.toUInt32 k0 >>> (Int32.toUInt32 1 &&& Int32.toUInt32 31)).toInt32) &&& 1431655765)) >>> (Int32.toUInt32 2 &&& Int32.toUInt32 31)).toInt32) &&& 858993459)) >>> (Int32.toUInt32 4 &&& Int32.toUInt32 31)).toInt32)) &&& 252645135))]) hx hb d_Integer_bitCount_33 rfl hl (by decide) rfl (fun ls hl => ?_)
  refine lv_iload_n hx hb d_Integer_bitCount_34 rfl (lv_at hl 0 rfl) ?_
  refine lv_iload_n hx hb d_Integer_bitCount_35 rfl (lv_at hl 0 rfl) ?_
  refine lv_bipush (v := 8) hx hb d_Integer_bitCount_36 (by decide) ?_
  refine lv_iushr (v := (Int32.toUInt32 (((((k0 - (((Int32.toUInt32 k0 >>> (Int32.toUInt32 1 &&& Int32.toUInt32 31)).toInt32) &&& 1431655765)) &&& 858993459) + (((Int32.toUInt32 (k0 - (((Int32.toUInt32 k0 >>> (Int32.toUInt32 1 &&& Int32.toUInt32 31)).toInt32) &&& 1431655765)) >>> (Int32.toUInt32 2 &&& Int32.toUInt32 31)).toInt32) &&& 858993459)) + ((Int32.toUInt32 (((k0 - (((Int32.toUInt32 k0 >>> (Int32.toUInt32 1 &&& Int32.toUInt32 31)).toInt32) &&& 1431655765)) &&& 858993459) + (((Int32.toUInt32 (k0 - (((Int32.toUInt32 k0 >>> (Int32.toUInt32 1 &&& Int32.toUInt32 31)).toInt32) &&& 1431655765)) >>> (Int32.toUInt32 2 &&& Int32.toUInt32 31)).toInt32) &&& 858993459)) >>> (Int32.toUInt32 4 &&& Int32.toUInt32 31)).toInt32)) &&& 252645135) >>> (Int32.toUInt32 8 &&& Int32.toUInt32 31)).toInt32) hx hb d_Integer_bitCount_38 rfl ?_
  refine lv_iadd hx hb d_Integer_bitCount_39 ?_
  refine lv_istore_n (lv' := [(0, .int ((((((k0 - (((Int32.toUInt32 k0 >>> (Int32.toUInt32 1 &&& Int32.toUInt32 31)).toInt32) &&& 1431655765)) &&& 858993459) + (((Int32.toUInt32 (k0 - (((Int32.toUInt32 k0 >>> (Int32.toUInt32 1 &&& Int32.toUInt32 31)).toInt32) &&& 1431655765)) >>> (Int32.toUInt32 2 &&& Int32.toUInt32 31)).toInt32) &&& 858993459)) + ((Int32.toUInt32 (((k0 - (((Int32.toUInt32 k0 >>> (Int32.toUInt32 1 &&& Int32.toUInt32 31)).toInt32) &&& 1431655765)) &&& 858993459) + (((Int32.toUInt32 (k0 - (((Int32.toUInt32 k0 >>> (Int32.toUInt32 1 &&& Int32.toUInt32 31)).toInt32) &&& 1431655765)) >>> (Int32.toUInt32 2 &&& Int32.toUInt32 31)).toInt32) &&& 858993459)) >>> (Int32.toUInt32 4 &&& Int32.toUInt32 31)).toInt32)) &&& 252645135) + ((Int32.toUInt32 (((((k0 - (((Int32.toUInt32 k0 >>> (Int32.toUInt32 1 &&& Int32.toUInt32 31)).toInt32) &&& 1431655765)) &&& 858993459) + (((Int32.toUInt32 (k0 - (((Int32.toUInt32 k0 >>> (Int32.toUInt32 1 &&& Int32.toUInt32 31)).toInt32) &&& 1431655765)) >>> (Int32.toUInt32 2 &&& Int32.toUInt32 31)).toInt32) &&& 858993459)) + ((Int32.toUInt32 (((k0 - (((Int32.toUInt32 k0 >>> (Int32.toUInt32 1 &&& Int32.toUInt32 31)).toInt32) &&& 1431655765)) &&& 858993459) + (((Int32.toUInt32 (k0 - (((Int32.toUInt32 k0 >>> (Int32.toUInt32 1 &&& Int32.toUInt32 31)).toInt32) &&& 1431655765)) >>> (Int32.toUInt32 2 &&& Int32.toUInt32 31)).toInt32) &&& 858993459)) >>> (Int32.toUInt32 4 &&& Int32.toUInt32 31)).toInt32)) &&& 252645135) >>> (Int32.toUInt32 8 &&& Int32.toUInt32 31)).toInt32)))]) hx hb d_Integer_bitCount_40 rfl hl (by decide) rfl (fun ls hl => ?_)
  refine lv_iload_n hx hb d_Integer_bitCount_41 rfl (lv_at hl 0 rfl) ?_
  refine lv_iload_n hx hb d_Integer_bitCount_42 rfl (lv_at hl 0 rfl) ?_
  refine lv_bipush (v := 16) hx hb d_Integer_bitCount_43 (by decide) ?_
  refine lv_iushr (v := (Int32.toUInt32 ((((((k0 - (((Int32.toUInt32 k0 >>> (Int32.toUInt32 1 &&& Int32.toUInt32 31)).toInt32) &&& 1431655765)) &&& 858993459) + (((Int32.toUInt32 (k0 - (((Int32.toUInt32 k0 >>> (Int32.toUInt32 1 &&& Int32.toUInt32 31)).toInt32) &&& 1431655765)) >>> (Int32.toUInt32 2 &&& Int32.toUInt32 31)).toInt32) &&& 858993459)) + ((Int32.toUInt32 (((k0 - (((Int32.toUInt32 k0 >>> (Int32.toUInt32 1 &&& Int32.toUInt32 31)).toInt32) &&& 1431655765)) &&& 858993459) + (((Int32.toUInt32 (k0 - (((Int32.toUInt32 k0 >>> (Int32.toUInt32 1 &&& Int32.toUInt32 31)).toInt32) &&& 1431655765)) >>> (Int32.toUInt32 2 &&& Int32.toUInt32 31)).toInt32) &&& 858993459)) >>> (Int32.toUInt32 4 &&& Int32.toUInt32 31)).toInt32)) &&& 252645135) + ((Int32.toUInt32 (((((k0 - (((Int32.toUInt32 k0 >>> (Int32.toUInt32 1 &&& Int32.toUInt32 31)).toInt32) &&& 1431655765)) &&& 858993459) + (((Int32.toUInt32 (k0 - (((Int32.toUInt32 k0 >>> (Int32.toUInt32 1 &&& Int32.toUInt32 31)).toInt32) &&& 1431655765)) >>> (Int32.toUInt32 2 &&& Int32.toUInt32 31)).toInt32) &&& 858993459)) + ((Int32.toUInt32 (((k0 - (((Int32.toUInt32 k0 >>> (Int32.toUInt32 1 &&& Int32.toUInt32 31)).toInt32) &&& 1431655765)) &&& 858993459) + (((Int32.toUInt32 (k0 - (((Int32.toUInt32 k0 >>> (Int32.toUInt32 1 &&& Int32.toUInt32 31)).toInt32) &&& 1431655765)) >>> (Int32.toUInt32 2 &&& Int32.toUInt32 31)).toInt32) &&& 858993459)) >>> (Int32.toUInt32 4 &&& Int32.toUInt32 31)).toInt32)) &&& 252645135) >>> (Int32.toUInt32 8 &&& Int32.toUInt32 31)).toInt32)) >>> (Int32.toUInt32 16 &&& Int32.toUInt32 31)).toInt32) hx hb d_Integer_bitCount_45 rfl ?_
  refine lv_iadd hx hb d_Integer_bitCount_46 ?_
  refine lv_istore_n (lv' := [(0, .int (((((((k0 - (((Int32.toUInt32 k0 >>> (Int32.toUInt32 1 &&& Int32.toUInt32 31)).toInt32) &&& 1431655765)) &&& 858993459) + (((Int32.toUInt32 (k0 - (((Int32.toUInt32 k0 >>> (Int32.toUInt32 1 &&& Int32.toUInt32 31)).toInt32) &&& 1431655765)) >>> (Int32.toUInt32 2 &&& Int32.toUInt32 31)).toInt32) &&& 858993459)) + ((Int32.toUInt32 (((k0 - (((Int32.toUInt32 k0 >>> (Int32.toUInt32 1 &&& Int32.toUInt32 31)).toInt32) &&& 1431655765)) &&& 858993459) + (((Int32.toUInt32 (k0 - (((Int32.toUInt32 k0 >>> (Int32.toUInt32 1 &&& Int32.toUInt32 31)).toInt32) &&& 1431655765)) >>> (Int32.toUInt32 2 &&& Int32.toUInt32 31)).toInt32) &&& 858993459)) >>> (Int32.toUInt32 4 &&& Int32.toUInt32 31)).toInt32)) &&& 252645135) + ((Int32.toUInt32 (((((k0 - (((Int32.toUInt32 k0 >>> (Int32.toUInt32 1 &&& Int32.toUInt32 31)).toInt32) &&& 1431655765)) &&& 858993459) + (((Int32.toUInt32 (k0 - (((Int32.toUInt32 k0 >>> (Int32.toUInt32 1 &&& Int32.toUInt32 31)).toInt32) &&& 1431655765)) >>> (Int32.toUInt32 2 &&& Int32.toUInt32 31)).toInt32) &&& 858993459)) + ((Int32.toUInt32 (((k0 - (((Int32.toUInt32 k0 >>> (Int32.toUInt32 1 &&& Int32.toUInt32 31)).toInt32) &&& 1431655765)) &&& 858993459) + (((Int32.toUInt32 (k0 - (((Int32.toUInt32 k0 >>> (Int32.toUInt32 1 &&& Int32.toUInt32 31)).toInt32) &&& 1431655765)) >>> (Int32.toUInt32 2 &&& Int32.toUInt32 31)).toInt32) &&& 858993459)) >>> (Int32.toUInt32 4 &&& Int32.toUInt32 31)).toInt32)) &&& 252645135) >>> (Int32.toUInt32 8 &&& Int32.toUInt32 31)).toInt32)) + ((Int32.toUInt32 ((((((k0 - (((Int32.toUInt32 k0 >>> (Int32.toUInt32 1 &&& Int32.toUInt32 31)).toInt32) &&& 1431655765)) &&& 858993459) + (((Int32.toUInt32 (k0 - (((Int32.toUInt32 k0 >>> (Int32.toUInt32 1 &&& Int32.toUInt32 31)).toInt32) &&& 1431655765)) >>> (Int32.toUInt32 2 &&& Int32.toUInt32 31)).toInt32) &&& 858993459)) + ((Int32.toUInt32 (((k0 - (((Int32.toUInt32 k0 >>> (Int32.toUInt32 1 &&& Int32.toUInt32 31)).toInt32) &&& 1431655765)) &&& 858993459) + (((Int32.toUInt32 (k0 - (((Int32.toUInt32 k0 >>> (Int32.toUInt32 1 &&& Int32.toUInt32 31)).toInt32) &&& 1431655765)) >>> (Int32.toUInt32 2 &&& Int32.toUInt32 31)).toInt32) &&& 858993459)) >>> (Int32.toUInt32 4 &&& Int32.toUInt32 31)).toInt32)) &&& 252645135) + ((Int32.toUInt32 (((((k0 - (((Int32.toUInt32 k0 >>> (Int32.toUInt32 1 &&& Int32.toUInt32 31)).toInt32) &&& 1431655765)) &&& 858993459) + (((Int32.toUInt32 (k0 - (((Int32.toUInt32 k0 >>> (Int32.toUInt32 1 &&& Int32.toUInt32 31)).toInt32) &&& 1431655765)) >>> (Int32.toUInt32 2 &&& Int32.toUInt32 31)).toInt32) &&& 858993459)) + ((Int32.toUInt32 (((k0 - (((Int32.toUInt32 k0 >>> (Int32.toUInt32 1 &&& Int32.toUInt32 31)).toInt32) &&& 1431655765)) &&& 858993459) + (((Int32.toUInt32 (k0 - (((Int32.toUInt32 k0 >>> (Int32.toUInt32 1 &&& Int32.toUInt32 31)).toInt32) &&& 1431655765)) >>> (Int32.toUInt32 2 &&& Int32.toUInt32 31)).toInt32) &&& 858993459)) >>> (Int32.toUInt32 4 &&& Int32.toUInt32 31)).toInt32)) &&& 252645135) >>> (Int32.toUInt32 8 &&& Int32.toUInt32 31)).toInt32)) >>> (Int32.toUInt32 16 &&& Int32.toUInt32 31)).toInt32)))]) hx hb d_Integer_bitCount_47 rfl hl (by decide) rfl (fun ls hl => ?_)
  refine lv_iload_n hx hb d_Integer_bitCount_48 rfl (lv_at hl 0 rfl) ?_
  refine lv_bipush (v := 63) hx hb d_Integer_bitCount_49 (by decide) ?_
  refine lv_iand hx hb d_Integer_bitCount_51 ?_
  have e0 : res = (((((((k0 - (((Int32.toUInt32 k0 >>> (Int32.toUInt32 1 &&& Int32.toUInt32 31)).toInt32) &&& 1431655765)) &&& 858993459) + (((Int32.toUInt32 (k0 - (((Int32.toUInt32 k0 >>> (Int32.toUInt32 1 &&& Int32.toUInt32 31)).toInt32) &&& 1431655765)) >>> (Int32.toUInt32 2 &&& Int32.toUInt32 31)).toInt32) &&& 858993459)) + ((Int32.toUInt32 (((k0 - (((Int32.toUInt32 k0 >>> (Int32.toUInt32 1 &&& Int32.toUInt32 31)).toInt32) &&& 1431655765)) &&& 858993459) + (((Int32.toUInt32 (k0 - (((Int32.toUInt32 k0 >>> (Int32.toUInt32 1 &&& Int32.toUInt32 31)).toInt32) &&& 1431655765)) >>> (Int32.toUInt32 2 &&& Int32.toUInt32 31)).toInt32) &&& 858993459)) >>> (Int32.toUInt32 4 &&& Int32.toUInt32 31)).toInt32)) &&& 252645135) + ((Int32.toUInt32 (((((k0 - (((Int32.toUInt32 k0 >>> (Int32.toUInt32 1 &&& Int32.toUInt32 31)).toInt32) &&& 1431655765)) &&& 858993459) + (((Int32.toUInt32 (k0 - (((Int32.toUInt32 k0 >>> (Int32.toUInt32 1 &&& Int32.toUInt32 31)).toInt32) &&& 1431655765)) >>> (Int32.toUInt32 2 &&& Int32.toUInt32 31)).toInt32) &&& 858993459)) + ((Int32.toUInt32 (((k0 - (((Int32.toUInt32 k0 >>> (Int32.toUInt32 1 &&& Int32.toUInt32 31)).toInt32) &&& 1431655765)) &&& 858993459) + (((Int32.toUInt32 (k0 - (((Int32.toUInt32 k0 >>> (Int32.toUInt32 1 &&& Int32.toUInt32 31)).toInt32) &&& 1431655765)) >>> (Int32.toUInt32 2 &&& Int32.toUInt32 31)).toInt32) &&& 858993459)) >>> (Int32.toUInt32 4 &&& Int32.toUInt32 31)).toInt32)) &&& 252645135) >>> (Int32.toUInt32 8 &&& Int32.toUInt32 31)).toInt32)) + ((Int32.toUInt32 ((((((k0 - (((Int32.toUInt32 k0 >>> (Int32.toUInt32 1 &&& Int32.toUInt32 31)).toInt32) &&& 1431655765)) &&& 858993459) + (((Int32.toUInt32 (k0 - (((Int32.toUInt32 k0 >>> (Int32.toUInt32 1 &&& Int32.toUInt32 31)).toInt32) &&& 1431655765)) >>> (Int32.toUInt32 2 &&& Int32.toUInt32 31)).toInt32) &&& 858993459)) + ((Int32.toUInt32 (((k0 - (((Int32.toUInt32 k0 >>> (Int32.toUInt32 1 &&& Int32.toUInt32 31)).toInt32) &&& 1431655765)) &&& 858993459) + (((Int32.toUInt32 (k0 - (((Int32.toUInt32 k0 >>> (Int32.toUInt32 1 &&& Int32.toUInt32 31)).toInt32) &&& 1431655765)) >>> (Int32.toUInt32 2 &&& Int32.toUInt32 31)).toInt32) &&& 858993459)) >>> (Int32.toUInt32 4 &&& Int32.toUInt32 31)).toInt32)) &&& 252645135) + ((Int32.toUInt32 (((((k0 - (((Int32.toUInt32 k0 >>> (Int32.toUInt32 1 &&& Int32.toUInt32 31)).toInt32) &&& 1431655765)) &&& 858993459) + (((Int32.toUInt32 (k0 - (((Int32.toUInt32 k0 >>> (Int32.toUInt32 1 &&& Int32.toUInt32 31)).toInt32) &&& 1431655765)) >>> (Int32.toUInt32 2 &&& Int32.toUInt32 31)).toInt32) &&& 858993459)) + ((Int32.toUInt32 (((k0 - (((Int32.toUInt32 k0 >>> (Int32.toUInt32 1 &&& Int32.toUInt32 31)).toInt32) &&& 1431655765)) &&& 858993459) + (((Int32.toUInt32 (k0 - (((Int32.toUInt32 k0 >>> (Int32.toUInt32 1 &&& Int32.toUInt32 31)).toInt32) &&& 1431655765)) >>> (Int32.toUInt32 2 &&& Int32.toUInt32 31)).toInt32) &&& 858993459)) >>> (Int32.toUInt32 4 &&& Int32.toUInt32 31)).toInt32)) &&& 252645135) >>> (Int32.toUInt32 8 &&& Int32.toUInt32 31)).toInt32)) >>> (Int32.toUInt32 16 &&& Int32.toUInt32 31)).toInt32)) &&& 63 := hd
  subst e0
  exact ct_iretR hx hb hr hlocks d_Integer_bitCount_52
-- ImageWriter.writeName
abbrev b_ImageWriter_writeName : ByteArray := prog_5_method_3_code
def y_ImageWriter_writeName : MethodName := ⟨"HelpFile$ImageWriter", "writeName", "(JLHelpFile$Row;)V"⟩
theorem k195_methodLink : Cond.methodLink "HelpFile$ImageWriter" 69 ⟨"HelpFile$Letters", "letter", "(JI)I"⟩ ∈ ga := ga_t 460 (by decide +kernel) rfl
theorem k196_static : Cond.static ⟨"HelpFile$Letters", "letter", "(JI)I"⟩ ∈ ga := ga_t 461 (by decide +kernel) rfl
theorem k197_methodLink : Cond.methodLink "HelpFile$ImageWriter" 15 ⟨"HelpFile$Row", "append", "(I)V"⟩ ∈ ga := ga_t 451 (by decide +kernel) rfl
theorem k198_initialized : Cond.initialized "HelpFile$ImageWriter" ∈ ga := ga_t 17 (by decide +kernel) rfl
set_option maxRecDepth 100000 in
theorem fm_ImageWriter_writeName : Fm y_ImageWriter_writeName b_ImageWriter_writeName 4 none 2 := ⟨ga_t 459 rfl rfl, k198_initialized, by decide, by decide, by decide +kernel⟩
def B_ImageWriter_writeName_2 (otn : Nat) (otE' : Nat → Int32) (otC' : Int32) (otO' : Bool) (X : Int64 → Int32 → (Nat → Int32) → Int32 → Bool → Prop) (y0 : Int64) (x3 : Int32) (otE : Nat → Int32) (otC : Int32) (otO : Bool) : Prop := ((6 ≤ x3 → (otE' = otE ∧ otC' = otC ∧ otO' = otO)) ∧ (¬ (6 ≤ x3) → (∃ r11 : Int32, D_Letters_letter y0 x3 r11 ∧ (∃ otE_14 : Nat → Int32, ∃ otC_14 : Int32, ∃ otO_14 : Bool, D_Row_append otn r11 otE otC otO otE_14 otC_14 otO_14 ∧ X y0 (x3 + 1) otE_14 otC_14 otO_14))))
def S_ImageWriter_writeName (otn : Nat) (otE' : Nat → Int32) (otC' : Int32) (otO' : Bool) (X : Int64 → Int32 → (Nat → Int32) → Int32 → Bool → Prop) : Int64 → Int32 → (Nat → Int32) → Int32 → Bool → Prop := fun y0 x3 otE otC otO => B_ImageWriter_writeName_2 otn otE' otC' otO' X y0 x3 otE otC otO
def T_ImageWriter_writeName (otn : Nat) (otE' : Nat → Int32) (otC' : Int32) (otO' : Bool) : Nat → (Int64 → Int32 → (Nat → Int32) → Int32 → Bool → Prop)
  | 0 => fun _ _ _ _ _ => False
  | n + 1 => S_ImageWriter_writeName otn otE' otC' otO' (T_ImageWriter_writeName otn otE' otC' otO' n)
def D_ImageWriter_writeName (otn : Nat) (w0 : Int64) (otE : Nat → Int32) (otC : Int32) (otO : Bool) (otE' : Nat → Int32) (otC' : Int32) (otO' : Bool) : Prop := ∃ n : Nat, T_ImageWriter_writeName otn otE' otC' otO' n w0 0 otE otC otO
theorem d_ImageWriter_writeName_0 : decode b_ImageWriter_writeName 0 = .ok (.iconst 0, 1) := by decide +kernel
theorem d_ImageWriter_writeName_1 : decode b_ImageWriter_writeName 1 = .ok (.istore_n 3, 1) := by decide +kernel
theorem d_ImageWriter_writeName_2 : decode b_ImageWriter_writeName 2 = .ok (.iload_n 3, 1) := by decide +kernel
theorem d_ImageWriter_writeName_3 : decode b_ImageWriter_writeName 3 = .ok (.bipush 6, 2) := by decide +kernel
theorem d_ImageWriter_writeName_5 : decode b_ImageWriter_writeName 5 = .ok (.if_icmp .ge 18, 3) := by decide +kernel
theorem d_ImageWriter_writeName_8 : decode b_ImageWriter_writeName 8 = .ok (.aload_n 2, 1) := by decide +kernel
theorem d_ImageWriter_writeName_9 : decode b_ImageWriter_writeName 9 = .ok (.lload_n 0, 1) := by decide +kernel
theorem d_ImageWriter_writeName_10 : decode b_ImageWriter_writeName 10 = .ok (.iload_n 3, 1) := by decide +kernel
theorem d_ImageWriter_writeName_11 : decode b_ImageWriter_writeName 11 = .ok (.invokestatic 69, 3) := by decide +kernel
theorem d_ImageWriter_writeName_14 : decode b_ImageWriter_writeName 14 = .ok (.invokevirtual 15, 3) := by decide +kernel
theorem d_ImageWriter_writeName_17 : decode b_ImageWriter_writeName 17 = .ok (.iinc 3 1, 3) := by decide +kernel
theorem d_ImageWriter_writeName_20 : decode b_ImageWriter_writeName 20 = .ok (.goto (-18), 3) := by decide +kernel
theorem d_ImageWriter_writeName_23 : decode b_ImageWriter_writeName 23 = .ok (.return_, 1) := by decide +kernel
set_option maxHeartbeats 4000000 in
set_option maxRecDepth 100000 in
theorem c_ImageWriter_writeName (l : Launch) (dC : Nat → ClassId) (dI : Nat → Nat → Nat) (cI cL cZ : ClassId) (ot : Nat) (otEa : Nat) (otn : Nat) (otE : Nat → Int32) (otC : Int32) (otO : Bool) (w0 : Int64) (otE' : Nat → Int32) (otC' : Int32) (otO' : Bool) (hd : D_ImageWriter_writeName otn w0 otE otC otO otE' otC' otO') : Ctr l y_ImageWriter_writeName (Cond.code y_ImageWriter_writeName b_ImageWriter_writeName 4 none :: ga) { frames := 1, cells := 0, slots := 0, locals := 23 } (dC, dI) classes (Tys cI cL cZ) [.long w0, .ref ot] ((sh_Row cI cL cZ ot otEa otn otE otC otO)) none ((sh_Row cI cL cZ ot otEa otn otE' otC' otO')) := by
  refine Ctr.ofW (by decide) (Nat.le_of_ble_eq_true rfl) ?_
  intro p e s m below meth c A ls hx hb hr hml hown hlocks hts hK hN hA hP hD hS hl
  have hown : s.vm.findClass R_ImageWriter = some m.cls := hown
  have hl : lv_has ls 4 [(0, .long w0), (2, .ref ot)] := hl
  have key : ∀ n : Nat, (∀ (y0 : Int64) (x3 : Int32) (otE : Nat → Int32) (otC : Int32) (otO : Bool) (ls : Array Slot) (H : Heap) (locs : List Loc), lv_has ls 4 [(0, .long y0), (2, .ref ot), (3, .int x3)] → va_P (dC, dI) classes ((sh_Row cI cL cZ ot otEa otn otE otC otO)) H → va_D A ((sh_Row cI cL cZ ot otEa otn otE otC otO)) → va_S A s.heap H locs → T_ImageWriter_writeName otn otE' otC' otO' n y0 x3 otE otC otO → W p l e ({ frames := 1, cells := 0, slots := 0, locals := 23 }) s m ([.long w0, .ref ot] : List Value).toArray below meth c H locs 0 0 (MQ below (Qs (dC, dI) classes (Tys cI cL cZ) none ((sh_Row cI cL cZ ot otEa otn otE' otC' otO')) A) ([.long w0, .ref ot] : List Value).toArray s 0 0 A) (F0 m 2 ls [])) := by
    intro n
    induction n with
    | zero =>
      exact fun _ _ _ _ _ _ _ _ _ _ _ _ hd => False.elim hd
    | succ n ih =>
      · intro y0 x3 otE otC otO ls H locs hl hP hD hS hd
        have hd : B_ImageWriter_writeName_2 otn otE' otC' otO' (T_ImageWriter_writeName otn otE' otC' otO' n) y0 x3 otE otC otO := hd
        refine lv_iload_n hx hb d_ImageWriter_writeName_2 rfl (lv_at hl 2 rfl) ?_
        refine lv_bipush (v := 6) hx hb d_ImageWriter_writeName_3 (by decide) ?_
        refine lv_icmp_ge (tgt := 23) hx hb d_ImageWriter_writeName_5 (by decide) (fun h5 => ?_) (fun h5 => ?_)
        · have hd := hd.1 h5
          obtain ⟨e0, e1, e2⟩ := hd
          subst e0
          subst e1
          subst e2
          exact ct_vret hx hb hr hlocks hK hP hD hS d_ImageWriter_writeName_23
        · have hd := hd.2 h5
          refine lv_aload_n hx hb d_ImageWriter_writeName_8 rfl (lv_at hl 1 rfl) ?_
          refine lv_lload_n hx hb d_ImageWriter_writeName_9 rfl (lv_at hl 0 rfl) ?_
          refine lv_iload_n hx hb d_ImageWriter_writeName_10 rfl (lv_at hl 2 rfl) ?_
          obtain ⟨r11, c11, hd⟩ := hd
          refine ct_SR (As := [.long y0, .int x3]) (rest := [.ref ot]) ⟨hx, hb, hml, hown, hts⟩ fm_Letters_letter (c_Letters_letter l dC dI cI cL cZ y0 x3 r11 c11) k195_methodLink k196_static ⟨Nat.le_of_ble_eq_true rfl, Nat.le_of_ble_eq_true rfl⟩ rfl rfl hK hN hP hD [] rfl rfl (by decide) rfl hl.1 rfl (Nat.le_of_ble_eq_true rfl) d_ImageWriter_writeName_11 ?_
          obtain ⟨otE_14, otC_14, otO_14, c14, hd⟩ := hd
          refine ct_V (As := [.int r11]) (rest := []) (C := R_Row) (ci := 1) (q := (R_Row, F_Row, 3)) ⟨hx, hb, hml, hown, hts⟩ fm_Row_append (c_Row_append l dC dI cI cL cZ ot otEa otn otE otC otO r11 otE_14 otC_14 otO_14 c14) k197_methodLink k8_instanceMethod k9_selects ⟨Nat.le_of_ble_eq_true rfl, Nat.le_of_ble_eq_true rfl⟩ rfl rfl hK hN hP hD hS hA [0, 1] [] rfl rfl rfl (by decide) (by decide) (by decide) 0 rfl rfl rfl rfl hl.1 rfl (Nat.le_of_ble_eq_true rfl) d_ImageWriter_writeName_14 (fun H locs hP hD hS => ?_)
          have hP : va_P (dC, dI) classes ((sh_Row cI cL cZ ot otEa otn otE_14 otC_14 otO_14)) H := hP.sub [0, 1] rfl
          have hD : va_D A ((sh_Row cI cL cZ ot otEa otn otE_14 otC_14 otO_14)) := hD.sub [0, 1] (by decide) rfl
          refine lv_iinc (k := 2) (v := x3 + 1) (lv' := [(3, .int (x3 + 1)), (0, .long y0), (2, .ref ot)]) hx hb d_ImageWriter_writeName_17 hl rfl (congrArg (fun z => x3 + z) (by decide)) (by decide) rfl (fun ls hl => ?_)
          refine lv_goto (tgt := 2) hx hb d_ImageWriter_writeName_20 (by decide) ?_
          exact ih y0 (x3 + 1) otE_14 otC_14 otO_14 _ _ _ (lv_sub hl [1, 2, 0] rfl) hP hD hS hd
  obtain ⟨n, hd⟩ := hd
  refine lv_iconst (v := 0) hx hb d_ImageWriter_writeName_0 (by decide) ?_
  refine lv_istore_n (lv' := [(3, .int 0), (0, .long w0), (2, .ref ot)]) hx hb d_ImageWriter_writeName_1 rfl hl (by decide) rfl (fun ls hl => ?_)
  exact (key n) w0 0 otE otC otO _ _ _ (lv_sub hl [1, 2, 0] rfl) hP hD hS hd
-- ImageWriter.writeWord
abbrev b_ImageWriter_writeWord : ByteArray := prog_5_method_4_code
def y_ImageWriter_writeWord : MethodName := ⟨"HelpFile$ImageWriter", "writeWord", "(JLHelpFile$Row;)V"⟩
theorem k199_methodLink : Cond.methodLink "HelpFile$ImageWriter" 75 ⟨"HelpFile$Letters", "length", "(J)I"⟩ ∈ ga := ga_t 525 (by decide +kernel) rfl
theorem k200_static : Cond.static ⟨"HelpFile$Letters", "length", "(J)I"⟩ ∈ ga := ga_t 526 (by decide +kernel) rfl
set_option maxRecDepth 100000 in
theorem fm_ImageWriter_writeWord : Fm y_ImageWriter_writeWord b_ImageWriter_writeWord 5 none 2 := ⟨ga_t 524 rfl rfl, k198_initialized, by decide, by decide, by decide +kernel⟩
def B_ImageWriter_writeWord_13 (otn : Nat) (otE' : Nat → Int32) (otC' : Int32) (otO' : Bool) (X : Int64 → Int32 → Int32 → (Nat → Int32) → Int32 → Bool → Prop) (y0 : Int64) (x3 : Int32) (x4 : Int32) (otE : Nat → Int32) (otC : Int32) (otO : Bool) : Prop := ((x3 ≤ x4 → (otE' = otE ∧ otC' = otC ∧ otO' = otO)) ∧ (¬ (x3 ≤ x4) → (∃ r23 : Int32, D_Letters_letter y0 x4 r23 ∧ (∃ otE_26 : Nat → Int32, ∃ otC_26 : Int32, ∃ otO_26 : Bool, D_Row_append otn r23 otE otC otO otE_26 otC_26 otO_26 ∧ X y0 x3 (x4 + 1) otE_26 otC_26 otO_26))))
def S_ImageWriter_writeWord (otn : Nat) (otE' : Nat → Int32) (otC' : Int32) (otO' : Bool) (X : Int64 → Int32 → Int32 → (Nat → Int32) → Int32 → Bool → Prop) : Int64 → Int32 → Int32 → (Nat → Int32) → Int32 → Bool → Prop := fun y0 x3 x4 otE otC otO => B_ImageWriter_writeWord_13 otn otE' otC' otO' X y0 x3 x4 otE otC otO
def T_ImageWriter_writeWord (otn : Nat) (otE' : Nat → Int32) (otC' : Int32) (otO' : Bool) : Nat → (Int64 → Int32 → Int32 → (Nat → Int32) → Int32 → Bool → Prop)
  | 0 => fun _ _ _ _ _ _ => False
  | n + 1 => S_ImageWriter_writeWord otn otE' otC' otO' (T_ImageWriter_writeWord otn otE' otC' otO' n)
def D_ImageWriter_writeWord (otn : Nat) (w0 : Int64) (otE : Nat → Int32) (otC : Int32) (otO : Bool) (otE' : Nat → Int32) (otC' : Int32) (otO' : Bool) : Prop := ∃ n : Nat, (∃ r1 : Int32, D_Letters_length w0 r1 ∧ (∃ otE_7 : Nat → Int32, ∃ otC_7 : Int32, ∃ otO_7 : Bool, D_Row_append otn r1 otE otC otO otE_7 otC_7 otO_7 ∧ T_ImageWriter_writeWord otn otE' otC' otO' n w0 r1 0 otE_7 otC_7 otO_7))
theorem d_ImageWriter_writeWord_0 : decode b_ImageWriter_writeWord 0 = .ok (.lload_n 0, 1) := by decide +kernel
theorem d_ImageWriter_writeWord_1 : decode b_ImageWriter_writeWord 1 = .ok (.invokestatic 75, 3) := by decide +kernel
theorem d_ImageWriter_writeWord_4 : decode b_ImageWriter_writeWord 4 = .ok (.istore_n 3, 1) := by decide +kernel
theorem d_ImageWriter_writeWord_5 : decode b_ImageWriter_writeWord 5 = .ok (.aload_n 2, 1) := by decide +kernel
theorem d_ImageWriter_writeWord_6 : decode b_ImageWriter_writeWord 6 = .ok (.iload_n 3, 1) := by decide +kernel
theorem d_ImageWriter_writeWord_7 : decode b_ImageWriter_writeWord 7 = .ok (.invokevirtual 15, 3) := by decide +kernel
theorem d_ImageWriter_writeWord_10 : decode b_ImageWriter_writeWord 10 = .ok (.iconst 0, 1) := by decide +kernel
theorem d_ImageWriter_writeWord_11 : decode b_ImageWriter_writeWord 11 = .ok (.istore 4, 2) := by decide +kernel
theorem d_ImageWriter_writeWord_13 : decode b_ImageWriter_writeWord 13 = .ok (.iload 4, 2) := by decide +kernel
theorem d_ImageWriter_writeWord_15 : decode b_ImageWriter_writeWord 15 = .ok (.iload_n 3, 1) := by decide +kernel
theorem d_ImageWriter_writeWord_16 : decode b_ImageWriter_writeWord 16 = .ok (.if_icmp .ge 19, 3) := by decide +kernel
theorem d_ImageWriter_writeWord_19 : decode b_ImageWriter_writeWord 19 = .ok (.aload_n 2, 1) := by decide +kernel
theorem d_ImageWriter_writeWord_20 : decode b_ImageWriter_writeWord 20 = .ok (.lload_n 0, 1) := by decide +kernel
theorem d_ImageWriter_writeWord_21 : decode b_ImageWriter_writeWord 21 = .ok (.iload 4, 2) := by decide +kernel
theorem d_ImageWriter_writeWord_23 : decode b_ImageWriter_writeWord 23 = .ok (.invokestatic 69, 3) := by decide +kernel
theorem d_ImageWriter_writeWord_26 : decode b_ImageWriter_writeWord 26 = .ok (.invokevirtual 15, 3) := by decide +kernel
theorem d_ImageWriter_writeWord_29 : decode b_ImageWriter_writeWord 29 = .ok (.iinc 4 1, 3) := by decide +kernel
theorem d_ImageWriter_writeWord_32 : decode b_ImageWriter_writeWord 32 = .ok (.goto (-19), 3) := by decide +kernel
theorem d_ImageWriter_writeWord_35 : decode b_ImageWriter_writeWord 35 = .ok (.return_, 1) := by decide +kernel
set_option maxHeartbeats 4000000 in
set_option maxRecDepth 100000 in
theorem c_ImageWriter_writeWord (l : Launch) (dC : Nat → ClassId) (dI : Nat → Nat → Nat) (cI cL cZ : ClassId) (ot : Nat) (otEa : Nat) (otn : Nat) (otE : Nat → Int32) (otC : Int32) (otO : Bool) (w0 : Int64) (otE' : Nat → Int32) (otC' : Int32) (otO' : Bool) (hd : D_ImageWriter_writeWord otn w0 otE otC otO otE' otC' otO') : Ctr l y_ImageWriter_writeWord (Cond.code y_ImageWriter_writeWord b_ImageWriter_writeWord 5 none :: ga) { frames := 1, cells := 0, slots := 0, locals := 23 } (dC, dI) classes (Tys cI cL cZ) [.long w0, .ref ot] ((sh_Row cI cL cZ ot otEa otn otE otC otO)) none ((sh_Row cI cL cZ ot otEa otn otE' otC' otO')) := by
  refine Ctr.ofW (by decide) (Nat.le_of_ble_eq_true rfl) ?_
  intro p e s m below meth c A ls hx hb hr hml hown hlocks hts hK hN hA hP hD hS hl
  have hown : s.vm.findClass R_ImageWriter = some m.cls := hown
  have hl : lv_has ls 5 [(0, .long w0), (2, .ref ot)] := hl
  have key : ∀ n : Nat, (∀ (y0 : Int64) (x3 : Int32) (x4 : Int32) (otE : Nat → Int32) (otC : Int32) (otO : Bool) (ls : Array Slot) (H : Heap) (locs : List Loc), lv_has ls 5 [(0, .long y0), (2, .ref ot), (3, .int x3), (4, .int x4)] → va_P (dC, dI) classes ((sh_Row cI cL cZ ot otEa otn otE otC otO)) H → va_D A ((sh_Row cI cL cZ ot otEa otn otE otC otO)) → va_S A s.heap H locs → T_ImageWriter_writeWord otn otE' otC' otO' n y0 x3 x4 otE otC otO → W p l e ({ frames := 1, cells := 0, slots := 0, locals := 23 }) s m ([.long w0, .ref ot] : List Value).toArray below meth c H locs 0 0 (MQ below (Qs (dC, dI) classes (Tys cI cL cZ) none ((sh_Row cI cL cZ ot otEa otn otE' otC' otO')) A) ([.long w0, .ref ot] : List Value).toArray s 0 0 A) (F0 m 13 ls [])) := by
    intro n
    induction n with
    | zero =>
      exact fun _ _ _ _ _ _ _ _ _ _ _ _ _ hd => False.elim hd
    | succ n ih =>
      · intro y0 x3 x4 otE otC otO ls H locs hl hP hD hS hd
        have hd : B_ImageWriter_writeWord_13 otn otE' otC' otO' (T_ImageWriter_writeWord otn otE' otC' otO' n) y0 x3 x4 otE otC otO := hd
        refine lv_iload hx hb d_ImageWriter_writeWord_13 (lv_at hl 3 rfl) ?_
        refine lv_iload_n hx hb d_ImageWriter_writeWord_15 rfl (lv_at hl 2 rfl) ?_
        refine lv_icmp_ge (tgt := 35) hx hb d_ImageWriter_writeWord_16 (by decide) (fun h16 => ?_) (fun h16 => ?_)
        · have hd := hd.1 h16
          obtain ⟨e0, e1, e2⟩ := hd
          subst e0
          subst e1
          subst e2
          exact ct_vret hx hb hr hlocks hK hP hD hS d_ImageWriter_writeWord_35
        · have hd := hd.2 h16
          refine lv_aload_n hx hb d_ImageWriter_writeWord_19 rfl (lv_at hl 1 rfl) ?_
          refine lv_lload_n hx hb d_ImageWriter_writeWord_20 rfl (lv_at hl 0 rfl) ?_
          refine lv_iload hx hb d_ImageWriter_writeWord_21 (lv_at hl 3 rfl) ?_
          obtain ⟨r23, c23, hd⟩ := hd
          refine ct_SR (As := [.long y0, .int x4]) (rest := [.ref ot]) ⟨hx, hb, hml, hown, hts⟩ fm_Letters_letter (c_Letters_letter l dC dI cI cL cZ y0 x4 r23 c23) k195_methodLink k196_static ⟨Nat.le_of_ble_eq_true rfl, Nat.le_of_ble_eq_true rfl⟩ rfl rfl hK hN hP hD [] rfl rfl (by decide) rfl hl.1 rfl (Nat.le_of_ble_eq_true rfl) d_ImageWriter_writeWord_23 ?_
          obtain ⟨otE_26, otC_26, otO_26, c26, hd⟩ := hd
          refine ct_V (As := [.int r23]) (rest := []) (C := R_Row) (ci := 1) (q := (R_Row, F_Row, 3)) ⟨hx, hb, hml, hown, hts⟩ fm_Row_append (c_Row_append l dC dI cI cL cZ ot otEa otn otE otC otO r23 otE_26 otC_26 otO_26 c26) k197_methodLink k8_instanceMethod k9_selects ⟨Nat.le_of_ble_eq_true rfl, Nat.le_of_ble_eq_true rfl⟩ rfl rfl hK hN hP hD hS hA [0, 1] [] rfl rfl rfl (by decide) (by decide) (by decide) 0 rfl rfl rfl rfl hl.1 rfl (Nat.le_of_ble_eq_true rfl) d_ImageWriter_writeWord_26 (fun H locs hP hD hS => ?_)
          have hP : va_P (dC, dI) classes ((sh_Row cI cL cZ ot otEa otn otE_26 otC_26 otO_26)) H := hP.sub [0, 1] rfl
          have hD : va_D A ((sh_Row cI cL cZ ot otEa otn otE_26 otC_26 otO_26)) := hD.sub [0, 1] (by decide) rfl
          refine lv_iinc (k := 3) (v := x4 + 1) (lv' := [(4, .int (x4 + 1)), (0, .long y0), (2, .ref ot), (3, .int x3)]) hx hb d_ImageWriter_writeWord_29 hl rfl (congrArg (fun z => x4 + z) (by decide)) (by decide) rfl (fun ls hl => ?_)
          refine lv_goto (tgt := 13) hx hb d_ImageWriter_writeWord_32 (by decide) ?_
          exact ih y0 x3 (x4 + 1) otE_26 otC_26 otO_26 _ _ _ (lv_sub hl [1, 2, 3, 0] rfl) hP hD hS hd
  obtain ⟨n, hd⟩ := hd
  refine lv_lload_n hx hb d_ImageWriter_writeWord_0 rfl (lv_at hl 0 rfl) ?_
  obtain ⟨r1, c1, hd⟩ := hd
  refine ct_SR (As := [.long w0]) (rest := []) ⟨hx, hb, hml, hown, hts⟩ fm_Letters_length (c_Letters_length l dC dI cI cL cZ w0 r1 c1) k199_methodLink k200_static ⟨Nat.le_of_ble_eq_true rfl, Nat.le_of_ble_eq_true rfl⟩ rfl rfl hK hN hP hD [] rfl rfl (by decide) rfl hl.1 rfl (Nat.le_of_ble_eq_true rfl) d_ImageWriter_writeWord_1 ?_
  refine lv_istore_n (lv' := [(3, .int r1), (0, .long w0), (2, .ref ot)]) hx hb d_ImageWriter_writeWord_4 rfl hl (by decide) rfl (fun ls hl => ?_)
  refine lv_aload_n hx hb d_ImageWriter_writeWord_5 rfl (lv_at hl 2 rfl) ?_
  refine lv_iload_n hx hb d_ImageWriter_writeWord_6 rfl (lv_at hl 0 rfl) ?_
  obtain ⟨otE_7, otC_7, otO_7, c7, hd⟩ := hd
  refine ct_V (As := [.int r1]) (rest := []) (C := R_Row) (ci := 1) (q := (R_Row, F_Row, 3)) ⟨hx, hb, hml, hown, hts⟩ fm_Row_append (c_Row_append l dC dI cI cL cZ ot otEa otn otE otC otO r1 otE_7 otC_7 otO_7 c7) k197_methodLink k8_instanceMethod k9_selects ⟨Nat.le_of_ble_eq_true rfl, Nat.le_of_ble_eq_true rfl⟩ rfl rfl hK hN hP hD hS hA [0, 1] [] rfl rfl rfl (by decide) (by decide) (by decide) 0 rfl rfl rfl rfl hl.1 rfl (Nat.le_of_ble_eq_true rfl) d_ImageWriter_writeWord_7 (fun H locs hP hD hS => ?_)
  have hP : va_P (dC, dI) classes ((sh_Row cI cL cZ ot otEa otn otE_7 otC_7 otO_7)) H := hP.sub [0, 1] rfl
  have hD : va_D A ((sh_Row cI cL cZ ot otEa otn otE_7 otC_7 otO_7)) := hD.sub [0, 1] (by decide) rfl
  refine lv_iconst (v := 0) hx hb d_ImageWriter_writeWord_10 (by decide) ?_
  refine lv_istore (lv' := [(4, .int 0), (3, .int r1), (0, .long w0), (2, .ref ot)]) hx hb d_ImageWriter_writeWord_11 hl (by decide) rfl (fun ls hl => ?_)
  exact (key n) w0 r1 0 otE_7 otC_7 otO_7 _ _ _ (lv_sub hl [2, 3, 1, 0] rfl) hP hD hS hd
-- ImageWriter.appendPlain
abbrev b_ImageWriter_appendPlain : ByteArray := prog_5_method_6_code
def y_ImageWriter_appendPlain : MethodName := ⟨"HelpFile$ImageWriter", "appendPlain", "(IILHelpFile$Row;)I"⟩
theorem k201_methodLink : Cond.methodLink "HelpFile$ImageWriter" 93 ⟨"HelpFile$Row", "element", "(I)I"⟩ ∈ ga := ga_t 482 (by decide +kernel) rfl
theorem k202_methodLink : Cond.methodLink "HelpFile$ImageWriter" 103 ⟨"HelpFile$Row", "replace", "(II)V"⟩ ∈ ga := ga_t 486 (by decide +kernel) rfl
theorem k203_methodLink : Cond.methodLink "HelpFile$ImageWriter" 41 ⟨"HelpFile$Row", "count", "()I"⟩ ∈ ga := ga_t 469 (by decide +kernel) rfl
set_option maxRecDepth 100000 in
theorem fm_ImageWriter_appendPlain : Fm y_ImageWriter_appendPlain b_ImageWriter_appendPlain 4 (some .int) 3 := ⟨ga_t 485 rfl rfl, k198_initialized, by decide, by decide, by decide +kernel⟩
def B_ImageWriter_appendPlain_17 (otn : Nat) (res : Int32) (otE' : Nat → Int32) (otC' : Int32) (otO' : Bool) (X : Nat → Int32 → Int32 → (Nat → Int32) → Int32 → Bool → Prop) (x0 : Int32) (otE : Nat → Int32) (otC : Int32) (otO : Bool) : Prop := (∃ otE_24 : Nat → Int32, ∃ otC_24 : Int32, ∃ otO_24 : Bool, D_Row_append otn 0 otE otC otO otE_24 otC_24 otO_24 ∧ X 1 x0 otC otE_24 otC_24 otO_24)
def B_ImageWriter_appendPlain_42 (otn : Nat) (res : Int32) (otE' : Nat → Int32) (otC' : Int32) (otO' : Bool) (X : Nat → Int32 → Int32 → (Nat → Int32) → Int32 → Bool → Prop) (x0 : Int32) (x3 : Int32) (otE : Nat → Int32) (otC : Int32) (otO : Bool) : Prop := (∃ otE_44 : Nat → Int32, ∃ otC_44 : Int32, ∃ otO_44 : Bool, D_Row_append otn x0 otE otC otO otE_44 otC_44 otO_44 ∧ (res = x3 ∧ otE' = otE_44 ∧ otC' = otC_44 ∧ otO' = otO_44))
def S_ImageWriter_appendPlain (otn : Nat) (res : Int32) (otE' : Nat → Int32) (otC' : Int32) (otO' : Bool) (X : Nat → Int32 → Int32 → (Nat → Int32) → Int32 → Bool → Prop) : Nat → Int32 → Int32 → (Nat → Int32) → Int32 → Bool → Prop := fun q_lab x0 x3 otE otC otO => match q_lab with | 0 => B_ImageWriter_appendPlain_17 otn res otE' otC' otO' X x0 otE otC otO | 1 => B_ImageWriter_appendPlain_42 otn res otE' otC' otO' X x0 x3 otE otC otO | _ => False
def T_ImageWriter_appendPlain (otn : Nat) (res : Int32) (otE' : Nat → Int32) (otC' : Int32) (otO' : Bool) : Nat → (Nat → Int32 → Int32 → (Nat → Int32) → Int32 → Bool → Prop)
  | 0 => fun _ _ _ _ _ _ => False
  | n + 1 => S_ImageWriter_appendPlain otn res otE' otC' otO' (T_ImageWriter_appendPlain otn res otE' otC' otO' n)
def D_ImageWriter_appendPlain (otn : Nat) (k0 : Int32) (k1 : Int32) (otE : Nat → Int32) (otC : Int32) (otO : Bool) (res : Int32) (otE' : Nat → Int32) (otC' : Int32) (otO' : Bool) : Prop := ∃ n : Nat, ((k1 = (-1) → T_ImageWriter_appendPlain otn res otE' otC' otO' n 0 k0 0 otE otC otO) ∧ (¬ (k1 = (-1)) → (∃ r9 : Int32, D_Row_element otn k1 otE otC r9 ∧ ((r9 = 127 → T_ImageWriter_appendPlain otn res otE' otC' otO' n 0 k0 0 otE otC otO) ∧ (¬ (r9 = 127) → (∃ r34 : Int32, D_Row_element otn k1 otE otC r34 ∧ (∃ otE_39 : Nat → Int32, D_Row_replace otn k1 (r34 + 1) otE otC otE_39 ∧ T_ImageWriter_appendPlain otn res otE' otC' otO' n 1 k0 k1 otE_39 otC otO)))))))
theorem d_ImageWriter_appendPlain_0 : decode b_ImageWriter_appendPlain 0 = .ok (.iload_n 1, 1) := by decide +kernel
theorem d_ImageWriter_appendPlain_1 : decode b_ImageWriter_appendPlain 1 = .ok (.istore_n 3, 1) := by decide +kernel
theorem d_ImageWriter_appendPlain_2 : decode b_ImageWriter_appendPlain 2 = .ok (.iload_n 3, 1) := by decide +kernel
theorem d_ImageWriter_appendPlain_3 : decode b_ImageWriter_appendPlain 3 = .ok (.iconst (-1), 1) := by decide +kernel
theorem d_ImageWriter_appendPlain_4 : decode b_ImageWriter_appendPlain 4 = .ok (.if_icmp .eq 13, 3) := by decide +kernel
theorem d_ImageWriter_appendPlain_7 : decode b_ImageWriter_appendPlain 7 = .ok (.aload_n 2, 1) := by decide +kernel
theorem d_ImageWriter_appendPlain_8 : decode b_ImageWriter_appendPlain 8 = .ok (.iload_n 3, 1) := by decide +kernel
theorem d_ImageWriter_appendPlain_9 : decode b_ImageWriter_appendPlain 9 = .ok (.invokevirtual 93, 3) := by decide +kernel
theorem d_ImageWriter_appendPlain_12 : decode b_ImageWriter_appendPlain 12 = .ok (.bipush 127, 2) := by decide +kernel
theorem d_ImageWriter_appendPlain_14 : decode b_ImageWriter_appendPlain 14 = .ok (.if_icmp .ne 16, 3) := by decide +kernel
theorem d_ImageWriter_appendPlain_17 : decode b_ImageWriter_appendPlain 17 = .ok (.aload_n 2, 1) := by decide +kernel
theorem d_ImageWriter_appendPlain_18 : decode b_ImageWriter_appendPlain 18 = .ok (.invokevirtual 41, 3) := by decide +kernel
theorem d_ImageWriter_appendPlain_21 : decode b_ImageWriter_appendPlain 21 = .ok (.istore_n 3, 1) := by decide +kernel
theorem d_ImageWriter_appendPlain_22 : decode b_ImageWriter_appendPlain 22 = .ok (.aload_n 2, 1) := by decide +kernel
theorem d_ImageWriter_appendPlain_23 : decode b_ImageWriter_appendPlain 23 = .ok (.iconst 0, 1) := by decide +kernel
theorem d_ImageWriter_appendPlain_24 : decode b_ImageWriter_appendPlain 24 = .ok (.invokevirtual 15, 3) := by decide +kernel
theorem d_ImageWriter_appendPlain_27 : decode b_ImageWriter_appendPlain 27 = .ok (.goto 15, 3) := by decide +kernel
theorem d_ImageWriter_appendPlain_30 : decode b_ImageWriter_appendPlain 30 = .ok (.aload_n 2, 1) := by decide +kernel
theorem d_ImageWriter_appendPlain_31 : decode b_ImageWriter_appendPlain 31 = .ok (.iload_n 3, 1) := by decide +kernel
theorem d_ImageWriter_appendPlain_32 : decode b_ImageWriter_appendPlain 32 = .ok (.aload_n 2, 1) := by decide +kernel
theorem d_ImageWriter_appendPlain_33 : decode b_ImageWriter_appendPlain 33 = .ok (.iload_n 3, 1) := by decide +kernel
theorem d_ImageWriter_appendPlain_34 : decode b_ImageWriter_appendPlain 34 = .ok (.invokevirtual 93, 3) := by decide +kernel
theorem d_ImageWriter_appendPlain_37 : decode b_ImageWriter_appendPlain 37 = .ok (.iconst 1, 1) := by decide +kernel
theorem d_ImageWriter_appendPlain_38 : decode b_ImageWriter_appendPlain 38 = .ok (.iadd, 1) := by decide +kernel
theorem d_ImageWriter_appendPlain_39 : decode b_ImageWriter_appendPlain 39 = .ok (.invokevirtual 103, 3) := by decide +kernel
theorem d_ImageWriter_appendPlain_42 : decode b_ImageWriter_appendPlain 42 = .ok (.aload_n 2, 1) := by decide +kernel
theorem d_ImageWriter_appendPlain_43 : decode b_ImageWriter_appendPlain 43 = .ok (.iload_n 0, 1) := by decide +kernel
theorem d_ImageWriter_appendPlain_44 : decode b_ImageWriter_appendPlain 44 = .ok (.invokevirtual 15, 3) := by decide +kernel
theorem d_ImageWriter_appendPlain_47 : decode b_ImageWriter_appendPlain 47 = .ok (.iload_n 3, 1) := by decide +kernel
theorem d_ImageWriter_appendPlain_48 : decode b_ImageWriter_appendPlain 48 = .ok (.ireturn, 1) := by decide +kernel
set_option maxHeartbeats 4000000 in
set_option maxRecDepth 100000 in
theorem c_ImageWriter_appendPlain (l : Launch) (dC : Nat → ClassId) (dI : Nat → Nat → Nat) (cI cL cZ : ClassId) (ot : Nat) (otEa : Nat) (otn : Nat) (otE : Nat → Int32) (otC : Int32) (otO : Bool) (k0 : Int32) (k1 : Int32) (res : Int32) (otE' : Nat → Int32) (otC' : Int32) (otO' : Bool) (hd : D_ImageWriter_appendPlain otn k0 k1 otE otC otO res otE' otC' otO') : Ctr l y_ImageWriter_appendPlain (Cond.code y_ImageWriter_appendPlain b_ImageWriter_appendPlain 4 (some .int) :: ga) { frames := 2, cells := 0, slots := 0, locals := 43 } (dC, dI) classes (Tys cI cL cZ) [.int k0, .int k1, .ref ot] ((sh_Row cI cL cZ ot otEa otn otE otC otO)) (some (.int res)) ((sh_Row cI cL cZ ot otEa otn otE' otC' otO')) := by
  refine Ctr.ofW (by decide) (Nat.le_of_ble_eq_true rfl) ?_
  intro p e s m below meth c A ls hx hb hr hml hown hlocks hts hK hN hA hP hD hS hl
  have hown : s.vm.findClass R_ImageWriter = some m.cls := hown
  have hl : lv_has ls 4 [(0, .int k0), (1, .int k1), (2, .ref ot)] := hl
  have key : ∀ n : Nat, (∀ (x0 : Int32) (otE : Nat → Int32) (otC : Int32) (otO : Bool) (ls : Array Slot) (H : Heap) (locs : List Loc), lv_has ls 4 [(0, .int x0), (2, .ref ot)] → va_P (dC, dI) classes ((sh_Row cI cL cZ ot otEa otn otE otC otO)) H → va_D A ((sh_Row cI cL cZ ot otEa otn otE otC otO)) → va_S A s.heap H locs → T_ImageWriter_appendPlain otn res otE' otC' otO' n 0 x0 0 otE otC otO → W p l e ({ frames := 2, cells := 0, slots := 0, locals := 43 }) s m ([.int k0, .int k1, .ref ot] : List Value).toArray below meth c H locs 0 0 (MQ below (Qs (dC, dI) classes (Tys cI cL cZ) (some (.int res)) ((sh_Row cI cL cZ ot otEa otn otE' otC' otO')) A) ([.int k0, .int k1, .ref ot] : List Value).toArray s 0 0 A) (F0 m 17 ls [])) ∧ (∀ (x0 : Int32) (x3 : Int32) (otE : Nat → Int32) (otC : Int32) (otO : Bool) (ls : Array Slot) (H : Heap) (locs : List Loc), lv_has ls 4 [(0, .int x0), (2, .ref ot), (3, .int x3)] → va_P (dC, dI) classes ((sh_Row cI cL cZ ot otEa otn otE otC otO)) H → va_D A ((sh_Row cI cL cZ ot otEa otn otE otC otO)) → va_S A s.heap H locs → T_ImageWriter_appendPlain otn res otE' otC' otO' n 1 x0 x3 otE otC otO → W p l e ({ frames := 2, cells := 0, slots := 0, locals := 43 }) s m ([.int k0, .int k1, .ref ot] : List Value).toArray below meth c H locs 0 0 (MQ below (Qs (dC, dI) classes (Tys cI cL cZ) (some (.int res)) ((sh_Row cI cL cZ ot otEa otn otE' otC' otO')) A) ([.int k0, .int k1, .ref ot] : List Value).toArray s 0 0 A) (F0 m 42 ls [])) := by
    intro n
    induction n with
    | zero =>
      exact ⟨fun _ _ _ _ _ _ _ _ _ _ _ hd => False.elim hd, fun _ _ _ _ _ _ _ _ _ _ _ _ hd => False.elim hd⟩
    | succ n ih =>
      refine ⟨?_, ?_⟩
      · intro x0 otE otC otO ls H locs hl hP hD hS hd
        have hd : B_ImageWriter_appendPlain_17 otn res otE' otC' otO' (T_ImageWriter_appendPlain otn res otE' otC' otO' n) x0 otE otC otO := hd
        refine lv_aload_n hx hb d_ImageWriter_appendPlain_17 rfl (lv_at hl 1 rfl) ?_
        refine ct_VR (As := []) (rest := []) (C := R_Row) (ci := 1) (q := (R_Row, F_Row, 3)) ⟨hx, hb, hml, hown, hts⟩ fm_Row_count (c_Row_count l dC dI cI cL cZ ot otEa otn otE otC otO otC rfl) k203_methodLink k67_instanceMethod k68_selects ⟨Nat.le_of_ble_eq_true rfl, Nat.le_of_ble_eq_true rfl⟩ rfl rfl hK hN hP hD [0, 1] rfl rfl (by decide) 0 rfl rfl rfl rfl hl.1 rfl (Nat.le_of_ble_eq_true rfl) d_ImageWriter_appendPlain_18 ?_
        refine lv_istore_n (lv' := [(3, .int otC), (0, .int x0), (2, .ref ot)]) hx hb d_ImageWriter_appendPlain_21 rfl hl (by decide) rfl (fun ls hl => ?_)
        refine lv_aload_n hx hb d_ImageWriter_appendPlain_22 rfl (lv_at hl 2 rfl) ?_
        refine lv_iconst (v := 0) hx hb d_ImageWriter_appendPlain_23 (by decide) ?_
        obtain ⟨otE_24, otC_24, otO_24, c24, hd⟩ := hd
        refine ct_V (As := [.int 0]) (rest := []) (C := R_Row) (ci := 1) (q := (R_Row, F_Row, 3)) ⟨hx, hb, hml, hown, hts⟩ fm_Row_append (c_Row_append l dC dI cI cL cZ ot otEa otn otE otC otO 0 otE_24 otC_24 otO_24 c24) k197_methodLink k8_instanceMethod k9_selects ⟨Nat.le_of_ble_eq_true rfl, Nat.le_of_ble_eq_true rfl⟩ rfl rfl hK hN hP hD hS hA [0, 1] [] rfl rfl rfl (by decide) (by decide) (by decide) 0 rfl rfl rfl rfl hl.1 rfl (Nat.le_of_ble_eq_true rfl) d_ImageWriter_appendPlain_24 (fun H locs hP hD hS => ?_)
        have hP : va_P (dC, dI) classes ((sh_Row cI cL cZ ot otEa otn otE_24 otC_24 otO_24)) H := hP.sub [0, 1] rfl
        have hD : va_D A ((sh_Row cI cL cZ ot otEa otn otE_24 otC_24 otO_24)) := hD.sub [0, 1] (by decide) rfl
        refine lv_goto (tgt := 42) hx hb d_ImageWriter_appendPlain_27 (by decide) ?_
        exact ih.2 x0 otC otE_24 otC_24 otO_24 _ _ _ (lv_sub hl [1, 2, 0] rfl) hP hD hS hd
      · intro x0 x3 otE otC otO ls H locs hl hP hD hS hd
        have hd : B_ImageWriter_appendPlain_42 otn res otE' otC' otO' (T_ImageWriter_appendPlain otn res otE' otC' otO' n) x0 x3 otE otC otO := hd
        refine lv_aload_n hx hb d_ImageWriter_appendPlain_42 rfl (lv_at hl 1 rfl) ?_
        refine lv_iload_n hx hb d_ImageWriter_appendPlain_43 rfl (lv_at hl 0 rfl) ?_
        obtain ⟨otE_44, otC_44, otO_44, c44, hd⟩ := hd
        refine ct_V (As := [.int x0]) (rest := []) (C := R_Row) (ci := 1) (q := (R_Row, F_Row, 3)) ⟨hx, hb, hml, hown, hts⟩ fm_Row_append (c_Row_append l dC dI cI cL cZ ot otEa otn otE otC otO x0 otE_44 otC_44 otO_44 c44) k197_methodLink k8_instanceMethod k9_selects ⟨Nat.le_of_ble_eq_true rfl, Nat.le_of_ble_eq_true rfl⟩ rfl rfl hK hN hP hD hS hA [0, 1] [] rfl rfl rfl (by decide) (by decide) (by decide) 0 rfl rfl rfl rfl hl.1 rfl (Nat.le_of_ble_eq_true rfl) d_ImageWriter_appendPlain_44 (fun H locs hP hD hS => ?_)
        have hP : va_P (dC, dI) classes ((sh_Row cI cL cZ ot otEa otn otE_44 otC_44 otO_44)) H := hP.sub [0, 1] rfl
        have hD : va_D A ((sh_Row cI cL cZ ot otEa otn otE_44 otC_44 otO_44)) := hD.sub [0, 1] (by decide) rfl
        refine lv_iload_n hx hb d_ImageWriter_appendPlain_47 rfl (lv_at hl 2 rfl) ?_
        obtain ⟨e0, e1, e2, e3⟩ := hd
        subst e0
        subst e1
        subst e2
        subst e3
        exact ct_iret hx hb hr hlocks hK hP hD hS d_ImageWriter_appendPlain_48
  obtain ⟨n, hd⟩ := hd
  refine lv_iload_n hx hb d_ImageWriter_appendPlain_0 rfl (lv_at hl 1 rfl) ?_
  refine lv_istore_n (lv' := [(3, .int k1), (0, .int k0), (1, .int k1), (2, .ref ot)]) hx hb d_ImageWriter_appendPlain_1 rfl hl (by decide) rfl (fun ls hl => ?_)
  refine lv_iload_n hx hb d_ImageWriter_appendPlain_2 rfl (lv_at hl 0 rfl) ?_
  refine lv_iconst (v := (-1)) hx hb d_ImageWriter_appendPlain_3 (by decide) ?_
  refine lv_icmp_eq (tgt := 17) hx hb d_ImageWriter_appendPlain_4 (by decide) (fun h4 => ?_) (fun h4 => ?_)
  · have hd := hd.1 h4
    exact (key n).1 k0 otE otC otO _ _ _ (lv_sub hl [1, 3] rfl) hP hD hS hd
  · have hd := hd.2 h4
    refine lv_aload_n hx hb d_ImageWriter_appendPlain_7 rfl (lv_at hl 3 rfl) ?_
    refine lv_iload_n hx hb d_ImageWriter_appendPlain_8 rfl (lv_at hl 0 rfl) ?_
    obtain ⟨r9, c9, hd⟩ := hd
    refine ct_VR (As := [.int k1]) (rest := []) (C := R_Row) (ci := 1) (q := (R_Row, F_Row, 3)) ⟨hx, hb, hml, hown, hts⟩ fm_Row_element (c_Row_element l dC dI cI cL cZ ot otEa otn otE otC otO k1 r9 c9) k201_methodLink k4_instanceMethod k5_selects ⟨Nat.le_of_ble_eq_true rfl, Nat.le_of_ble_eq_true rfl⟩ rfl rfl hK hN hP hD [0, 1] rfl rfl (by decide) 0 rfl rfl rfl rfl hl.1 rfl (Nat.le_of_ble_eq_true rfl) d_ImageWriter_appendPlain_9 ?_
    refine lv_bipush (v := 127) hx hb d_ImageWriter_appendPlain_12 (by decide) ?_
    refine lv_icmp_ne (tgt := 30) hx hb d_ImageWriter_appendPlain_14 (by decide) (fun h14 => ?_) (fun h14 => ?_)
    · have hd := hd.2 h14
      refine lv_aload_n hx hb d_ImageWriter_appendPlain_30 rfl (lv_at hl 3 rfl) ?_
      refine lv_iload_n hx hb d_ImageWriter_appendPlain_31 rfl (lv_at hl 0 rfl) ?_
      refine lv_aload_n hx hb d_ImageWriter_appendPlain_32 rfl (lv_at hl 3 rfl) ?_
      refine lv_iload_n hx hb d_ImageWriter_appendPlain_33 rfl (lv_at hl 0 rfl) ?_
      obtain ⟨r34, c34, hd⟩ := hd
      refine ct_VR (As := [.int k1]) (rest := [.int k1, .ref ot]) (C := R_Row) (ci := 1) (q := (R_Row, F_Row, 3)) ⟨hx, hb, hml, hown, hts⟩ fm_Row_element (c_Row_element l dC dI cI cL cZ ot otEa otn otE otC otO k1 r34 c34) k201_methodLink k4_instanceMethod k5_selects ⟨Nat.le_of_ble_eq_true rfl, Nat.le_of_ble_eq_true rfl⟩ rfl rfl hK hN hP hD [0, 1] rfl rfl (by decide) 0 rfl rfl rfl rfl hl.1 rfl (Nat.le_of_ble_eq_true rfl) d_ImageWriter_appendPlain_34 ?_
      refine lv_iconst (v := 1) hx hb d_ImageWriter_appendPlain_37 (by decide) ?_
      refine lv_iadd hx hb d_ImageWriter_appendPlain_38 ?_
      obtain ⟨otE_39, c39, hd⟩ := hd
      refine ct_V (As := [.int k1, .int (r34 + 1)]) (rest := []) (C := R_Row) (ci := 1) (q := (R_Row, F_Row, 3)) ⟨hx, hb, hml, hown, hts⟩ fm_Row_replace (c_Row_replace l dC dI cI cL cZ ot otEa otn otE otC otO k1 (r34 + 1) otE_39 c39) k202_methodLink k14_instanceMethod k15_selects ⟨Nat.le_of_ble_eq_true rfl, Nat.le_of_ble_eq_true rfl⟩ rfl rfl hK hN hP hD hS hA [0, 1] [] rfl rfl rfl (by decide) (by decide) (by decide) 0 rfl rfl rfl rfl hl.1 rfl (Nat.le_of_ble_eq_true rfl) d_ImageWriter_appendPlain_39 (fun H locs hP hD hS => ?_)
      have hP : va_P (dC, dI) classes ((sh_Row cI cL cZ ot otEa otn otE_39 otC otO)) H := hP.sub [0, 1] rfl
      have hD : va_D A ((sh_Row cI cL cZ ot otEa otn otE_39 otC otO)) := hD.sub [0, 1] (by decide) rfl
      exact (key n).2 k0 k1 otE_39 otC otO _ _ _ (lv_sub hl [1, 3, 0] rfl) hP hD hS hd
    · have hd := hd.1 h14
      exact (key n).1 k0 otE otC otO _ _ _ (lv_sub hl [1, 3] rfl) hP hD hS hd
-- ImageWriter.alike
abbrev b_ImageWriter_alike : ByteArray := prog_5_method_8_code
def y_ImageWriter_alike : MethodName := ⟨"HelpFile$ImageWriter", "alike", "(LHelpFile$Row;III)I"⟩
set_option maxRecDepth 100000 in
theorem fm_ImageWriter_alike : Fm y_ImageWriter_alike b_ImageWriter_alike 5 (some .int) 4 := ⟨ga_t 481 rfl rfl, k198_initialized, by decide, by decide, by decide +kernel⟩
def B_ImageWriter_alike_3 (ron : Nat) (roE : Nat → Int32) (roC : Int32) (res : Int32) (X : Int32 → Int32 → Int32 → Int32 → Prop) (x1 : Int32) (x2 : Int32) (x3 : Int32) (x4 : Int32) : Prop := ((63 ≤ x4 → (res = x4)) ∧ (¬ (63 ≤ x4) → ((x3 ≤ (x1 + x4) → (res = x4)) ∧ (¬ (x3 ≤ (x1 + x4)) → (∃ r23 : Int32, D_Row_element ron (x1 + x4) roE roC r23 ∧ (∃ r33 : Int32, D_Row_element ron ((x1 + x4) - x2) roE roC r33 ∧ ((r23 = r33 → X x1 x2 x3 (x4 + 1)) ∧ (¬ (r23 = r33) → (res = x4)))))))))
def S_ImageWriter_alike (ron : Nat) (roE : Nat → Int32) (roC : Int32) (res : Int32) (X : Int32 → Int32 → Int32 → Int32 → Prop) : Int32 → Int32 → Int32 → Int32 → Prop := fun x1 x2 x3 x4 => B_ImageWriter_alike_3 ron roE roC res X x1 x2 x3 x4
def T_ImageWriter_alike (ron : Nat) (roE : Nat → Int32) (roC : Int32) (res : Int32) : Nat → (Int32 → Int32 → Int32 → Int32 → Prop)
  | 0 => fun _ _ _ _ => False
  | n + 1 => S_ImageWriter_alike ron roE roC res (T_ImageWriter_alike ron roE roC res n)
def D_ImageWriter_alike (ron : Nat) (k0 : Int32) (k1 : Int32) (k2 : Int32) (roE : Nat → Int32) (roC : Int32) (res : Int32) : Prop := ∃ n : Nat, T_ImageWriter_alike ron roE roC res n k0 k1 k2 0
theorem d_ImageWriter_alike_0 : decode b_ImageWriter_alike 0 = .ok (.iconst 0, 1) := by decide +kernel
theorem d_ImageWriter_alike_1 : decode b_ImageWriter_alike 1 = .ok (.istore 4, 2) := by decide +kernel
theorem d_ImageWriter_alike_3 : decode b_ImageWriter_alike 3 = .ok (.iload 4, 2) := by decide +kernel
theorem d_ImageWriter_alike_5 : decode b_ImageWriter_alike 5 = .ok (.bipush 63, 2) := by decide +kernel
theorem d_ImageWriter_alike_7 : decode b_ImageWriter_alike 7 = .ok (.if_icmp .ge 38, 3) := by decide +kernel
theorem d_ImageWriter_alike_10 : decode b_ImageWriter_alike 10 = .ok (.iload_n 1, 1) := by decide +kernel
theorem d_ImageWriter_alike_11 : decode b_ImageWriter_alike 11 = .ok (.iload 4, 2) := by decide +kernel
theorem d_ImageWriter_alike_13 : decode b_ImageWriter_alike 13 = .ok (.iadd, 1) := by decide +kernel
theorem d_ImageWriter_alike_14 : decode b_ImageWriter_alike 14 = .ok (.iload_n 3, 1) := by decide +kernel
theorem d_ImageWriter_alike_15 : decode b_ImageWriter_alike 15 = .ok (.if_icmp .ge 30, 3) := by decide +kernel
theorem d_ImageWriter_alike_18 : decode b_ImageWriter_alike 18 = .ok (.aload_n 0, 1) := by decide +kernel
theorem d_ImageWriter_alike_19 : decode b_ImageWriter_alike 19 = .ok (.iload_n 1, 1) := by decide +kernel
theorem d_ImageWriter_alike_20 : decode b_ImageWriter_alike 20 = .ok (.iload 4, 2) := by decide +kernel
theorem d_ImageWriter_alike_22 : decode b_ImageWriter_alike 22 = .ok (.iadd, 1) := by decide +kernel
theorem d_ImageWriter_alike_23 : decode b_ImageWriter_alike 23 = .ok (.invokevirtual 93, 3) := by decide +kernel
theorem d_ImageWriter_alike_26 : decode b_ImageWriter_alike 26 = .ok (.aload_n 0, 1) := by decide +kernel
theorem d_ImageWriter_alike_27 : decode b_ImageWriter_alike 27 = .ok (.iload_n 1, 1) := by decide +kernel
theorem d_ImageWriter_alike_28 : decode b_ImageWriter_alike 28 = .ok (.iload 4, 2) := by decide +kernel
theorem d_ImageWriter_alike_30 : decode b_ImageWriter_alike 30 = .ok (.iadd, 1) := by decide +kernel
theorem d_ImageWriter_alike_31 : decode b_ImageWriter_alike 31 = .ok (.iload_n 2, 1) := by decide +kernel
theorem d_ImageWriter_alike_32 : decode b_ImageWriter_alike 32 = .ok (.isub, 1) := by decide +kernel
theorem d_ImageWriter_alike_33 : decode b_ImageWriter_alike 33 = .ok (.invokevirtual 93, 3) := by decide +kernel
theorem d_ImageWriter_alike_36 : decode b_ImageWriter_alike 36 = .ok (.if_icmp .ne 9, 3) := by decide +kernel
theorem d_ImageWriter_alike_39 : decode b_ImageWriter_alike 39 = .ok (.iinc 4 1, 3) := by decide +kernel
theorem d_ImageWriter_alike_42 : decode b_ImageWriter_alike 42 = .ok (.goto (-39), 3) := by decide +kernel
theorem d_ImageWriter_alike_45 : decode b_ImageWriter_alike 45 = .ok (.iload 4, 2) := by decide +kernel
theorem d_ImageWriter_alike_47 : decode b_ImageWriter_alike 47 = .ok (.ireturn, 1) := by decide +kernel
set_option maxHeartbeats 4000000 in
set_option maxRecDepth 100000 in
theorem c_ImageWriter_alike (l : Launch) (dC : Nat → ClassId) (dI : Nat → Nat → Nat) (cI cL cZ : ClassId) (ro : Nat) (roEa : Nat) (ron : Nat) (roE : Nat → Int32) (roC : Int32) (roO : Bool) (k0 : Int32) (k1 : Int32) (k2 : Int32) (res : Int32) (hd : D_ImageWriter_alike ron k0 k1 k2 roE roC res) : CtrR l y_ImageWriter_alike (Cond.code y_ImageWriter_alike b_ImageWriter_alike 5 (some .int) :: ga) { frames := 1, cells := 0, slots := 0, locals := 21 } (dC, dI) classes (Tys cI cL cZ) [.ref ro, .int k0, .int k1, .int k2] ((sh_Row cI cL cZ ro roEa ron roE roC roO)) (some (.int res)) := by
  refine CtrR.ofW (by decide) (Nat.le_of_ble_eq_true rfl) ?_
  intro p e s m below meth c ls hx hb hr hml hown hlocks hts hK hN hP hD hl
  have hown : s.vm.findClass R_ImageWriter = some m.cls := hown
  have hl : lv_has ls 5 [(0, .ref ro), (1, .int k0), (2, .int k1), (3, .int k2)] := hl
  have key : ∀ n : Nat, (∀ (x1 : Int32) (x2 : Int32) (x3 : Int32) (x4 : Int32) (ls : Array Slot), lv_has ls 5 [(0, .ref ro), (1, .int x1), (2, .int x2), (3, .int x3), (4, .int x4)] → T_ImageWriter_alike ron roE roC res n x1 x2 x3 x4 → W p l e ({ frames := 1, cells := 0, slots := 0, locals := 21 }) s m ([.ref ro, .int k0, .int k1, .int k2] : List Value).toArray below meth c s.heap [] 0 0 (MQ below (Qr (some (.int res))) ([.ref ro, .int k0, .int k1, .int k2] : List Value).toArray s 0 0 (fun _ => False)) (F0 m 3 ls [])) := by
    intro n
    induction n with
    | zero =>
      exact fun _ _ _ _ _ _ hd => False.elim hd
    | succ n ih =>
      · intro x1 x2 x3 x4 ls hl hd
        have hd : B_ImageWriter_alike_3 ron roE roC res (T_ImageWriter_alike ron roE roC res n) x1 x2 x3 x4 := hd
        refine lv_iload hx hb d_ImageWriter_alike_3 (lv_at hl 4 rfl) ?_
        refine lv_bipush (v := 63) hx hb d_ImageWriter_alike_5 (by decide) ?_
        refine lv_icmp_ge (tgt := 45) hx hb d_ImageWriter_alike_7 (by decide) (fun h7 => ?_) (fun h7 => ?_)
        · have hd := hd.1 h7
          refine lv_iload hx hb d_ImageWriter_alike_45 (lv_at hl 4 rfl) ?_
          have e0 : res = x4 := hd
          subst e0
          exact ct_iretR hx hb hr hlocks d_ImageWriter_alike_47
        · have hd := hd.2 h7
          refine lv_iload_n hx hb d_ImageWriter_alike_10 rfl (lv_at hl 1 rfl) ?_
          refine lv_iload hx hb d_ImageWriter_alike_11 (lv_at hl 4 rfl) ?_
          refine lv_iadd hx hb d_ImageWriter_alike_13 ?_
          refine lv_iload_n hx hb d_ImageWriter_alike_14 rfl (lv_at hl 3 rfl) ?_
          refine lv_icmp_ge (tgt := 45) hx hb d_ImageWriter_alike_15 (by decide) (fun h15 => ?_) (fun h15 => ?_)
          · have hd := hd.1 h15
            refine lv_iload hx hb d_ImageWriter_alike_45 (lv_at hl 4 rfl) ?_
            have e0 : res = x4 := hd
            subst e0
            exact ct_iretR hx hb hr hlocks d_ImageWriter_alike_47
          · have hd := hd.2 h15
            refine lv_aload_n hx hb d_ImageWriter_alike_18 rfl (lv_at hl 0 rfl) ?_
            refine lv_iload_n hx hb d_ImageWriter_alike_19 rfl (lv_at hl 1 rfl) ?_
            refine lv_iload hx hb d_ImageWriter_alike_20 (lv_at hl 4 rfl) ?_
            refine lv_iadd hx hb d_ImageWriter_alike_22 ?_
            obtain ⟨r23, c23, hd⟩ := hd
            refine ct_VR (As := [.int (x1 + x4)]) (rest := []) (C := R_Row) (ci := 1) (q := (R_Row, F_Row, 3)) ⟨hx, hb, hml, hown, hts⟩ fm_Row_element (c_Row_element l dC dI cI cL cZ ro roEa ron roE roC roO (x1 + x4) r23 c23) k201_methodLink k4_instanceMethod k5_selects ⟨Nat.le_of_ble_eq_true rfl, Nat.le_of_ble_eq_true rfl⟩ rfl rfl hK hN hP hD [0, 1] rfl rfl (by decide) 0 rfl rfl rfl rfl hl.1 rfl (Nat.le_of_ble_eq_true rfl) d_ImageWriter_alike_23 ?_
            refine lv_aload_n hx hb d_ImageWriter_alike_26 rfl (lv_at hl 0 rfl) ?_
            refine lv_iload_n hx hb d_ImageWriter_alike_27 rfl (lv_at hl 1 rfl) ?_
            refine lv_iload hx hb d_ImageWriter_alike_28 (lv_at hl 4 rfl) ?_
            refine lv_iadd hx hb d_ImageWriter_alike_30 ?_
            refine lv_iload_n hx hb d_ImageWriter_alike_31 rfl (lv_at hl 2 rfl) ?_
            refine lv_isub hx hb d_ImageWriter_alike_32 ?_
            obtain ⟨r33, c33, hd⟩ := hd
            refine ct_VR (As := [.int ((x1 + x4) - x2)]) (rest := [.int r23]) (C := R_Row) (ci := 1) (q := (R_Row, F_Row, 3)) ⟨hx, hb, hml, hown, hts⟩ fm_Row_element (c_Row_element l dC dI cI cL cZ ro roEa ron roE roC roO ((x1 + x4) - x2) r33 c33) k201_methodLink k4_instanceMethod k5_selects ⟨Nat.le_of_ble_eq_true rfl, Nat.le_of_ble_eq_true rfl⟩ rfl rfl hK hN hP hD [0, 1] rfl rfl (by decide) 0 rfl rfl rfl rfl hl.1 rfl (Nat.le_of_ble_eq_true rfl) d_ImageWriter_alike_33 ?_
            refine lv_icmp_ne (tgt := 45) hx hb d_ImageWriter_alike_36 (by decide) (fun h36 => ?_) (fun h36 => ?_)
            · have hd := hd.2 h36
              refine lv_iload hx hb d_ImageWriter_alike_45 (lv_at hl 4 rfl) ?_
              have e0 : res = x4 := hd
              subst e0
              exact ct_iretR hx hb hr hlocks d_ImageWriter_alike_47
            · have hd := hd.1 h36
              refine lv_iinc (k := 4) (v := x4 + 1) (lv' := [(4, .int (x4 + 1)), (0, .ref ro), (1, .int x1), (2, .int x2), (3, .int x3)]) hx hb d_ImageWriter_alike_39 hl rfl (congrArg (fun z => x4 + z) (by decide)) (by decide) rfl (fun ls hl => ?_)
              refine lv_goto (tgt := 3) hx hb d_ImageWriter_alike_42 (by decide) ?_
              exact ih x1 x2 x3 (x4 + 1) _ (lv_sub hl [1, 2, 3, 4, 0] rfl) hd
  obtain ⟨n, hd⟩ := hd
  refine lv_iconst (v := 0) hx hb d_ImageWriter_alike_0 (by decide) ?_
  refine lv_istore (lv' := [(4, .int 0), (0, .ref ro), (1, .int k0), (2, .int k1), (3, .int k2)]) hx hb d_ImageWriter_alike_1 hl (by decide) rfl (fun ls hl => ?_)
  exact (key n) k0 k1 k2 0 _ (lv_sub hl [1, 2, 3, 4, 0] rfl) hd
-- ImageWriter.bestDistance
abbrev b_ImageWriter_bestDistance : ByteArray := prog_5_method_7_code
def y_ImageWriter_bestDistance : MethodName := ⟨"HelpFile$ImageWriter", "bestDistance", "(LHelpFile$Row;III)I"⟩
theorem k204_methodLink : Cond.methodLink "HelpFile$ImageWriter" 100 ⟨"HelpFile$ImageWriter", "alike", "(LHelpFile$Row;III)I"⟩ ∈ ga := ga_t 479 (by decide +kernel) rfl
theorem k205_static : Cond.static ⟨"HelpFile$ImageWriter", "alike", "(LHelpFile$Row;III)I"⟩ ∈ ga := ga_t 480 (by decide +kernel) rfl
set_option maxRecDepth 100000 in
theorem fm_ImageWriter_bestDistance : Fm y_ImageWriter_bestDistance b_ImageWriter_bestDistance 8 (some .int) 4 := ⟨ga_t 478 rfl rfl, k198_initialized, by decide, by decide, by decide +kernel⟩
def B_ImageWriter_bestDistance_9 (ron : Nat) (roE : Nat → Int32) (roC : Int32) (res : Int32) (X : Int32 → Int32 → Int32 → Int32 → Int32 → Int32 → Prop) (x1 : Int32) (x2 : Int32) (x3 : Int32) (x4 : Int32) (x5 : Int32) (x6 : Int32) : Prop := (((x2 - x1) < x6 → (res = x4)) ∧ (¬ ((x2 - x1) < x6) → (∃ r22 : Int32, D_ImageWriter_alike ron x2 x6 x3 roE roC r22 ∧ ((r22 ≤ x5 → X x1 x2 x3 x4 x5 (x6 + 1)) ∧ (¬ (r22 ≤ x5) → X x1 x2 x3 x6 r22 (x6 + 1))))))
def S_ImageWriter_bestDistance (ron : Nat) (roE : Nat → Int32) (roC : Int32) (res : Int32) (X : Int32 → Int32 → Int32 → Int32 → Int32 → Int32 → Prop) : Int32 → Int32 → Int32 → Int32 → Int32 → Int32 → Prop := fun x1 x2 x3 x4 x5 x6 => B_ImageWriter_bestDistance_9 ron roE roC res X x1 x2 x3 x4 x5 x6
def T_ImageWriter_bestDistance (ron : Nat) (roE : Nat → Int32) (roC : Int32) (res : Int32) : Nat → (Int32 → Int32 → Int32 → Int32 → Int32 → Int32 → Prop)
  | 0 => fun _ _ _ _ _ _ => False
  | n + 1 => S_ImageWriter_bestDistance ron roE roC res (T_ImageWriter_bestDistance ron roE roC res n)
def D_ImageWriter_bestDistance (ron : Nat) (k0 : Int32) (k1 : Int32) (k2 : Int32) (roE : Nat → Int32) (roC : Int32) (res : Int32) : Prop := ∃ n : Nat, T_ImageWriter_bestDistance ron roE roC res n k0 k1 k2 (-1) 2 1
theorem d_ImageWriter_bestDistance_0 : decode b_ImageWriter_bestDistance 0 = .ok (.iconst (-1), 1) := by decide +kernel
theorem d_ImageWriter_bestDistance_1 : decode b_ImageWriter_bestDistance 1 = .ok (.istore 4, 2) := by decide +kernel
theorem d_ImageWriter_bestDistance_3 : decode b_ImageWriter_bestDistance 3 = .ok (.iconst 2, 1) := by decide +kernel
theorem d_ImageWriter_bestDistance_4 : decode b_ImageWriter_bestDistance 4 = .ok (.istore 5, 2) := by decide +kernel
theorem d_ImageWriter_bestDistance_6 : decode b_ImageWriter_bestDistance 6 = .ok (.iconst 1, 1) := by decide +kernel
theorem d_ImageWriter_bestDistance_7 : decode b_ImageWriter_bestDistance 7 = .ok (.istore 6, 2) := by decide +kernel
theorem d_ImageWriter_bestDistance_9 : decode b_ImageWriter_bestDistance 9 = .ok (.iload 6, 2) := by decide +kernel
theorem d_ImageWriter_bestDistance_11 : decode b_ImageWriter_bestDistance 11 = .ok (.iload_n 2, 1) := by decide +kernel
theorem d_ImageWriter_bestDistance_12 : decode b_ImageWriter_bestDistance 12 = .ok (.iload_n 1, 1) := by decide +kernel
theorem d_ImageWriter_bestDistance_13 : decode b_ImageWriter_bestDistance 13 = .ok (.isub, 1) := by decide +kernel
theorem d_ImageWriter_bestDistance_14 : decode b_ImageWriter_bestDistance 14 = .ok (.if_icmp .gt 34, 3) := by decide +kernel
theorem d_ImageWriter_bestDistance_17 : decode b_ImageWriter_bestDistance 17 = .ok (.aload_n 0, 1) := by decide +kernel
theorem d_ImageWriter_bestDistance_18 : decode b_ImageWriter_bestDistance 18 = .ok (.iload_n 2, 1) := by decide +kernel
theorem d_ImageWriter_bestDistance_19 : decode b_ImageWriter_bestDistance 19 = .ok (.iload 6, 2) := by decide +kernel
theorem d_ImageWriter_bestDistance_21 : decode b_ImageWriter_bestDistance 21 = .ok (.iload_n 3, 1) := by decide +kernel
theorem d_ImageWriter_bestDistance_22 : decode b_ImageWriter_bestDistance 22 = .ok (.invokestatic 100, 3) := by decide +kernel
theorem d_ImageWriter_bestDistance_25 : decode b_ImageWriter_bestDistance 25 = .ok (.istore 7, 2) := by decide +kernel
theorem d_ImageWriter_bestDistance_27 : decode b_ImageWriter_bestDistance 27 = .ok (.iload 7, 2) := by decide +kernel
theorem d_ImageWriter_bestDistance_29 : decode b_ImageWriter_bestDistance 29 = .ok (.iload 5, 2) := by decide +kernel
theorem d_ImageWriter_bestDistance_31 : decode b_ImageWriter_bestDistance 31 = .ok (.if_icmp .le 11, 3) := by decide +kernel
theorem d_ImageWriter_bestDistance_34 : decode b_ImageWriter_bestDistance 34 = .ok (.iload 7, 2) := by decide +kernel
theorem d_ImageWriter_bestDistance_36 : decode b_ImageWriter_bestDistance 36 = .ok (.istore 5, 2) := by decide +kernel
theorem d_ImageWriter_bestDistance_38 : decode b_ImageWriter_bestDistance 38 = .ok (.iload 6, 2) := by decide +kernel
theorem d_ImageWriter_bestDistance_40 : decode b_ImageWriter_bestDistance 40 = .ok (.istore 4, 2) := by decide +kernel
theorem d_ImageWriter_bestDistance_42 : decode b_ImageWriter_bestDistance 42 = .ok (.iinc 6 1, 3) := by decide +kernel
theorem d_ImageWriter_bestDistance_45 : decode b_ImageWriter_bestDistance 45 = .ok (.goto (-36), 3) := by decide +kernel
theorem d_ImageWriter_bestDistance_48 : decode b_ImageWriter_bestDistance 48 = .ok (.iload 4, 2) := by decide +kernel
theorem d_ImageWriter_bestDistance_50 : decode b_ImageWriter_bestDistance 50 = .ok (.ireturn, 1) := by decide +kernel
set_option maxHeartbeats 4000000 in
set_option maxRecDepth 100000 in
theorem c_ImageWriter_bestDistance (l : Launch) (dC : Nat → ClassId) (dI : Nat → Nat → Nat) (cI cL cZ : ClassId) (ro : Nat) (roEa : Nat) (ron : Nat) (roE : Nat → Int32) (roC : Int32) (roO : Bool) (k0 : Int32) (k1 : Int32) (k2 : Int32) (res : Int32) (hd : D_ImageWriter_bestDistance ron k0 k1 k2 roE roC res) : CtrR l y_ImageWriter_bestDistance (Cond.code y_ImageWriter_bestDistance b_ImageWriter_bestDistance 8 (some .int) :: ga) { frames := 2, cells := 0, slots := 0, locals := 45 } (dC, dI) classes (Tys cI cL cZ) [.ref ro, .int k0, .int k1, .int k2] ((sh_Row cI cL cZ ro roEa ron roE roC roO)) (some (.int res)) := by
  refine CtrR.ofW (by decide) (Nat.le_of_ble_eq_true rfl) ?_
  intro p e s m below meth c ls hx hb hr hml hown hlocks hts hK hN hP hD hl
  have hown : s.vm.findClass R_ImageWriter = some m.cls := hown
  have hl : lv_has ls 8 [(0, .ref ro), (1, .int k0), (2, .int k1), (3, .int k2)] := hl
  have key : ∀ n : Nat, (∀ (x1 : Int32) (x2 : Int32) (x3 : Int32) (x4 : Int32) (x5 : Int32) (x6 : Int32) (ls : Array Slot), lv_has ls 8 [(0, .ref ro), (1, .int x1), (2, .int x2), (3, .int x3), (4, .int x4), (5, .int x5), (6, .int x6)] → T_ImageWriter_bestDistance ron roE roC res n x1 x2 x3 x4 x5 x6 → W p l e ({ frames := 2, cells := 0, slots := 0, locals := 45 }) s m ([.ref ro, .int k0, .int k1, .int k2] : List Value).toArray below meth c s.heap [] 0 0 (MQ below (Qr (some (.int res))) ([.ref ro, .int k0, .int k1, .int k2] : List Value).toArray s 0 0 (fun _ => False)) (F0 m 9 ls [])) := by
    intro n
    induction n with
    | zero =>
      exact fun _ _ _ _ _ _ _ _ hd => False.elim hd
    | succ n ih =>
      · intro x1 x2 x3 x4 x5 x6 ls hl hd
        have hd : B_ImageWriter_bestDistance_9 ron roE roC res (T_ImageWriter_bestDistance ron roE roC res n) x1 x2 x3 x4 x5 x6 := hd
        refine lv_iload hx hb d_ImageWriter_bestDistance_9 (lv_at hl 6 rfl) ?_
        refine lv_iload_n hx hb d_ImageWriter_bestDistance_11 rfl (lv_at hl 2 rfl) ?_
        refine lv_iload_n hx hb d_ImageWriter_bestDistance_12 rfl (lv_at hl 1 rfl) ?_
        refine lv_isub hx hb d_ImageWriter_bestDistance_13 ?_
        refine lv_icmp_gt (tgt := 48) hx hb d_ImageWriter_bestDistance_14 (by decide) (fun h14 => ?_) (fun h14 => ?_)
        · have hd := hd.1 h14
          refine lv_iload hx hb d_ImageWriter_bestDistance_48 (lv_at hl 4 rfl) ?_
          have e0 : res = x4 := hd
          subst e0
          exact ct_iretR hx hb hr hlocks d_ImageWriter_bestDistance_50
        · have hd := hd.2 h14
          refine lv_aload_n hx hb d_ImageWriter_bestDistance_17 rfl (lv_at hl 0 rfl) ?_
          refine lv_iload_n hx hb d_ImageWriter_bestDistance_18 rfl (lv_at hl 2 rfl) ?_
          refine lv_iload hx hb d_ImageWriter_bestDistance_19 (lv_at hl 6 rfl) ?_
          refine lv_iload_n hx hb d_ImageWriter_bestDistance_21 rfl (lv_at hl 3 rfl) ?_
          obtain ⟨r22, c22, hd⟩ := hd
          refine ct_SR (As := [.ref ro, .int x2, .int x6, .int x3]) (rest := []) ⟨hx, hb, hml, hown, hts⟩ fm_ImageWriter_alike (c_ImageWriter_alike l dC dI cI cL cZ ro roEa ron roE roC roO x2 x6 x3 r22 c22) k204_methodLink k205_static ⟨Nat.le_of_ble_eq_true rfl, Nat.le_of_ble_eq_true rfl⟩ rfl rfl hK hN hP hD [0, 1] rfl rfl (by decide) rfl hl.1 rfl (Nat.le_of_ble_eq_true rfl) d_ImageWriter_bestDistance_22 ?_
          refine lv_istore (lv' := [(7, .int r22), (0, .ref ro), (1, .int x1), (2, .int x2), (3, .int x3), (4, .int x4), (5, .int x5), (6, .int x6)]) hx hb d_ImageWriter_bestDistance_25 hl (by decide) rfl (fun ls hl => ?_)
          refine lv_iload hx hb d_ImageWriter_bestDistance_27 (lv_at hl 0 rfl) ?_
          refine lv_iload hx hb d_ImageWriter_bestDistance_29 (lv_at hl 6 rfl) ?_
          refine lv_icmp_le (tgt := 42) hx hb d_ImageWriter_bestDistance_31 (by decide) (fun h31 => ?_) (fun h31 => ?_)
          · have hd := hd.1 h31
            refine lv_iinc (k := 7) (v := x6 + 1) (lv' := [(6, .int (x6 + 1)), (7, .int r22), (0, .ref ro), (1, .int x1), (2, .int x2), (3, .int x3), (4, .int x4), (5, .int x5)]) hx hb d_ImageWriter_bestDistance_42 hl rfl (congrArg (fun z => x6 + z) (by decide)) (by decide) rfl (fun ls hl => ?_)
            refine lv_goto (tgt := 9) hx hb d_ImageWriter_bestDistance_45 (by decide) ?_
            exact ih x1 x2 x3 x4 x5 (x6 + 1) _ (lv_sub hl [2, 3, 4, 5, 6, 7, 0] rfl) hd
          · have hd := hd.2 h31
            refine lv_iload hx hb d_ImageWriter_bestDistance_34 (lv_at hl 0 rfl) ?_
            refine lv_istore (lv' := [(5, .int r22), (7, .int r22), (0, .ref ro), (1, .int x1), (2, .int x2), (3, .int x3), (4, .int x4), (6, .int x6)]) hx hb d_ImageWriter_bestDistance_36 hl (by decide) rfl (fun ls hl => ?_)
            refine lv_iload hx hb d_ImageWriter_bestDistance_38 (lv_at hl 7 rfl) ?_
            refine lv_istore (lv' := [(4, .int x6), (5, .int r22), (7, .int r22), (0, .ref ro), (1, .int x1), (2, .int x2), (3, .int x3), (6, .int x6)]) hx hb d_ImageWriter_bestDistance_40 hl (by decide) rfl (fun ls hl => ?_)
            refine lv_iinc (k := 7) (v := x6 + 1) (lv' := [(6, .int (x6 + 1)), (4, .int x6), (5, .int r22), (7, .int r22), (0, .ref ro), (1, .int x1), (2, .int x2), (3, .int x3)]) hx hb d_ImageWriter_bestDistance_42 hl rfl (congrArg (fun z => x6 + z) (by decide)) (by decide) rfl (fun ls hl => ?_)
            refine lv_goto (tgt := 9) hx hb d_ImageWriter_bestDistance_45 (by decide) ?_
            exact ih x1 x2 x3 x6 r22 (x6 + 1) _ (lv_sub hl [4, 5, 6, 7, 1, 2, 0] rfl) hd
  obtain ⟨n, hd⟩ := hd
  refine lv_iconst (v := (-1)) hx hb d_ImageWriter_bestDistance_0 (by decide) ?_
  refine lv_istore (lv' := [(4, .int (-1)), (0, .ref ro), (1, .int k0), (2, .int k1), (3, .int k2)]) hx hb d_ImageWriter_bestDistance_1 hl (by decide) rfl (fun ls hl => ?_)
  refine lv_iconst (v := 2) hx hb d_ImageWriter_bestDistance_3 (by decide) ?_
  refine lv_istore (lv' := [(5, .int 2), (4, .int (-1)), (0, .ref ro), (1, .int k0), (2, .int k1), (3, .int k2)]) hx hb d_ImageWriter_bestDistance_4 hl (by decide) rfl (fun ls hl => ?_)
  refine lv_iconst (v := 1) hx hb d_ImageWriter_bestDistance_6 (by decide) ?_
  refine lv_istore (lv' := [(6, .int 1), (5, .int 2), (4, .int (-1)), (0, .ref ro), (1, .int k0), (2, .int k1), (3, .int k2)]) hx hb d_ImageWriter_bestDistance_7 hl (by decide) rfl (fun ls hl => ?_)
  exact (key n) k0 k1 k2 (-1) 2 1 _ (lv_sub hl [3, 4, 5, 6, 2, 1, 0] rfl) hd
