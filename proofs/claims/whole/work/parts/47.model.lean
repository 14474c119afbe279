/-! 47.model: what each method does, read off its bytecode (D_..), and its contract (c_..); written by a program of mine. -/
-- Model.unpack
abbrev b_Model_unpack : ByteArray := prog_14_method_46_code
def y_Model_unpack : MethodName := ⟨"HelpFileModel", "unpack", "(III)I"⟩
set_option maxRecDepth 100000 in
theorem fm_Model_unpack : Fm y_Model_unpack b_Model_unpack 10 (some .int) 3 := ⟨ga_t 1429 rfl rfl, k479_initialized, by decide, by decide, by decide +kernel⟩
def B_Model_unpack_6 (mo_lengths : Nat → Int32) (mo_imageSize : Int32) (mo_image : Nat → Int32) (res : Int32) (mo_bodies' : Nat → Int32) (mo_unlike' : Bool) (X : Nat → Int32 → Int32 → Int32 → Int32 → Int32 → Int32 → Int32 → Int32 → Int32 → (Nat → Int32) → Bool → Prop) (x1 : Int32) (x2 : Int32) (x3 : Int32) (x4 : Int32) (x5 : Int32) (mo_bodies : Nat → Int32) (mo_unlike : Bool) : Prop := (((x2 + x3) ≤ x4 → X 6 x1 x2 x3 x4 x5 0 0 0 0 mo_bodies mo_unlike) ∧ (¬ ((x2 + x3) ≤ x4) → (((bI mo_unlike) = 0 → (∃ r24 : Int32, ∃ mo_unlike_24 : Bool, D_Model_byteAt x4 mo_imageSize mo_image mo_unlike r24 mo_unlike_24 ∧ ((128 ≤ r24 → X 1 x1 x2 x3 x4 x5 r24 (r24 - 125) 0 0 mo_bodies mo_unlike_24) ∧ (¬ (128 ≤ r24) → X 1 x1 x2 x3 x4 x5 r24 (r24 + 1) 0 0 mo_bodies mo_unlike_24)))) ∧ (¬ ((bI mo_unlike) = 0) → X 6 x1 x2 x3 x4 x5 0 0 0 0 mo_bodies mo_unlike))))
def B_Model_unpack_51 (mo_lengths : Nat → Int32) (mo_imageSize : Int32) (mo_image : Nat → Int32) (res : Int32) (mo_bodies' : Nat → Int32) (mo_unlike' : Bool) (X : Nat → Int32 → Int32 → Int32 → Int32 → Int32 → Int32 → Int32 → Int32 → Int32 → (Nat → Int32) → Bool → Prop) (x1 : Int32) (x2 : Int32) (x3 : Int32) (x4 : Int32) (x5 : Int32) (x6 : Int32) (x7 : Int32) (mo_bodies : Nat → Int32) (mo_unlike : Bool) : Prop := ((128 ≤ x6 → (∃ r68 : Int32, ∃ mo_unlike_68 : Bool, D_Model_byteAt (x4 + 1) mo_imageSize mo_image mo_unlike r68 mo_unlike_68 ∧ X 2 x1 x2 x3 x4 x5 x6 x7 r68 0 mo_bodies mo_unlike_68)) ∧ (¬ (128 ≤ x6) → X 2 x1 x2 x3 x4 x5 x6 x7 0 0 mo_bodies mo_unlike))
def B_Model_unpack_73 (mo_lengths : Nat → Int32) (mo_imageSize : Int32) (mo_image : Nat → Int32) (res : Int32) (mo_bodies' : Nat → Int32) (mo_unlike' : Bool) (X : Nat → Int32 → Int32 → Int32 → Int32 → Int32 → Int32 → Int32 → Int32 → Int32 → (Nat → Int32) → Bool → Prop) (x1 : Int32) (x2 : Int32) (x3 : Int32) (x4 : Int32) (x5 : Int32) (x6 : Int32) (x7 : Int32) (x8 : Int32) (mo_bodies : Nat → Int32) (mo_unlike : Bool) : Prop := (((bI mo_unlike) = 0 → (vp_in x1 10 ∧ (((mo_lengths (Int32.toNatClampNeg x1)) < (x5 + x7) → X 3 x1 x2 x3 x4 x5 x6 x7 x8 0 mo_bodies true) ∧ (¬ ((mo_lengths (Int32.toNatClampNeg x1)) < (x5 + x7)) → ((188 < x6 → X 3 x1 x2 x3 x4 x5 x6 x7 x8 0 mo_bodies true) ∧ (¬ (188 < x6) → ((x6 ≤ 127 → X 3 x1 x2 x3 x4 x5 x6 x7 x8 0 mo_bodies false) ∧ (¬ (x6 ≤ 127) → ((x8 = 0 → X 3 x1 x2 x3 x4 x5 x6 x7 x8 0 mo_bodies true) ∧ (¬ (x8 = 0) → ((x8 ≤ x5 → X 3 x1 x2 x3 x4 x5 x6 x7 x8 0 mo_bodies false) ∧ (¬ (x8 ≤ x5) → X 3 x1 x2 x3 x4 x5 x6 x7 x8 0 mo_bodies true)))))))))))) ∧ (¬ ((bI mo_unlike) = 0) → X 3 x1 x2 x3 x4 x5 x6 x7 x8 0 mo_bodies true))
def B_Model_unpack_130 (mo_lengths : Nat → Int32) (mo_imageSize : Int32) (mo_image : Nat → Int32) (res : Int32) (mo_bodies' : Nat → Int32) (mo_unlike' : Bool) (X : Nat → Int32 → Int32 → Int32 → Int32 → Int32 → Int32 → Int32 → Int32 → Int32 → (Nat → Int32) → Bool → Prop) (x1 : Int32) (x2 : Int32) (x3 : Int32) (x4 : Int32) (x5 : Int32) (x6 : Int32) (x7 : Int32) (x8 : Int32) (mo_bodies : Nat → Int32) (mo_unlike : Bool) : Prop := X 4 x1 x2 x3 x4 x5 x6 x7 x8 0 mo_bodies mo_unlike
def B_Model_unpack_133 (mo_lengths : Nat → Int32) (mo_imageSize : Int32) (mo_image : Nat → Int32) (res : Int32) (mo_bodies' : Nat → Int32) (mo_unlike' : Bool) (X : Nat → Int32 → Int32 → Int32 → Int32 → Int32 → Int32 → Int32 → Int32 → Int32 → (Nat → Int32) → Bool → Prop) (x1 : Int32) (x2 : Int32) (x3 : Int32) (x4 : Int32) (x5 : Int32) (x6 : Int32) (x7 : Int32) (x8 : Int32) (x9 : Int32) (mo_bodies : Nat → Int32) (mo_unlike : Bool) : Prop := ((x7 ≤ x9 → X 5 x1 x2 x3 x4 x5 x6 x7 0 0 mo_bodies mo_unlike) ∧ (¬ (x7 ≤ x9) → (((bI mo_unlike) = 0 → ((128 ≤ x6 → (vp_in (((255 * x1) + x5) - x8) 2550 ∧ (vp_in ((255 * x1) + x5) 2550 ∧ X 4 x1 x2 x3 x4 (x5 + 1) x6 x7 x8 (x9 + 1) (upd mo_bodies (Int32.toNatClampNeg ((255 * x1) + x5)) (mo_bodies (Int32.toNatClampNeg (((255 * x1) + x5) - x8)))) mo_unlike))) ∧ (¬ (128 ≤ x6) → (∃ r175 : Int32, ∃ mo_unlike_175 : Bool, D_Model_byteAt ((x4 + 1) + x9) mo_imageSize mo_image mo_unlike r175 mo_unlike_175 ∧ (vp_in ((255 * x1) + x5) 2550 ∧ X 4 x1 x2 x3 x4 (x5 + 1) x6 x7 x8 (x9 + 1) (upd mo_bodies (Int32.toNatClampNeg ((255 * x1) + x5)) r175) mo_unlike_175))))) ∧ (¬ ((bI mo_unlike) = 0) → X 5 x1 x2 x3 x4 x5 x6 x7 0 0 mo_bodies mo_unlike))))
def B_Model_unpack_207 (mo_lengths : Nat → Int32) (mo_imageSize : Int32) (mo_image : Nat → Int32) (res : Int32) (mo_bodies' : Nat → Int32) (mo_unlike' : Bool) (X : Nat → Int32 → Int32 → Int32 → Int32 → Int32 → Int32 → Int32 → Int32 → Int32 → (Nat → Int32) → Bool → Prop) (x1 : Int32) (x2 : Int32) (x3 : Int32) (x4 : Int32) (x5 : Int32) (x6 : Int32) (x7 : Int32) (mo_bodies : Nat → Int32) (mo_unlike : Bool) : Prop := ((128 ≤ x6 → X 0 x1 x2 x3 (x4 + 2) x5 0 0 0 0 mo_bodies mo_unlike) ∧ (¬ (128 ≤ x6) → X 0 x1 x2 x3 ((x4 + 1) + x7) x5 0 0 0 0 mo_bodies mo_unlike))
def B_Model_unpack_234 (mo_lengths : Nat → Int32) (mo_imageSize : Int32) (mo_image : Nat → Int32) (res : Int32) (mo_bodies' : Nat → Int32) (mo_unlike' : Bool) (X : Nat → Int32 → Int32 → Int32 → Int32 → Int32 → Int32 → Int32 → Int32 → Int32 → (Nat → Int32) → Bool → Prop) (x1 : Int32) (x2 : Int32) (x3 : Int32) (x4 : Int32) (x5 : Int32) (mo_bodies : Nat → Int32) (mo_unlike : Bool) : Prop := (((bI mo_unlike) = 0 → (vp_in x1 10 ∧ ((x5 = (mo_lengths (Int32.toNatClampNeg x1)) → ((x4 = (x2 + x3) → (res = x4 ∧ mo_bodies' = mo_bodies ∧ mo_unlike' = false)) ∧ (¬ (x4 = (x2 + x3)) → (res = x4 ∧ mo_bodies' = mo_bodies ∧ mo_unlike' = true)))) ∧ (¬ (x5 = (mo_lengths (Int32.toNatClampNeg x1))) → (res = x4 ∧ mo_bodies' = mo_bodies ∧ mo_unlike' = true))))) ∧ (¬ ((bI mo_unlike) = 0) → (res = x4 ∧ mo_bodies' = mo_bodies ∧ mo_unlike' = true)))
def S_Model_unpack (mo_lengths : Nat → Int32) (mo_imageSize : Int32) (mo_image : Nat → Int32) (res : Int32) (mo_bodies' : Nat → Int32) (mo_unlike' : Bool) (X : Nat → Int32 → Int32 → Int32 → Int32 → Int32 → Int32 → Int32 → Int32 → Int32 → (Nat → Int32) → Bool → Prop) : Nat → Int32 → Int32 → Int32 → Int32 → Int32 → Int32 → Int32 → Int32 → Int32 → (Nat → Int32) → Bool → Prop := fun q_lab x1 x2 x3 x4 x5 x6 x7 x8 x9 mo_bodies mo_unlike => match q_lab with | 0 => B_Model_unpack_6 mo_lengths mo_imageSize mo_image res mo_bodies' mo_unlike' X x1 x2 x3 x4 x5 mo_bodies mo_unlike | 1 => B_Model_unpack_51 mo_lengths mo_imageSize mo_image res mo_bodies' mo_unlike' X x1 x2 x3 x4 x5 x6 x7 mo_bodies mo_unlike | 2 => B_Model_unpack_73 mo_lengths mo_imageSize mo_image res mo_bodies' mo_unlike' X x1 x2 x3 x4 x5 x6 x7 x8 mo_bodies mo_unlike | 3 => B_Model_unpack_130 mo_lengths mo_imageSize mo_image res mo_bodies' mo_unlike' X x1 x2 x3 x4 x5 x6 x7 x8 mo_bodies mo_unlike | 4 => B_Model_unpack_133 mo_lengths mo_imageSize mo_image res mo_bodies' mo_unlike' X x1 x2 x3 x4 x5 x6 x7 x8 x9 mo_bodies mo_unlike | 5 => B_Model_unpack_207 mo_lengths mo_imageSize mo_image res mo_bodies' mo_unlike' X x1 x2 x3 x4 x5 x6 x7 mo_bodies mo_unlike | 6 => B_Model_unpack_234 mo_lengths mo_imageSize mo_image res mo_bodies' mo_unlike' X x1 x2 x3 x4 x5 mo_bodies mo_unlike | _ => False
def T_Model_unpack (mo_lengths : Nat → Int32) (mo_imageSize : Int32) (mo_image : Nat → Int32) (res : Int32) (mo_bodies' : Nat → Int32) (mo_unlike' : Bool) : Nat → (Nat → Int32 → Int32 → Int32 → Int32 → Int32 → Int32 → Int32 → Int32 → Int32 → (Nat → Int32) → Bool → Prop)
  | 0 => fun _ _ _ _ _ _ _ _ _ _ _ _ => False
  | n + 1 => S_Model_unpack mo_lengths mo_imageSize mo_image res mo_bodies' mo_unlike' (T_Model_unpack mo_lengths mo_imageSize mo_image res mo_bodies' mo_unlike' n)
def D_Model_unpack (k0 : Int32) (k1 : Int32) (k2 : Int32) (mo_bodies : Nat → Int32) (mo_lengths : Nat → Int32) (mo_imageSize : Int32) (mo_image : Nat → Int32) (mo_unlike : Bool) (res : Int32) (mo_bodies' : Nat → Int32) (mo_unlike' : Bool) : Prop := ∃ n : Nat, T_Model_unpack mo_lengths mo_imageSize mo_image res mo_bodies' mo_unlike' n 0 k0 k1 k2 k1 0 0 0 0 0 mo_bodies mo_unlike
theorem d_Model_unpack_0 : decode b_Model_unpack 0 = .ok (.iload_n 2, 1) := by decide +kernel
theorem d_Model_unpack_1 : decode b_Model_unpack 1 = .ok (.istore 4, 2) := by decide +kernel
theorem d_Model_unpack_3 : decode b_Model_unpack 3 = .ok (.iconst 0, 1) := by decide +kernel
theorem d_Model_unpack_4 : decode b_Model_unpack 4 = .ok (.istore 5, 2) := by decide +kernel
theorem d_Model_unpack_6 : decode b_Model_unpack 6 = .ok (.iload 4, 2) := by decide +kernel
theorem d_Model_unpack_8 : decode b_Model_unpack 8 = .ok (.iload_n 2, 1) := by decide +kernel
theorem d_Model_unpack_9 : decode b_Model_unpack 9 = .ok (.iload_n 3, 1) := by decide +kernel
theorem d_Model_unpack_10 : decode b_Model_unpack 10 = .ok (.iadd, 1) := by decide +kernel
theorem d_Model_unpack_11 : decode b_Model_unpack 11 = .ok (.if_icmp .ge 223, 3) := by decide +kernel
theorem d_Model_unpack_14 : decode b_Model_unpack 14 = .ok (.aload_n 0, 1) := by decide +kernel
theorem d_Model_unpack_15 : decode b_Model_unpack 15 = .ok (.getfield 239, 3) := by decide +kernel
theorem d_Model_unpack_18 : decode b_Model_unpack 18 = .ok (.ifCond .ne 216, 3) := by decide +kernel
theorem d_Model_unpack_21 : decode b_Model_unpack 21 = .ok (.aload_n 0, 1) := by decide +kernel
theorem d_Model_unpack_22 : decode b_Model_unpack 22 = .ok (.iload 4, 2) := by decide +kernel
theorem d_Model_unpack_24 : decode b_Model_unpack 24 = .ok (.invokevirtual 297, 3) := by decide +kernel
theorem d_Model_unpack_27 : decode b_Model_unpack 27 = .ok (.istore 6, 2) := by decide +kernel
theorem d_Model_unpack_29 : decode b_Model_unpack 29 = .ok (.iload 6, 2) := by decide +kernel
theorem d_Model_unpack_31 : decode b_Model_unpack 31 = .ok (.sipush 128, 3) := by decide +kernel
theorem d_Model_unpack_34 : decode b_Model_unpack 34 = .ok (.if_icmp .ge 10, 3) := by decide +kernel
theorem d_Model_unpack_37 : decode b_Model_unpack 37 = .ok (.iload 6, 2) := by decide +kernel
theorem d_Model_unpack_39 : decode b_Model_unpack 39 = .ok (.iconst 1, 1) := by decide +kernel
theorem d_Model_unpack_40 : decode b_Model_unpack 40 = .ok (.iadd, 1) := by decide +kernel
theorem d_Model_unpack_41 : decode b_Model_unpack 41 = .ok (.goto 8, 3) := by decide +kernel
theorem d_Model_unpack_44 : decode b_Model_unpack 44 = .ok (.iload 6, 2) := by decide +kernel
theorem d_Model_unpack_46 : decode b_Model_unpack 46 = .ok (.bipush 125, 2) := by decide +kernel
theorem d_Model_unpack_48 : decode b_Model_unpack 48 = .ok (.isub, 1) := by decide +kernel
theorem d_Model_unpack_49 : decode b_Model_unpack 49 = .ok (.istore 7, 2) := by decide +kernel
theorem d_Model_unpack_51 : decode b_Model_unpack 51 = .ok (.iload 6, 2) := by decide +kernel
theorem d_Model_unpack_53 : decode b_Model_unpack 53 = .ok (.sipush 128, 3) := by decide +kernel
theorem d_Model_unpack_56 : decode b_Model_unpack 56 = .ok (.if_icmp .ge 7, 3) := by decide +kernel
theorem d_Model_unpack_59 : decode b_Model_unpack 59 = .ok (.iconst 0, 1) := by decide +kernel
theorem d_Model_unpack_60 : decode b_Model_unpack 60 = .ok (.goto 11, 3) := by decide +kernel
theorem d_Model_unpack_63 : decode b_Model_unpack 63 = .ok (.aload_n 0, 1) := by decide +kernel
theorem d_Model_unpack_64 : decode b_Model_unpack 64 = .ok (.iload 4, 2) := by decide +kernel
theorem d_Model_unpack_66 : decode b_Model_unpack 66 = .ok (.iconst 1, 1) := by decide +kernel
theorem d_Model_unpack_67 : decode b_Model_unpack 67 = .ok (.iadd, 1) := by decide +kernel
theorem d_Model_unpack_68 : decode b_Model_unpack 68 = .ok (.invokevirtual 297, 3) := by decide +kernel
theorem d_Model_unpack_71 : decode b_Model_unpack 71 = .ok (.istore 8, 2) := by decide +kernel
theorem d_Model_unpack_73 : decode b_Model_unpack 73 = .ok (.aload_n 0, 1) := by decide +kernel
theorem d_Model_unpack_74 : decode b_Model_unpack 74 = .ok (.aload_n 0, 1) := by decide +kernel
theorem d_Model_unpack_75 : decode b_Model_unpack 75 = .ok (.getfield 239, 3) := by decide +kernel
theorem d_Model_unpack_78 : decode b_Model_unpack 78 = .ok (.ifCond .ne 44, 3) := by decide +kernel
theorem d_Model_unpack_81 : decode b_Model_unpack 81 = .ok (.iload 5, 2) := by decide +kernel
theorem d_Model_unpack_83 : decode b_Model_unpack 83 = .ok (.iload 7, 2) := by decide +kernel
theorem d_Model_unpack_85 : decode b_Model_unpack 85 = .ok (.iadd, 1) := by decide +kernel
theorem d_Model_unpack_86 : decode b_Model_unpack 86 = .ok (.aload_n 0, 1) := by decide +kernel
theorem d_Model_unpack_87 : decode b_Model_unpack 87 = .ok (.getfield 23, 3) := by decide +kernel
theorem d_Model_unpack_90 : decode b_Model_unpack 90 = .ok (.iload_n 1, 1) := by decide +kernel
theorem d_Model_unpack_91 : decode b_Model_unpack 91 = .ok (.iaload, 1) := by decide +kernel
theorem d_Model_unpack_92 : decode b_Model_unpack 92 = .ok (.if_icmp .gt 30, 3) := by decide +kernel
theorem d_Model_unpack_95 : decode b_Model_unpack 95 = .ok (.iload 6, 2) := by decide +kernel
theorem d_Model_unpack_97 : decode b_Model_unpack 97 = .ok (.sipush 188, 3) := by decide +kernel
theorem d_Model_unpack_100 : decode b_Model_unpack 100 = .ok (.if_icmp .gt 22, 3) := by decide +kernel
theorem d_Model_unpack_103 : decode b_Model_unpack 103 = .ok (.iload 6, 2) := by decide +kernel
theorem d_Model_unpack_105 : decode b_Model_unpack 105 = .ok (.bipush 127, 2) := by decide +kernel
theorem d_Model_unpack_107 : decode b_Model_unpack 107 = .ok (.if_icmp .le 19, 3) := by decide +kernel
theorem d_Model_unpack_110 : decode b_Model_unpack 110 = .ok (.iload 8, 2) := by decide +kernel
theorem d_Model_unpack_112 : decode b_Model_unpack 112 = .ok (.ifCond .eq 10, 3) := by decide +kernel
theorem d_Model_unpack_115 : decode b_Model_unpack 115 = .ok (.iload 8, 2) := by decide +kernel
theorem d_Model_unpack_117 : decode b_Model_unpack 117 = .ok (.iload 5, 2) := by decide +kernel
theorem d_Model_unpack_119 : decode b_Model_unpack 119 = .ok (.if_icmp .le 7, 3) := by decide +kernel
theorem d_Model_unpack_122 : decode b_Model_unpack 122 = .ok (.iconst 1, 1) := by decide +kernel
theorem d_Model_unpack_123 : decode b_Model_unpack 123 = .ok (.goto 4, 3) := by decide +kernel
theorem d_Model_unpack_126 : decode b_Model_unpack 126 = .ok (.iconst 0, 1) := by decide +kernel
theorem d_Model_unpack_127 : decode b_Model_unpack 127 = .ok (.putfield 239, 3) := by decide +kernel
theorem d_Model_unpack_130 : decode b_Model_unpack 130 = .ok (.iconst 0, 1) := by decide +kernel
theorem d_Model_unpack_131 : decode b_Model_unpack 131 = .ok (.istore 9, 2) := by decide +kernel
theorem d_Model_unpack_133 : decode b_Model_unpack 133 = .ok (.iload 9, 2) := by decide +kernel
theorem d_Model_unpack_135 : decode b_Model_unpack 135 = .ok (.iload 7, 2) := by decide +kernel
theorem d_Model_unpack_137 : decode b_Model_unpack 137 = .ok (.if_icmp .ge 70, 3) := by decide +kernel
theorem d_Model_unpack_140 : decode b_Model_unpack 140 = .ok (.aload_n 0, 1) := by decide +kernel
theorem d_Model_unpack_141 : decode b_Model_unpack 141 = .ok (.getfield 239, 3) := by decide +kernel
theorem d_Model_unpack_144 : decode b_Model_unpack 144 = .ok (.ifCond .ne 63, 3) := by decide +kernel
theorem d_Model_unpack_147 : decode b_Model_unpack 147 = .ok (.aload_n 0, 1) := by decide +kernel
theorem d_Model_unpack_148 : decode b_Model_unpack 148 = .ok (.getfield 20, 3) := by decide +kernel
theorem d_Model_unpack_151 : decode b_Model_unpack 151 = .ok (.sipush 255, 3) := by decide +kernel
theorem d_Model_unpack_154 : decode b_Model_unpack 154 = .ok (.iload_n 1, 1) := by decide +kernel
theorem d_Model_unpack_155 : decode b_Model_unpack 155 = .ok (.imul, 1) := by decide +kernel
theorem d_Model_unpack_156 : decode b_Model_unpack 156 = .ok (.iload 5, 2) := by decide +kernel
theorem d_Model_unpack_158 : decode b_Model_unpack 158 = .ok (.iadd, 1) := by decide +kernel
theorem d_Model_unpack_159 : decode b_Model_unpack 159 = .ok (.iload 6, 2) := by decide +kernel
theorem d_Model_unpack_161 : decode b_Model_unpack 161 = .ok (.sipush 128, 3) := by decide +kernel
theorem d_Model_unpack_164 : decode b_Model_unpack 164 = .ok (.if_icmp .ge 17, 3) := by decide +kernel
theorem d_Model_unpack_167 : decode b_Model_unpack 167 = .ok (.aload_n 0, 1) := by decide +kernel
theorem d_Model_unpack_168 : decode b_Model_unpack 168 = .ok (.iload 4, 2) := by decide +kernel
theorem d_Model_unpack_170 : decode b_Model_unpack 170 = .ok (.iconst 1, 1) := by decide +kernel
theorem d_Model_unpack_171 : decode b_Model_unpack 171 = .ok (.iadd, 1) := by decide +kernel
theorem d_Model_unpack_172 : decode b_Model_unpack 172 = .ok (.iload 9, 2) := by decide +kernel
theorem d_Model_unpack_174 : decode b_Model_unpack 174 = .ok (.iadd, 1) := by decide +kernel
theorem d_Model_unpack_175 : decode b_Model_unpack 175 = .ok (.invokevirtual 297, 3) := by decide +kernel
theorem d_Model_unpack_178 : decode b_Model_unpack 178 = .ok (.goto 19, 3) := by decide +kernel
theorem d_Model_unpack_181 : decode b_Model_unpack 181 = .ok (.aload_n 0, 1) := by decide +kernel
theorem d_Model_unpack_182 : decode b_Model_unpack 182 = .ok (.getfield 20, 3) := by decide +kernel
theorem d_Model_unpack_185 : decode b_Model_unpack 185 = .ok (.sipush 255, 3) := by decide +kernel
theorem d_Model_unpack_188 : decode b_Model_unpack 188 = .ok (.iload_n 1, 1) := by decide +kernel
theorem d_Model_unpack_189 : decode b_Model_unpack 189 = .ok (.imul, 1) := by decide +kernel
theorem d_Model_unpack_190 : decode b_Model_unpack 190 = .ok (.iload 5, 2) := by decide +kernel
theorem d_Model_unpack_192 : decode b_Model_unpack 192 = .ok (.iadd, 1) := by decide +kernel
theorem d_Model_unpack_193 : decode b_Model_unpack 193 = .ok (.iload 8, 2) := by decide +kernel
theorem d_Model_unpack_195 : decode b_Model_unpack 195 = .ok (.isub, 1) := by decide +kernel
theorem d_Model_unpack_196 : decode b_Model_unpack 196 = .ok (.iaload, 1) := by decide +kernel
theorem d_Model_unpack_197 : decode b_Model_unpack 197 = .ok (.iastore, 1) := by decide +kernel
theorem d_Model_unpack_198 : decode b_Model_unpack 198 = .ok (.iinc 5 1, 3) := by decide +kernel
theorem d_Model_unpack_201 : decode b_Model_unpack 201 = .ok (.iinc 9 1, 3) := by decide +kernel
theorem d_Model_unpack_204 : decode b_Model_unpack 204 = .ok (.goto (-71), 3) := by decide +kernel
theorem d_Model_unpack_207 : decode b_Model_unpack 207 = .ok (.iload 6, 2) := by decide +kernel
theorem d_Model_unpack_209 : decode b_Model_unpack 209 = .ok (.sipush 128, 3) := by decide +kernel
theorem d_Model_unpack_212 : decode b_Model_unpack 212 = .ok (.if_icmp .ge 13, 3) := by decide +kernel
theorem d_Model_unpack_215 : decode b_Model_unpack 215 = .ok (.iload 4, 2) := by decide +kernel
theorem d_Model_unpack_217 : decode b_Model_unpack 217 = .ok (.iconst 1, 1) := by decide +kernel
theorem d_Model_unpack_218 : decode b_Model_unpack 218 = .ok (.iadd, 1) := by decide +kernel
theorem d_Model_unpack_219 : decode b_Model_unpack 219 = .ok (.iload 7, 2) := by decide +kernel
theorem d_Model_unpack_221 : decode b_Model_unpack 221 = .ok (.iadd, 1) := by decide +kernel
theorem d_Model_unpack_222 : decode b_Model_unpack 222 = .ok (.goto 7, 3) := by decide +kernel
theorem d_Model_unpack_225 : decode b_Model_unpack 225 = .ok (.iload 4, 2) := by decide +kernel
theorem d_Model_unpack_227 : decode b_Model_unpack 227 = .ok (.iconst 2, 1) := by decide +kernel
theorem d_Model_unpack_228 : decode b_Model_unpack 228 = .ok (.iadd, 1) := by decide +kernel
theorem d_Model_unpack_229 : decode b_Model_unpack 229 = .ok (.istore 4, 2) := by decide +kernel
theorem d_Model_unpack_231 : decode b_Model_unpack 231 = .ok (.goto (-225), 3) := by decide +kernel
theorem d_Model_unpack_234 : decode b_Model_unpack 234 = .ok (.aload_n 0, 1) := by decide +kernel
theorem d_Model_unpack_235 : decode b_Model_unpack 235 = .ok (.aload_n 0, 1) := by decide +kernel
theorem d_Model_unpack_236 : decode b_Model_unpack 236 = .ok (.getfield 239, 3) := by decide +kernel
theorem d_Model_unpack_239 : decode b_Model_unpack 239 = .ok (.ifCond .ne 22, 3) := by decide +kernel
theorem d_Model_unpack_242 : decode b_Model_unpack 242 = .ok (.iload 5, 2) := by decide +kernel
theorem d_Model_unpack_244 : decode b_Model_unpack 244 = .ok (.aload_n 0, 1) := by decide +kernel
theorem d_Model_unpack_245 : decode b_Model_unpack 245 = .ok (.getfield 23, 3) := by decide +kernel
theorem d_Model_unpack_248 : decode b_Model_unpack 248 = .ok (.iload_n 1, 1) := by decide +kernel
theorem d_Model_unpack_249 : decode b_Model_unpack 249 = .ok (.iaload, 1) := by decide +kernel
theorem d_Model_unpack_250 : decode b_Model_unpack 250 = .ok (.if_icmp .ne 11, 3) := by decide +kernel
theorem d_Model_unpack_253 : decode b_Model_unpack 253 = .ok (.iload 4, 2) := by decide +kernel
theorem d_Model_unpack_255 : decode b_Model_unpack 255 = .ok (.iload_n 2, 1) := by decide +kernel
theorem d_Model_unpack_256 : decode b_Model_unpack 256 = .ok (.iload_n 3, 1) := by decide +kernel
theorem d_Model_unpack_257 : decode b_Model_unpack 257 = .ok (.iadd, 1) := by decide +kernel
theorem d_Model_unpack_258 : decode b_Model_unpack 258 = .ok (.if_icmp .eq 7, 3) := by decide +kernel
theorem d_Model_unpack_261 : decode b_Model_unpack 261 = .ok (.iconst 1, 1) := by decide +kernel
theorem d_Model_unpack_262 : decode b_Model_unpack 262 = .ok (.goto 4, 3) := by decide +kernel
theorem d_Model_unpack_265 : decode b_Model_unpack 265 = .ok (.iconst 0, 1) := by decide +kernel
theorem d_Model_unpack_266 : decode b_Model_unpack 266 = .ok (.putfield 239, 3) := by decide +kernel
theorem d_Model_unpack_269 : decode b_Model_unpack 269 = .ok (.iload 4, 2) := by decide +kernel
theorem d_Model_unpack_271 : decode b_Model_unpack 271 = .ok (.ireturn, 1) := by decide +kernel
set_option maxHeartbeats 4000000 in
set_option maxRecDepth 100000 in
theorem c_Model_unpack (l : Launch) (dC : Nat → ClassId) (dI : Nat → Nat → Nat) (cI cL cZ : ClassId) (mo : Nat) (mo_thrown : Int32) (mo_sourcea : Nat) (mo_source : Nat → Int32) (mo_size : Int32) (mo_faultLine : Int32) (mo_fault : Int32) (mo_topics : Int32) (mo_namesa : Nat) (mo_names : Nat → Int32) (mo_bodiesa : Nat) (mo_bodies : Nat → Int32) (mo_lengthsa : Nat) (mo_lengths : Nat → Int32) (mo_headingsa : Nat) (mo_headings : Nat → Int32) (mo_keywords : Int32) (mo_keyLettersa : Nat) (mo_keyLetters : Nat → Int32) (mo_keyLengthsa : Nat) (mo_keyLengths : Nat → Int32) (mo_keyBitsa : Nat) (mo_keyBits : Nat → Int32) (mo_words : Int32) (mo_wordLettersa : Nat) (mo_wordLetters : Nat → Int32) (mo_wordLengthsa : Nat) (mo_wordLengths : Nat → Int32) (mo_wordBitsa : Nat) (mo_wordBits : Nat → Int32) (mo_links : Int32) (mo_linkAta : Nat) (mo_linkAt : Nat → Int32) (mo_linkLengtha : Nat) (mo_linkLength : Nat → Int32) (mo_linkLinea : Nat) (mo_linkLine : Nat → Int32) (mo_linkToa : Nat) (mo_linkTo : Nat → Int32) (mo_inParagraph : Bool) (mo_emphasis : Bool) (mo_blank : Bool) (mo_lastLine : Int32) (mo_imageSize : Int32) (mo_imagea : Nat) (mo_image : Nat → Int32) (mo_compares : Bool) (mo_unlike : Bool) (mo_out : Int32) (mo_total : Int32) (mo_literal : Int32) (mo_handLength : Int32) (mo_handa : Nat) (mo_hand : Nat → Int32) (mo_isOpen : Bool) (mo_seenTopics : Int32) (mo_seenNamesa : Nat) (mo_seenNames : Nat → Int32) (mo_seenBodiesa : Nat) (mo_seenBodies : Nat → Int32) (mo_seenLengthsa : Nat) (mo_seenLengths : Nat → Int32) (mo_seenKeywords : Int32) (mo_seenKeyLettersa : Nat) (mo_seenKeyLetters : Nat → Int32) (mo_seenKeyLengthsa : Nat) (mo_seenKeyLengths : Nat → Int32) (mo_seenKeyBitsa : Nat) (mo_seenKeyBits : Nat → Int32) (mo_seenWords : Int32) (mo_seenWordLettersa : Nat) (mo_seenWordLetters : Nat → Int32) (mo_seenWordLengthsa : Nat) (mo_seenWordLengths : Nat → Int32) (mo_seenWordBitsa : Nat) (mo_seenWordBits : Nat → Int32) (mo_topic : Int32) (mo_backs : Int32) (mo_backa : Nat) (mo_back : Nat → Int32) (mo_forwards : Int32) (mo_forwarda : Nat) (mo_forward : Nat → Int32) (mo_typed : Int32) (mo_querya : Nat) (mo_query : Nat → Int32) (mo_visits : Int32) (mo_valuesa : Nat) (mo_values : Nat → Int32) (mo_valued : Int32) (mo_signsa : Nat) (mo_signs : Nat → Int32) (mo_signed : Int32) (mo_width : Int32) (mo_lines : Int32) (mo_lineFroma : Nat) (mo_lineFrom : Nat → Int32) (mo_lineSizea : Nat) (mo_lineSize : Nat → Int32) (mo_shown : Int32) (mo_texta : Nat) (mo_text : Nat → Int32) (mo_partLength : Int32) (mo_parta : Nat) (mo_part : Nat → Int32) (k0 : Int32) (k1 : Int32) (k2 : Int32) (res : Int32) (mo_bodies' : Nat → Int32) (mo_unlike' : Bool) (hd : D_Model_unpack k0 k1 k2 mo_bodies mo_lengths mo_imageSize mo_image mo_unlike res mo_bodies' mo_unlike') : Ctr l y_Model_unpack (Cond.code y_Model_unpack b_Model_unpack 10 (some .int) :: ga) { frames := 1, cells := 0, slots := 0, locals := 21 } (dC, dI) classes (Tys cI cL cZ) [.ref mo, .int k0, .int k1, .int k2] ((sh_Model cI cL cZ mo mo_thrown mo_sourcea mo_source mo_size mo_faultLine mo_fault mo_topics mo_namesa mo_names mo_bodiesa mo_bodies mo_lengthsa mo_lengths mo_headingsa mo_headings mo_keywords mo_keyLettersa mo_keyLetters mo_keyLengthsa mo_keyLengths mo_keyBitsa mo_keyBits mo_words mo_wordLettersa mo_wordLetters mo_wordLengthsa mo_wordLengths mo_wordBitsa mo_wordBits mo_links mo_linkAta mo_linkAt mo_linkLengtha mo_linkLength mo_linkLinea mo_linkLine mo_linkToa mo_linkTo mo_inParagraph mo_emphasis mo_blank mo_lastLine mo_imageSize mo_imagea mo_image mo_compares mo_unlike mo_out mo_total mo_literal mo_handLength mo_handa mo_hand mo_isOpen mo_seenTopics mo_seenNamesa mo_seenNames mo_seenBodiesa mo_seenBodies mo_seenLengthsa mo_seenLengths mo_seenKeywords mo_seenKeyLettersa mo_seenKeyLetters mo_seenKeyLengthsa mo_seenKeyLengths mo_seenKeyBitsa mo_seenKeyBits mo_seenWords mo_seenWordLettersa mo_seenWordLetters mo_seenWordLengthsa mo_seenWordLengths mo_seenWordBitsa mo_seenWordBits mo_topic mo_backs mo_backa mo_back mo_forwards mo_forwarda mo_forward mo_typed mo_querya mo_query mo_visits mo_valuesa mo_values mo_valued mo_signsa mo_signs mo_signed mo_width mo_lines mo_lineFroma mo_lineFrom mo_lineSizea mo_lineSize mo_shown mo_texta mo_text mo_partLength mo_parta mo_part)) (some (.int res)) ((sh_Model cI cL cZ mo mo_thrown mo_sourcea mo_source mo_size mo_faultLine mo_fault mo_topics mo_namesa mo_names mo_bodiesa mo_bodies' mo_lengthsa mo_lengths mo_headingsa mo_headings mo_keywords mo_keyLettersa mo_keyLetters mo_keyLengthsa mo_keyLengths mo_keyBitsa mo_keyBits mo_words mo_wordLettersa mo_wordLetters mo_wordLengthsa mo_wordLengths mo_wordBitsa mo_wordBits mo_links mo_linkAta mo_linkAt mo_linkLengtha mo_linkLength mo_linkLinea mo_linkLine mo_linkToa mo_linkTo mo_inParagraph mo_emphasis mo_blank mo_lastLine mo_imageSize mo_imagea mo_image mo_compares mo_unlike' mo_out mo_total mo_literal mo_handLength mo_handa mo_hand mo_isOpen mo_seenTopics mo_seenNamesa mo_seenNames mo_seenBodiesa mo_seenBodies mo_seenLengthsa mo_seenLengths mo_seenKeywords mo_seenKeyLettersa mo_seenKeyLetters mo_seenKeyLengthsa mo_seenKeyLengths mo_seenKeyBitsa mo_seenKeyBits mo_seenWords mo_seenWordLettersa mo_seenWordLetters mo_seenWordLengthsa mo_seenWordLengths mo_seenWordBitsa mo_seenWordBits mo_topic mo_backs mo_backa mo_back mo_forwards mo_forwarda mo_forward mo_typed mo_querya mo_query mo_visits mo_valuesa mo_values mo_valued mo_signsa mo_signs mo_signed mo_width mo_lines mo_lineFroma mo_lineFrom mo_lineSizea mo_lineSize mo_shown mo_texta mo_text mo_partLength mo_parta mo_part)) := by
  refine Ctr.ofW (by decide) (Nat.le_of_ble_eq_true rfl) ?_
  intro p e s m below meth c A ls hx hb hr hml hown hlocks hts hK hN hA hP hD hS hl
  have hown : s.vm.findClass R_Model = some m.cls := hown
  have hl : lv_has ls 10 [(0, .ref mo), (1, .int k0), (2, .int k1), (3, .int k2)] := hl
  have key : ∀ n : Nat, (∀ (x1 : Int32) (x2 : Int32) (x3 : Int32) (x4 : Int32) (x5 : Int32) (mo_bodies : Nat → Int32) (mo_unlike : Bool) (ls : Array Slot) (H : Heap) (locs : List Loc), lv_has ls 10 [(0, .ref mo), (1, .int x1), (2, .int x2), (3, .int x3), (4, .int x4), (5, .int x5)] → va_P (dC, dI) classes ((sh_Model cI cL cZ mo mo_thrown mo_sourcea mo_source mo_size mo_faultLine mo_fault mo_topics mo_namesa mo_names mo_bodiesa mo_bodies mo_lengthsa mo_lengths mo_headingsa mo_headings mo_keywords mo_keyLettersa mo_keyLetters mo_keyLengthsa mo_keyLengths mo_keyBitsa mo_keyBits mo_words mo_wordLettersa mo_wordLetters mo_wordLengthsa mo_wordLengths mo_wordBitsa mo_wordBits mo_links mo_linkAta mo_linkAt mo_linkLengtha mo_linkLength mo_linkLinea mo_linkLine mo_linkToa mo_linkTo mo_inParagraph mo_emphasis mo_blank mo_lastLine mo_imageSize mo_imagea mo_image mo_compares mo_unlike mo_out mo_total mo_literal mo_handLength mo_handa mo_hand mo_isOpen mo_seenTopics mo_seenNamesa mo_seenNames mo_seenBodiesa mo_seenBodies mo_seenLengthsa mo_seenLengths mo_seenKeywords mo_seenKeyLettersa mo_seenKeyLetters mo_seenKeyLengthsa mo_seenKeyLengths mo_seenKeyBitsa mo_seenKeyBits mo_seenWords mo_seenWordLettersa mo_seenWordLetters mo_seenWordLengthsa mo_seenWordLengths mo_seenWordBitsa mo_seenWordBits mo_topic mo_backs mo_backa mo_back mo_forwards mo_forwarda mo_forward mo_typed mo_querya mo_query mo_visits mo_valuesa mo_values mo_valued mo_signsa mo_signs mo_signed mo_width mo_lines mo_lineFroma mo_lineFrom mo_lineSizea mo_lineSize mo_shown mo_texta mo_text mo_partLength mo_parta mo_part)) H → va_D A ((sh_Model cI cL cZ mo mo_thrown mo_sourcea mo_source mo_size mo_faultLine mo_fault mo_topics mo_namesa mo_names mo_bodiesa mo_bodies mo_lengthsa mo_lengths mo_headingsa mo_headings mo_keywords mo_keyLettersa mo_keyLetters mo_keyLengthsa mo_keyLengths mo_keyBitsa mo_keyBits mo_words mo_wordLettersa mo_wordLetters mo_wordLengthsa mo_wordLengths mo_wordBitsa mo_wordBits mo_links mo_linkAta mo_linkAt mo_linkLengtha mo_linkLength mo_linkLinea mo_linkLine mo_linkToa mo_linkTo mo_inParagraph mo_emphasis mo_blank mo_lastLine mo_imageSize mo_imagea mo_image mo_compares mo_unlike mo_out mo_total mo_literal mo_handLength mo_handa mo_hand mo_isOpen mo_seenTopics mo_seenNamesa mo_seenNames mo_seenBodiesa mo_seenBodies mo_seenLengthsa mo_seenLengths mo_seenKeywords mo_seenKeyLettersa mo_seenKeyLetters mo_seenKeyLengthsa mo_seenKeyLengths mo_seenKeyBitsa mo_seenKeyBits mo_seenWords mo_seenWordLettersa mo_seenWordLetters mo_seenWordLengthsa mo_seenWordLengths mo_seenWordBitsa mo_seenWordBits mo_topic mo_backs mo_backa mo_back mo_forwards mo_forwarda mo_forward mo_typed mo_querya mo_query mo_visits mo_valuesa mo_values mo_valued mo_signsa mo_signs mo_signed mo_width mo_lines mo_lineFroma mo_lineFrom mo_lineSizea mo_lineSize mo_shown mo_texta mo_text mo_partLength mo_parta mo_part)) → va_S A s.heap H locs → T_Model_unpack mo_lengths mo_imageSize mo_image res mo_bodies' mo_unlike' n 0 x1 x2 x3 x4 x5 0 0 0 0 mo_bodies mo_unlike → W p l e ({ frames := 1, cells := 0, slots := 0, locals := 21 }) s m ([.ref mo, .int k0, .int k1, .int k2] : List Value).toArray below meth c H locs 0 0 (MQ below (Qs (dC, dI) classes (Tys cI cL cZ) (some (.int res)) ((sh_Model cI cL cZ mo mo_thrown mo_sourcea mo_source mo_size mo_faultLine mo_fault mo_topics mo_namesa mo_names mo_bodiesa mo_bodies' mo_lengthsa mo_lengths mo_headingsa mo_headings mo_keywords mo_keyLettersa mo_keyLetters mo_keyLengthsa mo_keyLengths mo_keyBitsa mo_keyBits mo_words mo_wordLettersa mo_wordLetters mo_wordLengthsa mo_wordLengths mo_wordBitsa mo_wordBits mo_links mo_linkAta mo_linkAt mo_linkLengtha mo_linkLength mo_linkLinea mo_linkLine mo_linkToa mo_linkTo mo_inParagraph mo_emphasis mo_blank mo_lastLine mo_imageSize mo_imagea mo_image mo_compares mo_unlike' mo_out mo_total mo_literal mo_handLength mo_handa mo_hand mo_isOpen mo_seenTopics mo_seenNamesa mo_seenNames mo_seenBodiesa mo_seenBodies mo_seenLengthsa mo_seenLengths mo_seenKeywords mo_seenKeyLettersa mo_seenKeyLetters mo_seenKeyLengthsa mo_seenKeyLengths mo_seenKeyBitsa mo_seenKeyBits mo_seenWords mo_seenWordLettersa mo_seenWordLetters mo_seenWordLengthsa mo_seenWordLengths mo_seenWordBitsa mo_seenWordBits mo_topic mo_backs mo_backa mo_back mo_forwards mo_forwarda mo_forward mo_typed mo_querya mo_query mo_visits mo_valuesa mo_values mo_valued mo_signsa mo_signs mo_signed mo_width mo_lines mo_lineFroma mo_lineFrom mo_lineSizea mo_lineSize mo_shown mo_texta mo_text mo_partLength mo_parta mo_part)) A) ([.ref mo, .int k0, .int k1, .int k2] : List Value).toArray s 0 0 A) (F0 m 6 ls [])) ∧ (∀ (x1 : Int32) (x2 : Int32) (x3 : Int32) (x4 : Int32) (x5 : Int32) (x6 : Int32) (x7 : Int32) (mo_bodies : Nat → Int32) (mo_unlike : Bool) (ls : Array Slot) (H : Heap) (locs : List Loc), lv_has ls 10 [(0, .ref mo), (1, .int x1), (2, .int x2), (3, .int x3), (4, .int x4), (5, .int x5), (6, .int x6), (7, .int x7)] → va_P (dC, dI) classes ((sh_Model cI cL cZ mo mo_thrown mo_sourcea mo_source mo_size mo_faultLine mo_fault mo_topics mo_namesa mo_names mo_bodiesa mo_bodies mo_lengthsa mo_lengths mo_headingsa mo_headings mo_keywords mo_keyLettersa mo_keyLetters mo_keyLengthsa mo_keyLengths mo_keyBitsa mo_keyBits mo_words mo_wordLettersa mo_wordLetters mo_wordLengthsa mo_wordLengths mo_wordBitsa mo_wordBits mo_links mo_linkAta mo_linkAt mo_linkLengtha mo_linkLength mo_linkLinea mo_linkLine mo_linkToa mo_linkTo mo_inParagraph mo_emphasis mo_blank mo_lastLine mo_imageSize mo_imagea mo_image mo_compares mo_unlike mo_out mo_total mo_literal mo_handLength mo_handa mo_hand mo_isOpen mo_seenTopics mo_seenNamesa mo_seenNames mo_seenBodiesa mo_seenBodies mo_seenLengthsa mo_seenLengths mo_seenKeywords mo_seenKeyLettersa mo_seenKeyLetters mo_seenKeyLengthsa mo_seenKeyLengths mo_seenKeyBitsa mo_seenKeyBits mo_seenWords mo_seenWordLettersa mo_seenWordLetters mo_seenWordLengthsa mo_seenWordLengths mo_seenWordBitsa mo_seenWordBits mo_topic mo_backs mo_backa mo_back mo_forwards mo_forwarda mo_forward mo_typed mo_querya mo_query mo_visits mo_valuesa mo_values mo_valued mo_signsa mo_signs mo_signed mo_width mo_lines mo_lineFroma mo_lineFrom mo_lineSizea mo_lineSize mo_shown mo_texta mo_text mo_partLength mo_parta mo_part)) H → va_D A ((sh_Model cI cL cZ mo mo_thrown mo_sourcea mo_source mo_size mo_faultLine mo_fault mo_topics mo_namesa mo_names mo_bodiesa mo_bodies mo_lengthsa mo_lengths mo_headingsa mo_headings mo_keywords mo_keyLettersa mo_keyLetters mo_keyLengthsa mo_keyLengths mo_keyBitsa mo_keyBits mo_words mo_wordLettersa mo_wordLetters mo_wordLengthsa mo_wordLengths mo_wordBitsa mo_wordBits mo_links mo_linkAta mo_linkAt mo_linkLengtha mo_linkLength mo_linkLinea mo_linkLine mo_linkToa mo_linkTo mo_inParagraph mo_emphasis mo_blank mo_lastLine mo_imageSize mo_imagea mo_image mo_compares mo_unlike mo_out mo_total mo_literal mo_handLength mo_handa mo_hand mo_isOpen mo_seenTopics mo_seenNamesa mo_seenNames mo_seenBodiesa mo_seenBodies mo_seenLengthsa mo_seenLengths mo_seenKeywords mo_seenKeyLettersa mo_seenKeyLetters mo_seenKeyLengthsa mo_seenKeyLengths mo_seenKeyBitsa mo_seenKeyBits mo_seenWords mo_seenWordLettersa mo_seenWordLetters mo_seenWordLengthsa mo_seenWordLengths mo_seenWordBitsa mo_seenWordBits mo_topic mo_backs mo_backa mo_back mo_forwards mo_forwarda mo_forward mo_typed mo_querya mo_query mo_visits mo_valuesa mo_values mo_valued mo_signsa mo_signs mo_signed mo_width mo_lines mo_lineFroma mo_lineFrom mo_lineSizea mo_lineSize mo_shown mo_texta mo_text mo_partLength mo_parta mo_part)) → va_S A s.heap H locs → T_Model_unpack mo_lengths mo_imageSize mo_image res mo_bodies' mo_unlike' n 1 x1 x2 x3 x4 x5 x6 x7 0 0 mo_bodies mo_unlike → W p l e ({ frames := 1, cells := 0, slots := 0, locals := 21 }) s m ([.ref mo, .int k0, .int k1, .int k2] : List Value).toArray below meth c H locs 0 0 (MQ below (Qs (dC, dI) classes (Tys cI cL cZ) (some (.int res)) ((sh_Model cI cL cZ mo mo_thrown mo_sourcea mo_source mo_size mo_faultLine mo_fault mo_topics mo_namesa mo_names mo_bodiesa mo_bodies' mo_lengthsa mo_lengths mo_headingsa mo_headings mo_keywords mo_keyLettersa mo_keyLetters mo_keyLengthsa mo_keyLengths mo_keyBitsa mo_keyBits mo_words mo_wordLettersa mo_wordLetters mo_wordLengthsa mo_wordLengths mo_wordBitsa mo_wordBits mo_links mo_linkAta mo_linkAt mo_linkLengtha mo_linkLength mo_linkLinea mo_linkLine mo_linkToa mo_linkTo mo_inParagraph mo_emphasis mo_blank mo_lastLine mo_imageSize mo_imagea mo_image mo_compares mo_unlike' mo_out mo_total mo_literal mo_handLength mo_handa mo_hand mo_isOpen mo_seenTopics mo_seenNamesa mo_seenNames mo_seenBodiesa mo_seenBodies mo_seenLengthsa mo_seenLengths mo_seenKeywords mo_seenKeyLettersa mo_seenKeyLetters mo_seenKeyLengthsa mo_seenKeyLengths mo_seenKeyBitsa mo_seenKeyBits mo_seenWords mo_seenWordLettersa mo_seenWordLetters mo_seenWordLengthsa mo_seenWordLengths mo_seenWordBitsa mo_seenWordBits mo_topic mo_backs mo_backa mo_back mo_forwards mo_forwarda mo_forward mo_typed mo_querya mo_query mo_visits mo_valuesa mo_values mo_valued mo_signsa mo_signs mo_signed mo_width mo_lines mo_lineFroma mo_lineFrom mo_lineSizea mo_lineSize mo_shown mo_texta mo_text mo_partLength mo_parta mo_part)) A) ([.ref mo, .int k0, .int k1, .int k2] : List Value).toArray s 0 0 A) (F0 m 51 ls [])) ∧ (∀ (x1 : Int32) (x2 : Int32) (x3 : Int32) (x4 : Int32) (x5 : Int32) (x6 : Int32) (x7 : Int32) (x8 : Int32) (mo_bodies : Nat → Int32) (mo_unlike : Bool) (ls : Array Slot) (H : Heap) (locs : List Loc), lv_has ls 10 [(0, .ref mo), (1, .int x1), (2, .int x2), (3, .int x3), (4, .int x4), (5, .int x5), (6, .int x6), (7, .int x7), (8, .int x8)] → va_P (dC, dI) classes ((sh_Model cI cL cZ mo mo_thrown mo_sourcea mo_source mo_size mo_faultLine mo_fault mo_topics mo_namesa mo_names mo_bodiesa mo_bodies mo_lengthsa mo_lengths mo_headingsa mo_headings mo_keywords mo_keyLettersa mo_keyLetters mo_keyLengthsa mo_keyLengths mo_keyBitsa mo_keyBits mo_words mo_wordLettersa mo_wordLetters mo_wordLengthsa mo_wordLengths mo_wordBitsa mo_wordBits mo_links mo_linkAta mo_linkAt mo_linkLengtha mo_linkLength mo_linkLinea mo_linkLine mo_linkToa mo_linkTo mo_inParagraph mo_emphasis mo_blank mo_lastLine mo_imageSize mo_imagea mo_image mo_compares mo_unlike mo_out mo_total mo_literal mo_handLength mo_handa mo_hand mo_isOpen mo_seenTopics mo_seenNamesa mo_seenNames mo_seenBodiesa mo_seenBodies mo_seenLengthsa mo_seenLengths mo_seenKeywords mo_seenKeyLettersa mo_seenKeyLetters mo_seenKeyLengthsa mo_seenKeyLengths mo_seenKeyBitsa mo_seenKeyBits mo_seenWords mo_seenWordLettersa mo_seenWordLetters mo_seenWordLengthsa mo_seenWordLengths mo_seenWordBitsa mo_seenWordBits mo_topic mo_backs mo_backa mo_back mo_forwards mo_forwarda mo_forward mo_typed mo_querya mo_query mo_visits mo_valuesa mo_values mo_valued mo_signsa mo_signs mo_signed mo_width mo_lines mo_lineFroma mo_lineFrom mo_lineSizea mo_lineSize mo_shown mo_texta mo_text mo_partLength mo_parta mo_part)) H → va_D A ((sh_Model cI cL cZ mo mo_thrown mo_sourcea mo_source mo_size mo_faultLine mo_fault mo_topics mo_namesa mo_names mo_bodiesa mo_bodies mo_lengthsa mo_lengths mo_headingsa mo_headings mo_keywords mo_keyLettersa mo_keyLetters mo_keyLengthsa mo_keyLengths mo_keyBitsa mo_keyBits mo_words mo_wordLettersa mo_wordLetters mo_wordLengthsa mo_wordLengths mo_wordBitsa mo_wordBits mo_links mo_linkAta mo_linkAt mo_linkLengtha mo_linkLength mo_linkLinea mo_linkLine mo_linkToa mo_linkTo mo_inParagraph mo_emphasis mo_blank mo_lastLine mo_imageSize mo_imagea mo_image mo_compares mo_unlike mo_out mo_total mo_literal mo_handLength mo_handa mo_hand mo_isOpen mo_seenTopics mo_seenNamesa mo_seenNames mo_seenBodiesa mo_seenBodies mo_seenLengthsa mo_seenLengths mo_seenKeywords mo_seenKeyLettersa mo_seenKeyLetters mo_seenKeyLengthsa mo_seenKeyLengths mo_seenKeyBitsa mo_seenKeyBits mo_seenWords mo_seenWordLettersa mo_seenWordLetters mo_seenWordLengthsa mo_seenWordLengths mo_seenWordBitsa mo_seenWordBits mo_topic mo_backs mo_backa mo_back mo_forwards mo_forwarda mo_forward mo_typed mo_querya mo_query mo_visits mo_valuesa mo_values mo_valued mo_signsa mo_signs mo_signed mo_width mo_lines mo_lineFroma mo_lineFrom mo_lineSizea mo_lineSize mo_shown mo_texta mo_text mo_partLength mo_parta mo_part)) → va_S A s.heap H locs → T_Model_unpack mo_lengths mo_imageSize mo_image res mo_bodies' mo_unlike' n 2 x1 x2 x3 x4 x5 x6 x7 x8 0 mo_bodies mo_unlike → W p l e ({ frames := 1, cells := 0, slots := 0, locals := 21 }) s m ([.ref mo, .int k0, .int k1, .int k2] : List Value).toArray below meth c H locs 0 0 (MQ below (Qs (dC, dI) classes (Tys cI cL cZ) (some (.int res)) ((sh_Model cI cL cZ mo mo_thrown mo_sourcea mo_source mo_size mo_faultLine mo_fault mo_topics mo_namesa mo_names mo_bodiesa mo_bodies' mo_lengthsa mo_lengths mo_headingsa mo_headings mo_keywords mo_keyLettersa mo_keyLetters mo_keyLengthsa mo_keyLengths mo_keyBitsa mo_keyBits mo_words mo_wordLettersa mo_wordLetters mo_wordLengthsa mo_wordLengths mo_wordBitsa mo_wordBits mo_links mo_linkAta mo_linkAt mo_linkLengtha mo_linkLength mo_linkLinea mo_linkLine mo_linkToa mo_linkTo mo_inParagraph mo_emphasis mo_blank mo_lastLine mo_imageSize mo_imagea mo_image mo_compares mo_unlike' mo_out mo_total mo_literal mo_handLength mo_handa mo_hand mo_isOpen mo_seenTopics mo_seenNamesa mo_seenNames mo_seenBodiesa mo_seenBodies mo_seenLengthsa mo_seenLengths mo_seenKeywords mo_seenKeyLettersa mo_seenKeyLetters mo_seenKeyLengthsa mo_seenKeyLengths mo_seenKeyBitsa mo_seenKeyBits mo_seenWords mo_seenWordLettersa mo_seenWordLetters mo_seenWordLengthsa mo_seenWordLengths mo_seenWordBitsa mo_seenWordBits mo_topic mo_backs mo_backa mo_back mo_forwards mo_forwarda mo_forward mo_typed mo_querya mo_query mo_visits mo_valuesa mo_values mo_valued mo_signsa mo_signs mo_signed mo_width mo_lines mo_lineFroma mo_lineFrom mo_lineSizea mo_lineSize mo_shown mo_texta mo_text mo_partLength mo_parta mo_part)) A) ([.ref mo, .int k0, .int k1, .int k2] : List Value).toArray s 0 0 A) (F0 m 73 ls [])) ∧ (∀ (x1 : Int32) (x2 : Int32) (x3 : Int32) (x4 : Int32) (x5 : Int32) (x6 : Int32) (x7 : Int32) (x8 : Int32) (mo_bodies : Nat → Int32) (mo_unlike : Bool) (ls : Array Slot) (H : Heap) (locs : List Loc), lv_has ls 10 [(0, .ref mo), (1, .int x1), (2, .int x2), (3, .int x3), (4, .int x4), (5, .int x5), (6, .int x6), (7, .int x7), (8, .int x8)] → va_P (dC, dI) classes ((sh_Model cI cL cZ mo mo_thrown mo_sourcea mo_source mo_size mo_faultLine mo_fault mo_topics mo_namesa mo_names mo_bodiesa mo_bodies mo_lengthsa mo_lengths mo_headingsa mo_headings mo_keywords mo_keyLettersa mo_keyLetters mo_keyLengthsa mo_keyLengths mo_keyBitsa mo_keyBits mo_words mo_wordLettersa mo_wordLetters mo_wordLengthsa mo_wordLengths mo_wordBitsa mo_wordBits mo_links mo_linkAta mo_linkAt mo_linkLengtha mo_linkLength mo_linkLinea mo_linkLine mo_linkToa mo_linkTo mo_inParagraph mo_emphasis mo_blank mo_lastLine mo_imageSize mo_imagea mo_image mo_compares mo_unlike mo_out mo_total mo_literal mo_handLength mo_handa mo_hand mo_isOpen mo_seenTopics mo_seenNamesa mo_seenNames mo_seenBodiesa mo_seenBodies mo_seenLengthsa mo_seenLengths mo_seenKeywords mo_seenKeyLettersa mo_seenKeyLetters mo_seenKeyLengthsa mo_seenKeyLengths mo_seenKeyBitsa mo_seenKeyBits mo_seenWords mo_seenWordLettersa mo_seenWordLetters mo_seenWordLengthsa mo_seenWordLengths mo_seenWordBitsa mo_seenWordBits mo_topic mo_backs mo_backa mo_back mo_forwards mo_forwarda mo_forward mo_typed mo_querya mo_query mo_visits mo_valuesa mo_values mo_valued mo_signsa mo_signs mo_signed mo_width mo_lines mo_lineFroma mo_lineFrom mo_lineSizea mo_lineSize mo_shown mo_texta mo_text mo_partLength mo_parta mo_part)) H → va_D A ((sh_Model cI cL cZ mo mo_thrown mo_sourcea mo_source mo_size mo_faultLine mo_fault mo_topics mo_namesa mo_names mo_bodiesa mo_bodies mo_lengthsa mo_lengths mo_headingsa mo_headings mo_keywords mo_keyLettersa mo_keyLetters mo_keyLengthsa mo_keyLengths mo_keyBitsa mo_keyBits mo_words mo_wordLettersa mo_wordLetters mo_wordLengthsa mo_wordLengths mo_wordBitsa mo_wordBits mo_links mo_linkAta mo_linkAt mo_linkLengtha mo_linkLength mo_linkLinea mo_linkLine mo_linkToa mo_linkTo mo_inParagraph mo_emphasis mo_blank mo_lastLine mo_imageSize mo_imagea mo_image mo_compares mo_unlike mo_out mo_total mo_literal mo_handLength mo_handa mo_hand mo_isOpen mo_seenTopics mo_seenNamesa mo_seenNames mo_seenBodiesa mo_seenBodies mo_seenLengthsa mo_seenLengths mo_seenKeywords mo_seenKeyLettersa mo_seenKeyLetters mo_seenKeyLengthsa mo_seenKeyLengths mo_seenKeyBitsa mo_seenKeyBits mo_seenWords mo_seenWordLettersa mo_seenWordLetters mo_seenWordLengthsa mo_seenWordLengths mo_seenWordBitsa mo_seenWordBits mo_topic mo_backs mo_backa mo_back mo_forwards mo_forwarda mo_forward mo_typed mo_querya mo_query mo_visits mo_valuesa mo_values mo_valued mo_signsa mo_signs mo_signed mo_width mo_lines mo_lineFroma mo_lineFrom mo_lineSizea mo_lineSize mo_shown mo_texta mo_text mo_partLength mo_parta mo_part)) → va_S A s.heap H locs → T_Model_unpack mo_lengths mo_imageSize mo_image res mo_bodies' mo_unlike' n 3 x1 x2 x3 x4 x5 x6 x7 x8 0 mo_bodies mo_unlike → W p l e ({ frames := 1, cells := 0, slots := 0, locals := 21 }) s m ([.ref mo, .int k0, .int k1, .int k2] : List Value).toArray below meth c H locs 0 0 (MQ below (Qs (dC, dI) classes (Tys cI cL cZ) (some (.int res)) ((sh_Model cI cL cZ mo mo_thrown mo_sourcea mo_source mo_size mo_faultLine mo_fault mo_topics mo_namesa mo_names mo_bodiesa mo_bodies' mo_lengthsa mo_lengths mo_headingsa mo_headings mo_keywords mo_keyLettersa mo_keyLetters mo_keyLengthsa mo_keyLengths mo_keyBitsa mo_keyBits mo_words mo_wordLettersa mo_wordLetters mo_wordLengthsa mo_wordLengths mo_wordBitsa mo_wordBits mo_links mo_linkAta mo_linkAt mo_linkLengtha mo_linkLength mo_linkLinea mo_linkLine mo_linkToa mo_linkTo mo_inParagraph mo_emphasis mo_blank mo_lastLine mo_imageSize mo_imagea mo_image mo_compares mo_unlike' mo_out mo_total mo_literal mo_handLength mo_handa mo_hand mo_isOpen mo_seenTopics mo_seenNamesa mo_seenNames mo_seenBodiesa mo_seenBodies mo_seenLengthsa mo_seenLengths mo_seenKeywords mo_seenKeyLettersa mo_seenKeyLetters mo_seenKeyLengthsa mo_seenKeyLengths mo_seenKeyBitsa mo_seenKeyBits mo_seenWords mo_seenWordLettersa mo_seenWordLetters mo_seenWordLengthsa mo_seenWordLengths mo_seenWordBitsa mo_seenWordBits mo_topic mo_backs mo_backa mo_back mo_forwards mo_forwarda mo_forward mo_typed mo_querya mo_query mo_visits mo_valuesa mo_values mo_valued mo_signsa mo_signs mo_signed mo_width mo_lines mo_lineFroma mo_lineFrom mo_lineSizea mo_lineSize mo_shown mo_texta mo_text mo_partLength mo_parta mo_part)) A) ([.ref mo, .int k0, .int k1, .int k2] : List Value).toArray s 0 0 A) (F0 m 130 ls [])) ∧ (∀ (x1 : Int32) (x2 : Int32) (x3 : Int32) (x4 : Int32) (x5 : Int32) (x6 : Int32) (x7 : Int32) (x8 : Int32) (x9 : Int32) (mo_bodies : Nat → Int32) (mo_unlike : Bool) (ls : Array Slot) (H : Heap) (locs : List Loc), lv_has ls 10 [(0, .ref mo), (1, .int x1), (2, .int x2), (3, .int x3), (4, .int x4), (5, .int x5), (6, .int x6), (7, .int x7), (8, .int x8), (9, .int x9)] → va_P (dC, dI) classes ((sh_Model cI cL cZ mo mo_thrown mo_sourcea mo_source mo_size mo_faultLine mo_fault mo_topics mo_namesa mo_names mo_bodiesa mo_bodies mo_lengthsa mo_lengths mo_headingsa mo_headings mo_keywords mo_keyLettersa mo_keyLetters mo_keyLengthsa mo_keyLengths mo_keyBitsa mo_keyBits mo_words mo_wordLettersa mo_wordLetters mo_wordLengthsa mo_wordLengths mo_wordBitsa mo_wordBits mo_links mo_linkAta mo_linkAt mo_linkLengtha mo_linkLength mo_linkLinea mo_linkLine mo_linkToa mo_linkTo mo_inParagraph mo_emphasis mo_blank mo_lastLine mo_imageSize mo_imagea mo_image mo_compares mo_unlike mo_out mo_total mo_literal mo_handLength mo_handa mo_hand mo_isOpen mo_seenTopics mo_seenNamesa mo_seenNames mo_seenBodiesa mo_seenBodies mo_seenLengthsa mo_seenLengths mo_seenKeywords mo_seenKeyLettersa mo_seenKeyLetters mo_seenKeyLengthsa mo_seenKeyLengths mo_seenKeyBitsa mo_seenKeyBits mo_seenWords mo_seenWordLettersa mo_seenWordLetters mo_seenWordLengthsa mo_seenWordLengths mo_seenWordBitsa mo_seenWordBits mo_topic mo_backs mo_backa mo_back mo_forwards mo_forwarda mo_forward mo_typed mo_querya mo_query mo_visits mo_valuesa mo_values mo_valued mo_signsa mo_signs mo_signed mo_width mo_lines mo_lineFroma mo_lineFrom mo_lineSizea mo_lineSize mo_shown mo_texta mo_text mo_partLength mo_parta mo_part)) H → va_D A ((sh_Model cI cL cZ mo mo_thrown mo_sourcea mo_source mo_size mo_faultLine mo_fault mo_topics mo_namesa mo_names mo_bodiesa mo_bodies mo_lengthsa mo_lengths mo_headingsa mo_headings mo_keywords mo_keyLettersa mo_keyLetters mo_keyLengthsa mo_keyLengths mo_keyBitsa mo_keyBits mo_words mo_wordLettersa mo_wordLetters mo_wordLengthsa mo_wordLengths mo_wordBitsa mo_wordBits mo_links mo_linkAta mo_linkAt mo_linkLengtha mo_linkLength mo_linkLinea mo_linkLine mo_linkToa mo_linkTo mo_inParagraph mo_emphasis mo_blank mo_lastLine mo_imageSize mo_imagea mo_image mo_compares mo_unlike mo_out mo_total mo_literal mo_handLength mo_handa mo_hand mo_isOpen mo_seenTopics mo_seenNamesa mo_seenNames mo_seenBodiesa mo_seenBodies mo_seenLengthsa mo_seenLengths mo_seenKeywords mo_seenKeyLettersa mo_seenKeyLetters mo_seenKeyLengthsa mo_seenKeyLengths mo_seenKeyBitsa mo_seenKeyBits mo_seenWords mo_seenWordLettersa mo_seenWordLetters mo_seenWordLengthsa mo_seenWordLengths mo_seenWordBitsa mo_seenWordBits mo_topic mo_backs mo_backa mo_back mo_forwards mo_forwarda mo_forward mo_typed mo_querya mo_query mo_visits mo_valuesa mo_values mo_valued mo_signsa mo_signs mo_signed mo_width mo_lines mo_lineFroma mo_lineFrom mo_lineSizea mo_lineSize mo_shown mo_texta mo_text mo_partLength mo_parta mo_part)) → va_S A s.heap H locs → T_Model_unpack mo_lengths mo_imageSize mo_image res mo_bodies' mo_unlike' n 4 x1 x2 x3 x4 x5 x6 x7 x8 x9 mo_bodies mo_unlike → W p l e ({ frames := 1, cells := 0, slots := 0, locals := 21 }) s m ([.ref mo, .int k0, .int k1, .int k2] : List Value).toArray below meth c H locs 0 0 (MQ below (Qs (dC, dI) classes (Tys cI cL cZ) (some (.int res)) ((sh_Model cI cL cZ mo mo_thrown mo_sourcea mo_source mo_size mo_faultLine mo_fault mo_topics mo_namesa mo_names mo_bodiesa mo_bodies' mo_lengthsa mo_lengths mo_headingsa mo_headings mo_keywords mo_keyLettersa mo_keyLetters mo_keyLengthsa mo_keyLengths mo_keyBitsa mo_keyBits mo_words mo_wordLettersa mo_wordLetters mo_wordLengthsa mo_wordLengths mo_wordBitsa mo_wordBits mo_links mo_linkAta mo_linkAt mo_linkLengtha mo_linkLength mo_linkLinea mo_linkLine mo_linkToa mo_linkTo mo_inParagraph mo_emphasis mo_blank mo_lastLine mo_imageSize mo_imagea mo_image mo_compares mo_unlike' mo_out mo_total mo_literal mo_handLength mo_handa mo_hand mo_isOpen mo_seenTopics mo_seenNamesa mo_seenNames mo_seenBodiesa mo_seenBodies mo_seenLengthsa mo_seenLengths mo_seenKeywords mo_seenKeyLettersa mo_seenKeyLetters mo_seenKeyLengthsa mo_seenKeyLengths mo_seenKeyBitsa mo_seenKeyBits mo_seenWords mo_seenWordLettersa mo_seenWordLetters mo_seenWordLengthsa mo_seenWordLengths mo_seenWordBitsa mo_seenWordBits mo_topic mo_backs mo_backa mo_back mo_forwards mo_forwarda mo_forward mo_typed mo_querya mo_query mo_visits mo_valuesa mo_values mo_valued mo_signsa mo_signs mo_signed mo_width mo_lines mo_lineFroma mo_lineFrom mo_lineSizea mo_lineSize mo_shown mo_texta mo_text mo_partLength mo_parta mo_part)) A) ([.ref mo, .int k0, .int k1, .int k2] : List Value).toArray s 0 0 A) (F0 m 133 ls [])) ∧ (∀ (x1 : Int32) (x2 : Int32) (x3 : Int32) (x4 : Int32) (x5 : Int32) (x6 : Int32) (x7 : Int32) (mo_bodies : Nat → Int32) (mo_unlike : Bool) (ls : Array Slot) (H : Heap) (locs : List Loc), lv_has ls 10 [(0, .ref mo), (1, .int x1), (2, .int x2), (3, .int x3), (4, .int x4), (5, .int x5), (6, .int x6), (7, .int x7)] → va_P (dC, dI) classes ((sh_Model cI cL cZ mo mo_thrown mo_sourcea mo_source mo_size mo_faultLine mo_fault mo_topics mo_namesa mo_names mo_bodiesa mo_bodies mo_lengthsa mo_lengths mo_headingsa mo_headings mo_keywords mo_keyLettersa mo_keyLetters mo_keyLengthsa mo_keyLengths mo_keyBitsa mo_keyBits mo_words mo_wordLettersa mo_wordLetters mo_wordLengthsa mo_wordLengths mo_wordBitsa mo_wordBits mo_links mo_linkAta mo_linkAt mo_linkLengtha mo_linkLength mo_linkLinea mo_linkLine mo_linkToa mo_linkTo mo_inParagraph mo_emphasis mo_blank mo_lastLine mo_imageSize mo_imagea mo_image mo_compares mo_unlike mo_out mo_total mo_literal mo_handLength mo_handa mo_hand mo_isOpen mo_seenTopics mo_seenNamesa mo_seenNames mo_seenBodiesa mo_seenBodies mo_seenLengthsa mo_seenLengths mo_seenKeywords mo_seenKeyLettersa mo_seenKeyLetters mo_seenKeyLengthsa mo_seenKeyLengths mo_seenKeyBitsa mo_seenKeyBits mo_seenWords mo_seenWordLettersa mo_seenWordLetters mo_seenWordLengthsa mo_seenWordLengths mo_seenWordBitsa mo_seenWordBits mo_topic mo_backs mo_backa mo_back mo_forwards mo_forwarda mo_forward mo_typed mo_querya mo_query mo_visits mo_valuesa mo_values mo_valued mo_signsa mo_signs mo_signed mo_width mo_lines mo_lineFroma mo_lineFrom mo_lineSizea mo_lineSize mo_shown mo_texta mo_text mo_partLength mo_parta mo_part)) H → va_D A ((sh_Model cI cL cZ mo mo_thrown mo_sourcea mo_source mo_size mo_faultLine mo_fault mo_topics mo_namesa mo_names mo_bodiesa mo_bodies mo_lengthsa mo_lengths mo_headingsa mo_headings mo_keywords mo_keyLettersa mo_keyLetters mo_keyLengthsa mo_keyLengths mo_keyBitsa mo_keyBits mo_words mo_wordLettersa mo_wordLetters mo_wordLengthsa mo_wordLengths mo_wordBitsa mo_wordBits mo_links mo_linkAta mo_linkAt mo_linkLengtha mo_linkLength mo_linkLinea mo_linkLine mo_linkToa mo_linkTo mo_inParagraph mo_emphasis mo_blank mo_lastLine mo_imageSize mo_imagea mo_image mo_compares mo_unlike mo_out mo_total mo_literal mo_handLength mo_handa mo_hand mo_isOpen mo_seenTopics mo_seenNamesa mo_seenNames mo_seenBodiesa mo_seenBodies mo_seenLengthsa mo_seenLengths mo_seenKeywords mo_seenKeyLettersa mo_seenKeyLetters mo_seenKeyLengthsa mo_seenKeyLengths mo_seenKeyBitsa mo_seenKeyBits mo_seenWords mo_seenWordLettersa mo_seenWordLetters mo_seenWordLengthsa mo_seenWordLengths mo_seenWordBitsa mo_seenWordBits mo_topic mo_backs mo_backa mo_back mo_forwards mo_forwarda mo_forward mo_typed mo_querya mo_query mo_visits mo_valuesa mo_values mo_valued mo_signsa mo_signs mo_signed mo_width mo_lines mo_lineFroma mo_lineFrom mo_lineSizea mo_lineSize mo_shown mo_texta mo_text mo_partLength mo_parta mo_part)) → va_S A s.heap H locs → T_Model_unpack mo_lengths mo_imageSize mo_image res mo_bodies' mo_unlike' n 5 x1 x2 x3 x4 x5 x6 x7 0 0 mo_bodies mo_unlike → W p l e ({ frames := 1, cells := 0, slots := 0, locals := 21 }) s m ([.ref mo, .int k0, .int k1, .int k2] : List Value).toArray below meth c H locs 0 0 (MQ below (Qs (dC, dI) classes (Tys cI cL cZ) (some (.int res)) ((sh_Model cI cL cZ mo mo_thrown mo_sourcea mo_source mo_size mo_faultLine mo_fault mo_topics mo_namesa mo_names mo_bodiesa mo_bodies' mo_lengthsa mo_lengths mo_headingsa mo_headings mo_keywords mo_keyLettersa mo_keyLetters mo_keyLengthsa mo_keyLengths mo_keyBitsa mo_keyBits mo_words mo_wordLettersa mo_wordLetters mo_wordLengthsa mo_wordLengths mo_wordBitsa mo_wordBits mo_links mo_linkAta mo_linkAt mo_linkLengtha mo_linkLength mo_linkLinea mo_linkLine mo_linkToa mo_linkTo mo_inParagraph mo_emphasis mo_blank mo_lastLine mo_imageSize mo_imagea mo_image mo_compares mo_unlike' mo_out mo_total mo_literal mo_handLength mo_handa mo_hand mo_isOpen mo_seenTopics mo_seenNamesa mo_seenNames mo_seenBodiesa mo_seenBodies mo_seenLengthsa mo_seenLengths mo_seenKeywords mo_seenKeyLettersa mo_seenKeyLetters mo_seenKeyLengthsa mo_seenKeyLengths mo_seenKeyBitsa mo_seenKeyBits mo_seenWords mo_seenWordLettersa mo_seenWordLetters mo_seenWordLengthsa mo_seenWordLengths mo_seenWordBitsa mo_seenWordBits mo_topic mo_backs mo_backa mo_back mo_forwards mo_forwarda mo_forward mo_typed mo_querya mo_query mo_visits mo_valuesa mo_values mo_valued mo_signsa mo_signs mo_signed mo_width mo_lines mo_lineFroma mo_lineFrom mo_lineSizea mo_lineSize mo_shown mo_texta mo_text mo_partLength mo_parta mo_part)) A) ([.ref mo, .int k0, .int k1, .int k2] : List Value).toArray s 0 0 A) (F0 m 207 ls [])) ∧ (∀ (x1 : Int32) (x2 : Int32) (x3 : Int32) (x4 : Int32) (x5 : Int32) (mo_bodies : Nat → Int32) (mo_unlike : Bool) (ls : Array Slot) (H : Heap) (locs : List Loc), lv_has ls 10 [(0, .ref mo), (1, .int x1), (2, .int x2), (3, .int x3), (4, .int x4), (5, .int x5)] → va_P (dC, dI) classes ((sh_Model cI cL cZ mo mo_thrown mo_sourcea mo_source mo_size mo_faultLine mo_fault mo_topics mo_namesa mo_names mo_bodiesa mo_bodies mo_lengthsa mo_lengths mo_headingsa mo_headings mo_keywords mo_keyLettersa mo_keyLetters mo_keyLengthsa mo_keyLengths mo_keyBitsa mo_keyBits mo_words mo_wordLettersa mo_wordLetters mo_wordLengthsa mo_wordLengths mo_wordBitsa mo_wordBits mo_links mo_linkAta mo_linkAt mo_linkLengtha mo_linkLength mo_linkLinea mo_linkLine mo_linkToa mo_linkTo mo_inParagraph mo_emphasis mo_blank mo_lastLine mo_imageSize mo_imagea mo_image mo_compares mo_unlike mo_out mo_total mo_literal mo_handLength mo_handa mo_hand mo_isOpen mo_seenTopics mo_seenNamesa mo_seenNames mo_seenBodiesa mo_seenBodies mo_seenLengthsa mo_seenLengths mo_seenKeywords mo_seenKeyLettersa mo_seenKeyLetters mo_seenKeyLengthsa mo_seenKeyLengths mo_seenKeyBitsa mo_seenKeyBits mo_seenWords mo_seenWordLettersa mo_seenWordLetters mo_seenWordLengthsa mo_seenWordLengths mo_seenWordBitsa mo_seenWordBits mo_topic mo_backs mo_backa mo_back mo_forwards mo_forwarda mo_forward mo_typed mo_querya mo_query mo_visits mo_valuesa mo_values mo_valued mo_signsa mo_signs mo_signed mo_width mo_lines mo_lineFroma mo_lineFrom mo_lineSizea mo_lineSize mo_shown mo_texta mo_text mo_partLength mo_parta mo_part)) H → va_D A ((sh_Model cI cL cZ mo mo_thrown mo_sourcea mo_source mo_size mo_faultLine mo_fault mo_topics mo_namesa mo_names mo_bodiesa mo_bodies mo_lengthsa mo_lengths mo_headingsa mo_headings mo_keywords mo_keyLettersa mo_keyLetters mo_keyLengthsa mo_keyLengths mo_keyBitsa mo_keyBits mo_words mo_wordLettersa mo_wordLetters mo_wordLengthsa mo_wordLengths mo_wordBitsa mo_wordBits mo_links mo_linkAta mo_linkAt mo_linkLengtha mo_linkLength mo_linkLinea mo_linkLine mo_linkToa mo_linkTo mo_inParagraph mo_emphasis mo_blank mo_lastLine mo_imageSize mo_imagea mo_image mo_compares mo_unlike mo_out mo_total mo_literal mo_handLength mo_handa mo_hand mo_isOpen mo_seenTopics mo_seenNamesa mo_seenNames mo_seenBodiesa mo_seenBodies mo_seenLengthsa mo_seenLengths mo_seenKeywords mo_seenKeyLettersa mo_seenKeyLetters mo_seenKeyLengthsa mo_seenKeyLengths mo_seenKeyBitsa mo_seenKeyBits mo_seenWords mo_seenWordLettersa mo_seenWordLetters mo_seenWordLengthsa mo_seenWordLengths mo_seenWordBitsa mo_seenWordBits mo_topic mo_backs mo_backa mo_back mo_forwards mo_forwarda mo_forward mo_typed mo_querya mo_query mo_visits mo_valuesa mo_values mo_valued mo_signsa mo_signs mo_signed mo_width mo_lines mo_lineFroma mo_lineFrom mo_lineSizea mo_lineSize mo_shown mo_texta mo_text mo_partLength mo_parta mo_part)) → va_S A s.heap H locs → T_Model_unpack mo_lengths mo_imageSize mo_image res mo_bodies' mo_unlike' n 6 x1 x2 x3 x4 x5 0 0 0 0 mo_bodies mo_unlike → W p l e ({ frames := 1, cells := 0, slots := 0, locals := 21 }) s m ([.ref mo, .int k0, .int k1, .int k2] : List Value).toArray below meth c H locs 0 0 (MQ below (Qs (dC, dI) classes (Tys cI cL cZ) (some (.int res)) ((sh_Model cI cL cZ mo mo_thrown mo_sourcea mo_source mo_size mo_faultLine mo_fault mo_topics mo_namesa mo_names mo_bodiesa mo_bodies' mo_lengthsa mo_lengths mo_headingsa mo_headings mo_keywords mo_keyLettersa mo_keyLetters mo_keyLengthsa mo_keyLengths mo_keyBitsa mo_keyBits mo_words mo_wordLettersa mo_wordLetters mo_wordLengthsa mo_wordLengths mo_wordBitsa mo_wordBits mo_links mo_linkAta mo_linkAt mo_linkLengtha mo_linkLength mo_linkLinea mo_linkLine mo_linkToa mo_linkTo mo_inParagraph mo_emphasis mo_blank mo_lastLine mo_imageSize mo_imagea mo_image mo_compares mo_unlike' mo_out mo_total mo_literal mo_handLength mo_handa mo_hand mo_isOpen mo_seenTopics mo_seenNamesa mo_seenNames mo_seenBodiesa mo_seenBodies mo_seenLengthsa mo_seenLengths mo_seenKeywords mo_seenKeyLettersa mo_seenKeyLetters mo_seenKeyLengthsa mo_seenKeyLengths mo_seenKeyBitsa mo_seenKeyBits mo_seenWords mo_seenWordLettersa mo_seenWordLetters mo_seenWordLengthsa mo_seenWordLengths mo_seenWordBitsa mo_seenWordBits mo_topic mo_backs mo_backa mo_back mo_forwards mo_forwarda mo_forward mo_typed mo_querya mo_query mo_visits mo_valuesa mo_values mo_valued mo_signsa mo_signs mo_signed mo_width mo_lines mo_lineFroma mo_lineFrom mo_lineSizea mo_lineSize mo_shown mo_texta mo_text mo_partLength mo_parta mo_part)) A) ([.ref mo, .int k0, .int k1, .int k2] : List Value).toArray s 0 0 A) (F0 m 234 ls [])) := by
    intro n
    induction n with
    | zero =>
      exact ⟨fun _ _ _ _ _ _ _ _ _ _ _ _ _ _ hd => False.elim hd, fun _ _ _ _ _ _ _ _ _ _ _ _ _ _ _ _ hd => False.elim hd, fun _ _ _ _ _ _ _ _ _ _ _ _ _ _ _ _ _ hd => False.elim hd, fun _ _ _ _ _ _ _ _ _ _ _ _ _ _ _ _ _ hd => False.elim hd, fun _ _ _ _ _ _ _ _ _ _ _ _ _ _ _ _ _ _ hd => False.elim hd, fun _ _ _ _ _ _ _ _ _ _ _ _ _ _ _ _ hd => False.elim hd, fun _ _ _ _ _ _ _ _ _ _ _ _ _ _ hd => False.elim hd⟩
    | succ n ih =>
      refine ⟨?_, ?_, ?_, ?_, ?_, ?_, ?_⟩
      · intro x1 x2 x3 x4 x5 mo_bodies mo_unlike ls H locs hl hP hD hS hd
        have hd : B_Model_unpack_6 mo_lengths mo_imageSize mo_image res mo_bodies' mo_unlike' (T_Model_unpack mo_lengths mo_imageSize mo_image res mo_bodies' mo_unlike' n) x1 x2 x3 x4 x5 mo_bodies mo_unlike := hd
        refine lv_iload hx hb d_Model_unpack_6 (lv_at hl 4 rfl) ?_
        refine lv_iload_n hx hb d_Model_unpack_8 rfl (lv_at hl 2 rfl) ?_
        refine lv_iload_n hx hb d_Model_unpack_9 rfl (lv_at hl 3 rfl) ?_
        refine lv_iadd hx hb d_Model_unpack_10 ?_
        refine lv_icmp_ge (tgt := 234) hx hb d_Model_unpack_11 (by decide) (fun h11 => ?_) (fun h11 => ?_)
        · have hd := hd.1 h11
          exact ih.2.2.2.2.2.2 x1 x2 x3 x4 x5 mo_bodies mo_unlike _ _ _ (lv_sub hl [0, 1, 2, 3, 4, 5] rfl) hP hD hS hd
        · have hd := hd.2 h11
          refine lv_aload_n hx hb d_Model_unpack_14 rfl (lv_at hl 0 rfl) ?_
          refine va_get (D := (dC, dI)) (ci := 9) (v := .int (bI mo_unlike)) (C := R_Model) (T := F_Model) (N := 69) hx hb hts in_Model hown hK hP 0 rfl rfl 30 (by decide) (hts _ (List.mem_cons_of_mem _ k573_fieldLink)) (fun _ h9 => h9) rfl d_Model_unpack_15 ?_
          refine lv_if_ne (tgt := 234) hx hb d_Model_unpack_18 (by decide) (fun h18 => ?_) (fun h18 => ?_)
          · have hd := hd.2 h18
            exact ih.2.2.2.2.2.2 x1 x2 x3 x4 x5 mo_bodies mo_unlike _ _ _ (lv_sub hl [0, 1, 2, 3, 4, 5] rfl) hP hD hS hd
          · have hd := hd.1 h18
            refine lv_aload_n hx hb d_Model_unpack_21 rfl (lv_at hl 0 rfl) ?_
            refine lv_iload hx hb d_Model_unpack_22 (lv_at hl 4 rfl) ?_
            obtain ⟨r24, mo_unlike_24, c24, hd⟩ := hd
            refine ct_V (As := [.int x4]) (rest := []) (C := R_Model) (ci := 9) (q := (R_Model, F_Model, 69)) ⟨hx, hb, hml, hown, hts⟩ fm_Model_byteAt (c_Model_byteAt l dC dI cI cL cZ mo mo_thrown mo_sourcea mo_source mo_size mo_faultLine mo_fault mo_topics mo_namesa mo_names mo_bodiesa mo_bodies mo_lengthsa mo_lengths mo_headingsa mo_headings mo_keywords mo_keyLettersa mo_keyLetters mo_keyLengthsa mo_keyLengths mo_keyBitsa mo_keyBits mo_words mo_wordLettersa mo_wordLetters mo_wordLengthsa mo_wordLengths mo_wordBitsa mo_wordBits mo_links mo_linkAta mo_linkAt mo_linkLengtha mo_linkLength mo_linkLinea mo_linkLine mo_linkToa mo_linkTo mo_inParagraph mo_emphasis mo_blank mo_lastLine mo_imageSize mo_imagea mo_image mo_compares mo_unlike mo_out mo_total mo_literal mo_handLength mo_handa mo_hand mo_isOpen mo_seenTopics mo_seenNamesa mo_seenNames mo_seenBodiesa mo_seenBodies mo_seenLengthsa mo_seenLengths mo_seenKeywords mo_seenKeyLettersa mo_seenKeyLetters mo_seenKeyLengthsa mo_seenKeyLengths mo_seenKeyBitsa mo_seenKeyBits mo_seenWords mo_seenWordLettersa mo_seenWordLetters mo_seenWordLengthsa mo_seenWordLengths mo_seenWordBitsa mo_seenWordBits mo_topic mo_backs mo_backa mo_back mo_forwards mo_forwarda mo_forward mo_typed mo_querya mo_query mo_visits mo_valuesa mo_values mo_valued mo_signsa mo_signs mo_signed mo_width mo_lines mo_lineFroma mo_lineFrom mo_lineSizea mo_lineSize mo_shown mo_texta mo_text mo_partLength mo_parta mo_part x4 r24 mo_unlike_24 c24) k614_methodLink k615_instanceMethod k616_selects ⟨Nat.le_of_ble_eq_true rfl, Nat.le_of_ble_eq_true rfl⟩ rfl rfl hK hN hP hD hS hA [0, 1, 2, 3, 4, 5, 6, 7, 8, 9, 10, 11, 12, 13, 14, 15, 16, 17, 18, 19, 20, 21, 22, 23, 24, 25, 26, 27, 28, 29, 30, 31, 32, 33, 34, 35] [] rfl rfl rfl (by decide) (by decide) (by decide) 0 rfl rfl rfl rfl hl.1 rfl (Nat.le_of_ble_eq_true rfl) d_Model_unpack_24 (fun H locs hP hD hS => ?_)
            have hP : va_P (dC, dI) classes ((sh_Model cI cL cZ mo mo_thrown mo_sourcea mo_source mo_size mo_faultLine mo_fault mo_topics mo_namesa mo_names mo_bodiesa mo_bodies mo_lengthsa mo_lengths mo_headingsa mo_headings mo_keywords mo_keyLettersa mo_keyLetters mo_keyLengthsa mo_keyLengths mo_keyBitsa mo_keyBits mo_words mo_wordLettersa mo_wordLetters mo_wordLengthsa mo_wordLengths mo_wordBitsa mo_wordBits mo_links mo_linkAta mo_linkAt mo_linkLengtha mo_linkLength mo_linkLinea mo_linkLine mo_linkToa mo_linkTo mo_inParagraph mo_emphasis mo_blank mo_lastLine mo_imageSize mo_imagea mo_image mo_compares mo_unlike_24 mo_out mo_total mo_literal mo_handLength mo_handa mo_hand mo_isOpen mo_seenTopics mo_seenNamesa mo_seenNames mo_seenBodiesa mo_seenBodies mo_seenLengthsa mo_seenLengths mo_seenKeywords mo_seenKeyLettersa mo_seenKeyLetters mo_seenKeyLengthsa mo_seenKeyLengths mo_seenKeyBitsa mo_seenKeyBits mo_seenWords mo_seenWordLettersa mo_seenWordLetters mo_seenWordLengthsa mo_seenWordLengths mo_seenWordBitsa mo_seenWordBits mo_topic mo_backs mo_backa mo_back mo_forwards mo_forwarda mo_forward mo_typed mo_querya mo_query mo_visits mo_valuesa mo_values mo_valued mo_signsa mo_signs mo_signed mo_width mo_lines mo_lineFroma mo_lineFrom mo_lineSizea mo_lineSize mo_shown mo_texta mo_text mo_partLength mo_parta mo_part)) H := hP.sub [0, 1, 2, 3, 4, 5, 6, 7, 8, 9, 10, 11, 12, 13, 14, 15, 16, 17, 18, 19, 20, 21, 22, 23, 24, 25, 26, 27, 28, 29, 30, 31, 32, 33, 34, 35] rfl
            have hD : va_D A ((sh_Model cI cL cZ mo mo_thrown mo_sourcea mo_source mo_size mo_faultLine mo_fault mo_topics mo_namesa mo_names mo_bodiesa mo_bodies mo_lengthsa mo_lengths mo_headingsa mo_headings mo_keywords mo_keyLettersa mo_keyLetters mo_keyLengthsa mo_keyLengths mo_keyBitsa mo_keyBits mo_words mo_wordLettersa mo_wordLetters mo_wordLengthsa mo_wordLengths mo_wordBitsa mo_wordBits mo_links mo_linkAta mo_linkAt mo_linkLengtha mo_linkLength mo_linkLinea mo_linkLine mo_linkToa mo_linkTo mo_inParagraph mo_emphasis mo_blank mo_lastLine mo_imageSize mo_imagea mo_image mo_compares mo_unlike_24 mo_out mo_total mo_literal mo_handLength mo_handa mo_hand mo_isOpen mo_seenTopics mo_seenNamesa mo_seenNames mo_seenBodiesa mo_seenBodies mo_seenLengthsa mo_seenLengths mo_seenKeywords mo_seenKeyLettersa mo_seenKeyLetters mo_seenKeyLengthsa mo_seenKeyLengths mo_seenKeyBitsa mo_seenKeyBits mo_seenWords mo_seenWordLettersa mo_seenWordLetters mo_seenWordLengthsa mo_seenWordLengths mo_seenWordBitsa mo_seenWordBits mo_topic mo_backs mo_backa mo_back mo_forwards mo_forwarda mo_forward mo_typed mo_querya mo_query mo_visits mo_valuesa mo_values mo_valued mo_signsa mo_signs mo_signed mo_width mo_lines mo_lineFroma mo_lineFrom mo_lineSizea mo_lineSize mo_shown mo_texta mo_text mo_partLength mo_parta mo_part)) := hD.sub [0, 1, 2, 3, 4, 5, 6, 7, 8, 9, 10, 11, 12, 13, 14, 15, 16, 17, 18, 19, 20, 21, 22, 23, 24, 25, 26, 27, 28, 29, 30, 31, 32, 33, 34, 35] (by decide) rfl
            refine lv_istore (lv' := [(6, .int r24), (0, .ref mo), (1, .int x1), (2, .int x2), (3, .int x3), (4, .int x4), (5, .int x5)]) hx hb d_Model_unpack_27 hl (by decide) rfl (fun ls hl => ?_)
            refine lv_iload hx hb d_Model_unpack_29 (lv_at hl 0 rfl) ?_
            refine lv_sipush (v := 128) hx hb d_Model_unpack_31 (by decide) ?_
            refine lv_icmp_ge (tgt := 44) hx hb d_Model_unpack_34 (by decide) (fun h34 => ?_) (fun h34 => ?_)
            · have hd := hd.1 h34
              refine lv_iload hx hb d_Model_unpack_44 (lv_at hl 0 rfl) ?_
              refine lv_bipush (v := 125) hx hb d_Model_unpack_46 (by decide) ?_
              refine lv_isub hx hb d_Model_unpack_48 ?_
              refine lv_istore (lv' := [(7, .int (r24 - 125)), (6, .int r24), (0, .ref mo), (1, .int x1), (2, .int x2), (3, .int x3), (4, .int x4), (5, .int x5)]) hx hb d_Model_unpack_49 hl (by decide) rfl (fun ls hl => ?_)
              exact ih.2.1 x1 x2 x3 x4 x5 r24 (r24 - 125) mo_bodies mo_unlike_24 _ _ _ (lv_sub hl [2, 3, 4, 5, 6, 7, 1, 0] rfl) hP hD hS hd
            · have hd := hd.2 h34
              refine lv_iload hx hb d_Model_unpack_37 (lv_at hl 0 rfl) ?_
              refine lv_iconst (v := 1) hx hb d_Model_unpack_39 (by decide) ?_
              refine lv_iadd hx hb d_Model_unpack_40 ?_
              refine lv_goto (tgt := 49) hx hb d_Model_unpack_41 (by decide) ?_
              refine lv_istore (lv' := [(7, .int (r24 + 1)), (6, .int r24), (0, .ref mo), (1, .int x1), (2, .int x2), (3, .int x3), (4, .int x4), (5, .int x5)]) hx hb d_Model_unpack_49 hl (by decide) rfl (fun ls hl => ?_)
              exact ih.2.1 x1 x2 x3 x4 x5 r24 (r24 + 1) mo_bodies mo_unlike_24 _ _ _ (lv_sub hl [2, 3, 4, 5, 6, 7, 1, 0] rfl) hP hD hS hd
      · intro x1 x2 x3 x4 x5 x6 x7 mo_bodies mo_unlike ls H locs hl hP hD hS hd
        have hd : B_Model_unpack_51 mo_lengths mo_imageSize mo_image res mo_bodies' mo_unlike' (T_Model_unpack mo_lengths mo_imageSize mo_image res mo_bodies' mo_unlike' n) x1 x2 x3 x4 x5 x6 x7 mo_bodies mo_unlike := hd
        refine lv_iload hx hb d_Model_unpack_51 (lv_at hl 6 rfl) ?_
        refine lv_sipush (v := 128) hx hb d_Model_unpack_53 (by decide) ?_
        refine lv_icmp_ge (tgt := 63) hx hb d_Model_unpack_56 (by decide) (fun h56 => ?_) (fun h56 => ?_)
        · have hd := hd.1 h56
          refine lv_aload_n hx hb d_Model_unpack_63 rfl (lv_at hl 0 rfl) ?_
          refine lv_iload hx hb d_Model_unpack_64 (lv_at hl 4 rfl) ?_
          refine lv_iconst (v := 1) hx hb d_Model_unpack_66 (by decide) ?_
          refine lv_iadd hx hb d_Model_unpack_67 ?_
          obtain ⟨r68, mo_unlike_68, c68, hd⟩ := hd
          refine ct_V (As := [.int (x4 + 1)]) (rest := []) (C := R_Model) (ci := 9) (q := (R_Model, F_Model, 69)) ⟨hx, hb, hml, hown, hts⟩ fm_Model_byteAt (c_Model_byteAt l dC dI cI cL cZ mo mo_thrown mo_sourcea mo_source mo_size mo_faultLine mo_fault mo_topics mo_namesa mo_names mo_bodiesa mo_bodies mo_lengthsa mo_lengths mo_headingsa mo_headings mo_keywords mo_keyLettersa mo_keyLetters mo_keyLengthsa mo_keyLengths mo_keyBitsa mo_keyBits mo_words mo_wordLettersa mo_wordLetters mo_wordLengthsa mo_wordLengths mo_wordBitsa mo_wordBits mo_links mo_linkAta mo_linkAt mo_linkLengtha mo_linkLength mo_linkLinea mo_linkLine mo_linkToa mo_linkTo mo_inParagraph mo_emphasis mo_blank mo_lastLine mo_imageSize mo_imagea mo_image mo_compares mo_unlike mo_out mo_total mo_literal mo_handLength mo_handa mo_hand mo_isOpen mo_seenTopics mo_seenNamesa mo_seenNames mo_seenBodiesa mo_seenBodies mo_seenLengthsa mo_seenLengths mo_seenKeywords mo_seenKeyLettersa mo_seenKeyLetters mo_seenKeyLengthsa mo_seenKeyLengths mo_seenKeyBitsa mo_seenKeyBits mo_seenWords mo_seenWordLettersa mo_seenWordLetters mo_seenWordLengthsa mo_seenWordLengths mo_seenWordBitsa mo_seenWordBits mo_topic mo_backs mo_backa mo_back mo_forwards mo_forwarda mo_forward mo_typed mo_querya mo_query mo_visits mo_valuesa mo_values mo_valued mo_signsa mo_signs mo_signed mo_width mo_lines mo_lineFroma mo_lineFrom mo_lineSizea mo_lineSize mo_shown mo_texta mo_text mo_partLength mo_parta mo_part (x4 + 1) r68 mo_unlike_68 c68) k614_methodLink k615_instanceMethod k616_selects ⟨Nat.le_of_ble_eq_true rfl, Nat.le_of_ble_eq_true rfl⟩ rfl rfl hK hN hP hD hS hA [0, 1, 2, 3, 4, 5, 6, 7, 8, 9, 10, 11, 12, 13, 14, 15, 16, 17, 18, 19, 20, 21, 22, 23, 24, 25, 26, 27, 28, 29, 30, 31, 32, 33, 34, 35] [] rfl rfl rfl (by decide) (by decide) (by decide) 0 rfl rfl rfl rfl hl.1 rfl (Nat.le_of_ble_eq_true rfl) d_Model_unpack_68 (fun H locs hP hD hS => ?_)
          have hP : va_P (dC, dI) classes ((sh_Model cI cL cZ mo mo_thrown mo_sourcea mo_source mo_size mo_faultLine mo_fault mo_topics mo_namesa mo_names mo_bodiesa mo_bodies mo_lengthsa mo_lengths mo_headingsa mo_headings mo_keywords mo_keyLettersa mo_keyLetters mo_keyLengthsa mo_keyLengths mo_keyBitsa mo_keyBits mo_words mo_wordLettersa mo_wordLetters mo_wordLengthsa mo_wordLengths mo_wordBitsa mo_wordBits mo_links mo_linkAta mo_linkAt mo_linkLengtha mo_linkLength mo_linkLinea mo_linkLine mo_linkToa mo_linkTo mo_inParagraph mo_emphasis mo_blank mo_lastLine mo_imageSize mo_imagea mo_image mo_compares mo_unlike_68 mo_out mo_total mo_literal mo_handLength mo_handa mo_hand mo_isOpen mo_seenTopics mo_seenNamesa mo_seenNames mo_seenBodiesa mo_seenBodies mo_seenLengthsa mo_seenLengths mo_seenKeywords mo_seenKeyLettersa mo_seenKeyLetters mo_seenKeyLengthsa mo_seenKeyLengths mo_seenKeyBitsa mo_seenKeyBits mo_seenWords mo_seenWordLettersa mo_seenWordLetters mo_seenWordLengthsa mo_seenWordLengths mo_seenWordBitsa mo_seenWordBits mo_topic mo_backs mo_backa mo_back mo_forwards mo_forwarda mo_forward mo_typed mo_querya mo_query mo_visits mo_valuesa mo_values mo_valued mo_signsa mo_signs mo_signed mo_width mo_lines mo_lineFroma mo_lineFrom mo_lineSizea mo_lineSize mo_shown mo_texta mo_text mo_partLength mo_parta mo_part)) H := hP.sub [0, 1, 2, 3, 4, 5, 6, 7, 8, 9, 10, 11, 12, 13, 14, 15, 16, 17, 18, 19, 20, 21, 22, 23, 24, 25, 26, 27, 28, 29, 30, 31, 32, 33, 34, 35] rfl
          have hD : va_D A ((sh_Model cI cL cZ mo mo_thrown mo_sourcea mo_source mo_size mo_faultLine mo_fault mo_topics mo_namesa mo_names mo_bodiesa mo_bodies mo_lengthsa mo_lengths mo_headingsa mo_headings mo_keywords mo_keyLettersa mo_keyLetters mo_keyLengthsa mo_keyLengths mo_keyBitsa mo_keyBits mo_words mo_wordLettersa mo_wordLetters mo_wordLengthsa mo_wordLengths mo_wordBitsa mo_wordBits mo_links mo_linkAta mo_linkAt mo_linkLengtha mo_linkLength mo_linkLinea mo_linkLine mo_linkToa mo_linkTo mo_inParagraph mo_emphasis mo_blank mo_lastLine mo_imageSize mo_imagea mo_image mo_compares mo_unlike_68 mo_out mo_total mo_literal mo_handLength mo_handa mo_hand mo_isOpen mo_seenTopics mo_seenNamesa mo_seenNames mo_seenBodiesa mo_seenBodies mo_seenLengthsa mo_seenLengths mo_seenKeywords mo_seenKeyLettersa mo_seenKeyLetters mo_seenKeyLengthsa mo_seenKeyLengths mo_seenKeyBitsa mo_seenKeyBits mo_seenWords mo_seenWordLettersa mo_seenWordLetters mo_seenWordLengthsa mo_seenWordLengths mo_seenWordBitsa mo_seenWordBits mo_topic mo_backs mo_backa mo_back mo_forwards mo_forwarda mo_forward mo_typed mo_querya mo_query mo_visits mo_valuesa mo_values mo_valued mo_signsa mo_signs mo_signed mo_width mo_lines mo_lineFroma mo_lineFrom mo_lineSizea mo_lineSize mo_shown mo_texta mo_text mo_partLength mo_parta mo_part)) := hD.sub [0, 1, 2, 3, 4, 5, 6, 7, 8, 9, 10, 11, 12, 13, 14, 15, 16, 17, 18, 19, 20, 21, 22, 23, 24, 25, 26, 27, 28, 29, 30, 31, 32, 33, 34, 35] (by decide) rfl
          refine lv_istore (lv' := [(8, .int r68), (0, .ref mo), (1, .int x1), (2, .int x2), (3, .int x3), (4, .int x4), (5, .int x5), (6, .int x6), (7, .int x7)]) hx hb d_Model_unpack_71 hl (by decide) rfl (fun ls hl => ?_)
          exact ih.2.2.1 x1 x2 x3 x4 x5 x6 x7 r68 mo_bodies mo_unlike_68 _ _ _ (lv_sub hl [1, 2, 3, 4, 5, 6, 7, 8, 0] rfl) hP hD hS hd
        · have hd := hd.2 h56
          refine lv_iconst (v := 0) hx hb d_Model_unpack_59 (by decide) ?_
          refine lv_goto (tgt := 71) hx hb d_Model_unpack_60 (by decide) ?_
          refine lv_istore (lv' := [(8, .int 0), (0, .ref mo), (1, .int x1), (2, .int x2), (3, .int x3), (4, .int x4), (5, .int x5), (6, .int x6), (7, .int x7)]) hx hb d_Model_unpack_71 hl (by decide) rfl (fun ls hl => ?_)
          exact ih.2.2.1 x1 x2 x3 x4 x5 x6 x7 0 mo_bodies mo_unlike _ _ _ (lv_sub hl [1, 2, 3, 4, 5, 6, 7, 8, 0] rfl) hP hD hS hd
      · intro x1 x2 x3 x4 x5 x6 x7 x8 mo_bodies mo_unlike ls H locs hl hP hD hS hd
        have hd : B_Model_unpack_73 mo_lengths mo_imageSize mo_image res mo_bodies' mo_unlike' (T_Model_unpack mo_lengths mo_imageSize mo_image res mo_bodies' mo_unlike' n) x1 x2 x3 x4 x5 x6 x7 x8 mo_bodies mo_unlike := hd
        refine lv_aload_n hx hb d_Model_unpack_73 rfl (lv_at hl 0 rfl) ?_
        refine lv_aload_n hx hb d_Model_unpack_74 rfl (lv_at hl 0 rfl) ?_
        refine va_get (D := (dC, dI)) (ci := 9) (v := .int (bI mo_unlike)) (C := R_Model) (T := F_Model) (N := 69) hx hb hts in_Model hown hK hP 0 rfl rfl 30 (by decide) (hts _ (List.mem_cons_of_mem _ k573_fieldLink)) (fun _ h9 => h9) rfl d_Model_unpack_75 ?_
        refine lv_if_ne (tgt := 122) hx hb d_Model_unpack_78 (by decide) (fun h78 => ?_) (fun h78 => ?_)
        · have hd := hd.2 h78
          refine lv_iconst (v := 1) hx hb d_Model_unpack_122 (by decide) ?_
          refine lv_goto (tgt := 127) hx hb d_Model_unpack_123 (by decide) ?_
          refine va_put (D := (dC, dI)) (ci := 9) (v := .int (bI true)) (ty := t_Model 30) (C := R_Model) (T := F_Model) (N := 69) hx hb hts in_Model t_Model t_Model_ok n_Model hown hK hP hD hS 0 rfl rfl 30 (by decide) (hts _ (List.mem_cons_of_mem _ k573_fieldLink)) (fun _ h9 => h9) rfl (t_Model_ok 30 (by decide)) (bI_nar _) (bI_fit _) (Nat.le_of_ble_eq_true rfl) d_Model_unpack_127 (fun H locs hP hD hS => ?_)
          have hP : va_P (dC, dI) classes ((sh_Model cI cL cZ mo mo_thrown mo_sourcea mo_source mo_size mo_faultLine mo_fault mo_topics mo_namesa mo_names mo_bodiesa mo_bodies mo_lengthsa mo_lengths mo_headingsa mo_headings mo_keywords mo_keyLettersa mo_keyLetters mo_keyLengthsa mo_keyLengths mo_keyBitsa mo_keyBits mo_words mo_wordLettersa mo_wordLetters mo_wordLengthsa mo_wordLengths mo_wordBitsa mo_wordBits mo_links mo_linkAta mo_linkAt mo_linkLengtha mo_linkLength mo_linkLinea mo_linkLine mo_linkToa mo_linkTo mo_inParagraph mo_emphasis mo_blank mo_lastLine mo_imageSize mo_imagea mo_image mo_compares true mo_out mo_total mo_literal mo_handLength mo_handa mo_hand mo_isOpen mo_seenTopics mo_seenNamesa mo_seenNames mo_seenBodiesa mo_seenBodies mo_seenLengthsa mo_seenLengths mo_seenKeywords mo_seenKeyLettersa mo_seenKeyLetters mo_seenKeyLengthsa mo_seenKeyLengths mo_seenKeyBitsa mo_seenKeyBits mo_seenWords mo_seenWordLettersa mo_seenWordLetters mo_seenWordLengthsa mo_seenWordLengths mo_seenWordBitsa mo_seenWordBits mo_topic mo_backs mo_backa mo_back mo_forwards mo_forwarda mo_forward mo_typed mo_querya mo_query mo_visits mo_valuesa mo_values mo_valued mo_signsa mo_signs mo_signed mo_width mo_lines mo_lineFroma mo_lineFrom mo_lineSizea mo_lineSize mo_shown mo_texta mo_text mo_partLength mo_parta mo_part)) H := hP
          have hD : va_D A ((sh_Model cI cL cZ mo mo_thrown mo_sourcea mo_source mo_size mo_faultLine mo_fault mo_topics mo_namesa mo_names mo_bodiesa mo_bodies mo_lengthsa mo_lengths mo_headingsa mo_headings mo_keywords mo_keyLettersa mo_keyLetters mo_keyLengthsa mo_keyLengths mo_keyBitsa mo_keyBits mo_words mo_wordLettersa mo_wordLetters mo_wordLengthsa mo_wordLengths mo_wordBitsa mo_wordBits mo_links mo_linkAta mo_linkAt mo_linkLengtha mo_linkLength mo_linkLinea mo_linkLine mo_linkToa mo_linkTo mo_inParagraph mo_emphasis mo_blank mo_lastLine mo_imageSize mo_imagea mo_image mo_compares true mo_out mo_total mo_literal mo_handLength mo_handa mo_hand mo_isOpen mo_seenTopics mo_seenNamesa mo_seenNames mo_seenBodiesa mo_seenBodies mo_seenLengthsa mo_seenLengths mo_seenKeywords mo_seenKeyLettersa mo_seenKeyLetters mo_seenKeyLengthsa mo_seenKeyLengths mo_seenKeyBitsa mo_seenKeyBits mo_seenWords mo_seenWordLettersa mo_seenWordLetters mo_seenWordLengthsa mo_seenWordLengths mo_seenWordBitsa mo_seenWordBits mo_topic mo_backs mo_backa mo_back mo_forwards mo_forwarda mo_forward mo_typed mo_querya mo_query mo_visits mo_valuesa mo_values mo_valued mo_signsa mo_signs mo_signed mo_width mo_lines mo_lineFroma mo_lineFrom mo_lineSizea mo_lineSize mo_shown mo_texta mo_text mo_partLength mo_parta mo_part)) := hD
          exact ih.2.2.2.1 x1 x2 x3 x4 x5 x6 x7 x8 mo_bodies true _ _ _ (lv_sub hl [0, 1, 2, 3, 4, 5, 6, 7, 8] rfl) hP hD hS hd
        · have hd := hd.1 h78
          refine lv_iload hx hb d_Model_unpack_81 (lv_at hl 5 rfl) ?_
          refine lv_iload hx hb d_Model_unpack_83 (lv_at hl 7 rfl) ?_
          refine lv_iadd hx hb d_Model_unpack_85 ?_
          refine lv_aload_n hx hb d_Model_unpack_86 rfl (lv_at hl 0 rfl) ?_
          refine va_get (D := (dC, dI)) (ci := 9) (v := .ref mo_lengthsa) (C := R_Model) (T := F_Model) (N := 69) hx hb hts in_Model hown hK hP 0 rfl rfl 8 (by decide) (hts _ (List.mem_cons_of_mem _ k502_fieldLink)) (fun _ h9 => h9) rfl d_Model_unpack_87 ?_
          refine lv_iload_n hx hb d_Model_unpack_90 rfl (lv_at hl 1 rfl) ?_
          obtain ⟨h91, hd⟩ := hd
          refine va_iald hx hb hK hP 4 0 rfl rfl h91 d_Model_unpack_91 ?_
          refine lv_icmp_gt (tgt := 122) hx hb d_Model_unpack_92 (by decide) (fun h92 => ?_) (fun h92 => ?_)
          · have hd := hd.1 h92
            refine lv_iconst (v := 1) hx hb d_Model_unpack_122 (by decide) ?_
            refine lv_goto (tgt := 127) hx hb d_Model_unpack_123 (by decide) ?_
            refine va_put (D := (dC, dI)) (ci := 9) (v := .int (bI true)) (ty := t_Model 30) (C := R_Model) (T := F_Model) (N := 69) hx hb hts in_Model t_Model t_Model_ok n_Model hown hK hP hD hS 0 rfl rfl 30 (by decide) (hts _ (List.mem_cons_of_mem _ k573_fieldLink)) (fun _ h9 => h9) rfl (t_Model_ok 30 (by decide)) (bI_nar _) (bI_fit _) (Nat.le_of_ble_eq_true rfl) d_Model_unpack_127 (fun H locs hP hD hS => ?_)
            have hP : va_P (dC, dI) classes ((sh_Model cI cL cZ mo mo_thrown mo_sourcea mo_source mo_size mo_faultLine mo_fault mo_topics mo_namesa mo_names mo_bodiesa mo_bodies mo_lengthsa mo_lengths mo_headingsa mo_headings mo_keywords mo_keyLettersa mo_keyLetters mo_keyLengthsa mo_keyLengths mo_keyBitsa mo_keyBits mo_words mo_wordLettersa mo_wordLetters mo_wordLengthsa mo_wordLengths mo_wordBitsa mo_wordBits mo_links mo_linkAta mo_linkAt mo_linkLengtha mo_linkLength mo_linkLinea mo_linkLine mo_linkToa mo_linkTo mo_inParagraph mo_emphasis mo_blank mo_lastLine mo_imageSize mo_imagea mo_image mo_compares true mo_out mo_total mo_literal mo_handLength mo_handa mo_hand mo_isOpen mo_seenTopics mo_seenNamesa mo_seenNames mo_seenBodiesa mo_seenBodies mo_seenLengthsa mo_seenLengths mo_seenKeywords mo_seenKeyLettersa mo_seenKeyLetters mo_seenKeyLengthsa mo_seenKeyLengths mo_seenKeyBitsa mo_seenKeyBits mo_seenWords mo_seenWordLettersa mo_seenWordLetters mo_seenWordLengthsa mo_seenWordLengths mo_seenWordBitsa mo_seenWordBits mo_topic mo_backs mo_backa mo_back mo_forwards mo_forwarda mo_forward mo_typed mo_querya mo_query mo_visits mo_valuesa mo_values mo_valued mo_signsa mo_signs mo_signed mo_width mo_lines mo_lineFroma mo_lineFrom mo_lineSizea mo_lineSize mo_shown mo_texta mo_text mo_partLength mo_parta mo_part)) H := hP
            have hD : va_D A ((sh_Model cI cL cZ mo mo_thrown mo_sourcea mo_source mo_size mo_faultLine mo_fault mo_topics mo_namesa mo_names mo_bodiesa mo_bodies mo_lengthsa mo_lengths mo_headingsa mo_headings mo_keywords mo_keyLettersa mo_keyLetters mo_keyLengthsa mo_keyLengths mo_keyBitsa mo_keyBits mo_words mo_wordLettersa mo_wordLetters mo_wordLengthsa mo_wordLengths mo_wordBitsa mo_wordBits mo_links mo_linkAta mo_linkAt mo_linkLengtha mo_linkLength mo_linkLinea mo_linkLine mo_linkToa mo_linkTo mo_inParagraph mo_emphasis mo_blank mo_lastLine mo_imageSize mo_imagea mo_image mo_compares true mo_out mo_total mo_literal mo_handLength mo_handa mo_hand mo_isOpen mo_seenTopics mo_seenNamesa mo_seenNames mo_seenBodiesa mo_seenBodies mo_seenLengthsa mo_seenLengths mo_seenKeywords mo_seenKeyLettersa mo_seenKeyLetters mo_seenKeyLengthsa mo_seenKeyLengths mo_seenKeyBitsa mo_seenKeyBits mo_seenWords mo_seenWordLettersa mo_seenWordLetters mo_seenWordLengthsa mo_seenWordLengths mo_seenWordBitsa mo_seenWordBits mo_topic mo_backs mo_backa mo_back mo_forwards mo_forwarda mo_forward mo_typed mo_querya mo_query mo_visits mo_valuesa mo_values mo_valued mo_signsa mo_signs mo_signed mo_width mo_lines mo_lineFroma mo_lineFrom mo_lineSizea mo_lineSize mo_shown mo_texta mo_text mo_partLength mo_parta mo_part)) := hD
            exact ih.2.2.2.1 x1 x2 x3 x4 x5 x6 x7 x8 mo_bodies true _ _ _ (lv_sub hl [0, 1, 2, 3, 4, 5, 6, 7, 8] rfl) hP hD hS hd
          · have hd := hd.2 h92
            refine lv_iload hx hb d_Model_unpack_95 (lv_at hl 6 rfl) ?_
            refine lv_sipush (v := 188) hx hb d_Model_unpack_97 (by decide) ?_
            refine lv_icmp_gt (tgt := 122) hx hb d_Model_unpack_100 (by decide) (fun h100 => ?_) (fun h100 => ?_)
            · have hd := hd.1 h100
              refine lv_iconst (v := 1) hx hb d_Model_unpack_122 (by decide) ?_
              refine lv_goto (tgt := 127) hx hb d_Model_unpack_123 (by decide) ?_
              refine va_put (D := (dC, dI)) (ci := 9) (v := .int (bI true)) (ty := t_Model 30) (C := R_Model) (T := F_Model) (N := 69) hx hb hts in_Model t_Model t_Model_ok n_Model hown hK hP hD hS 0 rfl rfl 30 (by decide) (hts _ (List.mem_cons_of_mem _ k573_fieldLink)) (fun _ h9 => h9) rfl (t_Model_ok 30 (by decide)) (bI_nar _) (bI_fit _) (Nat.le_of_ble_eq_true rfl) d_Model_unpack_127 (fun H locs hP hD hS => ?_)
              have hP : va_P (dC, dI) classes ((sh_Model cI cL cZ mo mo_thrown mo_sourcea mo_source mo_size mo_faultLine mo_fault mo_topics mo_namesa mo_names mo_bodiesa mo_bodies mo_lengthsa mo_lengths mo_headingsa mo_headings mo_keywords mo_keyLettersa mo_keyLetters mo_keyLengthsa mo_keyLengths mo_keyBitsa mo_keyBits mo_words mo_wordLettersa mo_wordLetters mo_wordLengthsa mo_wordLengths mo_wordBitsa mo_wordBits mo_links mo_linkAta mo_linkAt mo_linkLengtha mo_linkLength mo_linkLinea mo_linkLine mo_linkToa mo_linkTo mo_inParagraph mo_emphasis mo_blank mo_lastLine mo_imageSize mo_imagea mo_image mo_compares true mo_out mo_total mo_literal mo_handLength mo_handa mo_hand mo_isOpen mo_seenTopics mo_seenNamesa mo_seenNames mo_seenBodiesa mo_seenBodies mo_seenLengthsa mo_seenLengths mo_seenKeywords mo_seenKeyLettersa mo_seenKeyLetters mo_seenKeyLengthsa mo_seenKeyLengths mo_seenKeyBitsa mo_seenKeyBits mo_seenWords mo_seenWordLettersa mo_seenWordLetters mo_seenWordLengthsa mo_seenWordLengths mo_seenWordBitsa mo_seenWordBits mo_topic mo_backs mo_backa mo_back mo_forwards mo_forwarda mo_forward mo_typed mo_querya mo_query mo_visits mo_valuesa mo_values mo_valued mo_signsa mo_signs mo_signed mo_width mo_lines mo_lineFroma mo_lineFrom mo_lineSizea mo_lineSize mo_shown mo_texta mo_text mo_partLength mo_parta mo_part)) H := hP
              have hD : va_D A ((sh_Model cI cL cZ mo mo_thrown mo_sourcea mo_source mo_size mo_faultLine mo_fault mo_topics mo_namesa mo_names mo_bodiesa mo_bodies mo_lengthsa mo_lengths mo_headingsa mo_headings mo_keywords mo_keyLettersa mo_keyLetters mo_keyLengthsa mo_keyLengths mo_keyBitsa mo_keyBits mo_words mo_wordLettersa mo_wordLetters mo_wordLengthsa mo_wordLengths mo_wordBitsa mo_wordBits mo_links mo_linkAta mo_linkAt mo_linkLengtha mo_linkLength mo_linkLinea mo_linkLine mo_linkToa mo_linkTo mo_inParagraph mo_emphasis mo_blank mo_lastLine mo_imageSize mo_imagea mo_image mo_compares true mo_out mo_total mo_literal mo_handLength mo_handa mo_hand mo_isOpen mo_seenTopics mo_seenNamesa mo_seenNames mo_seenBodiesa mo_seenBodies mo_seenLengthsa mo_seenLengths mo_seenKeywords mo_seenKeyLettersa mo_seenKeyLetters mo_seenKeyLengthsa mo_seenKeyLengths mo_seenKeyBitsa mo_seenKeyBits mo_seenWords mo_seenWordLettersa mo_seenWordLetters mo_seenWordLengthsa mo_seenWordLengths mo_seenWordBitsa mo_seenWordBits mo_topic mo_backs mo_backa mo_back mo_forwards mo_forwarda mo_forward mo_typed mo_querya mo_query mo_visits mo_valuesa mo_values mo_valued mo_signsa mo_signs mo_signed mo_width mo_lines mo_lineFroma mo_lineFrom mo_lineSizea mo_lineSize mo_shown mo_texta mo_text mo_partLength mo_parta mo_part)) := hD
              exact ih.2.2.2.1 x1 x2 x3 x4 x5 x6 x7 x8 mo_bodies true _ _ _ (lv_sub hl [0, 1, 2, 3, 4, 5, 6, 7, 8] rfl) hP hD hS hd
            · have hd := hd.2 h100
              refine lv_iload hx hb d_Model_unpack_103 (lv_at hl 6 rfl) ?_
              refine lv_bipush (v := 127) hx hb d_Model_unpack_105 (by decide) ?_
              refine lv_icmp_le (tgt := 126) hx hb d_Model_unpack_107 (by decide) (fun h107 => ?_) (fun h107 => ?_)
              · have hd := hd.1 h107
                refine lv_iconst (v := 0) hx hb d_Model_unpack_126 (by decide) ?_
                refine va_put (D := (dC, dI)) (ci := 9) (v := .int (bI false)) (ty := t_Model 30) (C := R_Model) (T := F_Model) (N := 69) hx hb hts in_Model t_Model t_Model_ok n_Model hown hK hP hD hS 0 rfl rfl 30 (by decide) (hts _ (List.mem_cons_of_mem _ k573_fieldLink)) (fun _ h9 => h9) rfl (t_Model_ok 30 (by decide)) (bI_nar _) (bI_fit _) (Nat.le_of_ble_eq_true rfl) d_Model_unpack_127 (fun H locs hP hD hS => ?_)
                have hP : va_P (dC, dI) classes ((sh_Model cI cL cZ mo mo_thrown mo_sourcea mo_source mo_size mo_faultLine mo_fault mo_topics mo_namesa mo_names mo_bodiesa mo_bodies mo_lengthsa mo_lengths mo_headingsa mo_headings mo_keywords mo_keyLettersa mo_keyLetters mo_keyLengthsa mo_keyLengths mo_keyBitsa mo_keyBits mo_words mo_wordLettersa mo_wordLetters mo_wordLengthsa mo_wordLengths mo_wordBitsa mo_wordBits mo_links mo_linkAta mo_linkAt mo_linkLengtha mo_linkLength mo_linkLinea mo_linkLine mo_linkToa mo_linkTo mo_inParagraph mo_emphasis mo_blank mo_lastLine mo_imageSize mo_imagea mo_image mo_compares false mo_out mo_total mo_literal mo_handLength mo_handa mo_hand mo_isOpen mo_seenTopics mo_seenNamesa mo_seenNames mo_seenBodiesa mo_seenBodies mo_seenLengthsa mo_seenLengths mo_seenKeywords mo_seenKeyLettersa mo_seenKeyLetters mo_seenKeyLengthsa mo_seenKeyLengths mo_seenKeyBitsa mo_seenKeyBits mo_seenWords mo_seenWordLettersa mo_seenWordLetters mo_seenWordLengthsa mo_seenWordLengths mo_seenWordBitsa mo_seenWordBits mo_topic mo_backs mo_backa mo_back mo_forwards mo_forwarda mo_forward mo_typed mo_querya mo_query mo_visits mo_valuesa mo_values mo_valued mo_signsa mo_signs mo_signed mo_width mo_lines mo_lineFroma mo_lineFrom mo_lineSizea mo_lineSize mo_shown mo_texta mo_text mo_partLength mo_parta mo_part)) H := hP
                have hD : va_D A ((sh_Model cI cL cZ mo mo_thrown mo_sourcea mo_source mo_size mo_faultLine mo_fault mo_topics mo_namesa mo_names mo_bodiesa mo_bodies mo_lengthsa mo_lengths mo_headingsa mo_headings mo_keywords mo_keyLettersa mo_keyLetters mo_keyLengthsa mo_keyLengths mo_keyBitsa mo_keyBits mo_words mo_wordLettersa mo_wordLetters mo_wordLengthsa mo_wordLengths mo_wordBitsa mo_wordBits mo_links mo_linkAta mo_linkAt mo_linkLengtha mo_linkLength mo_linkLinea mo_linkLine mo_linkToa mo_linkTo mo_inParagraph mo_emphasis mo_blank mo_lastLine mo_imageSize mo_imagea mo_image mo_compares false mo_out mo_total mo_literal mo_handLength mo_handa mo_hand mo_isOpen mo_seenTopics mo_seenNamesa mo_seenNames mo_seenBodiesa mo_seenBodies mo_seenLengthsa mo_seenLengths mo_seenKeywords mo_seenKeyLettersa mo_seenKeyLetters mo_seenKeyLengthsa mo_seenKeyLengths mo_seenKeyBitsa mo_seenKeyBits mo_seenWords mo_seenWordLettersa mo_seenWordLetters mo_seenWordLengthsa mo_seenWordLengths mo_seenWordBitsa mo_seenWordBits mo_topic mo_backs mo_backa mo_back mo_forwards mo_forwarda mo_forward mo_typed mo_querya mo_query mo_visits mo_valuesa mo_values mo_valued mo_signsa mo_signs mo_signed mo_width mo_lines mo_lineFroma mo_lineFrom mo_lineSizea mo_lineSize mo_shown mo_texta mo_text mo_partLength mo_parta mo_part)) := hD
                exact ih.2.2.2.1 x1 x2 x3 x4 x5 x6 x7 x8 mo_bodies false _ _ _ (lv_sub hl [0, 1, 2, 3, 4, 5, 6, 7, 8] rfl) hP hD hS hd
              · have hd := hd.2 h107
                refine lv_iload hx hb d_Model_unpack_110 (lv_at hl 8 rfl) ?_
                refine lv_if_eq (tgt := 122) hx hb d_Model_unpack_112 (by decide) (fun h112 => ?_) (fun h112 => ?_)
                · have hd := hd.1 h112
                  refine lv_iconst (v := 1) hx hb d_Model_unpack_122 (by decide) ?_
                  refine lv_goto (tgt := 127) hx hb d_Model_unpack_123 (by decide) ?_
                  refine va_put (D := (dC, dI)) (ci := 9) (v := .int (bI true)) (ty := t_Model 30) (C := R_Model) (T := F_Model) (N := 69) hx hb hts in_Model t_Model t_Model_ok n_Model hown hK hP hD hS 0 rfl rfl 30 (by decide) (hts _ (List.mem_cons_of_mem _ k573_fieldLink)) (fun _ h9 => h9) rfl (t_Model_ok 30 (by decide)) (bI_nar _) (bI_fit _) (Nat.le_of_ble_eq_true rfl) d_Model_unpack_127 (fun H locs hP hD hS => ?_)
                  have hP : va_P (dC, dI) classes ((sh_Model cI cL cZ mo mo_thrown mo_sourcea mo_source mo_size mo_faultLine mo_fault mo_topics mo_namesa mo_names mo_bodiesa mo_bodies mo_lengthsa mo_lengths mo_headingsa mo_headings mo_keywords mo_keyLettersa mo_keyLetters mo_keyLengthsa mo_keyLengths mo_keyBitsa mo_keyBits mo_words mo_wordLettersa mo_wordLetters mo_wordLengthsa mo_wordLengths mo_wordBitsa mo_wordBits mo_links mo_linkAta mo_linkAt mo_linkLengtha mo_linkLength mo_linkLinea mo_linkLine mo_linkToa mo_linkTo mo_inParagraph mo_emphasis mo_blank mo_lastLine mo_imageSize mo_imagea mo_image mo_compares true mo_out mo_total mo_literal mo_handLength mo_handa mo_hand mo_isOpen mo_seenTopics mo_seenNamesa mo_seenNames mo_seenBodiesa mo_seenBodies mo_seenLengthsa mo_seenLengths mo_seenKeywords mo_seenKeyLettersa mo_seenKeyLetters mo_seenKeyLengthsa mo_seenKeyLengths mo_seenKeyBitsa mo_seenKeyBits mo_seenWords mo_seenWordLettersa mo_seenWordLetters mo_seenWordLengthsa mo_seenWordLengths mo_seenWordBitsa mo_seenWordBits mo_topic mo_backs mo_backa mo_back mo_forwards mo_forwarda mo_forward mo_typed mo_querya mo_query mo_visits mo_valuesa mo_values mo_valued mo_signsa mo_signs mo_signed mo_width mo_lines mo_lineFroma mo_lineFrom mo_lineSizea mo_lineSize mo_shown mo_texta mo_text mo_partLength mo_parta mo_part)) H := hP
                  have hD : va_D A ((sh_Model cI cL cZ mo mo_thrown mo_sourcea mo_source mo_size mo_faultLine mo_fault mo_topics mo_namesa mo_names mo_bodiesa mo_bodies mo_lengthsa mo_lengths mo_headingsa mo_headings mo_keywords mo_keyLettersa mo_keyLetters mo_keyLengthsa mo_keyLengths mo_keyBitsa mo_keyBits mo_words mo_wordLettersa mo_wordLetters mo_wordLengthsa mo_wordLengths mo_wordBitsa mo_wordBits mo_links mo_linkAta mo_linkAt mo_linkLengtha mo_linkLength mo_linkLinea mo_linkLine mo_linkToa mo_linkTo mo_inParagraph mo_emphasis mo_blank mo_lastLine mo_imageSize mo_imagea mo_image mo_compares true mo_out mo_total mo_literal mo_handLength mo_handa mo_hand mo_isOpen mo_seenTopics mo_seenNamesa mo_seenNames mo_seenBodiesa mo_seenBodies mo_seenLengthsa mo_seenLengths mo_seenKeywords mo_seenKeyLettersa mo_seenKeyLetters mo_seenKeyLengthsa mo_seenKeyLengths mo_seenKeyBitsa mo_seenKeyBits mo_seenWords mo_seenWordLettersa mo_seenWordLetters mo_seenWordLengthsa mo_seenWordLengths mo_seenWordBitsa mo_seenWordBits mo_topic mo_backs mo_backa mo_back mo_forwards mo_forwarda mo_forward mo_typed mo_querya mo_query mo_visits mo_valuesa mo_values mo_valued mo_signsa mo_signs mo_signed mo_width mo_lines mo_lineFroma mo_lineFrom mo_lineSizea mo_lineSize mo_shown mo_texta mo_text mo_partLength mo_parta mo_part)) := hD
                  exact ih.2.2.2.1 x1 x2 x3 x4 x5 x6 x7 x8 mo_bodies true _ _ _ (lv_sub hl [0, 1, 2, 3, 4, 5, 6, 7, 8] rfl) hP hD hS hd
                · have hd := hd.2 h112
                  refine lv_iload hx hb d_Model_unpack_115 (lv_at hl 8 rfl) ?_
                  refine lv_iload hx hb d_Model_unpack_117 (lv_at hl 5 rfl) ?_
                  refine lv_icmp_le (tgt := 126) hx hb d_Model_unpack_119 (by decide) (fun h119 => ?_) (fun h119 => ?_)
                  · have hd := hd.1 h119
                    refine lv_iconst (v := 0) hx hb d_Model_unpack_126 (by decide) ?_
                    refine va_put (D := (dC, dI)) (ci := 9) (v := .int (bI false)) (ty := t_Model 30) (C := R_Model) (T := F_Model) (N := 69) hx hb hts in_Model t_Model t_Model_ok n_Model hown hK hP hD hS 0 rfl rfl 30 (by decide) (hts _ (List.mem_cons_of_mem _ k573_fieldLink)) (fun _ h9 => h9) rfl (t_Model_ok 30 (by decide)) (bI_nar _) (bI_fit _) (Nat.le_of_ble_eq_true rfl) d_Model_unpack_127 (fun H locs hP hD hS => ?_)
                    have hP : va_P (dC, dI) classes ((sh_Model cI cL cZ mo mo_thrown mo_sourcea mo_source mo_size mo_faultLine mo_fault mo_topics mo_namesa mo_names mo_bodiesa mo_bodies mo_lengthsa mo_lengths mo_headingsa mo_headings mo_keywords mo_keyLettersa mo_keyLetters mo_keyLengthsa mo_keyLengths mo_keyBitsa mo_keyBits mo_words mo_wordLettersa mo_wordLetters mo_wordLengthsa mo_wordLengths mo_wordBitsa mo_wordBits mo_links mo_linkAta mo_linkAt mo_linkLengtha mo_linkLength mo_linkLinea mo_linkLine mo_linkToa mo_linkTo mo_inParagraph mo_emphasis mo_blank mo_lastLine mo_imageSize mo_imagea mo_image mo_compares false mo_out mo_total mo_literal mo_handLength mo_handa mo_hand mo_isOpen mo_seenTopics mo_seenNamesa mo_seenNames mo_seenBodiesa mo_seenBodies mo_seenLengthsa mo_seenLengths mo_seenKeywords mo_seenKeyLettersa mo_seenKeyLetters mo_seenKeyLengthsa mo_seenKeyLengths mo_seenKeyBitsa mo_seenKeyBits mo_seenWords mo_seenWordLettersa mo_seenWordLetters mo_seenWordLengthsa mo_seenWordLengths mo_seenWordBitsa mo_seenWordBits mo_topic mo_backs mo_backa mo_back mo_forwards mo_forwarda mo_forward mo_typed mo_querya mo_query mo_visits mo_valuesa mo_values mo_valued mo_signsa mo_signs mo_signed mo_width mo_lines mo_lineFroma mo_lineFrom mo_lineSizea mo_lineSize mo_shown mo_texta mo_text mo_partLength mo_parta mo_part)) H := hP
                    have hD : va_D A ((sh_Model cI cL cZ mo mo_thrown mo_sourcea mo_source mo_size mo_faultLine mo_fault mo_topics mo_namesa mo_names mo_bodiesa mo_bodies mo_lengthsa mo_lengths mo_headingsa mo_headings mo_keywords mo_keyLettersa mo_keyLetters mo_keyLengthsa mo_keyLengths mo_keyBitsa mo_keyBits mo_words mo_wordLettersa mo_wordLetters mo_wordLengthsa mo_wordLengths mo_wordBitsa mo_wordBits mo_links mo_linkAta mo_linkAt mo_linkLengtha mo_linkLength mo_linkLinea mo_linkLine mo_linkToa mo_linkTo mo_inParagraph mo_emphasis mo_blank mo_lastLine mo_imageSize mo_imagea mo_image mo_compares false mo_out mo_total mo_literal mo_handLength mo_handa mo_hand mo_isOpen mo_seenTopics mo_seenNamesa mo_seenNames mo_seenBodiesa mo_seenBodies mo_seenLengthsa mo_seenLengths mo_seenKeywords mo_seenKeyLettersa mo_seenKeyLetters mo_seenKeyLengthsa mo_seenKeyLengths mo_seenKeyBitsa mo_seenKeyBits mo_seenWords mo_seenWordLettersa mo_seenWordLetters mo_seenWordLengthsa mo_seenWordLengths mo_seenWordBitsa mo_seenWordBits mo_topic mo_backs mo_backa mo_back mo_forwards mo_forwarda mo_forward mo_typed mo_querya mo_query mo_visits mo_valuesa mo_values mo_valued mo_signsa mo_signs mo_signed mo_width mo_lines mo_lineFroma mo_lineFrom mo_lineSizea mo_lineSize mo_shown mo_texta mo_text mo_partLength mo_parta mo_part)) := hD
                    exact ih.2.2.2.1 x1 x2 x3 x4 x5 x6 x7 x8 mo_bodies false _ _ _ (lv_sub hl [0, 1, 2, 3, 4, 5, 6, 7, 8] rfl) hP hD hS hd
                  · have hd := hd.2 h119
                    refine lv_iconst (v := 1) hx hb d_Model_unpack_122 (by decide) ?_
                    refine lv_goto (tgt := 127) hx hb d_Model_unpack_123 (by decide) ?_
                    refine va_put (D := (dC, dI)) (ci := 9) (v := .int (bI true)) (ty := t_Model 30) (C := R_Model) (T := F_Model) (N := 69) hx hb hts in_Model t_Model t_Model_ok n_Model hown hK hP hD hS 0 rfl rfl 30 (by decide) (hts _ (List.mem_cons_of_mem _ k573_fieldLink)) (fun _ h9 => h9) rfl (t_Model_ok 30 (by decide)) (bI_nar _) (bI_fit _) (Nat.le_of_ble_eq_true rfl) d_Model_unpack_127 (fun H locs hP hD hS => ?_)
                    have hP : va_P (dC, dI) classes ((sh_Model cI cL cZ mo mo_thrown mo_sourcea mo_source mo_size mo_faultLine mo_fault mo_topics mo_namesa mo_names mo_bodiesa mo_bodies mo_lengthsa mo_lengths mo_headingsa mo_headings mo_keywords mo_keyLettersa mo_keyLetters mo_keyLengthsa mo_keyLengths mo_keyBitsa mo_keyBits mo_words mo_wordLettersa mo_wordLetters mo_wordLengthsa mo_wordLengths mo_wordBitsa mo_wordBits mo_links mo_linkAta mo_linkAt mo_linkLengtha mo_linkLength mo_linkLinea mo_linkLine mo_linkToa mo_linkTo mo_inParagraph mo_emphasis mo_blank mo_lastLine mo_imageSize mo_imagea mo_image mo_compares true mo_out mo_total mo_literal mo_handLength mo_handa mo_hand mo_isOpen mo_seenTopics mo_seenNamesa mo_seenNames mo_seenBodiesa mo_seenBodies mo_seenLengthsa mo_seenLengths mo_seenKeywords mo_seenKeyLettersa mo_seenKeyLetters mo_seenKeyLengthsa mo_seenKeyLengths mo_seenKeyBitsa mo_seenKeyBits mo_seenWords mo_seenWordLettersa mo_seenWordLetters mo_seenWordLengthsa mo_seenWordLengths mo_seenWordBitsa mo_seenWordBits mo_topic mo_backs mo_backa mo_back mo_forwards mo_forwarda mo_forward mo_typed mo_querya mo_query mo_visits mo_valuesa mo_values mo_valued mo_signsa mo_signs mo_signed mo_width mo_lines mo_lineFroma mo_lineFrom mo_lineSizea mo_lineSize mo_shown mo_texta mo_text mo_partLength mo_parta mo_part)) H := hP
                    have hD : va_D A ((sh_Model cI cL cZ mo mo_thrown mo_sourcea mo_source mo_size mo_faultLine mo_fault mo_topics mo_namesa mo_names mo_bodiesa mo_bodies mo_lengthsa mo_lengths mo_headingsa mo_headings mo_keywords mo_keyLettersa mo_keyLetters mo_keyLengthsa mo_keyLengths mo_keyBitsa mo_keyBits mo_words mo_wordLettersa mo_wordLetters mo_wordLengthsa mo_wordLengths mo_wordBitsa mo_wordBits mo_links mo_linkAta mo_linkAt mo_linkLengtha mo_linkLength mo_linkLinea mo_linkLine mo_linkToa mo_linkTo mo_inParagraph mo_emphasis mo_blank mo_lastLine mo_imageSize mo_imagea mo_image mo_compares true mo_out mo_total mo_literal mo_handLength mo_handa mo_hand mo_isOpen mo_seenTopics mo_seenNamesa mo_seenNames mo_seenBodiesa mo_seenBodies mo_seenLengthsa mo_seenLengths mo_seenKeywords mo_seenKeyLettersa mo_seenKeyLetters mo_seenKeyLengthsa mo_seenKeyLengths mo_seenKeyBitsa mo_seenKeyBits mo_seenWords mo_seenWordLettersa mo_seenWordLetters mo_seenWordLengthsa mo_seenWordLengths mo_seenWordBitsa mo_seenWordBits mo_topic mo_backs mo_backa mo_back mo_forwards mo_forwarda mo_forward mo_typed mo_querya mo_query mo_visits mo_valuesa mo_values mo_valued mo_signsa mo_signs mo_signed mo_width mo_lines mo_lineFroma mo_lineFrom mo_lineSizea mo_lineSize mo_shown mo_texta mo_text mo_partLength mo_parta mo_part)) := hD
                    exact ih.2.2.2.1 x1 x2 x3 x4 x5 x6 x7 x8 mo_bodies true _ _ _ (lv_sub hl [0, 1, 2, 3, 4, 5, 6, 7, 8] rfl) hP hD hS hd
      · intro x1 x2 x3 x4 x5 x6 x7 x8 mo_bodies mo_unlike ls H locs hl hP hD hS hd
        have hd : B_Model_unpack_130 mo_lengths mo_imageSize mo_image res mo_bodies' mo_unlike' (T_Model_unpack mo_lengths mo_imageSize mo_image res mo_bodies' mo_unlike' n) x1 x2 x3 x4 x5 x6 x7 x8 mo_bodies mo_unlike := hd
        refine lv_iconst (v := 0) hx hb d_Model_unpack_130 (by decide) ?_
        refine lv_istore (lv' := [(9, .int 0), (0, .ref mo), (1, .int x1), (2, .int x2), (3, .int x3), (4, .int x4), (5, .int x5), (6, .int x6), (7, .int x7), (8, .int x8)]) hx hb d_Model_unpack_131 hl (by decide) rfl (fun ls hl => ?_)
        exact ih.2.2.2.2.1 x1 x2 x3 x4 x5 x6 x7 x8 0 mo_bodies mo_unlike _ _ _ (lv_sub hl [1, 2, 3, 4, 5, 6, 7, 8, 9, 0] rfl) hP hD hS hd
      · intro x1 x2 x3 x4 x5 x6 x7 x8 x9 mo_bodies mo_unlike ls H locs hl hP hD hS hd
        have hd : B_Model_unpack_133 mo_lengths mo_imageSize mo_image res mo_bodies' mo_unlike' (T_Model_unpack mo_lengths mo_imageSize mo_image res mo_bodies' mo_unlike' n) x1 x2 x3 x4 x5 x6 x7 x8 x9 mo_bodies mo_unlike := hd
        refine lv_iload hx hb d_Model_unpack_133 (lv_at hl 9 rfl) ?_
        refine lv_iload hx hb d_Model_unpack_135 (lv_at hl 7 rfl) ?_
        refine lv_icmp_ge (tgt := 207) hx hb d_Model_unpack_137 (by decide) (fun h137 => ?_) (fun h137 => ?_)
        · have hd := hd.1 h137
          exact ih.2.2.2.2.2.1 x1 x2 x3 x4 x5 x6 x7 mo_bodies mo_unlike _ _ _ (lv_sub hl [0, 1, 2, 3, 4, 5, 6, 7] rfl) hP hD hS hd
        · have hd := hd.2 h137
          refine lv_aload_n hx hb d_Model_unpack_140 rfl (lv_at hl 0 rfl) ?_
          refine va_get (D := (dC, dI)) (ci := 9) (v := .int (bI mo_unlike)) (C := R_Model) (T := F_Model) (N := 69) hx hb hts in_Model hown hK hP 0 rfl rfl 30 (by decide) (hts _ (List.mem_cons_of_mem _ k573_fieldLink)) (fun _ h9 => h9) rfl d_Model_unpack_141 ?_
          refine lv_if_ne (tgt := 207) hx hb d_Model_unpack_144 (by decide) (fun h144 => ?_) (fun h144 => ?_)
          · have hd := hd.2 h144
            exact ih.2.2.2.2.2.1 x1 x2 x3 x4 x5 x6 x7 mo_bodies mo_unlike _ _ _ (lv_sub hl [0, 1, 2, 3, 4, 5, 6, 7] rfl) hP hD hS hd
          · have hd := hd.1 h144
            refine lv_aload_n hx hb d_Model_unpack_147 rfl (lv_at hl 0 rfl) ?_
            refine va_get (D := (dC, dI)) (ci := 9) (v := .ref mo_bodiesa) (C := R_Model) (T := F_Model) (N := 69) hx hb hts in_Model hown hK hP 0 rfl rfl 7 (by decide) (hts _ (List.mem_cons_of_mem _ k504_fieldLink)) (fun _ h9 => h9) rfl d_Model_unpack_148 ?_
            refine lv_sipush (v := 255) hx hb d_Model_unpack_151 (by decide) ?_
            refine lv_iload_n hx hb d_Model_unpack_154 rfl (lv_at hl 1 rfl) ?_
            refine lv_imul hx hb d_Model_unpack_155 ?_
            refine lv_iload hx hb d_Model_unpack_156 (lv_at hl 5 rfl) ?_
            refine lv_iadd hx hb d_Model_unpack_158 ?_
            refine lv_iload hx hb d_Model_unpack_159 (lv_at hl 6 rfl) ?_
            refine lv_sipush (v := 128) hx hb d_Model_unpack_161 (by decide) ?_
            refine lv_icmp_ge (tgt := 181) hx hb d_Model_unpack_164 (by decide) (fun h164 => ?_) (fun h164 => ?_)
            · have hd := hd.1 h164
              refine lv_aload_n hx hb d_Model_unpack_181 rfl (lv_at hl 0 rfl) ?_
              refine va_get (D := (dC, dI)) (ci := 9) (v := .ref mo_bodiesa) (C := R_Model) (T := F_Model) (N := 69) hx hb hts in_Model hown hK hP 0 rfl rfl 7 (by decide) (hts _ (List.mem_cons_of_mem _ k504_fieldLink)) (fun _ h9 => h9) rfl d_Model_unpack_182 ?_
              refine lv_sipush (v := 255) hx hb d_Model_unpack_185 (by decide) ?_
              refine lv_iload_n hx hb d_Model_unpack_188 rfl (lv_at hl 1 rfl) ?_
              refine lv_imul hx hb d_Model_unpack_189 ?_
              refine lv_iload hx hb d_Model_unpack_190 (lv_at hl 5 rfl) ?_
              refine lv_iadd hx hb d_Model_unpack_192 ?_
              refine lv_iload hx hb d_Model_unpack_193 (lv_at hl 8 rfl) ?_
              refine lv_isub hx hb d_Model_unpack_195 ?_
              obtain ⟨h196, hd⟩ := hd
              refine va_iald hx hb hK hP 3 0 rfl rfl h196 d_Model_unpack_196 ?_
              obtain ⟨h197, hd⟩ := hd
              refine va_iast hx hb hK hP hD hS 3 0 rfl rfl h197 d_Model_unpack_197 (fun H locs hP hD hS => ?_)
              have hP : va_P (dC, dI) classes ((sh_Model cI cL cZ mo mo_thrown mo_sourcea mo_source mo_size mo_faultLine mo_fault mo_topics mo_namesa mo_names mo_bodiesa (upd mo_bodies (Int32.toNatClampNeg ((255 * x1) + x5)) (mo_bodies (Int32.toNatClampNeg (((255 * x1) + x5) - x8)))) mo_lengthsa mo_lengths mo_headingsa mo_headings mo_keywords mo_keyLettersa mo_keyLetters mo_keyLengthsa mo_keyLengths mo_keyBitsa mo_keyBits mo_words mo_wordLettersa mo_wordLetters mo_wordLengthsa mo_wordLengths mo_wordBitsa mo_wordBits mo_links mo_linkAta mo_linkAt mo_linkLengtha mo_linkLength mo_linkLinea mo_linkLine mo_linkToa mo_linkTo mo_inParagraph mo_emphasis mo_blank mo_lastLine mo_imageSize mo_imagea mo_image mo_compares mo_unlike mo_out mo_total mo_literal mo_handLength mo_handa mo_hand mo_isOpen mo_seenTopics mo_seenNamesa mo_seenNames mo_seenBodiesa mo_seenBodies mo_seenLengthsa mo_seenLengths mo_seenKeywords mo_seenKeyLettersa mo_seenKeyLetters mo_seenKeyLengthsa mo_seenKeyLengths mo_seenKeyBitsa mo_seenKeyBits mo_seenWords mo_seenWordLettersa mo_seenWordLetters mo_seenWordLengthsa mo_seenWordLengths mo_seenWordBitsa mo_seenWordBits mo_topic mo_backs mo_backa mo_back mo_forwards mo_forwarda mo_forward mo_typed mo_querya mo_query mo_visits mo_valuesa mo_values mo_valued mo_signsa mo_signs mo_signed mo_width mo_lines mo_lineFroma mo_lineFrom mo_lineSizea mo_lineSize mo_shown mo_texta mo_text mo_partLength mo_parta mo_part)) H := hP
              have hD : va_D A ((sh_Model cI cL cZ mo mo_thrown mo_sourcea mo_source mo_size mo_faultLine mo_fault mo_topics mo_namesa mo_names mo_bodiesa (upd mo_bodies (Int32.toNatClampNeg ((255 * x1) + x5)) (mo_bodies (Int32.toNatClampNeg (((255 * x1) + x5) - x8)))) mo_lengthsa mo_lengths mo_headingsa mo_headings mo_keywords mo_keyLettersa mo_keyLetters mo_keyLengthsa mo_keyLengths mo_keyBitsa mo_keyBits mo_words mo_wordLettersa mo_wordLetters mo_wordLengthsa mo_wordLengths mo_wordBitsa mo_wordBits mo_links mo_linkAta mo_linkAt mo_linkLengtha mo_linkLength mo_linkLinea mo_linkLine mo_linkToa mo_linkTo mo_inParagraph mo_emphasis mo_blank mo_lastLine mo_imageSize mo_imagea mo_image mo_compares mo_unlike mo_out mo_total mo_literal mo_handLength mo_handa mo_hand mo_isOpen mo_seenTopics mo_seenNamesa mo_seenNames mo_seenBodiesa mo_seenBodies mo_seenLengthsa mo_seenLengths mo_seenKeywords mo_seenKeyLettersa mo_seenKeyLetters mo_seenKeyLengthsa mo_seenKeyLengths mo_seenKeyBitsa mo_seenKeyBits mo_seenWords mo_seenWordLettersa mo_seenWordLetters mo_seenWordLengthsa mo_seenWordLengths mo_seenWordBitsa mo_seenWordBits mo_topic mo_backs mo_backa mo_back mo_forwards mo_forwarda mo_forward mo_typed mo_querya mo_query mo_visits mo_valuesa mo_values mo_valued mo_signsa mo_signs mo_signed mo_width mo_lines mo_lineFroma mo_lineFrom mo_lineSizea mo_lineSize mo_shown mo_texta mo_text mo_partLength mo_parta mo_part)) := hD
              refine lv_iinc (k := 5) (v := x5 + 1) (lv' := [(5, .int (x5 + 1)), (0, .ref mo), (1, .int x1), (2, .int x2), (3, .int x3), (4, .int x4), (6, .int x6), (7, .int x7), (8, .int x8), (9, .int x9)]) hx hb d_Model_unpack_198 hl rfl (congrArg (fun z => x5 + z) (by decide)) (by decide) rfl (fun ls hl => ?_)
              refine lv_iinc (k := 9) (v := x9 + 1) (lv' := [(9, .int (x9 + 1)), (5, .int (x5 + 1)), (0, .ref mo), (1, .int x1), (2, .int x2), (3, .int x3), (4, .int x4), (6, .int x6), (7, .int x7), (8, .int x8)]) hx hb d_Model_unpack_201 hl rfl (congrArg (fun z => x9 + z) (by decide)) (by decide) rfl (fun ls hl => ?_)
              refine lv_goto (tgt := 133) hx hb d_Model_unpack_204 (by decide) ?_
              exact ih.2.2.2.2.1 x1 x2 x3 x4 (x5 + 1) x6 x7 x8 (x9 + 1) (upd mo_bodies (Int32.toNatClampNeg ((255 * x1) + x5)) (mo_bodies (Int32.toNatClampNeg (((255 * x1) + x5) - x8)))) mo_unlike _ _ _ (lv_sub hl [2, 3, 4, 5, 6, 1, 7, 8, 9, 0] rfl) hP hD hS hd
            · have hd := hd.2 h164
              refine lv_aload_n hx hb d_Model_unpack_167 rfl (lv_at hl 0 rfl) ?_
              refine lv_iload hx hb d_Model_unpack_168 (lv_at hl 4 rfl) ?_
              refine lv_iconst (v := 1) hx hb d_Model_unpack_170 (by decide) ?_
              refine lv_iadd hx hb d_Model_unpack_171 ?_
              refine lv_iload hx hb d_Model_unpack_172 (lv_at hl 9 rfl) ?_
              refine lv_iadd hx hb d_Model_unpack_174 ?_
              obtain ⟨r175, mo_unlike_175, c175, hd⟩ := hd
              refine ct_V (As := [.int ((x4 + 1) + x9)]) (rest := [.int ((255 * x1) + x5), .ref mo_bodiesa]) (C := R_Model) (ci := 9) (q := (R_Model, F_Model, 69)) ⟨hx, hb, hml, hown, hts⟩ fm_Model_byteAt (c_Model_byteAt l dC dI cI cL cZ mo mo_thrown mo_sourcea mo_source mo_size mo_faultLine mo_fault mo_topics mo_namesa mo_names mo_bodiesa mo_bodies mo_lengthsa mo_lengths mo_headingsa mo_headings mo_keywords mo_keyLettersa mo_keyLetters mo_keyLengthsa mo_keyLengths mo_keyBitsa mo_keyBits mo_words mo_wordLettersa mo_wordLetters mo_wordLengthsa mo_wordLengths mo_wordBitsa mo_wordBits mo_links mo_linkAta mo_linkAt mo_linkLengtha mo_linkLength mo_linkLinea mo_linkLine mo_linkToa mo_linkTo mo_inParagraph mo_emphasis mo_blank mo_lastLine mo_imageSize mo_imagea mo_image mo_compares mo_unlike mo_out mo_total mo_literal mo_handLength mo_handa mo_hand mo_isOpen mo_seenTopics mo_seenNamesa mo_seenNames mo_seenBodiesa mo_seenBodies mo_seenLengthsa mo_seenLengths mo_seenKeywords mo_seenKeyLettersa mo_seenKeyLetters mo_seenKeyLengthsa mo_seenKeyLengths mo_seenKeyBitsa mo_seenKeyBits mo_seenWords mo_seenWordLettersa mo_seenWordLetters mo_seenWordLengthsa mo_seenWordLengths mo_seenWordBitsa mo_seenWordBits mo_topic mo_backs mo_backa mo_back mo_forwards mo_forwarda mo_forward mo_typed mo_querya mo_query mo_visits mo_valuesa mo_values mo_valued mo_signsa mo_signs mo_signed mo_width mo_lines mo_lineFroma mo_lineFrom mo_lineSizea mo_lineSize mo_shown mo_texta mo_text mo_partLength mo_parta mo_part ((x4 + 1) + x9) r175 mo_unlike_175 c175) k614_methodLink k615_instanceMethod k616_selects ⟨Nat.le_of_ble_eq_true rfl, Nat.le_of_ble_eq_true rfl⟩ rfl rfl hK hN hP hD hS hA [0, 1, 2, 3, 4, 5, 6, 7, 8, 9, 10, 11, 12, 13, 14, 15, 16, 17, 18, 19, 20, 21, 22, 23, 24, 25, 26, 27, 28, 29, 30, 31, 32, 33, 34, 35] [] rfl rfl rfl (by decide) (by decide) (by decide) 0 rfl rfl rfl rfl hl.1 rfl (Nat.le_of_ble_eq_true rfl) d_Model_unpack_175 (fun H locs hP hD hS => ?_)
              have hP : va_P (dC, dI) classes ((sh_Model cI cL cZ mo mo_thrown mo_sourcea mo_source mo_size mo_faultLine mo_fault mo_topics mo_namesa mo_names mo_bodiesa mo_bodies mo_lengthsa mo_lengths mo_headingsa mo_headings mo_keywords mo_keyLettersa mo_keyLetters mo_keyLengthsa mo_keyLengths mo_keyBitsa mo_keyBits mo_words mo_wordLettersa mo_wordLetters mo_wordLengthsa mo_wordLengths mo_wordBitsa mo_wordBits mo_links mo_linkAta mo_linkAt mo_linkLengtha mo_linkLength mo_linkLinea mo_linkLine mo_linkToa mo_linkTo mo_inParagraph mo_emphasis mo_blank mo_lastLine mo_imageSize mo_imagea mo_image mo_compares mo_unlike_175 mo_out mo_total mo_literal mo_handLength mo_handa mo_hand mo_isOpen mo_seenTopics mo_seenNamesa mo_seenNames mo_seenBodiesa mo_seenBodies mo_seenLengthsa mo_seenLengths mo_seenKeywords mo_seenKeyLettersa mo_seenKeyLetters mo_seenKeyLengthsa mo_seenKeyLengths mo_seenKeyBitsa mo_seenKeyBits mo_seenWords mo_seenWordLettersa mo_seenWordLetters mo_seenWordLengthsa mo_seenWordLengths mo_seenWordBitsa mo_seenWordBits mo_topic mo_backs mo_backa mo_back mo_forwards mo_forwarda mo_forward mo_typed mo_querya mo_query mo_visits mo_valuesa mo_values mo_valued mo_signsa mo_signs mo_signed mo_width mo_lines mo_lineFroma mo_lineFrom mo_lineSizea mo_lineSize mo_shown mo_texta mo_text mo_partLength mo_parta mo_part)) H := hP.sub [0, 1, 2, 3, 4, 5, 6, 7, 8, 9, 10, 11, 12, 13, 14, 15, 16, 17, 18, 19, 20, 21, 22, 23, 24, 25, 26, 27, 28, 29, 30, 31, 32, 33, 34, 35] rfl
              have hD : va_D A ((sh_Model cI cL cZ mo mo_thrown mo_sourcea mo_source mo_size mo_faultLine mo_fault mo_topics mo_namesa mo_names mo_bodiesa mo_bodies mo_lengthsa mo_lengths mo_headingsa mo_headings mo_keywords mo_keyLettersa mo_keyLetters mo_keyLengthsa mo_keyLengths mo_keyBitsa mo_keyBits mo_words mo_wordLettersa mo_wordLetters mo_wordLengthsa mo_wordLengths mo_wordBitsa mo_wordBits mo_links mo_linkAta mo_linkAt mo_linkLengtha mo_linkLength mo_linkLinea mo_linkLine mo_linkToa mo_linkTo mo_inParagraph mo_emphasis mo_blank mo_lastLine mo_imageSize mo_imagea mo_image mo_compares mo_unlike_175 mo_out mo_total mo_literal mo_handLength mo_handa mo_hand mo_isOpen mo_seenTopics mo_seenNamesa mo_seenNames mo_seenBodiesa mo_seenBodies mo_seenLengthsa mo_seenLengths mo_seenKeywords mo_seenKeyLettersa mo_seenKeyLetters mo_seenKeyLengthsa mo_seenKeyLengths mo_seenKeyBitsa mo_seenKeyBits mo_seenWords mo_seenWordLettersa mo_seenWordLetters mo_seenWordLengthsa mo_seenWordLengths mo_seenWordBitsa mo_seenWordBits mo_topic mo_backs mo_backa mo_back mo_forwards mo_forwarda mo_forward mo_typed mo_querya mo_query mo_visits mo_valuesa mo_values mo_valued mo_signsa mo_signs mo_signed mo_width mo_lines mo_lineFroma mo_lineFrom mo_lineSizea mo_lineSize mo_shown mo_texta mo_text mo_partLength mo_parta mo_part)) := hD.sub [0, 1, 2, 3, 4, 5, 6, 7, 8, 9, 10, 11, 12, 13, 14, 15, 16, 17, 18, 19, 20, 21, 22, 23, 24, 25, 26, 27, 28, 29, 30, 31, 32, 33, 34, 35] (by decide) rfl
              refine lv_goto (tgt := 197) hx hb d_Model_unpack_178 (by decide) ?_
              obtain ⟨h197, hd⟩ := hd
              refine va_iast hx hb hK hP hD hS 3 0 rfl rfl h197 d_Model_unpack_197 (fun H locs hP hD hS => ?_)
              have hP : va_P (dC, dI) classes ((sh_Model cI cL cZ mo mo_thrown mo_sourcea mo_source mo_size mo_faultLine mo_fault mo_topics mo_namesa mo_names mo_bodiesa (upd mo_bodies (Int32.toNatClampNeg ((255 * x1) + x5)) r175) mo_lengthsa mo_lengths mo_headingsa mo_headings mo_keywords mo_keyLettersa mo_keyLetters mo_keyLengthsa mo_keyLengths mo_keyBitsa mo_keyBits mo_words mo_wordLettersa mo_wordLetters mo_wordLengthsa mo_wordLengths mo_wordBitsa mo_wordBits mo_links mo_linkAta mo_linkAt mo_linkLengtha mo_linkLength mo_linkLinea mo_linkLine mo_linkToa mo_linkTo mo_inParagraph mo_emphasis mo_blank mo_lastLine mo_imageSize mo_imagea mo_image mo_compares mo_unlike_175 mo_out mo_total mo_literal mo_handLength mo_handa mo_hand mo_isOpen mo_seenTopics mo_seenNamesa mo_seenNames mo_seenBodiesa mo_seenBodies mo_seenLengthsa mo_seenLengths mo_seenKeywords mo_seenKeyLettersa mo_seenKeyLetters mo_seenKeyLengthsa mo_seenKeyLengths mo_seenKeyBitsa mo_seenKeyBits mo_seenWords mo_seenWordLettersa mo_seenWordLetters mo_seenWordLengthsa mo_seenWordLengths mo_seenWordBitsa mo_seenWordBits mo_topic mo_backs mo_backa mo_back mo_forwards mo_forwarda mo_forward mo_typed mo_querya mo_query mo_visits mo_valuesa mo_values mo_valued mo_signsa mo_signs mo_signed mo_width mo_lines mo_lineFroma mo_lineFrom mo_lineSizea mo_lineSize mo_shown mo_texta mo_text mo_partLength mo_parta mo_part)) H := hP
              have hD : va_D A ((sh_Model cI cL cZ mo mo_thrown mo_sourcea mo_source mo_size mo_faultLine mo_fault mo_topics mo_namesa mo_names mo_bodiesa (upd mo_bodies (Int32.toNatClampNeg ((255 * x1) + x5)) r175) mo_lengthsa mo_lengths mo_headingsa mo_headings mo_keywords mo_keyLettersa mo_keyLetters mo_keyLengthsa mo_keyLengths mo_keyBitsa mo_keyBits mo_words mo_wordLettersa mo_wordLetters mo_wordLengthsa mo_wordLengths mo_wordBitsa mo_wordBits mo_links mo_linkAta mo_linkAt mo_linkLengtha mo_linkLength mo_linkLinea mo_linkLine mo_linkToa mo_linkTo mo_inParagraph mo_emphasis mo_blank mo_lastLine mo_imageSize mo_imagea mo_image mo_compares mo_unlike_175 mo_out mo_total mo_literal mo_handLength mo_handa mo_hand mo_isOpen mo_seenTopics mo_seenNamesa mo_seenNames mo_seenBodiesa mo_seenBodies mo_seenLengthsa mo_seenLengths mo_seenKeywords mo_seenKeyLettersa mo_seenKeyLetters mo_seenKeyLengthsa mo_seenKeyLengths mo_seenKeyBitsa mo_seenKeyBits mo_seenWords mo_seenWordLettersa mo_seenWordLetters mo_seenWordLengthsa mo_seenWordLengths mo_seenWordBitsa mo_seenWordBits mo_topic mo_backs mo_backa mo_back mo_forwards mo_forwarda mo_forward mo_typed mo_querya mo_query mo_visits mo_valuesa mo_values mo_valued mo_signsa mo_signs mo_signed mo_width mo_lines mo_lineFroma mo_lineFrom mo_lineSizea mo_lineSize mo_shown mo_texta mo_text mo_partLength mo_parta mo_part)) := hD
              refine lv_iinc (k := 5) (v := x5 + 1) (lv' := [(5, .int (x5 + 1)), (0, .ref mo), (1, .int x1), (2, .int x2), (3, .int x3), (4, .int x4), (6, .int x6), (7, .int x7), (8, .int x8), (9, .int x9)]) hx hb d_Model_unpack_198 hl rfl (congrArg (fun z => x5 + z) (by decide)) (by decide) rfl (fun ls hl => ?_)
              refine lv_iinc (k := 9) (v := x9 + 1) (lv' := [(9, .int (x9 + 1)), (5, .int (x5 + 1)), (0, .ref mo), (1, .int x1), (2, .int x2), (3, .int x3), (4, .int x4), (6, .int x6), (7, .int x7), (8, .int x8)]) hx hb d_Model_unpack_201 hl rfl (congrArg (fun z => x9 + z) (by decide)) (by decide) rfl (fun ls hl => ?_)
              refine lv_goto (tgt := 133) hx hb d_Model_unpack_204 (by decide) ?_
              exact ih.2.2.2.2.1 x1 x2 x3 x4 (x5 + 1) x6 x7 x8 (x9 + 1) (upd mo_bodies (Int32.toNatClampNeg ((255 * x1) + x5)) r175) mo_unlike_175 _ _ _ (lv_sub hl [2, 3, 4, 5, 6, 1, 7, 8, 9, 0] rfl) hP hD hS hd
      · intro x1 x2 x3 x4 x5 x6 x7 mo_bodies mo_unlike ls H locs hl hP hD hS hd
        have hd : B_Model_unpack_207 mo_lengths mo_imageSize mo_image res mo_bodies' mo_unlike' (T_Model_unpack mo_lengths mo_imageSize mo_image res mo_bodies' mo_unlike' n) x1 x2 x3 x4 x5 x6 x7 mo_bodies mo_unlike := hd
        refine lv_iload hx hb d_Model_unpack_207 (lv_at hl 6 rfl) ?_
        refine lv_sipush (v := 128) hx hb d_Model_unpack_209 (by decide) ?_
        refine lv_icmp_ge (tgt := 225) hx hb d_Model_unpack_212 (by decide) (fun h212 => ?_) (fun h212 => ?_)
        · have hd := hd.1 h212
          refine lv_iload hx hb d_Model_unpack_225 (lv_at hl 4 rfl) ?_
          refine lv_iconst (v := 2) hx hb d_Model_unpack_227 (by decide) ?_
          refine lv_iadd hx hb d_Model_unpack_228 ?_
          refine lv_istore (lv' := [(4, .int (x4 + 2)), (0, .ref mo), (1, .int x1), (2, .int x2), (3, .int x3), (5, .int x5), (6, .int x6), (7, .int x7)]) hx hb d_Model_unpack_229 hl (by decide) rfl (fun ls hl => ?_)
          refine lv_goto (tgt := 6) hx hb d_Model_unpack_231 (by decide) ?_
          exact ih.1 x1 x2 x3 (x4 + 2) x5 mo_bodies mo_unlike _ _ _ (lv_sub hl [1, 2, 3, 4, 0, 5] rfl) hP hD hS hd
        · have hd := hd.2 h212
          refine lv_iload hx hb d_Model_unpack_215 (lv_at hl 4 rfl) ?_
          refine lv_iconst (v := 1) hx hb d_Model_unpack_217 (by decide) ?_
          refine lv_iadd hx hb d_Model_unpack_218 ?_
          refine lv_iload hx hb d_Model_unpack_219 (lv_at hl 7 rfl) ?_
          refine lv_iadd hx hb d_Model_unpack_221 ?_
          refine lv_goto (tgt := 229) hx hb d_Model_unpack_222 (by decide) ?_
          refine lv_istore (lv' := [(4, .int ((x4 + 1) + x7)), (0, .ref mo), (1, .int x1), (2, .int x2), (3, .int x3), (5, .int x5), (6, .int x6), (7, .int x7)]) hx hb d_Model_unpack_229 hl (by decide) rfl (fun ls hl => ?_)
          refine lv_goto (tgt := 6) hx hb d_Model_unpack_231 (by decide) ?_
          exact ih.1 x1 x2 x3 ((x4 + 1) + x7) x5 mo_bodies mo_unlike _ _ _ (lv_sub hl [1, 2, 3, 4, 0, 5] rfl) hP hD hS hd
      · intro x1 x2 x3 x4 x5 mo_bodies mo_unlike ls H locs hl hP hD hS hd
        have hd : B_Model_unpack_234 mo_lengths mo_imageSize mo_image res mo_bodies' mo_unlike' (T_Model_unpack mo_lengths mo_imageSize mo_image res mo_bodies' mo_unlike' n) x1 x2 x3 x4 x5 mo_bodies mo_unlike := hd
        refine lv_aload_n hx hb d_Model_unpack_234 rfl (lv_at hl 0 rfl) ?_
        refine lv_aload_n hx hb d_Model_unpack_235 rfl (lv_at hl 0 rfl) ?_
        refine va_get (D := (dC, dI)) (ci := 9) (v := .int (bI mo_unlike)) (C := R_Model) (T := F_Model) (N := 69) hx hb hts in_Model hown hK hP 0 rfl rfl 30 (by decide) (hts _ (List.mem_cons_of_mem _ k573_fieldLink)) (fun _ h9 => h9) rfl d_Model_unpack_236 ?_
        refine lv_if_ne (tgt := 261) hx hb d_Model_unpack_239 (by decide) (fun h239 => ?_) (fun h239 => ?_)
        · have hd := hd.2 h239
          refine lv_iconst (v := 1) hx hb d_Model_unpack_261 (by decide) ?_
          refine lv_goto (tgt := 266) hx hb d_Model_unpack_262 (by decide) ?_
          refine va_put (D := (dC, dI)) (ci := 9) (v := .int (bI true)) (ty := t_Model 30) (C := R_Model) (T := F_Model) (N := 69) hx hb hts in_Model t_Model t_Model_ok n_Model hown hK hP hD hS 0 rfl rfl 30 (by decide) (hts _ (List.mem_cons_of_mem _ k573_fieldLink)) (fun _ h9 => h9) rfl (t_Model_ok 30 (by decide)) (bI_nar _) (bI_fit _) (Nat.le_of_ble_eq_true rfl) d_Model_unpack_266 (fun H locs hP hD hS => ?_)
          have hP : va_P (dC, dI) classes ((sh_Model cI cL cZ mo mo_thrown mo_sourcea mo_source mo_size mo_faultLine mo_fault mo_topics mo_namesa mo_names mo_bodiesa mo_bodies mo_lengthsa mo_lengths mo_headingsa mo_headings mo_keywords mo_keyLettersa mo_keyLetters mo_keyLengthsa mo_keyLengths mo_keyBitsa mo_keyBits mo_words mo_wordLettersa mo_wordLetters mo_wordLengthsa mo_wordLengths mo_wordBitsa mo_wordBits mo_links mo_linkAta mo_linkAt mo_linkLengtha mo_linkLength mo_linkLinea mo_linkLine mo_linkToa mo_linkTo mo_inParagraph mo_emphasis mo_blank mo_lastLine mo_imageSize mo_imagea mo_image mo_compares true mo_out mo_total mo_literal mo_handLength mo_handa mo_hand mo_isOpen mo_seenTopics mo_seenNamesa mo_seenNames mo_seenBodiesa mo_seenBodies mo_seenLengthsa mo_seenLengths mo_seenKeywords mo_seenKeyLettersa mo_seenKeyLetters mo_seenKeyLengthsa mo_seenKeyLengths mo_seenKeyBitsa mo_seenKeyBits mo_seenWords mo_seenWordLettersa mo_seenWordLetters mo_seenWordLengthsa mo_seenWordLengths mo_seenWordBitsa mo_seenWordBits mo_topic mo_backs mo_backa mo_back mo_forwards mo_forwarda mo_forward mo_typed mo_querya mo_query mo_visits mo_valuesa mo_values mo_valued mo_signsa mo_signs mo_signed mo_width mo_lines mo_lineFroma mo_lineFrom mo_lineSizea mo_lineSize mo_shown mo_texta mo_text mo_partLength mo_parta mo_part)) H := hP
          have hD : va_D A ((sh_Model cI cL cZ mo mo_thrown mo_sourcea mo_source mo_size mo_faultLine mo_fault mo_topics mo_namesa mo_names mo_bodiesa mo_bodies mo_lengthsa mo_lengths mo_headingsa mo_headings mo_keywords mo_keyLettersa mo_keyLetters mo_keyLengthsa mo_keyLengths mo_keyBitsa mo_keyBits mo_words mo_wordLettersa mo_wordLetters mo_wordLengthsa mo_wordLengths mo_wordBitsa mo_wordBits mo_links mo_linkAta mo_linkAt mo_linkLengtha mo_linkLength mo_linkLinea mo_linkLine mo_linkToa mo_linkTo mo_inParagraph mo_emphasis mo_blank mo_lastLine mo_imageSize mo_imagea mo_image mo_compares true mo_out mo_total mo_literal mo_handLength mo_handa mo_hand mo_isOpen mo_seenTopics mo_seenNamesa mo_seenNames mo_seenBodiesa mo_seenBodies mo_seenLengthsa mo_seenLengths mo_seenKeywords mo_seenKeyLettersa mo_seenKeyLetters mo_seenKeyLengthsa mo_seenKeyLengths mo_seenKeyBitsa mo_seenKeyBits mo_seenWords mo_seenWordLettersa mo_seenWordLetters mo_seenWordLengthsa mo_seenWordLengths mo_seenWordBitsa mo_seenWordBits mo_topic mo_backs mo_backa mo_back mo_forwards mo_forwarda mo_forward mo_typed mo_querya mo_query mo_visits mo_valuesa mo_values mo_valued mo_signsa mo_signs mo_signed mo_width mo_lines mo_lineFroma mo_lineFrom mo_lineSizea mo_lineSize mo_shown mo_texta mo_text mo_partLength mo_parta mo_part)) := hD
          refine lv_iload hx hb d_Model_unpack_269 (lv_at hl 4 rfl) ?_
          obtain ⟨e0, e1, e2⟩ := hd
          subst e0
          subst e1
          subst e2
          exact ct_iret hx hb hr hlocks hK hP hD hS d_Model_unpack_271
        · have hd := hd.1 h239
          refine lv_iload hx hb d_Model_unpack_242 (lv_at hl 5 rfl) ?_
          refine lv_aload_n hx hb d_Model_unpack_244 rfl (lv_at hl 0 rfl) ?_
          refine va_get (D := (dC, dI)) (ci := 9) (v := .ref mo_lengthsa) (C := R_Model) (T := F_Model) (N := 69) hx hb hts in_Model hown hK hP 0 rfl rfl 8 (by decide) (hts _ (List.mem_cons_of_mem _ k502_fieldLink)) (fun _ h9 => h9) rfl d_Model_unpack_245 ?_
          refine lv_iload_n hx hb d_Model_unpack_248 rfl (lv_at hl 1 rfl) ?_
          obtain ⟨h249, hd⟩ := hd
          refine va_iald hx hb hK hP 4 0 rfl rfl h249 d_Model_unpack_249 ?_
          refine lv_icmp_ne (tgt := 261) hx hb d_Model_unpack_250 (by decide) (fun h250 => ?_) (fun h250 => ?_)
          · have hd := hd.2 h250
            refine lv_iconst (v := 1) hx hb d_Model_unpack_261 (by decide) ?_
            refine lv_goto (tgt := 266) hx hb d_Model_unpack_262 (by decide) ?_
            refine va_put (D := (dC, dI)) (ci := 9) (v := .int (bI true)) (ty := t_Model 30) (C := R_Model) (T := F_Model) (N := 69) hx hb hts in_Model t_Model t_Model_ok n_Model hown hK hP hD hS 0 rfl rfl 30 (by decide) (hts _ (List.mem_cons_of_mem _ k573_fieldLink)) (fun _ h9 => h9) rfl (t_Model_ok 30 (by decide)) (bI_nar _) (bI_fit _) (Nat.le_of_ble_eq_true rfl) d_Model_unpack_266 (fun H locs hP hD hS => ?_)
            have hP : va_P (dC, dI) classes ((sh_Model cI cL cZ mo mo_thrown mo_sourcea mo_source mo_size mo_faultLine mo_fault mo_topics mo_namesa mo_names mo_bodiesa mo_bodies mo_lengthsa mo_lengths mo_headingsa mo_headings mo_keywords mo_keyLettersa mo_keyLetters mo_keyLengthsa mo_keyLengths mo_keyBitsa mo_keyBits mo_words mo_wordLettersa mo_wordLetters mo_wordLengthsa mo_wordLengths mo_wordBitsa mo_wordBits mo_links mo_linkAta mo_linkAt mo_linkLengtha mo_linkLength mo_linkLinea mo_linkLine mo_linkToa mo_linkTo mo_inParagraph mo_emphasis mo_blank mo_lastLine mo_imageSize mo_imagea mo_image mo_compares true mo_out mo_total mo_literal mo_handLength mo_handa mo_hand mo_isOpen mo_seenTopics mo_seenNamesa mo_seenNames mo_seenBodiesa mo_seenBodies mo_seenLengthsa mo_seenLengths mo_seenKeywords mo_seenKeyLettersa mo_seenKeyLetters mo_seenKeyLengthsa mo_seenKeyLengths mo_seenKeyBitsa mo_seenKeyBits mo_seenWords mo_seenWordLettersa mo_seenWordLetters mo_seenWordLengthsa mo_seenWordLengths mo_seenWordBitsa mo_seenWordBits mo_topic mo_backs mo_backa mo_back mo_forwards mo_forwarda mo_forward mo_typed mo_querya mo_query mo_visits mo_valuesa mo_values mo_valued mo_signsa mo_signs mo_signed mo_width mo_lines mo_lineFroma mo_lineFrom mo_lineSizea mo_lineSize mo_shown mo_texta mo_text mo_partLength mo_parta mo_part)) H := hP
            have hD : va_D A ((sh_Model cI cL cZ mo mo_thrown mo_sourcea mo_source mo_size mo_faultLine mo_fault mo_topics mo_namesa mo_names mo_bodiesa mo_bodies mo_lengthsa mo_lengths mo_headingsa mo_headings mo_keywords mo_keyLettersa mo_keyLetters mo_keyLengthsa mo_keyLengths mo_keyBitsa mo_keyBits mo_words mo_wordLettersa mo_wordLetters mo_wordLengthsa mo_wordLengths mo_wordBitsa mo_wordBits mo_links mo_linkAta mo_linkAt mo_linkLengtha mo_linkLength mo_linkLinea mo_linkLine mo_linkToa mo_linkTo mo_inParagraph mo_emphasis mo_blank mo_lastLine mo_imageSize mo_imagea mo_image mo_compares true mo_out mo_total mo_literal mo_handLength mo_handa mo_hand mo_isOpen mo_seenTopics mo_seenNamesa mo_seenNames mo_seenBodiesa mo_seenBodies mo_seenLengthsa mo_seenLengths mo_seenKeywords mo_seenKeyLettersa mo_seenKeyLetters mo_seenKeyLengthsa mo_seenKeyLengths mo_seenKeyBitsa mo_seenKeyBits mo_seenWords mo_seenWordLettersa mo_seenWordLetters mo_seenWordLengthsa mo_seenWordLengths mo_seenWordBitsa mo_seenWordBits mo_topic mo_backs mo_backa mo_back mo_forwards mo_forwarda mo_forward mo_typed mo_querya mo_query mo_visits mo_valuesa mo_values mo_valued mo_signsa mo_signs mo_signed mo_width mo_lines mo_lineFroma mo_lineFrom mo_lineSizea mo_lineSize mo_shown mo_texta mo_text mo_partLength mo_parta mo_part)) := hD
            refine lv_iload hx hb d_Model_unpack_269 (lv_at hl 4 rfl) ?_
            obtain ⟨e0, e1, e2⟩ := hd
            subst e0
            subst e1
            subst e2
            exact ct_iret hx hb hr hlocks hK hP hD hS d_Model_unpack_271
          · have hd := hd.1 h250
            refine lv_iload hx hb d_Model_unpack_253 (lv_at hl 4 rfl) ?_
            refine lv_iload_n hx hb d_Model_unpack_255 rfl (lv_at hl 2 rfl) ?_
            refine lv_iload_n hx hb d_Model_unpack_256 rfl (lv_at hl 3 rfl) ?_
            refine lv_iadd hx hb d_Model_unpack_257 ?_
            refine lv_icmp_eq (tgt := 265) hx hb d_Model_unpack_258 (by decide) (fun h258 => ?_) (fun h258 => ?_)
            · have hd := hd.1 h258
              refine lv_iconst (v := 0) hx hb d_Model_unpack_265 (by decide) ?_
              refine va_put (D := (dC, dI)) (ci := 9) (v := .int (bI false)) (ty := t_Model 30) (C := R_Model) (T := F_Model) (N := 69) hx hb hts in_Model t_Model t_Model_ok n_Model hown hK hP hD hS 0 rfl rfl 30 (by decide) (hts _ (List.mem_cons_of_mem _ k573_fieldLink)) (fun _ h9 => h9) rfl (t_Model_ok 30 (by decide)) (bI_nar _) (bI_fit _) (Nat.le_of_ble_eq_true rfl) d_Model_unpack_266 (fun H locs hP hD hS => ?_)
              have hP : va_P (dC, dI) classes ((sh_Model cI cL cZ mo mo_thrown mo_sourcea mo_source mo_size mo_faultLine mo_fault mo_topics mo_namesa mo_names mo_bodiesa mo_bodies mo_lengthsa mo_lengths mo_headingsa mo_headings mo_keywords mo_keyLettersa mo_keyLetters mo_keyLengthsa mo_keyLengths mo_keyBitsa mo_keyBits mo_words mo_wordLettersa mo_wordLetters mo_wordLengthsa mo_wordLengths mo_wordBitsa mo_wordBits mo_links mo_linkAta mo_linkAt mo_linkLengtha mo_linkLength mo_linkLinea mo_linkLine mo_linkToa mo_linkTo mo_inParagraph mo_emphasis mo_blank mo_lastLine mo_imageSize mo_imagea mo_image mo_compares false mo_out mo_total mo_literal mo_handLength mo_handa mo_hand mo_isOpen mo_seenTopics mo_seenNamesa mo_seenNames mo_seenBodiesa mo_seenBodies mo_seenLengthsa mo_seenLengths mo_seenKeywords mo_seenKeyLettersa mo_seenKeyLetters mo_seenKeyLengthsa mo_seenKeyLengths mo_seenKeyBitsa mo_seenKeyBits mo_seenWords mo_seenWordLettersa mo_seenWordLetters mo_seenWordLengthsa mo_seenWordLengths mo_seenWordBitsa mo_seenWordBits mo_topic mo_backs mo_backa mo_back mo_forwards mo_forwarda mo_forward mo_typed mo_querya mo_query mo_visits mo_valuesa mo_values mo_valued mo_signsa mo_signs mo_signed mo_width mo_lines mo_lineFroma mo_lineFrom mo_lineSizea mo_lineSize mo_shown mo_texta mo_text mo_partLength mo_parta mo_part)) H := hP
              have hD : va_D A ((sh_Model cI cL cZ mo mo_thrown mo_sourcea mo_source mo_size mo_faultLine mo_fault mo_topics mo_namesa mo_names mo_bodiesa mo_bodies mo_lengthsa mo_lengths mo_headingsa mo_headings mo_keywords mo_keyLettersa mo_keyLetters mo_keyLengthsa mo_keyLengths mo_keyBitsa mo_keyBits mo_words mo_wordLettersa mo_wordLetters mo_wordLengthsa mo_wordLengths mo_wordBitsa mo_wordBits mo_links mo_linkAta mo_linkAt mo_linkLengtha mo_linkLength mo_linkLinea mo_linkLine mo_linkToa mo_linkTo mo_inParagraph mo_emphasis mo_blank mo_lastLine mo_imageSize mo_imagea mo_image mo_compares false mo_out mo_total mo_literal mo_handLength mo_handa mo_hand mo_isOpen mo_seenTopics mo_seenNamesa mo_seenNames mo_seenBodiesa mo_seenBodies mo_seenLengthsa mo_seenLengths mo_seenKeywords mo_seenKeyLettersa mo_seenKeyLetters mo_seenKeyLengthsa mo_seenKeyLengths mo_seenKeyBitsa mo_seenKeyBits mo_seenWords mo_seenWordLettersa mo_seenWordLetters mo_seenWordLengthsa mo_seenWordLengths mo_seenWordBitsa mo_seenWordBits mo_topic mo_backs mo_backa mo_back mo_forwards mo_forwarda mo_forward mo_typed mo_querya mo_query mo_visits mo_valuesa mo_values mo_valued mo_signsa mo_signs mo_signed mo_width mo_lines mo_lineFroma mo_lineFrom mo_lineSizea mo_lineSize mo_shown mo_texta mo_text mo_partLength mo_parta mo_part)) := hD
              refine lv_iload hx hb d_Model_unpack_269 (lv_at hl 4 rfl) ?_
              obtain ⟨e0, e1, e2⟩ := hd
              subst e0
              subst e1
              subst e2
              exact ct_iret hx hb hr hlocks hK hP hD hS d_Model_unpack_271
            · have hd := hd.2 h258
              refine lv_iconst (v := 1) hx hb d_Model_unpack_261 (by decide) ?_
              refine lv_goto (tgt := 266) hx hb d_Model_unpack_262 (by decide) ?_
              refine va_put (D := (dC, dI)) (ci := 9) (v := .int (bI true)) (ty := t_Model 30) (C := R_Model) (T := F_Model) (N := 69) hx hb hts in_Model t_Model t_Model_ok n_Model hown hK hP hD hS 0 rfl rfl 30 (by decide) (hts _ (List.mem_cons_of_mem _ k573_fieldLink)) (fun _ h9 => h9) rfl (t_Model_ok 30 (by decide)) (bI_nar _) (bI_fit _) (Nat.le_of_ble_eq_true rfl) d_Model_unpack_266 (fun H locs hP hD hS => ?_)
              have hP : va_P (dC, dI) classes ((sh_Model cI cL cZ mo mo_thrown mo_sourcea mo_source mo_size mo_faultLine mo_fault mo_topics mo_namesa mo_names mo_bodiesa mo_bodies mo_lengthsa mo_lengths mo_headingsa mo_headings mo_keywords mo_keyLettersa mo_keyLetters mo_keyLengthsa mo_keyLengths mo_keyBitsa mo_keyBits mo_words mo_wordLettersa mo_wordLetters mo_wordLengthsa mo_wordLengths mo_wordBitsa mo_wordBits mo_links mo_linkAta mo_linkAt mo_linkLengtha mo_linkLength mo_linkLinea mo_linkLine mo_linkToa mo_linkTo mo_inParagraph mo_emphasis mo_blank mo_lastLine mo_imageSize mo_imagea mo_image mo_compares true mo_out mo_total mo_literal mo_handLength mo_handa mo_hand mo_isOpen mo_seenTopics mo_seenNamesa mo_seenNames mo_seenBodiesa mo_seenBodies mo_seenLengthsa mo_seenLengths mo_seenKeywords mo_seenKeyLettersa mo_seenKeyLetters mo_seenKeyLengthsa mo_seenKeyLengths mo_seenKeyBitsa mo_seenKeyBits mo_seenWords mo_seenWordLettersa mo_seenWordLetters mo_seenWordLengthsa mo_seenWordLengths mo_seenWordBitsa mo_seenWordBits mo_topic mo_backs mo_backa mo_back mo_forwards mo_forwarda mo_forward mo_typed mo_querya mo_query mo_visits mo_valuesa mo_values mo_valued mo_signsa mo_signs mo_signed mo_width mo_lines mo_lineFroma mo_lineFrom mo_lineSizea mo_lineSize mo_shown mo_texta mo_text mo_partLength mo_parta mo_part)) H := hP
              have hD : va_D A ((sh_Model cI cL cZ mo mo_thrown mo_sourcea mo_source mo_size mo_faultLine mo_fault mo_topics mo_namesa mo_names mo_bodiesa mo_bodies mo_lengthsa mo_lengths mo_headingsa mo_headings mo_keywords mo_keyLettersa mo_keyLetters mo_keyLengthsa mo_keyLengths mo_keyBitsa mo_keyBits mo_words mo_wordLettersa mo_wordLetters mo_wordLengthsa mo_wordLengths mo_wordBitsa mo_wordBits mo_links mo_linkAta mo_linkAt mo_linkLengtha mo_linkLength mo_linkLinea mo_linkLine mo_linkToa mo_linkTo mo_inParagraph mo_emphasis mo_blank mo_lastLine mo_imageSize mo_imagea mo_image mo_compares true mo_out mo_total mo_literal mo_handLength mo_handa mo_hand mo_isOpen mo_seenTopics mo_seenNamesa mo_seenNames mo_seenBodiesa mo_seenBodies mo_seenLengthsa mo_seenLengths mo_seenKeywords mo_seenKeyLettersa mo_seenKeyLetters mo_seenKeyLengthsa mo_seenKeyLengths mo_seenKeyBitsa mo_seenKeyBits mo_seenWords mo_seenWordLettersa mo_seenWordLetters mo_seenWordLengthsa mo_seenWordLengths mo_seenWordBitsa mo_seenWordBits mo_topic mo_backs mo_backa mo_back mo_forwards mo_forwarda mo_forward mo_typed mo_querya mo_query mo_visits mo_valuesa mo_values mo_valued mo_signsa mo_signs mo_signed mo_width mo_lines mo_lineFroma mo_lineFrom mo_lineSizea mo_lineSize mo_shown mo_texta mo_text mo_partLength mo_parta mo_part)) := hD
              refine lv_iload hx hb d_Model_unpack_269 (lv_at hl 4 rfl) ?_
              obtain ⟨e0, e1, e2⟩ := hd
              subst e0
              subst e1
              subst e2
              exact ct_iret hx hb hr hlocks hK hP hD hS d_Model_unpack_271
  obtain ⟨n, hd⟩ := hd
  refine lv_iload_n hx hb d_Model_unpack_0 rfl (lv_at hl 2 rfl) ?_
  refine lv_istore (lv' := [(4, .int k1), (0, .ref mo), (1, .int k0), (2, .int k1), (3, .int k2)]) hx hb d_Model_unpack_1 hl (by decide) rfl (fun ls hl => ?_)
  refine lv_iconst (v := 0) hx hb d_Model_unpack_3 (by decide) ?_
  refine lv_istore (lv' := [(5, .int 0), (4, .int k1), (0, .ref mo), (1, .int k0), (2, .int k1), (3, .int k2)]) hx hb d_Model_unpack_4 hl (by decide) rfl (fun ls hl => ?_)
  exact (key n).1 k0 k1 k2 k1 0 mo_bodies mo_unlike _ _ _ (lv_sub hl [2, 3, 4, 5, 1, 0] rfl) hP hD hS hd
-- Model.isTopicName
abbrev b_Model_isTopicName : ByteArray := prog_14_method_47_code
def y_Model_isTopicName : MethodName := ⟨"HelpFileModel", "isTopicName", "(I)Z"⟩
set_option maxRecDepth 100000 in
theorem fm_Model_isTopicName : Fm y_Model_isTopicName b_Model_isTopicName 7 (some .boolean) 1 := ⟨ga_t 1425 rfl rfl, k479_initialized, by decide, by decide, by decide +kernel⟩
def B_Model_isTopicName_2 (mo_names : Nat → Int32) (res : Bool) (X : Nat → Int32 → Int32 → Bool → Int32 → Bool → Int32 → Prop) (x1 : Int32) (x2 : Int32) : Prop := ((6 ≤ x2 → X 1 x1 x2 false 0 false 0) ∧ (¬ (6 ≤ x2) → (vp_in ((6 * x1) + x2) 60 ∧ (∃ r19 : Bool, D_Model_isSmall (mo_names (Int32.toNatClampNeg ((6 * x1) + x2))) r19 ∧ (((bI r19) = 0 → X 1 x1 x2 false 0 false 0) ∧ (¬ ((bI r19) = 0) → X 0 x1 (x2 + 1) false 0 false 0))))))
def B_Model_isTopicName_31 (mo_names : Nat → Int32) (res : Bool) (X : Nat → Int32 → Int32 → Bool → Int32 → Bool → Int32 → Prop) (x1 : Int32) (x2 : Int32) : Prop := ((x2 ≤ 0 → X 2 x1 x2 false 0 false 0) ∧ (¬ (x2 ≤ 0) → X 2 x1 x2 true 0 false 0))
def B_Model_isTopicName_41 (mo_names : Nat → Int32) (res : Bool) (X : Nat → Int32 → Int32 → Bool → Int32 → Bool → Int32 → Prop) (x1 : Int32) (x2 : Int32) (b3 : Bool) : Prop := X 3 x1 0 b3 x2 false 0
def B_Model_isTopicName_44 (mo_names : Nat → Int32) (res : Bool) (X : Nat → Int32 → Int32 → Bool → Int32 → Bool → Int32 → Prop) (x1 : Int32) (b3 : Bool) (x4 : Int32) : Prop := ((6 ≤ x4 → X 5 x1 0 b3 0 false 0) ∧ (¬ (6 ≤ x4) → (((bI b3) = 0 → X 4 x1 0 false x4 false 0) ∧ (¬ ((bI b3) = 0) → (vp_in ((6 * x1) + x4) 60 ∧ (((mo_names (Int32.toNatClampNeg ((6 * x1) + x4))) = 0 → X 3 x1 0 true (x4 + 1) false 0) ∧ (¬ ((mo_names (Int32.toNatClampNeg ((6 * x1) + x4))) = 0) → X 4 x1 0 false x4 false 0)))))))
def B_Model_isTopicName_74 (mo_names : Nat → Int32) (res : Bool) (X : Nat → Int32 → Int32 → Bool → Int32 → Bool → Int32 → Prop) (x1 : Int32) (x4 : Int32) : Prop := X 3 x1 0 false (x4 + 1) false 0
def B_Model_isTopicName_85 (mo_names : Nat → Int32) (res : Bool) (X : Nat → Int32 → Int32 → Bool → Int32 → Bool → Int32 → Prop) (x1 : Int32) (b3 : Bool) (x4 : Int32) : Prop := ((x1 ≤ x4 → (res = b3)) ∧ (¬ (x1 ≤ x4) → X 6 x1 0 b3 x4 true 0))
def B_Model_isTopicName_97 (mo_names : Nat → Int32) (res : Bool) (X : Nat → Int32 → Int32 → Bool → Int32 → Bool → Int32 → Prop) (x1 : Int32) (b3 : Bool) (x4 : Int32) (b5 : Bool) (x6 : Int32) : Prop := ((6 ≤ x6 → (((bI b3) = 0 → X 8 x1 0 false x4 false 0) ∧ (¬ ((bI b3) = 0) → (((bI b5) = 0 → X 5 x1 0 true (x4 + 1) false 0) ∧ (¬ ((bI b5) = 0) → X 8 x1 0 false x4 false 0))))) ∧ (¬ (6 ≤ x6) → (((bI b5) = 0 → X 7 x1 0 b3 x4 false x6) ∧ (¬ ((bI b5) = 0) → (vp_in ((6 * x1) + x6) 60 ∧ (vp_in ((6 * x4) + x6) 60 ∧ (((mo_names (Int32.toNatClampNeg ((6 * x1) + x6))) = (mo_names (Int32.toNatClampNeg ((6 * x4) + x6))) → X 6 x1 0 b3 x4 true (x6 + 1)) ∧ (¬ ((mo_names (Int32.toNatClampNeg ((6 * x1) + x6))) = (mo_names (Int32.toNatClampNeg ((6 * x4) + x6)))) → X 7 x1 0 b3 x4 false x6))))))))
def B_Model_isTopicName_141 (mo_names : Nat → Int32) (res : Bool) (X : Nat → Int32 → Int32 → Bool → Int32 → Bool → Int32 → Prop) (x1 : Int32) (b3 : Bool) (x4 : Int32) (x6 : Int32) : Prop := X 6 x1 0 b3 x4 false (x6 + 1)
def B_Model_isTopicName_163 (mo_names : Nat → Int32) (res : Bool) (X : Nat → Int32 → Int32 → Bool → Int32 → Bool → Int32 → Prop) (x1 : Int32) (x4 : Int32) : Prop := X 5 x1 0 false (x4 + 1) false 0
def S_Model_isTopicName (mo_names : Nat → Int32) (res : Bool) (X : Nat → Int32 → Int32 → Bool → Int32 → Bool → Int32 → Prop) : Nat → Int32 → Int32 → Bool → Int32 → Bool → Int32 → Prop := fun q_lab x1 x2 b3 x4 b5 x6 => match q_lab with | 0 => B_Model_isTopicName_2 mo_names res X x1 x2 | 1 => B_Model_isTopicName_31 mo_names res X x1 x2 | 2 => B_Model_isTopicName_41 mo_names res X x1 x2 b3 | 3 => B_Model_isTopicName_44 mo_names res X x1 b3 x4 | 4 => B_Model_isTopicName_74 mo_names res X x1 x4 | 5 => B_Model_isTopicName_85 mo_names res X x1 b3 x4 | 6 => B_Model_isTopicName_97 mo_names res X x1 b3 x4 b5 x6 | 7 => B_Model_isTopicName_141 mo_names res X x1 b3 x4 x6 | 8 => B_Model_isTopicName_163 mo_names res X x1 x4 | _ => False
def T_Model_isTopicName (mo_names : Nat → Int32) (res : Bool) : Nat → (Nat → Int32 → Int32 → Bool → Int32 → Bool → Int32 → Prop)
  | 0 => fun _ _ _ _ _ _ _ => False
  | n + 1 => S_Model_isTopicName mo_names res (T_Model_isTopicName mo_names res n)
def D_Model_isTopicName (k0 : Int32) (mo_names : Nat → Int32) (res : Bool) : Prop := ∃ n : Nat, T_Model_isTopicName mo_names res n 0 k0 0 false 0 false 0
theorem d_Model_isTopicName_0 : decode b_Model_isTopicName 0 = .ok (.iconst 0, 1) := by decide +kernel
theorem d_Model_isTopicName_1 : decode b_Model_isTopicName 1 = .ok (.istore_n 2, 1) := by decide +kernel
theorem d_Model_isTopicName_2 : decode b_Model_isTopicName 2 = .ok (.iload_n 2, 1) := by decide +kernel
theorem d_Model_isTopicName_3 : decode b_Model_isTopicName 3 = .ok (.bipush 6, 2) := by decide +kernel
theorem d_Model_isTopicName_5 : decode b_Model_isTopicName 5 = .ok (.if_icmp .ge 26, 3) := by decide +kernel
theorem d_Model_isTopicName_8 : decode b_Model_isTopicName 8 = .ok (.aload_n 0, 1) := by decide +kernel
theorem d_Model_isTopicName_9 : decode b_Model_isTopicName 9 = .ok (.getfield 17, 3) := by decide +kernel
theorem d_Model_isTopicName_12 : decode b_Model_isTopicName 12 = .ok (.bipush 6, 2) := by decide +kernel
theorem d_Model_isTopicName_14 : decode b_Model_isTopicName 14 = .ok (.iload_n 1, 1) := by decide +kernel
theorem d_Model_isTopicName_15 : decode b_Model_isTopicName 15 = .ok (.imul, 1) := by decide +kernel
theorem d_Model_isTopicName_16 : decode b_Model_isTopicName 16 = .ok (.iload_n 2, 1) := by decide +kernel
theorem d_Model_isTopicName_17 : decode b_Model_isTopicName 17 = .ok (.iadd, 1) := by decide +kernel
theorem d_Model_isTopicName_18 : decode b_Model_isTopicName 18 = .ok (.iaload, 1) := by decide +kernel
theorem d_Model_isTopicName_19 : decode b_Model_isTopicName 19 = .ok (.invokestatic 129, 3) := by decide +kernel
theorem d_Model_isTopicName_22 : decode b_Model_isTopicName 22 = .ok (.ifCond .eq 9, 3) := by decide +kernel
theorem d_Model_isTopicName_25 : decode b_Model_isTopicName 25 = .ok (.iinc 2 1, 3) := by decide +kernel
theorem d_Model_isTopicName_28 : decode b_Model_isTopicName 28 = .ok (.goto (-26), 3) := by decide +kernel
theorem d_Model_isTopicName_31 : decode b_Model_isTopicName 31 = .ok (.iload_n 2, 1) := by decide +kernel
theorem d_Model_isTopicName_32 : decode b_Model_isTopicName 32 = .ok (.ifCond .le 7, 3) := by decide +kernel
theorem d_Model_isTopicName_35 : decode b_Model_isTopicName 35 = .ok (.iconst 1, 1) := by decide +kernel
theorem d_Model_isTopicName_36 : decode b_Model_isTopicName 36 = .ok (.goto 4, 3) := by decide +kernel
theorem d_Model_isTopicName_39 : decode b_Model_isTopicName 39 = .ok (.iconst 0, 1) := by decide +kernel
theorem d_Model_isTopicName_40 : decode b_Model_isTopicName 40 = .ok (.istore_n 3, 1) := by decide +kernel
theorem d_Model_isTopicName_41 : decode b_Model_isTopicName 41 = .ok (.iload_n 2, 1) := by decide +kernel
theorem d_Model_isTopicName_42 : decode b_Model_isTopicName 42 = .ok (.istore 4, 2) := by decide +kernel
theorem d_Model_isTopicName_44 : decode b_Model_isTopicName 44 = .ok (.iload 4, 2) := by decide +kernel
theorem d_Model_isTopicName_46 : decode b_Model_isTopicName 46 = .ok (.bipush 6, 2) := by decide +kernel
theorem d_Model_isTopicName_48 : decode b_Model_isTopicName 48 = .ok (.if_icmp .ge 34, 3) := by decide +kernel
theorem d_Model_isTopicName_51 : decode b_Model_isTopicName 51 = .ok (.iload_n 3, 1) := by decide +kernel
theorem d_Model_isTopicName_52 : decode b_Model_isTopicName 52 = .ok (.ifCond .eq 22, 3) := by decide +kernel
theorem d_Model_isTopicName_55 : decode b_Model_isTopicName 55 = .ok (.aload_n 0, 1) := by decide +kernel
theorem d_Model_isTopicName_56 : decode b_Model_isTopicName 56 = .ok (.getfield 17, 3) := by decide +kernel
theorem d_Model_isTopicName_59 : decode b_Model_isTopicName 59 = .ok (.bipush 6, 2) := by decide +kernel
theorem d_Model_isTopicName_61 : decode b_Model_isTopicName 61 = .ok (.iload_n 1, 1) := by decide +kernel
theorem d_Model_isTopicName_62 : decode b_Model_isTopicName 62 = .ok (.imul, 1) := by decide +kernel
theorem d_Model_isTopicName_63 : decode b_Model_isTopicName 63 = .ok (.iload 4, 2) := by decide +kernel
theorem d_Model_isTopicName_65 : decode b_Model_isTopicName 65 = .ok (.iadd, 1) := by decide +kernel
theorem d_Model_isTopicName_66 : decode b_Model_isTopicName 66 = .ok (.iaload, 1) := by decide +kernel
theorem d_Model_isTopicName_67 : decode b_Model_isTopicName 67 = .ok (.ifCond .ne 7, 3) := by decide +kernel
theorem d_Model_isTopicName_70 : decode b_Model_isTopicName 70 = .ok (.iconst 1, 1) := by decide +kernel
theorem d_Model_isTopicName_71 : decode b_Model_isTopicName 71 = .ok (.goto 4, 3) := by decide +kernel
theorem d_Model_isTopicName_74 : decode b_Model_isTopicName 74 = .ok (.iconst 0, 1) := by decide +kernel
theorem d_Model_isTopicName_75 : decode b_Model_isTopicName 75 = .ok (.istore_n 3, 1) := by decide +kernel
theorem d_Model_isTopicName_76 : decode b_Model_isTopicName 76 = .ok (.iinc 4 1, 3) := by decide +kernel
theorem d_Model_isTopicName_79 : decode b_Model_isTopicName 79 = .ok (.goto (-35), 3) := by decide +kernel
theorem d_Model_isTopicName_82 : decode b_Model_isTopicName 82 = .ok (.iconst 0, 1) := by decide +kernel
theorem d_Model_isTopicName_83 : decode b_Model_isTopicName 83 = .ok (.istore 4, 2) := by decide +kernel
theorem d_Model_isTopicName_85 : decode b_Model_isTopicName 85 = .ok (.iload 4, 2) := by decide +kernel
theorem d_Model_isTopicName_87 : decode b_Model_isTopicName 87 = .ok (.iload_n 1, 1) := by decide +kernel
theorem d_Model_isTopicName_88 : decode b_Model_isTopicName 88 = .ok (.if_icmp .ge 83, 3) := by decide +kernel
theorem d_Model_isTopicName_91 : decode b_Model_isTopicName 91 = .ok (.iconst 1, 1) := by decide +kernel
theorem d_Model_isTopicName_92 : decode b_Model_isTopicName 92 = .ok (.istore 5, 2) := by decide +kernel
theorem d_Model_isTopicName_94 : decode b_Model_isTopicName 94 = .ok (.iconst 0, 1) := by decide +kernel
theorem d_Model_isTopicName_95 : decode b_Model_isTopicName 95 = .ok (.istore 6, 2) := by decide +kernel
theorem d_Model_isTopicName_97 : decode b_Model_isTopicName 97 = .ok (.iload 6, 2) := by decide +kernel
theorem d_Model_isTopicName_99 : decode b_Model_isTopicName 99 = .ok (.bipush 6, 2) := by decide +kernel
theorem d_Model_isTopicName_101 : decode b_Model_isTopicName 101 = .ok (.if_icmp .ge 49, 3) := by decide +kernel
theorem d_Model_isTopicName_104 : decode b_Model_isTopicName 104 = .ok (.iload 5, 2) := by decide +kernel
theorem d_Model_isTopicName_106 : decode b_Model_isTopicName 106 = .ok (.ifCond .eq 35, 3) := by decide +kernel
theorem d_Model_isTopicName_109 : decode b_Model_isTopicName 109 = .ok (.aload_n 0, 1) := by decide +kernel
theorem d_Model_isTopicName_110 : decode b_Model_isTopicName 110 = .ok (.getfield 17, 3) := by decide +kernel
theorem d_Model_isTopicName_113 : decode b_Model_isTopicName 113 = .ok (.bipush 6, 2) := by decide +kernel
theorem d_Model_isTopicName_115 : decode b_Model_isTopicName 115 = .ok (.iload_n 1, 1) := by decide +kernel
theorem d_Model_isTopicName_116 : decode b_Model_isTopicName 116 = .ok (.imul, 1) := by decide +kernel
theorem d_Model_isTopicName_117 : decode b_Model_isTopicName 117 = .ok (.iload 6, 2) := by decide +kernel
theorem d_Model_isTopicName_119 : decode b_Model_isTopicName 119 = .ok (.iadd, 1) := by decide +kernel
theorem d_Model_isTopicName_120 : decode b_Model_isTopicName 120 = .ok (.iaload, 1) := by decide +kernel
theorem d_Model_isTopicName_121 : decode b_Model_isTopicName 121 = .ok (.aload_n 0, 1) := by decide +kernel
theorem d_Model_isTopicName_122 : decode b_Model_isTopicName 122 = .ok (.getfield 17, 3) := by decide +kernel
theorem d_Model_isTopicName_125 : decode b_Model_isTopicName 125 = .ok (.bipush 6, 2) := by decide +kernel
theorem d_Model_isTopicName_127 : decode b_Model_isTopicName 127 = .ok (.iload 4, 2) := by decide +kernel
theorem d_Model_isTopicName_129 : decode b_Model_isTopicName 129 = .ok (.imul, 1) := by decide +kernel
theorem d_Model_isTopicName_130 : decode b_Model_isTopicName 130 = .ok (.iload 6, 2) := by decide +kernel
theorem d_Model_isTopicName_132 : decode b_Model_isTopicName 132 = .ok (.iadd, 1) := by decide +kernel
theorem d_Model_isTopicName_133 : decode b_Model_isTopicName 133 = .ok (.iaload, 1) := by decide +kernel
theorem d_Model_isTopicName_134 : decode b_Model_isTopicName 134 = .ok (.if_icmp .ne 7, 3) := by decide +kernel
theorem d_Model_isTopicName_137 : decode b_Model_isTopicName 137 = .ok (.iconst 1, 1) := by decide +kernel
theorem d_Model_isTopicName_138 : decode b_Model_isTopicName 138 = .ok (.goto 4, 3) := by decide +kernel
theorem d_Model_isTopicName_141 : decode b_Model_isTopicName 141 = .ok (.iconst 0, 1) := by decide +kernel
theorem d_Model_isTopicName_142 : decode b_Model_isTopicName 142 = .ok (.istore 5, 2) := by decide +kernel
theorem d_Model_isTopicName_144 : decode b_Model_isTopicName 144 = .ok (.iinc 6 1, 3) := by decide +kernel
theorem d_Model_isTopicName_147 : decode b_Model_isTopicName 147 = .ok (.goto (-50), 3) := by decide +kernel
theorem d_Model_isTopicName_150 : decode b_Model_isTopicName 150 = .ok (.iload_n 3, 1) := by decide +kernel
theorem d_Model_isTopicName_151 : decode b_Model_isTopicName 151 = .ok (.ifCond .eq 12, 3) := by decide +kernel
theorem d_Model_isTopicName_154 : decode b_Model_isTopicName 154 = .ok (.iload 5, 2) := by decide +kernel
theorem d_Model_isTopicName_156 : decode b_Model_isTopicName 156 = .ok (.ifCond .ne 7, 3) := by decide +kernel
theorem d_Model_isTopicName_159 : decode b_Model_isTopicName 159 = .ok (.iconst 1, 1) := by decide +kernel
theorem d_Model_isTopicName_160 : decode b_Model_isTopicName 160 = .ok (.goto 4, 3) := by decide +kernel
theorem d_Model_isTopicName_163 : decode b_Model_isTopicName 163 = .ok (.iconst 0, 1) := by decide +kernel
theorem d_Model_isTopicName_164 : decode b_Model_isTopicName 164 = .ok (.istore_n 3, 1) := by decide +kernel
theorem d_Model_isTopicName_165 : decode b_Model_isTopicName 165 = .ok (.iinc 4 1, 3) := by decide +kernel
theorem d_Model_isTopicName_168 : decode b_Model_isTopicName 168 = .ok (.goto (-83), 3) := by decide +kernel
theorem d_Model_isTopicName_171 : decode b_Model_isTopicName 171 = .ok (.iload_n 3, 1) := by decide +kernel
theorem d_Model_isTopicName_172 : decode b_Model_isTopicName 172 = .ok (.ireturn, 1) := by decide +kernel
set_option maxHeartbeats 4000000 in
set_option maxRecDepth 100000 in
theorem c_Model_isTopicName (l : Launch) (dC : Nat → ClassId) (dI : Nat → Nat → Nat) (cI cL cZ : ClassId) (mo : Nat) (mo_thrown : Int32) (mo_sourcea : Nat) (mo_source : Nat → Int32) (mo_size : Int32) (mo_faultLine : Int32) (mo_fault : Int32) (mo_topics : Int32) (mo_namesa : Nat) (mo_names : Nat → Int32) (mo_bodiesa : Nat) (mo_bodies : Nat → Int32) (mo_lengthsa : Nat) (mo_lengths : Nat → Int32) (mo_headingsa : Nat) (mo_headings : Nat → Int32) (mo_keywords : Int32) (mo_keyLettersa : Nat) (mo_keyLetters : Nat → Int32) (mo_keyLengthsa : Nat) (mo_keyLengths : Nat → Int32) (mo_keyBitsa : Nat) (mo_keyBits : Nat → Int32) (mo_words : Int32) (mo_wordLettersa : Nat) (mo_wordLetters : Nat → Int32) (mo_wordLengthsa : Nat) (mo_wordLengths : Nat → Int32) (mo_wordBitsa : Nat) (mo_wordBits : Nat → Int32) (mo_links : Int32) (mo_linkAta : Nat) (mo_linkAt : Nat → Int32) (mo_linkLengtha : Nat) (mo_linkLength : Nat → Int32) (mo_linkLinea : Nat) (mo_linkLine : Nat → Int32) (mo_linkToa : Nat) (mo_linkTo : Nat → Int32) (mo_inParagraph : Bool) (mo_emphasis : Bool) (mo_blank : Bool) (mo_lastLine : Int32) (mo_imageSize : Int32) (mo_imagea : Nat) (mo_image : Nat → Int32) (mo_compares : Bool) (mo_unlike : Bool) (mo_out : Int32) (mo_total : Int32) (mo_literal : Int32) (mo_handLength : Int32) (mo_handa : Nat) (mo_hand : Nat → Int32) (mo_isOpen : Bool) (mo_seenTopics : Int32) (mo_seenNamesa : Nat) (mo_seenNames : Nat → Int32) (mo_seenBodiesa : Nat) (mo_seenBodies : Nat → Int32) (mo_seenLengthsa : Nat) (mo_seenLengths : Nat → Int32) (mo_seenKeywords : Int32) (mo_seenKeyLettersa : Nat) (mo_seenKeyLetters : Nat → Int32) (mo_seenKeyLengthsa : Nat) (mo_seenKeyLengths : Nat → Int32) (mo_seenKeyBitsa : Nat) (mo_seenKeyBits : Nat → Int32) (mo_seenWords : Int32) (mo_seenWordLettersa : Nat) (mo_seenWordLetters : Nat → Int32) (mo_seenWordLengthsa : Nat) (mo_seenWordLengths : Nat → Int32) (mo_seenWordBitsa : Nat) (mo_seenWordBits : Nat → Int32) (mo_topic : Int32) (mo_backs : Int32) (mo_backa : Nat) (mo_back : Nat → Int32) (mo_forwards : Int32) (mo_forwarda : Nat) (mo_forward : Nat → Int32) (mo_typed : Int32) (mo_querya : Nat) (mo_query : Nat → Int32) (mo_visits : Int32) (mo_valuesa : Nat) (mo_values : Nat → Int32) (mo_valued : Int32) (mo_signsa : Nat) (mo_signs : Nat → Int32) (mo_signed : Int32) (mo_width : Int32) (mo_lines : Int32) (mo_lineFroma : Nat) (mo_lineFrom : Nat → Int32) (mo_lineSizea : Nat) (mo_lineSize : Nat → Int32) (mo_shown : Int32) (mo_texta : Nat) (mo_text : Nat → Int32) (mo_partLength : Int32) (mo_parta : Nat) (mo_part : Nat → Int32) (k0 : Int32) (res : Bool) (hd : D_Model_isTopicName k0 mo_names res) : CtrR l y_Model_isTopicName (Cond.code y_Model_isTopicName b_Model_isTopicName 7 (some .boolean) :: ga) { frames := 2, cells := 0, slots := 0, locals := 42 } (dC, dI) classes (Tys cI cL cZ) [.ref mo, .int k0] ((sh_Model cI cL cZ mo mo_thrown mo_sourcea mo_source mo_size mo_faultLine mo_fault mo_topics mo_namesa mo_names mo_bodiesa mo_bodies mo_lengthsa mo_lengths mo_headingsa mo_headings mo_keywords mo_keyLettersa mo_keyLetters mo_keyLengthsa mo_keyLengths mo_keyBitsa mo_keyBits mo_words mo_wordLettersa mo_wordLetters mo_wordLengthsa mo_wordLengths mo_wordBitsa mo_wordBits mo_links mo_linkAta mo_linkAt mo_linkLengtha mo_linkLength mo_linkLinea mo_linkLine mo_linkToa mo_linkTo mo_inParagraph mo_emphasis mo_blank mo_lastLine mo_imageSize mo_imagea mo_image mo_compares mo_unlike mo_out mo_total mo_literal mo_handLength mo_handa mo_hand mo_isOpen mo_seenTopics mo_seenNamesa mo_seenNames mo_seenBodiesa mo_seenBodies mo_seenLengthsa mo_seenLengths mo_seenKeywords mo_seenKeyLettersa mo_seenKeyLetters mo_seenKeyLengthsa mo_seenKeyLengths mo_seenKeyBitsa mo_seenKeyBits mo_seenWords mo_seenWordLettersa mo_seenWordLetters mo_seenWordLengthsa mo_seenWordLengths mo_seenWordBitsa mo_seenWordBits mo_topic mo_backs mo_backa mo_back mo_forwards mo_forwarda mo_forward mo_typed mo_querya mo_query mo_visits mo_valuesa mo_values mo_valued mo_signsa mo_signs mo_signed mo_width mo_lines mo_lineFroma mo_lineFrom mo_lineSizea mo_lineSize mo_shown mo_texta mo_text mo_partLength mo_parta mo_part)) (some (.int (bI res))) := by
  refine CtrR.ofW (by decide) (Nat.le_of_ble_eq_true rfl) ?_
  intro p e s m below meth c ls hx hb hr hml hown hlocks hts hK hN hP hD hl
  have hown : s.vm.findClass R_Model = some m.cls := hown
  have hl : lv_has ls 7 [(0, .ref mo), (1, .int k0)] := hl
  have key : ∀ n : Nat, (∀ (x1 : Int32) (x2 : Int32) (ls : Array Slot), lv_has ls 7 [(0, .ref mo), (1, .int x1), (2, .int x2)] → T_Model_isTopicName mo_names res n 0 x1 x2 false 0 false 0 → W p l e ({ frames := 2, cells := 0, slots := 0, locals := 42 }) s m ([.ref mo, .int k0] : List Value).toArray below meth c s.heap [] 0 0 (MQ below (Qr (some (.int (bI res)))) ([.ref mo, .int k0] : List Value).toArray s 0 0 (fun _ => False)) (F0 m 2 ls [])) ∧ (∀ (x1 : Int32) (x2 : Int32) (ls : Array Slot), lv_has ls 7 [(0, .ref mo), (1, .int x1), (2, .int x2)] → T_Model_isTopicName mo_names res n 1 x1 x2 false 0 false 0 → W p l e ({ frames := 2, cells := 0, slots := 0, locals := 42 }) s m ([.ref mo, .int k0] : List Value).toArray below meth c s.heap [] 0 0 (MQ below (Qr (some (.int (bI res)))) ([.ref mo, .int k0] : List Value).toArray s 0 0 (fun _ => False)) (F0 m 31 ls [])) ∧ (∀ (x1 : Int32) (x2 : Int32) (b3 : Bool) (ls : Array Slot), lv_has ls 7 [(0, .ref mo), (1, .int x1), (2, .int x2), (3, .int (bI b3))] → T_Model_isTopicName mo_names res n 2 x1 x2 b3 0 false 0 → W p l e ({ frames := 2, cells := 0, slots := 0, locals := 42 }) s m ([.ref mo, .int k0] : List Value).toArray below meth c s.heap [] 0 0 (MQ below (Qr (some (.int (bI res)))) ([.ref mo, .int k0] : List Value).toArray s 0 0 (fun _ => False)) (F0 m 41 ls [])) ∧ (∀ (x1 : Int32) (b3 : Bool) (x4 : Int32) (ls : Array Slot), lv_has ls 7 [(0, .ref mo), (1, .int x1), (3, .int (bI b3)), (4, .int x4)] → T_Model_isTopicName mo_names res n 3 x1 0 b3 x4 false 0 → W p l e ({ frames := 2, cells := 0, slots := 0, locals := 42 }) s m ([.ref mo, .int k0] : List Value).toArray below meth c s.heap [] 0 0 (MQ below (Qr (some (.int (bI res)))) ([.ref mo, .int k0] : List Value).toArray s 0 0 (fun _ => False)) (F0 m 44 ls [])) ∧ (∀ (x1 : Int32) (x4 : Int32) (ls : Array Slot), lv_has ls 7 [(0, .ref mo), (1, .int x1), (4, .int x4)] → T_Model_isTopicName mo_names res n 4 x1 0 false x4 false 0 → W p l e ({ frames := 2, cells := 0, slots := 0, locals := 42 }) s m ([.ref mo, .int k0] : List Value).toArray below meth c s.heap [] 0 0 (MQ below (Qr (some (.int (bI res)))) ([.ref mo, .int k0] : List Value).toArray s 0 0 (fun _ => False)) (F0 m 74 ls [])) ∧ (∀ (x1 : Int32) (b3 : Bool) (x4 : Int32) (ls : Array Slot), lv_has ls 7 [(0, .ref mo), (1, .int x1), (3, .int (bI b3)), (4, .int x4)] → T_Model_isTopicName mo_names res n 5 x1 0 b3 x4 false 0 → W p l e ({ frames := 2, cells := 0, slots := 0, locals := 42 }) s m ([.ref mo, .int k0] : List Value).toArray below meth c s.heap [] 0 0 (MQ below (Qr (some (.int (bI res)))) ([.ref mo, .int k0] : List Value).toArray s 0 0 (fun _ => False)) (F0 m 85 ls [])) ∧ (∀ (x1 : Int32) (b3 : Bool) (x4 : Int32) (b5 : Bool) (x6 : Int32) (ls : Array Slot), lv_has ls 7 [(0, .ref mo), (1, .int x1), (3, .int (bI b3)), (4, .int x4), (5, .int (bI b5)), (6, .int x6)] → T_Model_isTopicName mo_names res n 6 x1 0 b3 x4 b5 x6 → W p l e ({ frames := 2, cells := 0, slots := 0, locals := 42 }) s m ([.ref mo, .int k0] : List Value).toArray below meth c s.heap [] 0 0 (MQ below (Qr (some (.int (bI res)))) ([.ref mo, .int k0] : List Value).toArray s 0 0 (fun _ => False)) (F0 m 97 ls [])) ∧ (∀ (x1 : Int32) (b3 : Bool) (x4 : Int32) (x6 : Int32) (ls : Array Slot), lv_has ls 7 [(0, .ref mo), (1, .int x1), (3, .int (bI b3)), (4, .int x4), (6, .int x6)] → T_Model_isTopicName mo_names res n 7 x1 0 b3 x4 false x6 → W p l e ({ frames := 2, cells := 0, slots := 0, locals := 42 }) s m ([.ref mo, .int k0] : List Value).toArray below meth c s.heap [] 0 0 (MQ below (Qr (some (.int (bI res)))) ([.ref mo, .int k0] : List Value).toArray s 0 0 (fun _ => False)) (F0 m 141 ls [])) ∧ (∀ (x1 : Int32) (x4 : Int32) (ls : Array Slot), lv_has ls 7 [(0, .ref mo), (1, .int x1), (4, .int x4)] → T_Model_isTopicName mo_names res n 8 x1 0 false x4 false 0 → W p l e ({ frames := 2, cells := 0, slots := 0, locals := 42 }) s m ([.ref mo, .int k0] : List Value).toArray below meth c s.heap [] 0 0 (MQ below (Qr (some (.int (bI res)))) ([.ref mo, .int k0] : List Value).toArray s 0 0 (fun _ => False)) (F0 m 163 ls [])) := by
    intro n
    induction n with
    | zero =>
      exact ⟨fun _ _ _ _ hd => False.elim hd, fun _ _ _ _ hd => False.elim hd, fun _ _ _ _ _ hd => False.elim hd, fun _ _ _ _ _ hd => False.elim hd, fun _ _ _ _ hd => False.elim hd, fun _ _ _ _ _ hd => False.elim hd, fun _ _ _ _ _ _ _ hd => False.elim hd, fun _ _ _ _ _ _ hd => False.elim hd, fun _ _ _ _ hd => False.elim hd⟩
    | succ n ih =>
      refine ⟨?_, ?_, ?_, ?_, ?_, ?_, ?_, ?_, ?_⟩
      · intro x1 x2 ls hl hd
        have hd : B_Model_isTopicName_2 mo_names res (T_Model_isTopicName mo_names res n) x1 x2 := hd
        refine lv_iload_n hx hb d_Model_isTopicName_2 rfl (lv_at hl 2 rfl) ?_
        refine lv_bipush (v := 6) hx hb d_Model_isTopicName_3 (by decide) ?_
        refine lv_icmp_ge (tgt := 31) hx hb d_Model_isTopicName_5 (by decide) (fun h5 => ?_) (fun h5 => ?_)
        · have hd := hd.1 h5
          exact ih.2.1 x1 x2 _ (lv_sub hl [0, 1, 2] rfl) hd
        · have hd := hd.2 h5
          refine lv_aload_n hx hb d_Model_isTopicName_8 rfl (lv_at hl 0 rfl) ?_
          refine va_get (D := (dC, dI)) (ci := 9) (v := .ref mo_namesa) (C := R_Model) (T := F_Model) (N := 69) hx hb hts in_Model hown hK hP 0 rfl rfl 6 (by decide) (hts _ (List.mem_cons_of_mem _ k492_fieldLink)) (fun _ h9 => h9) rfl d_Model_isTopicName_9 ?_
          refine lv_bipush (v := 6) hx hb d_Model_isTopicName_12 (by decide) ?_
          refine lv_iload_n hx hb d_Model_isTopicName_14 rfl (lv_at hl 1 rfl) ?_
          refine lv_imul hx hb d_Model_isTopicName_15 ?_
          refine lv_iload_n hx hb d_Model_isTopicName_16 rfl (lv_at hl 2 rfl) ?_
          refine lv_iadd hx hb d_Model_isTopicName_17 ?_
          obtain ⟨h18, hd⟩ := hd
          refine va_iald hx hb hK hP 2 0 rfl rfl h18 d_Model_isTopicName_18 ?_
          obtain ⟨r19, c19, hd⟩ := hd
          refine ct_SR (As := [.int (mo_names (Int32.toNatClampNeg ((6 * x1) + x2)))]) (rest := []) ⟨hx, hb, hml, hown, hts⟩ fm_Model_isSmall (c_Model_isSmall l dC dI cI cL cZ (mo_names (Int32.toNatClampNeg ((6 * x1) + x2))) r19 c19) k482_methodLink k483_static ⟨Nat.le_of_ble_eq_true rfl, Nat.le_of_ble_eq_true rfl⟩ rfl rfl hK hN hP hD [] rfl rfl (by decide) rfl hl.1 rfl (Nat.le_of_ble_eq_true rfl) d_Model_isTopicName_19 ?_
          refine lv_if_eq (tgt := 31) hx hb d_Model_isTopicName_22 (by decide) (fun h22 => ?_) (fun h22 => ?_)
          · have hd := hd.1 h22
            exact ih.2.1 x1 x2 _ (lv_sub hl [0, 1, 2] rfl) hd
          · have hd := hd.2 h22
            refine lv_iinc (k := 2) (v := x2 + 1) (lv' := [(2, .int (x2 + 1)), (0, .ref mo), (1, .int x1)]) hx hb d_Model_isTopicName_25 hl rfl (congrArg (fun z => x2 + z) (by decide)) (by decide) rfl (fun ls hl => ?_)
            refine lv_goto (tgt := 2) hx hb d_Model_isTopicName_28 (by decide) ?_
            exact ih.1 x1 (x2 + 1) _ (lv_sub hl [1, 2, 0] rfl) hd
      · intro x1 x2 ls hl hd
        have hd : B_Model_isTopicName_31 mo_names res (T_Model_isTopicName mo_names res n) x1 x2 := hd
        refine lv_iload_n hx hb d_Model_isTopicName_31 rfl (lv_at hl 2 rfl) ?_
        refine lv_if_le (tgt := 39) hx hb d_Model_isTopicName_32 (by decide) (fun h32 => ?_) (fun h32 => ?_)
        · have hd := hd.1 h32
          refine lv_iconst (v := 0) hx hb d_Model_isTopicName_39 (by decide) ?_
          refine lv_istore_n (lv' := [(3, .int 0), (0, .ref mo), (1, .int x1), (2, .int x2)]) hx hb d_Model_isTopicName_40 rfl hl (by decide) rfl (fun ls hl => ?_)
          exact ih.2.2.1 x1 x2 false _ (lv_sub hl [1, 2, 3, 0] rfl) hd
        · have hd := hd.2 h32
          refine lv_iconst (v := 1) hx hb d_Model_isTopicName_35 (by decide) ?_
          refine lv_goto (tgt := 40) hx hb d_Model_isTopicName_36 (by decide) ?_
          refine lv_istore_n (lv' := [(3, .int 1), (0, .ref mo), (1, .int x1), (2, .int x2)]) hx hb d_Model_isTopicName_40 rfl hl (by decide) rfl (fun ls hl => ?_)
          exact ih.2.2.1 x1 x2 true _ (lv_sub hl [1, 2, 3, 0] rfl) hd
      · intro x1 x2 b3 ls hl hd
        have hd : B_Model_isTopicName_41 mo_names res (T_Model_isTopicName mo_names res n) x1 x2 b3 := hd
        refine lv_iload_n hx hb d_Model_isTopicName_41 rfl (lv_at hl 2 rfl) ?_
        refine lv_istore (lv' := [(4, .int x2), (0, .ref mo), (1, .int x1), (2, .int x2), (3, .int (bI b3))]) hx hb d_Model_isTopicName_42 hl (by decide) rfl (fun ls hl => ?_)
        exact ih.2.2.2.1 x1 b3 x2 _ (lv_sub hl [1, 2, 4, 0] rfl) hd
      · intro x1 b3 x4 ls hl hd
        have hd : B_Model_isTopicName_44 mo_names res (T_Model_isTopicName mo_names res n) x1 b3 x4 := hd
        refine lv_iload hx hb d_Model_isTopicName_44 (lv_at hl 3 rfl) ?_
        refine lv_bipush (v := 6) hx hb d_Model_isTopicName_46 (by decide) ?_
        refine lv_icmp_ge (tgt := 82) hx hb d_Model_isTopicName_48 (by decide) (fun h48 => ?_) (fun h48 => ?_)
        · have hd := hd.1 h48
          refine lv_iconst (v := 0) hx hb d_Model_isTopicName_82 (by decide) ?_
          refine lv_istore (lv' := [(4, .int 0), (0, .ref mo), (1, .int x1), (3, .int (bI b3))]) hx hb d_Model_isTopicName_83 hl (by decide) rfl (fun ls hl => ?_)
          exact ih.2.2.2.2.2.1 x1 b3 0 _ (lv_sub hl [1, 2, 3, 0] rfl) hd
        · have hd := hd.2 h48
          refine lv_iload_n hx hb d_Model_isTopicName_51 rfl (lv_at hl 2 rfl) ?_
          refine lv_if_eq (tgt := 74) hx hb d_Model_isTopicName_52 (by decide) (fun h52 => ?_) (fun h52 => ?_)
          · have hd := hd.1 h52
            exact ih.2.2.2.2.1 x1 x4 _ (lv_sub hl [0, 1, 3] rfl) hd
          · have hd := hd.2 h52
            refine lv_aload_n hx hb d_Model_isTopicName_55 rfl (lv_at hl 0 rfl) ?_
            refine va_get (D := (dC, dI)) (ci := 9) (v := .ref mo_namesa) (C := R_Model) (T := F_Model) (N := 69) hx hb hts in_Model hown hK hP 0 rfl rfl 6 (by decide) (hts _ (List.mem_cons_of_mem _ k492_fieldLink)) (fun _ h9 => h9) rfl d_Model_isTopicName_56 ?_
            refine lv_bipush (v := 6) hx hb d_Model_isTopicName_59 (by decide) ?_
            refine lv_iload_n hx hb d_Model_isTopicName_61 rfl (lv_at hl 1 rfl) ?_
            refine lv_imul hx hb d_Model_isTopicName_62 ?_
            refine lv_iload hx hb d_Model_isTopicName_63 (lv_at hl 3 rfl) ?_
            refine lv_iadd hx hb d_Model_isTopicName_65 ?_
            obtain ⟨h66, hd⟩ := hd
            refine va_iald hx hb hK hP 2 0 rfl rfl h66 d_Model_isTopicName_66 ?_
            refine lv_if_ne (tgt := 74) hx hb d_Model_isTopicName_67 (by decide) (fun h67 => ?_) (fun h67 => ?_)
            · have hd := hd.2 h67
              exact ih.2.2.2.2.1 x1 x4 _ (lv_sub hl [0, 1, 3] rfl) hd
            · have hd := hd.1 h67
              refine lv_iconst (v := 1) hx hb d_Model_isTopicName_70 (by decide) ?_
              refine lv_goto (tgt := 75) hx hb d_Model_isTopicName_71 (by decide) ?_
              refine lv_istore_n (lv' := [(3, .int 1), (0, .ref mo), (1, .int x1), (4, .int x4)]) hx hb d_Model_isTopicName_75 rfl hl (by decide) rfl (fun ls hl => ?_)
              refine lv_iinc (k := 3) (v := x4 + 1) (lv' := [(4, .int (x4 + 1)), (3, .int 1), (0, .ref mo), (1, .int x1)]) hx hb d_Model_isTopicName_76 hl rfl (congrArg (fun z => x4 + z) (by decide)) (by decide) rfl (fun ls hl => ?_)
              refine lv_goto (tgt := 44) hx hb d_Model_isTopicName_79 (by decide) ?_
              exact ih.2.2.2.1 x1 true (x4 + 1) _ (lv_sub hl [2, 3, 1, 0] rfl) hd
      · intro x1 x4 ls hl hd
        have hd : B_Model_isTopicName_74 mo_names res (T_Model_isTopicName mo_names res n) x1 x4 := hd
        refine lv_iconst (v := 0) hx hb d_Model_isTopicName_74 (by decide) ?_
        refine lv_istore_n (lv' := [(3, .int 0), (0, .ref mo), (1, .int x1), (4, .int x4)]) hx hb d_Model_isTopicName_75 rfl hl (by decide) rfl (fun ls hl => ?_)
        refine lv_iinc (k := 3) (v := x4 + 1) (lv' := [(4, .int (x4 + 1)), (3, .int 0), (0, .ref mo), (1, .int x1)]) hx hb d_Model_isTopicName_76 hl rfl (congrArg (fun z => x4 + z) (by decide)) (by decide) rfl (fun ls hl => ?_)
        refine lv_goto (tgt := 44) hx hb d_Model_isTopicName_79 (by decide) ?_
        exact ih.2.2.2.1 x1 false (x4 + 1) _ (lv_sub hl [2, 3, 1, 0] rfl) hd
      · intro x1 b3 x4 ls hl hd
        have hd : B_Model_isTopicName_85 mo_names res (T_Model_isTopicName mo_names res n) x1 b3 x4 := hd
        refine lv_iload hx hb d_Model_isTopicName_85 (lv_at hl 3 rfl) ?_
        refine lv_iload_n hx hb d_Model_isTopicName_87 rfl (lv_at hl 1 rfl) ?_
        refine lv_icmp_ge (tgt := 171) hx hb d_Model_isTopicName_88 (by decide) (fun h88 => ?_) (fun h88 => ?_)
        · have hd := hd.1 h88
          refine lv_iload_n hx hb d_Model_isTopicName_171 rfl (lv_at hl 2 rfl) ?_
          have e0 : res = b3 := hd
          subst e0
          exact ct_zretR hx hb hr hlocks d_Model_isTopicName_172
        · have hd := hd.2 h88
          refine lv_iconst (v := 1) hx hb d_Model_isTopicName_91 (by decide) ?_
          refine lv_istore (lv' := [(5, .int 1), (0, .ref mo), (1, .int x1), (3, .int (bI b3)), (4, .int x4)]) hx hb d_Model_isTopicName_92 hl (by decide) rfl (fun ls hl => ?_)
          refine lv_iconst (v := 0) hx hb d_Model_isTopicName_94 (by decide) ?_
          refine lv_istore (lv' := [(6, .int 0), (5, .int 1), (0, .ref mo), (1, .int x1), (3, .int (bI b3)), (4, .int x4)]) hx hb d_Model_isTopicName_95 hl (by decide) rfl (fun ls hl => ?_)
          exact ih.2.2.2.2.2.2.1 x1 b3 x4 true 0 _ (lv_sub hl [2, 3, 4, 5, 1, 0] rfl) hd
      · intro x1 b3 x4 b5 x6 ls hl hd
        have hd : B_Model_isTopicName_97 mo_names res (T_Model_isTopicName mo_names res n) x1 b3 x4 b5 x6 := hd
        refine lv_iload hx hb d_Model_isTopicName_97 (lv_at hl 5 rfl) ?_
        refine lv_bipush (v := 6) hx hb d_Model_isTopicName_99 (by decide) ?_
        refine lv_icmp_ge (tgt := 150) hx hb d_Model_isTopicName_101 (by decide) (fun h101 => ?_) (fun h101 => ?_)
        · have hd := hd.1 h101
          refine lv_iload_n hx hb d_Model_isTopicName_150 rfl (lv_at hl 2 rfl) ?_
          refine lv_if_eq (tgt := 163) hx hb d_Model_isTopicName_151 (by decide) (fun h151 => ?_) (fun h151 => ?_)
          · have hd := hd.1 h151
            exact ih.2.2.2.2.2.2.2.2 x1 x4 _ (lv_sub hl [0, 1, 3] rfl) hd
          · have hd := hd.2 h151
            refine lv_iload hx hb d_Model_isTopicName_154 (lv_at hl 4 rfl) ?_
            refine lv_if_ne (tgt := 163) hx hb d_Model_isTopicName_156 (by decide) (fun h156 => ?_) (fun h156 => ?_)
            · have hd := hd.2 h156
              exact ih.2.2.2.2.2.2.2.2 x1 x4 _ (lv_sub hl [0, 1, 3] rfl) hd
            · have hd := hd.1 h156
              refine lv_iconst (v := 1) hx hb d_Model_isTopicName_159 (by decide) ?_
              refine lv_goto (tgt := 164) hx hb d_Model_isTopicName_160 (by decide) ?_
              refine lv_istore_n (lv' := [(3, .int 1), (0, .ref mo), (1, .int x1), (4, .int x4), (5, .int (bI b5)), (6, .int x6)]) hx hb d_Model_isTopicName_164 rfl hl (by decide) rfl (fun ls hl => ?_)
              refine lv_iinc (k := 3) (v := x4 + 1) (lv' := [(4, .int (x4 + 1)), (3, .int 1), (0, .ref mo), (1, .int x1), (5, .int (bI b5)), (6, .int x6)]) hx hb d_Model_isTopicName_165 hl rfl (congrArg (fun z => x4 + z) (by decide)) (by decide) rfl (fun ls hl => ?_)
              refine lv_goto (tgt := 85) hx hb d_Model_isTopicName_168 (by decide) ?_
              exact ih.2.2.2.2.2.1 x1 true (x4 + 1) _ (lv_sub hl [2, 3, 1, 0] rfl) hd
        · have hd := hd.2 h101
          refine lv_iload hx hb d_Model_isTopicName_104 (lv_at hl 4 rfl) ?_
          refine lv_if_eq (tgt := 141) hx hb d_Model_isTopicName_106 (by decide) (fun h106 => ?_) (fun h106 => ?_)
          · have hd := hd.1 h106
            exact ih.2.2.2.2.2.2.2.1 x1 b3 x4 x6 _ (lv_sub hl [0, 1, 2, 3, 5] rfl) hd
          · have hd := hd.2 h106
            refine lv_aload_n hx hb d_Model_isTopicName_109 rfl (lv_at hl 0 rfl) ?_
            refine va_get (D := (dC, dI)) (ci := 9) (v := .ref mo_namesa) (C := R_Model) (T := F_Model) (N := 69) hx hb hts in_Model hown hK hP 0 rfl rfl 6 (by decide) (hts _ (List.mem_cons_of_mem _ k492_fieldLink)) (fun _ h9 => h9) rfl d_Model_isTopicName_110 ?_
            refine lv_bipush (v := 6) hx hb d_Model_isTopicName_113 (by decide) ?_
            refine lv_iload_n hx hb d_Model_isTopicName_115 rfl (lv_at hl 1 rfl) ?_
            refine lv_imul hx hb d_Model_isTopicName_116 ?_
            refine lv_iload hx hb d_Model_isTopicName_117 (lv_at hl 5 rfl) ?_
            refine lv_iadd hx hb d_Model_isTopicName_119 ?_
            obtain ⟨h120, hd⟩ := hd
            refine va_iald hx hb hK hP 2 0 rfl rfl h120 d_Model_isTopicName_120 ?_
            refine lv_aload_n hx hb d_Model_isTopicName_121 rfl (lv_at hl 0 rfl) ?_
            refine va_get (D := (dC, dI)) (ci := 9) (v := .ref mo_namesa) (C := R_Model) (T := F_Model) (N := 69) hx hb hts in_Model hown hK hP 0 rfl rfl 6 (by decide) (hts _ (List.mem_cons_of_mem _ k492_fieldLink)) (fun _ h9 => h9) rfl d_Model_isTopicName_122 ?_
            refine lv_bipush (v := 6) hx hb d_Model_isTopicName_125 (by decide) ?_
            refine lv_iload hx hb d_Model_isTopicName_127 (lv_at hl 3 rfl) ?_
            refine lv_imul hx hb d_Model_isTopicName_129 ?_
            refine lv_iload hx hb d_Model_isTopicName_130 (lv_at hl 5 rfl) ?_
            refine lv_iadd hx hb d_Model_isTopicName_132 ?_
            obtain ⟨h133, hd⟩ := hd
            refine va_iald hx hb hK hP 2 0 rfl rfl h133 d_Model_isTopicName_133 ?_
            refine lv_icmp_ne (tgt := 141) hx hb d_Model_isTopicName_134 (by decide) (fun h134 => ?_) (fun h134 => ?_)
            · have hd := hd.2 h134
              exact ih.2.2.2.2.2.2.2.1 x1 b3 x4 x6 _ (lv_sub hl [0, 1, 2, 3, 5] rfl) hd
            · have hd := hd.1 h134
              refine lv_iconst (v := 1) hx hb d_Model_isTopicName_137 (by decide) ?_
              refine lv_goto (tgt := 142) hx hb d_Model_isTopicName_138 (by decide) ?_
              refine lv_istore (lv' := [(5, .int 1), (0, .ref mo), (1, .int x1), (3, .int (bI b3)), (4, .int x4), (6, .int x6)]) hx hb d_Model_isTopicName_142 hl (by decide) rfl (fun ls hl => ?_)
              refine lv_iinc (k := 5) (v := x6 + 1) (lv' := [(6, .int (x6 + 1)), (5, .int 1), (0, .ref mo), (1, .int x1), (3, .int (bI b3)), (4, .int x4)]) hx hb d_Model_isTopicName_144 hl rfl (congrArg (fun z => x6 + z) (by decide)) (by decide) rfl (fun ls hl => ?_)
              refine lv_goto (tgt := 97) hx hb d_Model_isTopicName_147 (by decide) ?_
              exact ih.2.2.2.2.2.2.1 x1 b3 x4 true (x6 + 1) _ (lv_sub hl [2, 3, 4, 5, 1, 0] rfl) hd
      · intro x1 b3 x4 x6 ls hl hd
        have hd : B_Model_isTopicName_141 mo_names res (T_Model_isTopicName mo_names res n) x1 b3 x4 x6 := hd
        refine lv_iconst (v := 0) hx hb d_Model_isTopicName_141 (by decide) ?_
        refine lv_istore (lv' := [(5, .int 0), (0, .ref mo), (1, .int x1), (3, .int (bI b3)), (4, .int x4), (6, .int x6)]) hx hb d_Model_isTopicName_142 hl (by decide) rfl (fun ls hl => ?_)
        refine lv_iinc (k := 5) (v := x6 + 1) (lv' := [(6, .int (x6 + 1)), (5, .int 0), (0, .ref mo), (1, .int x1), (3, .int (bI b3)), (4, .int x4)]) hx hb d_Model_isTopicName_144 hl rfl (congrArg (fun z => x6 + z) (by decide)) (by decide) rfl (fun ls hl => ?_)
        refine lv_goto (tgt := 97) hx hb d_Model_isTopicName_147 (by decide) ?_
        exact ih.2.2.2.2.2.2.1 x1 b3 x4 false (x6 + 1) _ (lv_sub hl [2, 3, 4, 5, 1, 0] rfl) hd
      · intro x1 x4 ls hl hd
        have hd : B_Model_isTopicName_163 mo_names res (T_Model_isTopicName mo_names res n) x1 x4 := hd
        refine lv_iconst (v := 0) hx hb d_Model_isTopicName_163 (by decide) ?_
        refine lv_istore_n (lv' := [(3, .int 0), (0, .ref mo), (1, .int x1), (4, .int x4)]) hx hb d_Model_isTopicName_164 rfl hl (by decide) rfl (fun ls hl => ?_)
        refine lv_iinc (k := 3) (v := x4 + 1) (lv' := [(4, .int (x4 + 1)), (3, .int 0), (0, .ref mo), (1, .int x1)]) hx hb d_Model_isTopicName_165 hl rfl (congrArg (fun z => x4 + z) (by decide)) (by decide) rfl (fun ls hl => ?_)
        refine lv_goto (tgt := 85) hx hb d_Model_isTopicName_168 (by decide) ?_
        exact ih.2.2.2.2.2.1 x1 false (x4 + 1) _ (lv_sub hl [2, 3, 1, 0] rfl) hd
  obtain ⟨n, hd⟩ := hd
  refine lv_iconst (v := 0) hx hb d_Model_isTopicName_0 (by decide) ?_
  refine lv_istore_n (lv' := [(2, .int 0), (0, .ref mo), (1, .int k0)]) hx hb d_Model_isTopicName_1 rfl hl (by decide) rfl (fun ls hl => ?_)
  exact (key n).1 k0 0 _ (lv_sub hl [1, 2, 0] rfl) hd
-- Model.isBody
abbrev b_Model_isBody : ByteArray := prog_14_method_48_code
def y_Model_isBody : MethodName := ⟨"HelpFileModel", "isBody", "(I)Z"⟩
set_option maxRecDepth 100000 in
theorem fm_Model_isBody : Fm y_Model_isBody b_Model_isBody 7 (some .boolean) 1 := ⟨ga_t 1433 rfl rfl, k479_initialized, by decide, by decide, by decide +kernel⟩
def B_Model_isBody_11 (mo_topics : Int32) (mo_bodies : Nat → Int32) (mo_lengths : Nat → Int32) (res : Bool) (X : Nat → Int32 → Bool → Bool → Int32 → Int32 → Int32 → Prop) (x1 : Int32) (b2 : Bool) (b3 : Bool) (x4 : Int32) (x5 : Int32) : Prop := (vp_in x1 10 ∧ (((mo_lengths (Int32.toNatClampNeg x1)) ≤ x5 → (((bI b2) = 0 → (res = false)) ∧ (¬ ((bI b2) = 0) → ((x4 = 10 → (res = true)) ∧ (¬ (x4 = 10) → (res = false)))))) ∧ (¬ ((mo_lengths (Int32.toNatClampNeg x1)) ≤ x5) → (vp_in ((255 * x1) + x5) 2550 ∧ (((mo_bodies (Int32.toNatClampNeg ((255 * x1) + x5))) = 2 → (((bI b2) = 0 → X 2 x1 false b3 0 (x5 + 1) (mo_bodies (Int32.toNatClampNeg ((255 * x1) + x5)))) ∧ (¬ ((bI b2) = 0) → (vp_in x1 10 ∧ (((mo_lengths (Int32.toNatClampNeg x1)) ≤ (x5 + 1) → X 2 x1 false b3 0 (x5 + 1) (mo_bodies (Int32.toNatClampNeg ((255 * x1) + x5)))) ∧ (¬ ((mo_lengths (Int32.toNatClampNeg x1)) ≤ (x5 + 1)) → ((255 ≤ (x5 + 1) → (vp_in ((255 * x1) + 0) 2550 ∧ ((mo_topics ≤ (mo_bodies (Int32.toNatClampNeg ((255 * x1) + 0))) → X 2 x1 false b3 0 (x5 + 1) (mo_bodies (Int32.toNatClampNeg ((255 * x1) + x5)))) ∧ (¬ (mo_topics ≤ (mo_bodies (Int32.toNatClampNeg ((255 * x1) + 0)))) → X 1 x1 false b3 0 (x5 + 1) (mo_bodies (Int32.toNatClampNeg ((255 * x1) + x5))))))) ∧ (¬ (255 ≤ (x5 + 1)) → (vp_in ((255 * x1) + (x5 + 1)) 2550 ∧ ((mo_topics ≤ (mo_bodies (Int32.toNatClampNeg ((255 * x1) + (x5 + 1)))) → X 2 x1 false b3 0 (x5 + 1) (mo_bodies (Int32.toNatClampNeg ((255 * x1) + x5)))) ∧ (¬ (mo_topics ≤ (mo_bodies (Int32.toNatClampNeg ((255 * x1) + (x5 + 1))))) → X 1 x1 false b3 0 (x5 + 1) (mo_bodies (Int32.toNatClampNeg ((255 * x1) + x5)))))))))))))) ∧ (¬ ((mo_bodies (Int32.toNatClampNeg ((255 * x1) + x5))) = 2) → (((mo_bodies (Int32.toNatClampNeg ((255 * x1) + x5))) = 10 → (((bI b2) = 0 → X 4 x1 false b3 0 x5 (mo_bodies (Int32.toNatClampNeg ((255 * x1) + x5)))) ∧ (¬ ((bI b2) = 0) → ((x4 = 10 → X 4 x1 false b3 0 x5 (mo_bodies (Int32.toNatClampNeg ((255 * x1) + x5)))) ∧ (¬ (x4 = 10) → ((x4 = 32 → X 4 x1 false b3 0 x5 (mo_bodies (Int32.toNatClampNeg ((255 * x1) + x5)))) ∧ (¬ (x4 = 32) → (((bI b3) = 0 → X 5 x1 true b3 0 x5 (mo_bodies (Int32.toNatClampNeg ((255 * x1) + x5)))) ∧ (¬ ((bI b3) = 0) → X 4 x1 false b3 0 x5 (mo_bodies (Int32.toNatClampNeg ((255 * x1) + x5)))))))))))) ∧ (¬ ((mo_bodies (Int32.toNatClampNeg ((255 * x1) + x5))) = 10) → (((mo_bodies (Int32.toNatClampNeg ((255 * x1) + x5))) = 32 → (((bI b2) = 0 → X 6 x1 false b3 0 x5 (mo_bodies (Int32.toNatClampNeg ((255 * x1) + x5)))) ∧ (¬ ((bI b2) = 0) → ((x4 = 10 → X 6 x1 false b3 0 x5 (mo_bodies (Int32.toNatClampNeg ((255 * x1) + x5)))) ∧ (¬ (x4 = 10) → ((x4 = 32 → X 6 x1 false b3 0 x5 (mo_bodies (Int32.toNatClampNeg ((255 * x1) + x5)))) ∧ (¬ (x4 = 32) → X 7 x1 true b3 0 x5 (mo_bodies (Int32.toNatClampNeg ((255 * x1) + x5)))))))))) ∧ (¬ ((mo_bodies (Int32.toNatClampNeg ((255 * x1) + x5))) = 32) → (((mo_bodies (Int32.toNatClampNeg ((255 * x1) + x5))) = 1 → (((bI b3) = 0 → X 8 x1 b2 true 0 x5 (mo_bodies (Int32.toNatClampNeg ((255 * x1) + x5)))) ∧ (¬ ((bI b3) = 0) → X 8 x1 b2 false 0 x5 (mo_bodies (Int32.toNatClampNeg ((255 * x1) + x5)))))) ∧ (¬ ((mo_bodies (Int32.toNatClampNeg ((255 * x1) + x5))) = 1) → X 8 x1 b2 b3 0 x5 (mo_bodies (Int32.toNatClampNeg ((255 * x1) + x5)))))))))))))))
def B_Model_isBody_93 (mo_topics : Int32) (mo_bodies : Nat → Int32) (mo_lengths : Nat → Int32) (res : Bool) (X : Nat → Int32 → Bool → Bool → Int32 → Int32 → Int32 → Prop) (x1 : Int32) (b3 : Bool) (x5 : Int32) (x6 : Int32) : Prop := X 3 x1 true b3 0 x5 x6
def B_Model_isBody_97 (mo_topics : Int32) (mo_bodies : Nat → Int32) (mo_lengths : Nat → Int32) (res : Bool) (X : Nat → Int32 → Bool → Bool → Int32 → Int32 → Int32 → Prop) (x1 : Int32) (b3 : Bool) (x5 : Int32) (x6 : Int32) : Prop := X 3 x1 false b3 0 x5 x6
def B_Model_isBody_99 (mo_topics : Int32) (mo_bodies : Nat → Int32) (mo_lengths : Nat → Int32) (res : Bool) (X : Nat → Int32 → Bool → Bool → Int32 → Int32 → Int32 → Prop) (x1 : Int32) (b2 : Bool) (b3 : Bool) (x5 : Int32) (x6 : Int32) : Prop := X 11 x1 b2 b3 0 x5 x6
def B_Model_isBody_135 (mo_topics : Int32) (mo_bodies : Nat → Int32) (mo_lengths : Nat → Int32) (res : Bool) (X : Nat → Int32 → Bool → Bool → Int32 → Int32 → Int32 → Prop) (x1 : Int32) (b3 : Bool) (x5 : Int32) (x6 : Int32) : Prop := X 5 x1 false b3 0 x5 x6
def B_Model_isBody_137 (mo_topics : Int32) (mo_bodies : Nat → Int32) (mo_lengths : Nat → Int32) (res : Bool) (X : Nat → Int32 → Bool → Bool → Int32 → Int32 → Int32 → Prop) (x1 : Int32) (b2 : Bool) (b3 : Bool) (x5 : Int32) (x6 : Int32) : Prop := X 11 x1 b2 b3 0 x5 x6
def B_Model_isBody_169 (mo_topics : Int32) (mo_bodies : Nat → Int32) (mo_lengths : Nat → Int32) (res : Bool) (X : Nat → Int32 → Bool → Bool → Int32 → Int32 → Int32 → Prop) (x1 : Int32) (b3 : Bool) (x5 : Int32) (x6 : Int32) : Prop := X 7 x1 false b3 0 x5 x6
def B_Model_isBody_171 (mo_topics : Int32) (mo_bodies : Nat → Int32) (mo_lengths : Nat → Int32) (res : Bool) (X : Nat → Int32 → Bool → Bool → Int32 → Int32 → Int32 → Prop) (x1 : Int32) (b2 : Bool) (b3 : Bool) (x5 : Int32) (x6 : Int32) : Prop := X 11 x1 b2 b3 0 x5 x6
def B_Model_isBody_194 (mo_topics : Int32) (mo_bodies : Nat → Int32) (mo_lengths : Nat → Int32) (res : Bool) (X : Nat → Int32 → Bool → Bool → Int32 → Int32 → Int32 → Prop) (x1 : Int32) (b2 : Bool) (b3 : Bool) (x5 : Int32) (x6 : Int32) : Prop := (((bI b2) = 0 → X 10 x1 false b3 0 x5 x6) ∧ (¬ ((bI b2) = 0) → ((x6 = 1 → X 9 x1 false b3 0 x5 x6) ∧ (¬ (x6 = 1) → (∃ r210 : Bool, D_Model_in x6 33 126 r210 ∧ (((bI r210) = 0 → X 10 x1 false b3 0 x5 x6) ∧ (¬ ((bI r210) = 0) → ((x6 = 42 → X 10 x1 false b3 0 x5 x6) ∧ (¬ (x6 = 42) → ((x6 = 91 → X 10 x1 false b3 0 x5 x6) ∧ (¬ (x6 = 91) → ((x6 = 93 → X 10 x1 false b3 0 x5 x6) ∧ (¬ (x6 = 93) → X 9 x1 false b3 0 x5 x6)))))))))))))
def B_Model_isBody_237 (mo_topics : Int32) (mo_bodies : Nat → Int32) (mo_lengths : Nat → Int32) (res : Bool) (X : Nat → Int32 → Bool → Bool → Int32 → Int32 → Int32 → Prop) (x1 : Int32) (b3 : Bool) (x5 : Int32) (x6 : Int32) : Prop := X 11 x1 true b3 0 x5 x6
def B_Model_isBody_241 (mo_topics : Int32) (mo_bodies : Nat → Int32) (mo_lengths : Nat → Int32) (res : Bool) (X : Nat → Int32 → Bool → Bool → Int32 → Int32 → Int32 → Prop) (x1 : Int32) (b3 : Bool) (x5 : Int32) (x6 : Int32) : Prop := X 11 x1 false b3 0 x5 x6
def B_Model_isBody_243 (mo_topics : Int32) (mo_bodies : Nat → Int32) (mo_lengths : Nat → Int32) (res : Bool) (X : Nat → Int32 → Bool → Bool → Int32 → Int32 → Int32 → Prop) (x1 : Int32) (b2 : Bool) (b3 : Bool) (x5 : Int32) (x6 : Int32) : Prop := X 0 x1 b2 b3 x6 (x5 + 1) 0
def S_Model_isBody (mo_topics : Int32) (mo_bodies : Nat → Int32) (mo_lengths : Nat → Int32) (res : Bool) (X : Nat → Int32 → Bool → Bool → Int32 → Int32 → Int32 → Prop) : Nat → Int32 → Bool → Bool → Int32 → Int32 → Int32 → Prop := fun q_lab x1 b2 b3 x4 x5 x6 => match q_lab with | 0 => B_Model_isBody_11 mo_topics mo_bodies mo_lengths res X x1 b2 b3 x4 x5 | 1 => B_Model_isBody_93 mo_topics mo_bodies mo_lengths res X x1 b3 x5 x6 | 2 => B_Model_isBody_97 mo_topics mo_bodies mo_lengths res X x1 b3 x5 x6 | 3 => B_Model_isBody_99 mo_topics mo_bodies mo_lengths res X x1 b2 b3 x5 x6 | 4 => B_Model_isBody_135 mo_topics mo_bodies mo_lengths res X x1 b3 x5 x6 | 5 => B_Model_isBody_137 mo_topics mo_bodies mo_lengths res X x1 b2 b3 x5 x6 | 6 => B_Model_isBody_169 mo_topics mo_bodies mo_lengths res X x1 b3 x5 x6 | 7 => B_Model_isBody_171 mo_topics mo_bodies mo_lengths res X x1 b2 b3 x5 x6 | 8 => B_Model_isBody_194 mo_topics mo_bodies mo_lengths res X x1 b2 b3 x5 x6 | 9 => B_Model_isBody_237 mo_topics mo_bodies mo_lengths res X x1 b3 x5 x6 | 10 => B_Model_isBody_241 mo_topics mo_bodies mo_lengths res X x1 b3 x5 x6 | 11 => B_Model_isBody_243 mo_topics mo_bodies mo_lengths res X x1 b2 b3 x5 x6 | _ => False
def T_Model_isBody (mo_topics : Int32) (mo_bodies : Nat → Int32) (mo_lengths : Nat → Int32) (res : Bool) : Nat → (Nat → Int32 → Bool → Bool → Int32 → Int32 → Int32 → Prop)
  | 0 => fun _ _ _ _ _ _ _ => False
  | n + 1 => S_Model_isBody mo_topics mo_bodies mo_lengths res (T_Model_isBody mo_topics mo_bodies mo_lengths res n)
def D_Model_isBody (k0 : Int32) (mo_topics : Int32) (mo_bodies : Nat → Int32) (mo_lengths : Nat → Int32) (res : Bool) : Prop := ∃ n : Nat, T_Model_isBody mo_topics mo_bodies mo_lengths res n 0 k0 true false 10 0 0
theorem d_Model_isBody_0 : decode b_Model_isBody 0 = .ok (.iconst 1, 1) := by decide +kernel
theorem d_Model_isBody_1 : decode b_Model_isBody 1 = .ok (.istore_n 2, 1) := by decide +kernel
theorem d_Model_isBody_2 : decode b_Model_isBody 2 = .ok (.iconst 0, 1) := by decide +kernel
theorem d_Model_isBody_3 : decode b_Model_isBody 3 = .ok (.istore_n 3, 1) := by decide +kernel
theorem d_Model_isBody_4 : decode b_Model_isBody 4 = .ok (.bipush 10, 2) := by decide +kernel
theorem d_Model_isBody_6 : decode b_Model_isBody 6 = .ok (.istore 4, 2) := by decide +kernel
theorem d_Model_isBody_8 : decode b_Model_isBody 8 = .ok (.iconst 0, 1) := by decide +kernel
theorem d_Model_isBody_9 : decode b_Model_isBody 9 = .ok (.istore 5, 2) := by decide +kernel
theorem d_Model_isBody_11 : decode b_Model_isBody 11 = .ok (.iload 5, 2) := by decide +kernel
theorem d_Model_isBody_13 : decode b_Model_isBody 13 = .ok (.aload_n 0, 1) := by decide +kernel
theorem d_Model_isBody_14 : decode b_Model_isBody 14 = .ok (.getfield 23, 3) := by decide +kernel
theorem d_Model_isBody_17 : decode b_Model_isBody 17 = .ok (.iload_n 1, 1) := by decide +kernel
theorem d_Model_isBody_18 : decode b_Model_isBody 18 = .ok (.iaload, 1) := by decide +kernel
theorem d_Model_isBody_19 : decode b_Model_isBody 19 = .ok (.if_icmp .ge 234, 3) := by decide +kernel
theorem d_Model_isBody_22 : decode b_Model_isBody 22 = .ok (.aload_n 0, 1) := by decide +kernel
theorem d_Model_isBody_23 : decode b_Model_isBody 23 = .ok (.getfield 20, 3) := by decide +kernel
theorem d_Model_isBody_26 : decode b_Model_isBody 26 = .ok (.sipush 255, 3) := by decide +kernel
theorem d_Model_isBody_29 : decode b_Model_isBody 29 = .ok (.iload_n 1, 1) := by decide +kernel
theorem d_Model_isBody_30 : decode b_Model_isBody 30 = .ok (.imul, 1) := by decide +kernel
theorem d_Model_isBody_31 : decode b_Model_isBody 31 = .ok (.iload 5, 2) := by decide +kernel
theorem d_Model_isBody_33 : decode b_Model_isBody 33 = .ok (.iadd, 1) := by decide +kernel
theorem d_Model_isBody_34 : decode b_Model_isBody 34 = .ok (.iaload, 1) := by decide +kernel
theorem d_Model_isBody_35 : decode b_Model_isBody 35 = .ok (.istore 6, 2) := by decide +kernel
theorem d_Model_isBody_37 : decode b_Model_isBody 37 = .ok (.iload 6, 2) := by decide +kernel
theorem d_Model_isBody_39 : decode b_Model_isBody 39 = .ok (.iconst 2, 1) := by decide +kernel
theorem d_Model_isBody_40 : decode b_Model_isBody 40 = .ok (.if_icmp .ne 62, 3) := by decide +kernel
theorem d_Model_isBody_43 : decode b_Model_isBody 43 = .ok (.iinc 5 1, 3) := by decide +kernel
theorem d_Model_isBody_46 : decode b_Model_isBody 46 = .ok (.iload_n 2, 1) := by decide +kernel
theorem d_Model_isBody_47 : decode b_Model_isBody 47 = .ok (.ifCond .eq 50, 3) := by decide +kernel
theorem d_Model_isBody_50 : decode b_Model_isBody 50 = .ok (.iload 5, 2) := by decide +kernel
theorem d_Model_isBody_52 : decode b_Model_isBody 52 = .ok (.aload_n 0, 1) := by decide +kernel
theorem d_Model_isBody_53 : decode b_Model_isBody 53 = .ok (.getfield 23, 3) := by decide +kernel
theorem d_Model_isBody_56 : decode b_Model_isBody 56 = .ok (.iload_n 1, 1) := by decide +kernel
theorem d_Model_isBody_57 : decode b_Model_isBody 57 = .ok (.iaload, 1) := by decide +kernel
theorem d_Model_isBody_58 : decode b_Model_isBody 58 = .ok (.if_icmp .ge 39, 3) := by decide +kernel
theorem d_Model_isBody_61 : decode b_Model_isBody 61 = .ok (.aload_n 0, 1) := by decide +kernel
theorem d_Model_isBody_62 : decode b_Model_isBody 62 = .ok (.getfield 20, 3) := by decide +kernel
theorem d_Model_isBody_65 : decode b_Model_isBody 65 = .ok (.sipush 255, 3) := by decide +kernel
theorem d_Model_isBody_68 : decode b_Model_isBody 68 = .ok (.iload_n 1, 1) := by decide +kernel
theorem d_Model_isBody_69 : decode b_Model_isBody 69 = .ok (.imul, 1) := by decide +kernel
theorem d_Model_isBody_70 : decode b_Model_isBody 70 = .ok (.iload 5, 2) := by decide +kernel
theorem d_Model_isBody_72 : decode b_Model_isBody 72 = .ok (.sipush 255, 3) := by decide +kernel
theorem d_Model_isBody_75 : decode b_Model_isBody 75 = .ok (.if_icmp .ge 8, 3) := by decide +kernel
theorem d_Model_isBody_78 : decode b_Model_isBody 78 = .ok (.iload 5, 2) := by decide +kernel
theorem d_Model_isBody_80 : decode b_Model_isBody 80 = .ok (.goto 4, 3) := by decide +kernel
theorem d_Model_isBody_83 : decode b_Model_isBody 83 = .ok (.iconst 0, 1) := by decide +kernel
theorem d_Model_isBody_84 : decode b_Model_isBody 84 = .ok (.iadd, 1) := by decide +kernel
theorem d_Model_isBody_85 : decode b_Model_isBody 85 = .ok (.iaload, 1) := by decide +kernel
theorem d_Model_isBody_86 : decode b_Model_isBody 86 = .ok (.aload_n 0, 1) := by decide +kernel
theorem d_Model_isBody_87 : decode b_Model_isBody 87 = .ok (.getfield 143, 3) := by decide +kernel
theorem d_Model_isBody_90 : decode b_Model_isBody 90 = .ok (.if_icmp .ge 7, 3) := by decide +kernel
theorem d_Model_isBody_93 : decode b_Model_isBody 93 = .ok (.iconst 1, 1) := by decide +kernel
theorem d_Model_isBody_94 : decode b_Model_isBody 94 = .ok (.goto 4, 3) := by decide +kernel
theorem d_Model_isBody_97 : decode b_Model_isBody 97 = .ok (.iconst 0, 1) := by decide +kernel
theorem d_Model_isBody_98 : decode b_Model_isBody 98 = .ok (.istore_n 2, 1) := by decide +kernel
theorem d_Model_isBody_99 : decode b_Model_isBody 99 = .ok (.goto 144, 3) := by decide +kernel
theorem d_Model_isBody_102 : decode b_Model_isBody 102 = .ok (.iload 6, 2) := by decide +kernel
theorem d_Model_isBody_104 : decode b_Model_isBody 104 = .ok (.bipush 10, 2) := by decide +kernel
theorem d_Model_isBody_106 : decode b_Model_isBody 106 = .ok (.if_icmp .ne 34, 3) := by decide +kernel
theorem d_Model_isBody_109 : decode b_Model_isBody 109 = .ok (.iload_n 2, 1) := by decide +kernel
theorem d_Model_isBody_110 : decode b_Model_isBody 110 = .ok (.ifCond .eq 25, 3) := by decide +kernel
theorem d_Model_isBody_113 : decode b_Model_isBody 113 = .ok (.iload 4, 2) := by decide +kernel
theorem d_Model_isBody_115 : decode b_Model_isBody 115 = .ok (.bipush 10, 2) := by decide +kernel
theorem d_Model_isBody_117 : decode b_Model_isBody 117 = .ok (.if_icmp .eq 18, 3) := by decide +kernel
theorem d_Model_isBody_120 : decode b_Model_isBody 120 = .ok (.iload 4, 2) := by decide +kernel
theorem d_Model_isBody_122 : decode b_Model_isBody 122 = .ok (.bipush 32, 2) := by decide +kernel
theorem d_Model_isBody_124 : decode b_Model_isBody 124 = .ok (.if_icmp .eq 11, 3) := by decide +kernel
theorem d_Model_isBody_127 : decode b_Model_isBody 127 = .ok (.iload_n 3, 1) := by decide +kernel
theorem d_Model_isBody_128 : decode b_Model_isBody 128 = .ok (.ifCond .ne 7, 3) := by decide +kernel
theorem d_Model_isBody_131 : decode b_Model_isBody 131 = .ok (.iconst 1, 1) := by decide +kernel
theorem d_Model_isBody_132 : decode b_Model_isBody 132 = .ok (.goto 4, 3) := by decide +kernel
theorem d_Model_isBody_135 : decode b_Model_isBody 135 = .ok (.iconst 0, 1) := by decide +kernel
theorem d_Model_isBody_136 : decode b_Model_isBody 136 = .ok (.istore_n 2, 1) := by decide +kernel
theorem d_Model_isBody_137 : decode b_Model_isBody 137 = .ok (.goto 106, 3) := by decide +kernel
theorem d_Model_isBody_140 : decode b_Model_isBody 140 = .ok (.iload 6, 2) := by decide +kernel
theorem d_Model_isBody_142 : decode b_Model_isBody 142 = .ok (.bipush 32, 2) := by decide +kernel
theorem d_Model_isBody_144 : decode b_Model_isBody 144 = .ok (.if_icmp .ne 30, 3) := by decide +kernel
theorem d_Model_isBody_147 : decode b_Model_isBody 147 = .ok (.iload_n 2, 1) := by decide +kernel
theorem d_Model_isBody_148 : decode b_Model_isBody 148 = .ok (.ifCond .eq 21, 3) := by decide +kernel
theorem d_Model_isBody_151 : decode b_Model_isBody 151 = .ok (.iload 4, 2) := by decide +kernel
theorem d_Model_isBody_153 : decode b_Model_isBody 153 = .ok (.bipush 10, 2) := by decide +kernel
theorem d_Model_isBody_155 : decode b_Model_isBody 155 = .ok (.if_icmp .eq 14, 3) := by decide +kernel
theorem d_Model_isBody_158 : decode b_Model_isBody 158 = .ok (.iload 4, 2) := by decide +kernel
theorem d_Model_isBody_160 : decode b_Model_isBody 160 = .ok (.bipush 32, 2) := by decide +kernel
theorem d_Model_isBody_162 : decode b_Model_isBody 162 = .ok (.if_icmp .eq 7, 3) := by decide +kernel
theorem d_Model_isBody_165 : decode b_Model_isBody 165 = .ok (.iconst 1, 1) := by decide +kernel
theorem d_Model_isBody_166 : decode b_Model_isBody 166 = .ok (.goto 4, 3) := by decide +kernel
theorem d_Model_isBody_169 : decode b_Model_isBody 169 = .ok (.iconst 0, 1) := by decide +kernel
theorem d_Model_isBody_170 : decode b_Model_isBody 170 = .ok (.istore_n 2, 1) := by decide +kernel
theorem d_Model_isBody_171 : decode b_Model_isBody 171 = .ok (.goto 72, 3) := by decide +kernel
theorem d_Model_isBody_174 : decode b_Model_isBody 174 = .ok (.iload 6, 2) := by decide +kernel
theorem d_Model_isBody_176 : decode b_Model_isBody 176 = .ok (.iconst 1, 1) := by decide +kernel
theorem d_Model_isBody_177 : decode b_Model_isBody 177 = .ok (.if_icmp .ne 15, 3) := by decide +kernel
theorem d_Model_isBody_180 : decode b_Model_isBody 180 = .ok (.iload_n 3, 1) := by decide +kernel
theorem d_Model_isBody_181 : decode b_Model_isBody 181 = .ok (.ifCond .ne 7, 3) := by decide +kernel
theorem d_Model_isBody_184 : decode b_Model_isBody 184 = .ok (.iconst 1, 1) := by decide +kernel
theorem d_Model_isBody_185 : decode b_Model_isBody 185 = .ok (.goto 8, 3) := by decide +kernel
theorem d_Model_isBody_188 : decode b_Model_isBody 188 = .ok (.iconst 0, 1) := by decide +kernel
theorem d_Model_isBody_189 : decode b_Model_isBody 189 = .ok (.goto 4, 3) := by decide +kernel
theorem d_Model_isBody_192 : decode b_Model_isBody 192 = .ok (.iload_n 3, 1) := by decide +kernel
theorem d_Model_isBody_193 : decode b_Model_isBody 193 = .ok (.istore_n 3, 1) := by decide +kernel
theorem d_Model_isBody_194 : decode b_Model_isBody 194 = .ok (.iload_n 2, 1) := by decide +kernel
theorem d_Model_isBody_195 : decode b_Model_isBody 195 = .ok (.ifCond .eq 46, 3) := by decide +kernel
theorem d_Model_isBody_198 : decode b_Model_isBody 198 = .ok (.iload 6, 2) := by decide +kernel
theorem d_Model_isBody_200 : decode b_Model_isBody 200 = .ok (.iconst 1, 1) := by decide +kernel
theorem d_Model_isBody_201 : decode b_Model_isBody 201 = .ok (.if_icmp .eq 36, 3) := by decide +kernel
theorem d_Model_isBody_204 : decode b_Model_isBody 204 = .ok (.iload 6, 2) := by decide +kernel
theorem d_Model_isBody_206 : decode b_Model_isBody 206 = .ok (.bipush 33, 2) := by decide +kernel
theorem d_Model_isBody_208 : decode b_Model_isBody 208 = .ok (.bipush 126, 2) := by decide +kernel
theorem d_Model_isBody_210 : decode b_Model_isBody 210 = .ok (.invokestatic 125, 3) := by decide +kernel
theorem d_Model_isBody_213 : decode b_Model_isBody 213 = .ok (.ifCond .eq 28, 3) := by decide +kernel
theorem d_Model_isBody_216 : decode b_Model_isBody 216 = .ok (.iload 6, 2) := by decide +kernel
theorem d_Model_isBody_218 : decode b_Model_isBody 218 = .ok (.bipush 42, 2) := by decide +kernel
theorem d_Model_isBody_220 : decode b_Model_isBody 220 = .ok (.if_icmp .eq 21, 3) := by decide +kernel
theorem d_Model_isBody_223 : decode b_Model_isBody 223 = .ok (.iload 6, 2) := by decide +kernel
theorem d_Model_isBody_225 : decode b_Model_isBody 225 = .ok (.bipush 91, 2) := by decide +kernel
theorem d_Model_isBody_227 : decode b_Model_isBody 227 = .ok (.if_icmp .eq 14, 3) := by decide +kernel
theorem d_Model_isBody_230 : decode b_Model_isBody 230 = .ok (.iload 6, 2) := by decide +kernel
theorem d_Model_isBody_232 : decode b_Model_isBody 232 = .ok (.bipush 93, 2) := by decide +kernel
theorem d_Model_isBody_234 : decode b_Model_isBody 234 = .ok (.if_icmp .eq 7, 3) := by decide +kernel
theorem d_Model_isBody_237 : decode b_Model_isBody 237 = .ok (.iconst 1, 1) := by decide +kernel
theorem d_Model_isBody_238 : decode b_Model_isBody 238 = .ok (.goto 4, 3) := by decide +kernel
theorem d_Model_isBody_241 : decode b_Model_isBody 241 = .ok (.iconst 0, 1) := by decide +kernel
theorem d_Model_isBody_242 : decode b_Model_isBody 242 = .ok (.istore_n 2, 1) := by decide +kernel
theorem d_Model_isBody_243 : decode b_Model_isBody 243 = .ok (.iload 6, 2) := by decide +kernel
theorem d_Model_isBody_245 : decode b_Model_isBody 245 = .ok (.istore 4, 2) := by decide +kernel
theorem d_Model_isBody_247 : decode b_Model_isBody 247 = .ok (.iinc 5 1, 3) := by decide +kernel
theorem d_Model_isBody_250 : decode b_Model_isBody 250 = .ok (.goto (-239), 3) := by decide +kernel
theorem d_Model_isBody_253 : decode b_Model_isBody 253 = .ok (.iload_n 2, 1) := by decide +kernel
theorem d_Model_isBody_254 : decode b_Model_isBody 254 = .ok (.ifCond .eq 14, 3) := by decide +kernel
theorem d_Model_isBody_257 : decode b_Model_isBody 257 = .ok (.iload 4, 2) := by decide +kernel
theorem d_Model_isBody_259 : decode b_Model_isBody 259 = .ok (.bipush 10, 2) := by decide +kernel
theorem d_Model_isBody_261 : decode b_Model_isBody 261 = .ok (.if_icmp .ne 7, 3) := by decide +kernel
theorem d_Model_isBody_264 : decode b_Model_isBody 264 = .ok (.iconst 1, 1) := by decide +kernel
theorem d_Model_isBody_265 : decode b_Model_isBody 265 = .ok (.goto 4, 3) := by decide +kernel
theorem d_Model_isBody_268 : decode b_Model_isBody 268 = .ok (.iconst 0, 1) := by decide +kernel
theorem d_Model_isBody_269 : decode b_Model_isBody 269 = .ok (.ireturn, 1) := by decide +kernel
set_option maxHeartbeats 4000000 in
set_option maxRecDepth 100000 in
theorem c_Model_isBody (l : Launch) (dC : Nat → ClassId) (dI : Nat → Nat → Nat) (cI cL cZ : ClassId) (mo : Nat) (mo_thrown : Int32) (mo_sourcea : Nat) (mo_source : Nat → Int32) (mo_size : Int32) (mo_faultLine : Int32) (mo_fault : Int32) (mo_topics : Int32) (mo_namesa : Nat) (mo_names : Nat → Int32) (mo_bodiesa : Nat) (mo_bodies : Nat → Int32) (mo_lengthsa : Nat) (mo_lengths : Nat → Int32) (mo_headingsa : Nat) (mo_headings : Nat → Int32) (mo_keywords : Int32) (mo_keyLettersa : Nat) (mo_keyLetters : Nat → Int32) (mo_keyLengthsa : Nat) (mo_keyLengths : Nat → Int32) (mo_keyBitsa : Nat) (mo_keyBits : Nat → Int32) (mo_words : Int32) (mo_wordLettersa : Nat) (mo_wordLetters : Nat → Int32) (mo_wordLengthsa : Nat) (mo_wordLengths : Nat → Int32) (mo_wordBitsa : Nat) (mo_wordBits : Nat → Int32) (mo_links : Int32) (mo_linkAta : Nat) (mo_linkAt : Nat → Int32) (mo_linkLengtha : Nat) (mo_linkLength : Nat → Int32) (mo_linkLinea : Nat) (mo_linkLine : Nat → Int32) (mo_linkToa : Nat) (mo_linkTo : Nat → Int32) (mo_inParagraph : Bool) (mo_emphasis : Bool) (mo_blank : Bool) (mo_lastLine : Int32) (mo_imageSize : Int32) (mo_imagea : Nat) (mo_image : Nat → Int32) (mo_compares : Bool) (mo_unlike : Bool) (mo_out : Int32) (mo_total : Int32) (mo_literal : Int32) (mo_handLength : Int32) (mo_handa : Nat) (mo_hand : Nat → Int32) (mo_isOpen : Bool) (mo_seenTopics : Int32) (mo_seenNamesa : Nat) (mo_seenNames : Nat → Int32) (mo_seenBodiesa : Nat) (mo_seenBodies : Nat → Int32) (mo_seenLengthsa : Nat) (mo_seenLengths : Nat → Int32) (mo_seenKeywords : Int32) (mo_seenKeyLettersa : Nat) (mo_seenKeyLetters : Nat → Int32) (mo_seenKeyLengthsa : Nat) (mo_seenKeyLengths : Nat → Int32) (mo_seenKeyBitsa : Nat) (mo_seenKeyBits : Nat → Int32) (mo_seenWords : Int32) (mo_seenWordLettersa : Nat) (mo_seenWordLetters : Nat → Int32) (mo_seenWordLengthsa : Nat) (mo_seenWordLengths : Nat → Int32) (mo_seenWordBitsa : Nat) (mo_seenWordBits : Nat → Int32) (mo_topic : Int32) (mo_backs : Int32) (mo_backa : Nat) (mo_back : Nat → Int32) (mo_forwards : Int32) (mo_forwarda : Nat) (mo_forward : Nat → Int32) (mo_typed : Int32) (mo_querya : Nat) (mo_query : Nat → Int32) (mo_visits : Int32) (mo_valuesa : Nat) (mo_values : Nat → Int32) (mo_valued : Int32) (mo_signsa : Nat) (mo_signs : Nat → Int32) (mo_signed : Int32) (mo_width : Int32) (mo_lines : Int32) (mo_lineFroma : Nat) (mo_lineFrom : Nat → Int32) (mo_lineSizea : Nat) (mo_lineSize : Nat → Int32) (mo_shown : Int32) (mo_texta : Nat) (mo_text : Nat → Int32) (mo_partLength : Int32) (mo_parta : Nat) (mo_part : Nat → Int32) (k0 : Int32) (res : Bool) (hd : D_Model_isBody k0 mo_topics mo_bodies mo_lengths res) : CtrR l y_Model_isBody (Cond.code y_Model_isBody b_Model_isBody 7 (some .boolean) :: ga) { frames := 1, cells := 0, slots := 0, locals := 22 } (dC, dI) classes (Tys cI cL cZ) [.ref mo, .int k0] ((sh_Model cI cL cZ mo mo_thrown mo_sourcea mo_source mo_size mo_faultLine mo_fault mo_topics mo_namesa mo_names mo_bodiesa mo_bodies mo_lengthsa mo_lengths mo_headingsa mo_headings mo_keywords mo_keyLettersa mo_keyLetters mo_keyLengthsa mo_keyLengths mo_keyBitsa mo_keyBits mo_words mo_wordLettersa mo_wordLetters mo_wordLengthsa mo_wordLengths mo_wordBitsa mo_wordBits mo_links mo_linkAta mo_linkAt mo_linkLengtha mo_linkLength mo_linkLinea mo_linkLine mo_linkToa mo_linkTo mo_inParagraph mo_emphasis mo_blank mo_lastLine mo_imageSize mo_imagea mo_image mo_compares mo_unlike mo_out mo_total mo_literal mo_handLength mo_handa mo_hand mo_isOpen mo_seenTopics mo_seenNamesa mo_seenNames mo_seenBodiesa mo_seenBodies mo_seenLengthsa mo_seenLengths mo_seenKeywords mo_seenKeyLettersa mo_seenKeyLetters mo_seenKeyLengthsa mo_seenKeyLengths mo_seenKeyBitsa mo_seenKeyBits mo_seenWords mo_seenWordLettersa mo_seenWordLetters mo_seenWordLengthsa mo_seenWordLengths mo_seenWordBitsa mo_seenWordBits mo_topic mo_backs mo_backa mo_back mo_forwards mo_forwarda mo_forward mo_typed mo_querya mo_query mo_visits mo_valuesa mo_values mo_valued mo_signsa mo_signs mo_signed mo_width mo_lines mo_lineFroma mo_lineFrom mo_lineSizea mo_lineSize mo_shown mo_texta mo_text mo_partLength mo_parta mo_part)) (some (.int (bI res))) := by
  refine CtrR.ofW (by decide) (Nat.le_of_ble_eq_true rfl) ?_
  intro p e s m below meth c ls hx hb hr hml hown hlocks hts hK hN hP hD hl
  have hown : s.vm.findClass R_Model = some m.cls := hown
  have hl : lv_has ls 7 [(0, .ref mo), (1, .int k0)] := hl
  have key : ∀ n : Nat, (∀ (x1 : Int32) (b2 : Bool) (b3 : Bool) (x4 : Int32) (x5 : Int32) (ls : Array Slot), lv_has ls 7 [(0, .ref mo), (1, .int x1), (2, .int (bI b2)), (3, .int (bI b3)), (4, .int x4), (5, .int x5)] → T_Model_isBody mo_topics mo_bodies mo_lengths res n 0 x1 b2 b3 x4 x5 0 → W p l e ({ frames := 1, cells := 0, slots := 0, locals := 22 }) s m ([.ref mo, .int k0] : List Value).toArray below meth c s.heap [] 0 0 (MQ below (Qr (some (.int (bI res)))) ([.ref mo, .int k0] : List Value).toArray s 0 0 (fun _ => False)) (F0 m 11 ls [])) ∧ (∀ (x1 : Int32) (b3 : Bool) (x5 : Int32) (x6 : Int32) (ls : Array Slot), lv_has ls 7 [(0, .ref mo), (1, .int x1), (3, .int (bI b3)), (5, .int x5), (6, .int x6)] → T_Model_isBody mo_topics mo_bodies mo_lengths res n 1 x1 false b3 0 x5 x6 → W p l e ({ frames := 1, cells := 0, slots := 0, locals := 22 }) s m ([.ref mo, .int k0] : List Value).toArray below meth c s.heap [] 0 0 (MQ below (Qr (some (.int (bI res)))) ([.ref mo, .int k0] : List Value).toArray s 0 0 (fun _ => False)) (F0 m 93 ls [])) ∧ (∀ (x1 : Int32) (b3 : Bool) (x5 : Int32) (x6 : Int32) (ls : Array Slot), lv_has ls 7 [(0, .ref mo), (1, .int x1), (3, .int (bI b3)), (5, .int x5), (6, .int x6)] → T_Model_isBody mo_topics mo_bodies mo_lengths res n 2 x1 false b3 0 x5 x6 → W p l e ({ frames := 1, cells := 0, slots := 0, locals := 22 }) s m ([.ref mo, .int k0] : List Value).toArray below meth c s.heap [] 0 0 (MQ below (Qr (some (.int (bI res)))) ([.ref mo, .int k0] : List Value).toArray s 0 0 (fun _ => False)) (F0 m 97 ls [])) ∧ (∀ (x1 : Int32) (b2 : Bool) (b3 : Bool) (x5 : Int32) (x6 : Int32) (ls : Array Slot), lv_has ls 7 [(0, .ref mo), (1, .int x1), (2, .int (bI b2)), (3, .int (bI b3)), (5, .int x5), (6, .int x6)] → T_Model_isBody mo_topics mo_bodies mo_lengths res n 3 x1 b2 b3 0 x5 x6 → W p l e ({ frames := 1, cells := 0, slots := 0, locals := 22 }) s m ([.ref mo, .int k0] : List Value).toArray below meth c s.heap [] 0 0 (MQ below (Qr (some (.int (bI res)))) ([.ref mo, .int k0] : List Value).toArray s 0 0 (fun _ => False)) (F0 m 99 ls [])) ∧ (∀ (x1 : Int32) (b3 : Bool) (x5 : Int32) (x6 : Int32) (ls : Array Slot), lv_has ls 7 [(0, .ref mo), (1, .int x1), (3, .int (bI b3)), (5, .int x5), (6, .int x6)] → T_Model_isBody mo_topics mo_bodies mo_lengths res n 4 x1 false b3 0 x5 x6 → W p l e ({ frames := 1, cells := 0, slots := 0, locals := 22 }) s m ([.ref mo, .int k0] : List Value).toArray below meth c s.heap [] 0 0 (MQ below (Qr (some (.int (bI res)))) ([.ref mo, .int k0] : List Value).toArray s 0 0 (fun _ => False)) (F0 m 135 ls [])) ∧ (∀ (x1 : Int32) (b2 : Bool) (b3 : Bool) (x5 : Int32) (x6 : Int32) (ls : Array Slot), lv_has ls 7 [(0, .ref mo), (1, .int x1), (2, .int (bI b2)), (3, .int (bI b3)), (5, .int x5), (6, .int x6)] → T_Model_isBody mo_topics mo_bodies mo_lengths res n 5 x1 b2 b3 0 x5 x6 → W p l e ({ frames := 1, cells := 0, slots := 0, locals := 22 }) s m ([.ref mo, .int k0] : List Value).toArray below meth c s.heap [] 0 0 (MQ below (Qr (some (.int (bI res)))) ([.ref mo, .int k0] : List Value).toArray s 0 0 (fun _ => False)) (F0 m 137 ls [])) ∧ (∀ (x1 : Int32) (b3 : Bool) (x5 : Int32) (x6 : Int32) (ls : Array Slot), lv_has ls 7 [(0, .ref mo), (1, .int x1), (3, .int (bI b3)), (5, .int x5), (6, .int x6)] → T_Model_isBody mo_topics mo_bodies mo_lengths res n 6 x1 false b3 0 x5 x6 → W p l e ({ frames := 1, cells := 0, slots := 0, locals := 22 }) s m ([.ref mo, .int k0] : List Value).toArray below meth c s.heap [] 0 0 (MQ below (Qr (some (.int (bI res)))) ([.ref mo, .int k0] : List Value).toArray s 0 0 (fun _ => False)) (F0 m 169 ls [])) ∧ (∀ (x1 : Int32) (b2 : Bool) (b3 : Bool) (x5 : Int32) (x6 : Int32) (ls : Array Slot), lv_has ls 7 [(0, .ref mo), (1, .int x1), (2, .int (bI b2)), (3, .int (bI b3)), (5, .int x5), (6, .int x6)] → T_Model_isBody mo_topics mo_bodies mo_lengths res n 7 x1 b2 b3 0 x5 x6 → W p l e ({ frames := 1, cells := 0, slots := 0, locals := 22 }) s m ([.ref mo, .int k0] : List Value).toArray below meth c s.heap [] 0 0 (MQ below (Qr (some (.int (bI res)))) ([.ref mo, .int k0] : List Value).toArray s 0 0 (fun _ => False)) (F0 m 171 ls [])) ∧ (∀ (x1 : Int32) (b2 : Bool) (b3 : Bool) (x5 : Int32) (x6 : Int32) (ls : Array Slot), lv_has ls 7 [(0, .ref mo), (1, .int x1), (2, .int (bI b2)), (3, .int (bI b3)), (5, .int x5), (6, .int x6)] → T_Model_isBody mo_topics mo_bodies mo_lengths res n 8 x1 b2 b3 0 x5 x6 → W p l e ({ frames := 1, cells := 0, slots := 0, locals := 22 }) s m ([.ref mo, .int k0] : List Value).toArray below meth c s.heap [] 0 0 (MQ below (Qr (some (.int (bI res)))) ([.ref mo, .int k0] : List Value).toArray s 0 0 (fun _ => False)) (F0 m 194 ls [])) ∧ (∀ (x1 : Int32) (b3 : Bool) (x5 : Int32) (x6 : Int32) (ls : Array Slot), lv_has ls 7 [(0, .ref mo), (1, .int x1), (3, .int (bI b3)), (5, .int x5), (6, .int x6)] → T_Model_isBody mo_topics mo_bodies mo_lengths res n 9 x1 false b3 0 x5 x6 → W p l e ({ frames := 1, cells := 0, slots := 0, locals := 22 }) s m ([.ref mo, .int k0] : List Value).toArray below meth c s.heap [] 0 0 (MQ below (Qr (some (.int (bI res)))) ([.ref mo, .int k0] : List Value).toArray s 0 0 (fun _ => False)) (F0 m 237 ls [])) ∧ (∀ (x1 : Int32) (b3 : Bool) (x5 : Int32) (x6 : Int32) (ls : Array Slot), lv_has ls 7 [(0, .ref mo), (1, .int x1), (3, .int (bI b3)), (5, .int x5), (6, .int x6)] → T_Model_isBody mo_topics mo_bodies mo_lengths res n 10 x1 false b3 0 x5 x6 → W p l e ({ frames := 1, cells := 0, slots := 0, locals := 22 }) s m ([.ref mo, .int k0] : List Value).toArray below meth c s.heap [] 0 0 (MQ below (Qr (some (.int (bI res)))) ([.ref mo, .int k0] : List Value).toArray s 0 0 (fun _ => False)) (F0 m 241 ls [])) ∧ (∀ (x1 : Int32) (b2 : Bool) (b3 : Bool) (x5 : Int32) (x6 : Int32) (ls : Array Slot), lv_has ls 7 [(0, .ref mo), (1, .int x1), (2, .int (bI b2)), (3, .int (bI b3)), (5, .int x5), (6, .int x6)] → T_Model_isBody mo_topics mo_bodies mo_lengths res n 11 x1 b2 b3 0 x5 x6 → W p l e ({ frames := 1, cells := 0, slots := 0, locals := 22 }) s m ([.ref mo, .int k0] : List Value).toArray below meth c s.heap [] 0 0 (MQ below (Qr (some (.int (bI res)))) ([.ref mo, .int k0] : List Value).toArray s 0 0 (fun _ => False)) (F0 m 243 ls [])) := by
    intro n
    induction n with
    | zero =>
      exact ⟨fun _ _ _ _ _ _ _ hd => False.elim hd, fun _ _ _ _ _ _ hd => False.elim hd, fun _ _ _ _ _ _ hd => False.elim hd, fun _ _ _ _ _ _ _ hd => False.elim hd, fun _ _ _ _ _ _ hd => False.elim hd, fun _ _ _ _ _ _ _ hd => False.elim hd, fun _ _ _ _ _ _ hd => False.elim hd, fun _ _ _ _ _ _ _ hd => False.elim hd, fun _ _ _ _ _ _ _ hd => False.elim hd, fun _ _ _ _ _ _ hd => False.elim hd, fun _ _ _ _ _ _ hd => False.elim hd, fun _ _ _ _ _ _ _ hd => False.elim hd⟩
    | succ n ih =>
      refine ⟨?_, ?_, ?_, ?_, ?_, ?_, ?_, ?_, ?_, ?_, ?_, ?_⟩
      · intro x1 b2 b3 x4 x5 ls hl hd
        have hd : B_Model_isBody_11 mo_topics mo_bodies mo_lengths res (T_Model_isBody mo_topics mo_bodies mo_lengths res n) x1 b2 b3 x4 x5 := hd
        refine lv_iload hx hb d_Model_isBody_11 (lv_at hl 5 rfl) ?_
        refine lv_aload_n hx hb d_Model_isBody_13 rfl (lv_at hl 0 rfl) ?_
        refine va_get (D := (dC, dI)) (ci := 9) (v := .ref mo_lengthsa) (C := R_Model) (T := F_Model) (N := 69) hx hb hts in_Model hown hK hP 0 rfl rfl 8 (by decide) (hts _ (List.mem_cons_of_mem _ k502_fieldLink)) (fun _ h9 => h9) rfl d_Model_isBody_14 ?_
        refine lv_iload_n hx hb d_Model_isBody_17 rfl (lv_at hl 1 rfl) ?_
        obtain ⟨h18, hd⟩ := hd
        refine va_iald hx hb hK hP 4 0 rfl rfl h18 d_Model_isBody_18 ?_
        refine lv_icmp_ge (tgt := 253) hx hb d_Model_isBody_19 (by decide) (fun h19 => ?_) (fun h19 => ?_)
        · have hd := hd.1 h19
          refine lv_iload_n hx hb d_Model_isBody_253 rfl (lv_at hl 2 rfl) ?_
          refine lv_if_eq (tgt := 268) hx hb d_Model_isBody_254 (by decide) (fun h254 => ?_) (fun h254 => ?_)
          · have hd := hd.1 h254
            refine lv_iconst (v := 0) hx hb d_Model_isBody_268 (by decide) ?_
            have e0 : res = false := hd
            subst e0
            exact ct_zretR (b := false) hx hb hr hlocks d_Model_isBody_269
          · have hd := hd.2 h254
            refine lv_iload hx hb d_Model_isBody_257 (lv_at hl 4 rfl) ?_
            refine lv_bipush (v := 10) hx hb d_Model_isBody_259 (by decide) ?_
            refine lv_icmp_ne (tgt := 268) hx hb d_Model_isBody_261 (by decide) (fun h261 => ?_) (fun h261 => ?_)
            · have hd := hd.2 h261
              refine lv_iconst (v := 0) hx hb d_Model_isBody_268 (by decide) ?_
              have e0 : res = false := hd
              subst e0
              exact ct_zretR (b := false) hx hb hr hlocks d_Model_isBody_269
            · have hd := hd.1 h261
              refine lv_iconst (v := 1) hx hb d_Model_isBody_264 (by decide) ?_
              refine lv_goto (tgt := 269) hx hb d_Model_isBody_265 (by decide) ?_
              have e0 : res = true := hd
              subst e0
              exact ct_zretR (b := true) hx hb hr hlocks d_Model_isBody_269
        · have hd := hd.2 h19
          refine lv_aload_n hx hb d_Model_isBody_22 rfl (lv_at hl 0 rfl) ?_
          refine va_get (D := (dC, dI)) (ci := 9) (v := .ref mo_bodiesa) (C := R_Model) (T := F_Model) (N := 69) hx hb hts in_Model hown hK hP 0 rfl rfl 7 (by decide) (hts _ (List.mem_cons_of_mem _ k504_fieldLink)) (fun _ h9 => h9) rfl d_Model_isBody_23 ?_
          refine lv_sipush (v := 255) hx hb d_Model_isBody_26 (by decide) ?_
          refine lv_iload_n hx hb d_Model_isBody_29 rfl (lv_at hl 1 rfl) ?_
          refine lv_imul hx hb d_Model_isBody_30 ?_
          refine lv_iload hx hb d_Model_isBody_31 (lv_at hl 5 rfl) ?_
          refine lv_iadd hx hb d_Model_isBody_33 ?_
          obtain ⟨h34, hd⟩ := hd
          refine va_iald hx hb hK hP 3 0 rfl rfl h34 d_Model_isBody_34 ?_
          refine lv_istore (lv' := [(6, .int (mo_bodies (Int32.toNatClampNeg ((255 * x1) + x5)))), (0, .ref mo), (1, .int x1), (2, .int (bI b2)), (3, .int (bI b3)), (4, .int x4), (5, .int x5)]) hx hb d_Model_isBody_35 hl (by decide) rfl (fun ls hl => ?_)
          refine lv_iload hx hb d_Model_isBody_37 (lv_at hl 0 rfl) ?_
          refine lv_iconst (v := 2) hx hb d_Model_isBody_39 (by decide) ?_
          refine lv_icmp_ne (tgt := 102) hx hb d_Model_isBody_40 (by decide) (fun h40 => ?_) (fun h40 => ?_)
          · have hd := hd.2 h40
            refine lv_iload hx hb d_Model_isBody_102 (lv_at hl 0 rfl) ?_
            refine lv_bipush (v := 10) hx hb d_Model_isBody_104 (by decide) ?_
            refine lv_icmp_ne (tgt := 140) hx hb d_Model_isBody_106 (by decide) (fun h106 => ?_) (fun h106 => ?_)
            · have hd := hd.2 h106
              refine lv_iload hx hb d_Model_isBody_140 (lv_at hl 0 rfl) ?_
              refine lv_bipush (v := 32) hx hb d_Model_isBody_142 (by decide) ?_
              refine lv_icmp_ne (tgt := 174) hx hb d_Model_isBody_144 (by decide) (fun h144 => ?_) (fun h144 => ?_)
              · have hd := hd.2 h144
                refine lv_iload hx hb d_Model_isBody_174 (lv_at hl 0 rfl) ?_
                refine lv_iconst (v := 1) hx hb d_Model_isBody_176 (by decide) ?_
                refine lv_icmp_ne (tgt := 192) hx hb d_Model_isBody_177 (by decide) (fun h177 => ?_) (fun h177 => ?_)
                · have hd := hd.2 h177
                  refine lv_iload_n hx hb d_Model_isBody_192 rfl (lv_at hl 4 rfl) ?_
                  refine lv_istore_n (lv' := [(3, .int (bI b3)), (6, .int (mo_bodies (Int32.toNatClampNeg ((255 * x1) + x5)))), (0, .ref mo), (1, .int x1), (2, .int (bI b2)), (4, .int x4), (5, .int x5)]) hx hb d_Model_isBody_193 rfl hl (by decide) rfl (fun ls hl => ?_)
                  exact ih.2.2.2.2.2.2.2.2.1 x1 b2 b3 x5 (mo_bodies (Int32.toNatClampNeg ((255 * x1) + x5))) _ (lv_sub hl [2, 3, 4, 0, 6, 1] rfl) hd
                · have hd := hd.1 h177
                  refine lv_iload_n hx hb d_Model_isBody_180 rfl (lv_at hl 4 rfl) ?_
                  refine lv_if_ne (tgt := 188) hx hb d_Model_isBody_181 (by decide) (fun h181 => ?_) (fun h181 => ?_)
                  · have hd := hd.2 h181
                    refine lv_iconst (v := 0) hx hb d_Model_isBody_188 (by decide) ?_
                    refine lv_goto (tgt := 193) hx hb d_Model_isBody_189 (by decide) ?_
                    refine lv_istore_n (lv' := [(3, .int 0), (6, .int (mo_bodies (Int32.toNatClampNeg ((255 * x1) + x5)))), (0, .ref mo), (1, .int x1), (2, .int (bI b2)), (4, .int x4), (5, .int x5)]) hx hb d_Model_isBody_193 rfl hl (by decide) rfl (fun ls hl => ?_)
                    exact ih.2.2.2.2.2.2.2.2.1 x1 b2 false x5 (mo_bodies (Int32.toNatClampNeg ((255 * x1) + x5))) _ (lv_sub hl [2, 3, 4, 0, 6, 1] rfl) hd
                  · have hd := hd.1 h181
                    refine lv_iconst (v := 1) hx hb d_Model_isBody_184 (by decide) ?_
                    refine lv_goto (tgt := 193) hx hb d_Model_isBody_185 (by decide) ?_
                    refine lv_istore_n (lv' := [(3, .int 1), (6, .int (mo_bodies (Int32.toNatClampNeg ((255 * x1) + x5)))), (0, .ref mo), (1, .int x1), (2, .int (bI b2)), (4, .int x4), (5, .int x5)]) hx hb d_Model_isBody_193 rfl hl (by decide) rfl (fun ls hl => ?_)
                    exact ih.2.2.2.2.2.2.2.2.1 x1 b2 true x5 (mo_bodies (Int32.toNatClampNeg ((255 * x1) + x5))) _ (lv_sub hl [2, 3, 4, 0, 6, 1] rfl) hd
              · have hd := hd.1 h144
                refine lv_iload_n hx hb d_Model_isBody_147 rfl (lv_at hl 3 rfl) ?_
                refine lv_if_eq (tgt := 169) hx hb d_Model_isBody_148 (by decide) (fun h148 => ?_) (fun h148 => ?_)
                · have hd := hd.1 h148
                  exact ih.2.2.2.2.2.2.1 x1 b3 x5 (mo_bodies (Int32.toNatClampNeg ((255 * x1) + x5))) _ (lv_sub hl [1, 2, 4, 6, 0] rfl) hd
                · have hd := hd.2 h148
                  refine lv_iload hx hb d_Model_isBody_151 (lv_at hl 5 rfl) ?_
                  refine lv_bipush (v := 10) hx hb d_Model_isBody_153 (by decide) ?_
                  refine lv_icmp_eq (tgt := 169) hx hb d_Model_isBody_155 (by decide) (fun h155 => ?_) (fun h155 => ?_)
                  · have hd := hd.1 h155
                    exact ih.2.2.2.2.2.2.1 x1 b3 x5 (mo_bodies (Int32.toNatClampNeg ((255 * x1) + x5))) _ (lv_sub hl [1, 2, 4, 6, 0] rfl) hd
                  · have hd := hd.2 h155
                    refine lv_iload hx hb d_Model_isBody_158 (lv_at hl 5 rfl) ?_
                    refine lv_bipush (v := 32) hx hb d_Model_isBody_160 (by decide) ?_
                    refine lv_icmp_eq (tgt := 169) hx hb d_Model_isBody_162 (by decide) (fun h162 => ?_) (fun h162 => ?_)
                    · have hd := hd.1 h162
                      exact ih.2.2.2.2.2.2.1 x1 b3 x5 (mo_bodies (Int32.toNatClampNeg ((255 * x1) + x5))) _ (lv_sub hl [1, 2, 4, 6, 0] rfl) hd
                    · have hd := hd.2 h162
                      refine lv_iconst (v := 1) hx hb d_Model_isBody_165 (by decide) ?_
                      refine lv_goto (tgt := 170) hx hb d_Model_isBody_166 (by decide) ?_
                      refine lv_istore_n (lv' := [(2, .int 1), (6, .int (mo_bodies (Int32.toNatClampNeg ((255 * x1) + x5)))), (0, .ref mo), (1, .int x1), (3, .int (bI b3)), (4, .int x4), (5, .int x5)]) hx hb d_Model_isBody_170 rfl hl (by decide) rfl (fun ls hl => ?_)
                      exact ih.2.2.2.2.2.2.2.1 x1 true b3 x5 (mo_bodies (Int32.toNatClampNeg ((255 * x1) + x5))) _ (lv_sub hl [2, 3, 0, 4, 6, 1] rfl) hd
            · have hd := hd.1 h106
              refine lv_iload_n hx hb d_Model_isBody_109 rfl (lv_at hl 3 rfl) ?_
              refine lv_if_eq (tgt := 135) hx hb d_Model_isBody_110 (by decide) (fun h110 => ?_) (fun h110 => ?_)
              · have hd := hd.1 h110
                exact ih.2.2.2.2.1 x1 b3 x5 (mo_bodies (Int32.toNatClampNeg ((255 * x1) + x5))) _ (lv_sub hl [1, 2, 4, 6, 0] rfl) hd
              · have hd := hd.2 h110
                refine lv_iload hx hb d_Model_isBody_113 (lv_at hl 5 rfl) ?_
                refine lv_bipush (v := 10) hx hb d_Model_isBody_115 (by decide) ?_
                refine lv_icmp_eq (tgt := 135) hx hb d_Model_isBody_117 (by decide) (fun h117 => ?_) (fun h117 => ?_)
                · have hd := hd.1 h117
                  exact ih.2.2.2.2.1 x1 b3 x5 (mo_bodies (Int32.toNatClampNeg ((255 * x1) + x5))) _ (lv_sub hl [1, 2, 4, 6, 0] rfl) hd
                · have hd := hd.2 h117
                  refine lv_iload hx hb d_Model_isBody_120 (lv_at hl 5 rfl) ?_
                  refine lv_bipush (v := 32) hx hb d_Model_isBody_122 (by decide) ?_
                  refine lv_icmp_eq (tgt := 135) hx hb d_Model_isBody_124 (by decide) (fun h124 => ?_) (fun h124 => ?_)
                  · have hd := hd.1 h124
                    exact ih.2.2.2.2.1 x1 b3 x5 (mo_bodies (Int32.toNatClampNeg ((255 * x1) + x5))) _ (lv_sub hl [1, 2, 4, 6, 0] rfl) hd
                  · have hd := hd.2 h124
                    refine lv_iload_n hx hb d_Model_isBody_127 rfl (lv_at hl 4 rfl) ?_
                    refine lv_if_ne (tgt := 135) hx hb d_Model_isBody_128 (by decide) (fun h128 => ?_) (fun h128 => ?_)
                    · have hd := hd.2 h128
                      exact ih.2.2.2.2.1 x1 b3 x5 (mo_bodies (Int32.toNatClampNeg ((255 * x1) + x5))) _ (lv_sub hl [1, 2, 4, 6, 0] rfl) hd
                    · have hd := hd.1 h128
                      refine lv_iconst (v := 1) hx hb d_Model_isBody_131 (by decide) ?_
                      refine lv_goto (tgt := 136) hx hb d_Model_isBody_132 (by decide) ?_
                      refine lv_istore_n (lv' := [(2, .int 1), (6, .int (mo_bodies (Int32.toNatClampNeg ((255 * x1) + x5)))), (0, .ref mo), (1, .int x1), (3, .int (bI b3)), (4, .int x4), (5, .int x5)]) hx hb d_Model_isBody_136 rfl hl (by decide) rfl (fun ls hl => ?_)
                      exact ih.2.2.2.2.2.1 x1 true b3 x5 (mo_bodies (Int32.toNatClampNeg ((255 * x1) + x5))) _ (lv_sub hl [2, 3, 0, 4, 6, 1] rfl) hd
          · have hd := hd.1 h40
            refine lv_iinc (k := 6) (v := x5 + 1) (lv' := [(5, .int (x5 + 1)), (6, .int (mo_bodies (Int32.toNatClampNeg ((255 * x1) + x5)))), (0, .ref mo), (1, .int x1), (2, .int (bI b2)), (3, .int (bI b3)), (4, .int x4)]) hx hb d_Model_isBody_43 hl rfl (congrArg (fun z => x5 + z) (by decide)) (by decide) rfl (fun ls hl => ?_)
            refine lv_iload_n hx hb d_Model_isBody_46 rfl (lv_at hl 4 rfl) ?_
            refine lv_if_eq (tgt := 97) hx hb d_Model_isBody_47 (by decide) (fun h47 => ?_) (fun h47 => ?_)
            · have hd := hd.1 h47
              exact ih.2.2.1 x1 b3 (x5 + 1) (mo_bodies (Int32.toNatClampNeg ((255 * x1) + x5))) _ (lv_sub hl [2, 3, 5, 0, 1] rfl) hd
            · have hd := hd.2 h47
              refine lv_iload hx hb d_Model_isBody_50 (lv_at hl 0 rfl) ?_
              refine lv_aload_n hx hb d_Model_isBody_52 rfl (lv_at hl 2 rfl) ?_
              refine va_get (D := (dC, dI)) (ci := 9) (v := .ref mo_lengthsa) (C := R_Model) (T := F_Model) (N := 69) hx hb hts in_Model hown hK hP 0 rfl rfl 8 (by decide) (hts _ (List.mem_cons_of_mem _ k502_fieldLink)) (fun _ h9 => h9) rfl d_Model_isBody_53 ?_
              refine lv_iload_n hx hb d_Model_isBody_56 rfl (lv_at hl 3 rfl) ?_
              obtain ⟨h57, hd⟩ := hd
              refine va_iald hx hb hK hP 4 0 rfl rfl h57 d_Model_isBody_57 ?_
              refine lv_icmp_ge (tgt := 97) hx hb d_Model_isBody_58 (by decide) (fun h58 => ?_) (fun h58 => ?_)
              · have hd := hd.1 h58
                exact ih.2.2.1 x1 b3 (x5 + 1) (mo_bodies (Int32.toNatClampNeg ((255 * x1) + x5))) _ (lv_sub hl [2, 3, 5, 0, 1] rfl) hd
              · have hd := hd.2 h58
                refine lv_aload_n hx hb d_Model_isBody_61 rfl (lv_at hl 2 rfl) ?_
                refine va_get (D := (dC, dI)) (ci := 9) (v := .ref mo_bodiesa) (C := R_Model) (T := F_Model) (N := 69) hx hb hts in_Model hown hK hP 0 rfl rfl 7 (by decide) (hts _ (List.mem_cons_of_mem _ k504_fieldLink)) (fun _ h9 => h9) rfl d_Model_isBody_62 ?_
                refine lv_sipush (v := 255) hx hb d_Model_isBody_65 (by decide) ?_
                refine lv_iload_n hx hb d_Model_isBody_68 rfl (lv_at hl 3 rfl) ?_
                refine lv_imul hx hb d_Model_isBody_69 ?_
                refine lv_iload hx hb d_Model_isBody_70 (lv_at hl 0 rfl) ?_
                refine lv_sipush (v := 255) hx hb d_Model_isBody_72 (by decide) ?_
                refine lv_icmp_ge (tgt := 83) hx hb d_Model_isBody_75 (by decide) (fun h75 => ?_) (fun h75 => ?_)
                · have hd := hd.1 h75
                  refine lv_iconst (v := 0) hx hb d_Model_isBody_83 (by decide) ?_
                  refine lv_iadd hx hb d_Model_isBody_84 ?_
                  obtain ⟨h85, hd⟩ := hd
                  refine va_iald hx hb hK hP 3 0 rfl rfl h85 d_Model_isBody_85 ?_
                  refine lv_aload_n hx hb d_Model_isBody_86 rfl (lv_at hl 2 rfl) ?_
                  refine va_get (D := (dC, dI)) (ci := 9) (v := .int mo_topics) (C := R_Model) (T := F_Model) (N := 69) hx hb hts in_Model hown hK hP 0 rfl rfl 5 (by decide) (hts _ (List.mem_cons_of_mem _ k491_fieldLink)) (fun _ h9 => h9) rfl d_Model_isBody_87 ?_
                  refine lv_icmp_ge (tgt := 97) hx hb d_Model_isBody_90 (by decide) (fun h90 => ?_) (fun h90 => ?_)
                  · have hd := hd.1 h90
                    exact ih.2.2.1 x1 b3 (x5 + 1) (mo_bodies (Int32.toNatClampNeg ((255 * x1) + x5))) _ (lv_sub hl [2, 3, 5, 0, 1] rfl) hd
                  · have hd := hd.2 h90
                    exact ih.2.1 x1 b3 (x5 + 1) (mo_bodies (Int32.toNatClampNeg ((255 * x1) + x5))) _ (lv_sub hl [2, 3, 5, 0, 1] rfl) hd
                · have hd := hd.2 h75
                  refine lv_iload hx hb d_Model_isBody_78 (lv_at hl 0 rfl) ?_
                  refine lv_goto (tgt := 84) hx hb d_Model_isBody_80 (by decide) ?_
                  refine lv_iadd hx hb d_Model_isBody_84 ?_
                  obtain ⟨h85, hd⟩ := hd
                  refine va_iald hx hb hK hP 3 0 rfl rfl h85 d_Model_isBody_85 ?_
                  refine lv_aload_n hx hb d_Model_isBody_86 rfl (lv_at hl 2 rfl) ?_
                  refine va_get (D := (dC, dI)) (ci := 9) (v := .int mo_topics) (C := R_Model) (T := F_Model) (N := 69) hx hb hts in_Model hown hK hP 0 rfl rfl 5 (by decide) (hts _ (List.mem_cons_of_mem _ k491_fieldLink)) (fun _ h9 => h9) rfl d_Model_isBody_87 ?_
                  refine lv_icmp_ge (tgt := 97) hx hb d_Model_isBody_90 (by decide) (fun h90 => ?_) (fun h90 => ?_)
                  · have hd := hd.1 h90
                    exact ih.2.2.1 x1 b3 (x5 + 1) (mo_bodies (Int32.toNatClampNeg ((255 * x1) + x5))) _ (lv_sub hl [2, 3, 5, 0, 1] rfl) hd
                  · have hd := hd.2 h90
                    exact ih.2.1 x1 b3 (x5 + 1) (mo_bodies (Int32.toNatClampNeg ((255 * x1) + x5))) _ (lv_sub hl [2, 3, 5, 0, 1] rfl) hd
      · intro x1 b3 x5 x6 ls hl hd
        have hd : B_Model_isBody_93 mo_topics mo_bodies mo_lengths res (T_Model_isBody mo_topics mo_bodies mo_lengths res n) x1 b3 x5 x6 := hd
        refine lv_iconst (v := 1) hx hb d_Model_isBody_93 (by decide) ?_
        refine lv_goto (tgt := 98) hx hb d_Model_isBody_94 (by decide) ?_
        refine lv_istore_n (lv' := [(2, .int 1), (0, .ref mo), (1, .int x1), (3, .int (bI b3)), (5, .int x5), (6, .int x6)]) hx hb d_Model_isBody_98 rfl hl (by decide) rfl (fun ls hl => ?_)
        exact ih.2.2.2.1 x1 true b3 x5 x6 _ (lv_sub hl [1, 2, 0, 3, 4, 5] rfl) hd
      · intro x1 b3 x5 x6 ls hl hd
        have hd : B_Model_isBody_97 mo_topics mo_bodies mo_lengths res (T_Model_isBody mo_topics mo_bodies mo_lengths res n) x1 b3 x5 x6 := hd
        refine lv_iconst (v := 0) hx hb d_Model_isBody_97 (by decide) ?_
        refine lv_istore_n (lv' := [(2, .int 0), (0, .ref mo), (1, .int x1), (3, .int (bI b3)), (5, .int x5), (6, .int x6)]) hx hb d_Model_isBody_98 rfl hl (by decide) rfl (fun ls hl => ?_)
        exact ih.2.2.2.1 x1 false b3 x5 x6 _ (lv_sub hl [1, 2, 0, 3, 4, 5] rfl) hd
      · intro x1 b2 b3 x5 x6 ls hl hd
        have hd : B_Model_isBody_99 mo_topics mo_bodies mo_lengths res (T_Model_isBody mo_topics mo_bodies mo_lengths res n) x1 b2 b3 x5 x6 := hd
        refine lv_goto (tgt := 243) hx hb d_Model_isBody_99 (by decide) ?_
        exact ih.2.2.2.2.2.2.2.2.2.2.2 x1 b2 b3 x5 x6 _ (lv_sub hl [0, 1, 2, 3, 4, 5] rfl) hd
      · intro x1 b3 x5 x6 ls hl hd
        have hd : B_Model_isBody_135 mo_topics mo_bodies mo_lengths res (T_Model_isBody mo_topics mo_bodies mo_lengths res n) x1 b3 x5 x6 := hd
        refine lv_iconst (v := 0) hx hb d_Model_isBody_135 (by decide) ?_
        refine lv_istore_n (lv' := [(2, .int 0), (0, .ref mo), (1, .int x1), (3, .int (bI b3)), (5, .int x5), (6, .int x6)]) hx hb d_Model_isBody_136 rfl hl (by decide) rfl (fun ls hl => ?_)
        exact ih.2.2.2.2.2.1 x1 false b3 x5 x6 _ (lv_sub hl [1, 2, 0, 3, 4, 5] rfl) hd
      · intro x1 b2 b3 x5 x6 ls hl hd
        have hd : B_Model_isBody_137 mo_topics mo_bodies mo_lengths res (T_Model_isBody mo_topics mo_bodies mo_lengths res n) x1 b2 b3 x5 x6 := hd
        refine lv_goto (tgt := 243) hx hb d_Model_isBody_137 (by decide) ?_
        exact ih.2.2.2.2.2.2.2.2.2.2.2 x1 b2 b3 x5 x6 _ (lv_sub hl [0, 1, 2, 3, 4, 5] rfl) hd
      · intro x1 b3 x5 x6 ls hl hd
        have hd : B_Model_isBody_169 mo_topics mo_bodies mo_lengths res (T_Model_isBody mo_topics mo_bodies mo_lengths res n) x1 b3 x5 x6 := hd
        refine lv_iconst (v := 0) hx hb d_Model_isBody_169 (by decide) ?_
        refine lv_istore_n (lv' := [(2, .int 0), (0, .ref mo), (1, .int x1), (3, .int (bI b3)), (5, .int x5), (6, .int x6)]) hx hb d_Model_isBody_170 rfl hl (by decide) rfl (fun ls hl => ?_)
        exact ih.2.2.2.2.2.2.2.1 x1 false b3 x5 x6 _ (lv_sub hl [1, 2, 0, 3, 4, 5] rfl) hd
      · intro x1 b2 b3 x5 x6 ls hl hd
        have hd : B_Model_isBody_171 mo_topics mo_bodies mo_lengths res (T_Model_isBody mo_topics mo_bodies mo_lengths res n) x1 b2 b3 x5 x6 := hd
        refine lv_goto (tgt := 243) hx hb d_Model_isBody_171 (by decide) ?_
        exact ih.2.2.2.2.2.2.2.2.2.2.2 x1 b2 b3 x5 x6 _ (lv_sub hl [0, 1, 2, 3, 4, 5] rfl) hd
      · intro x1 b2 b3 x5 x6 ls hl hd
        have hd : B_Model_isBody_194 mo_topics mo_bodies mo_lengths res (T_Model_isBody mo_topics mo_bodies mo_lengths res n) x1 b2 b3 x5 x6 := hd
        refine lv_iload_n hx hb d_Model_isBody_194 rfl (lv_at hl 2 rfl) ?_
        refine lv_if_eq (tgt := 241) hx hb d_Model_isBody_195 (by decide) (fun h195 => ?_) (fun h195 => ?_)
        · have hd := hd.1 h195
          exact ih.2.2.2.2.2.2.2.2.2.2.1 x1 b3 x5 x6 _ (lv_sub hl [0, 1, 3, 4, 5] rfl) hd
        · have hd := hd.2 h195
          refine lv_iload hx hb d_Model_isBody_198 (lv_at hl 5 rfl) ?_
          refine lv_iconst (v := 1) hx hb d_Model_isBody_200 (by decide) ?_
          refine lv_icmp_eq (tgt := 237) hx hb d_Model_isBody_201 (by decide) (fun h201 => ?_) (fun h201 => ?_)
          · have hd := hd.1 h201
            exact ih.2.2.2.2.2.2.2.2.2.1 x1 b3 x5 x6 _ (lv_sub hl [0, 1, 3, 4, 5] rfl) hd
          · have hd := hd.2 h201
            refine lv_iload hx hb d_Model_isBody_204 (lv_at hl 5 rfl) ?_
            refine lv_bipush (v := 33) hx hb d_Model_isBody_206 (by decide) ?_
            refine lv_bipush (v := 126) hx hb d_Model_isBody_208 (by decide) ?_
            obtain ⟨r210, c210, hd⟩ := hd
            refine ct_SR (As := [.int x6, .int 33, .int 126]) (rest := []) ⟨hx, hb, hml, hown, hts⟩ fm_Model_in (c_Model_in l dC dI cI cL cZ x6 33 126 r210 c210) k480_methodLink k481_static ⟨Nat.le_of_ble_eq_true rfl, Nat.le_of_ble_eq_true rfl⟩ rfl rfl hK hN hP hD [] rfl rfl (by decide) rfl hl.1 rfl (Nat.le_of_ble_eq_true rfl) d_Model_isBody_210 ?_
            refine lv_if_eq (tgt := 241) hx hb d_Model_isBody_213 (by decide) (fun h213 => ?_) (fun h213 => ?_)
            · have hd := hd.1 h213
              exact ih.2.2.2.2.2.2.2.2.2.2.1 x1 b3 x5 x6 _ (lv_sub hl [0, 1, 3, 4, 5] rfl) hd
            · have hd := hd.2 h213
              refine lv_iload hx hb d_Model_isBody_216 (lv_at hl 5 rfl) ?_
              refine lv_bipush (v := 42) hx hb d_Model_isBody_218 (by decide) ?_
              refine lv_icmp_eq (tgt := 241) hx hb d_Model_isBody_220 (by decide) (fun h220 => ?_) (fun h220 => ?_)
              · have hd := hd.1 h220
                exact ih.2.2.2.2.2.2.2.2.2.2.1 x1 b3 x5 x6 _ (lv_sub hl [0, 1, 3, 4, 5] rfl) hd
              · have hd := hd.2 h220
                refine lv_iload hx hb d_Model_isBody_223 (lv_at hl 5 rfl) ?_
                refine lv_bipush (v := 91) hx hb d_Model_isBody_225 (by decide) ?_
                refine lv_icmp_eq (tgt := 241) hx hb d_Model_isBody_227 (by decide) (fun h227 => ?_) (fun h227 => ?_)
                · have hd := hd.1 h227
                  exact ih.2.2.2.2.2.2.2.2.2.2.1 x1 b3 x5 x6 _ (lv_sub hl [0, 1, 3, 4, 5] rfl) hd
                · have hd := hd.2 h227
                  refine lv_iload hx hb d_Model_isBody_230 (lv_at hl 5 rfl) ?_
                  refine lv_bipush (v := 93) hx hb d_Model_isBody_232 (by decide) ?_
                  refine lv_icmp_eq (tgt := 241) hx hb d_Model_isBody_234 (by decide) (fun h234 => ?_) (fun h234 => ?_)
                  · have hd := hd.1 h234
                    exact ih.2.2.2.2.2.2.2.2.2.2.1 x1 b3 x5 x6 _ (lv_sub hl [0, 1, 3, 4, 5] rfl) hd
                  · have hd := hd.2 h234
                    exact ih.2.2.2.2.2.2.2.2.2.1 x1 b3 x5 x6 _ (lv_sub hl [0, 1, 3, 4, 5] rfl) hd
      · intro x1 b3 x5 x6 ls hl hd
        have hd : B_Model_isBody_237 mo_topics mo_bodies mo_lengths res (T_Model_isBody mo_topics mo_bodies mo_lengths res n) x1 b3 x5 x6 := hd
        refine lv_iconst (v := 1) hx hb d_Model_isBody_237 (by decide) ?_
        refine lv_goto (tgt := 242) hx hb d_Model_isBody_238 (by decide) ?_
        refine lv_istore_n (lv' := [(2, .int 1), (0, .ref mo), (1, .int x1), (3, .int (bI b3)), (5, .int x5), (6, .int x6)]) hx hb d_Model_isBody_242 rfl hl (by decide) rfl (fun ls hl => ?_)
        exact ih.2.2.2.2.2.2.2.2.2.2.2 x1 true b3 x5 x6 _ (lv_sub hl [1, 2, 0, 3, 4, 5] rfl) hd
      · intro x1 b3 x5 x6 ls hl hd
        have hd : B_Model_isBody_241 mo_topics mo_bodies mo_lengths res (T_Model_isBody mo_topics mo_bodies mo_lengths res n) x1 b3 x5 x6 := hd
        refine lv_iconst (v := 0) hx hb d_Model_isBody_241 (by decide) ?_
        refine lv_istore_n (lv' := [(2, .int 0), (0, .ref mo), (1, .int x1), (3, .int (bI b3)), (5, .int x5), (6, .int x6)]) hx hb d_Model_isBody_242 rfl hl (by decide) rfl (fun ls hl => ?_)
        exact ih.2.2.2.2.2.2.2.2.2.2.2 x1 false b3 x5 x6 _ (lv_sub hl [1, 2, 0, 3, 4, 5] rfl) hd
      · intro x1 b2 b3 x5 x6 ls hl hd
        have hd : B_Model_isBody_243 mo_topics mo_bodies mo_lengths res (T_Model_isBody mo_topics mo_bodies mo_lengths res n) x1 b2 b3 x5 x6 := hd
        refine lv_iload hx hb d_Model_isBody_243 (lv_at hl 5 rfl) ?_
        refine lv_istore (lv' := [(4, .int x6), (0, .ref mo), (1, .int x1), (2, .int (bI b2)), (3, .int (bI b3)), (5, .int x5), (6, .int x6)]) hx hb d_Model_isBody_245 hl (by decide) rfl (fun ls hl => ?_)
        refine lv_iinc (k := 5) (v := x5 + 1) (lv' := [(5, .int (x5 + 1)), (4, .int x6), (0, .ref mo), (1, .int x1), (2, .int (bI b2)), (3, .int (bI b3)), (6, .int x6)]) hx hb d_Model_isBody_247 hl rfl (congrArg (fun z => x5 + z) (by decide)) (by decide) rfl (fun ls hl => ?_)
        refine lv_goto (tgt := 11) hx hb d_Model_isBody_250 (by decide) ?_
        exact ih.1 x1 b2 b3 x6 (x5 + 1) _ (lv_sub hl [2, 3, 4, 5, 1, 0] rfl) hd
  obtain ⟨n, hd⟩ := hd
  refine lv_iconst (v := 1) hx hb d_Model_isBody_0 (by decide) ?_
  refine lv_istore_n (lv' := [(2, .int 1), (0, .ref mo), (1, .int k0)]) hx hb d_Model_isBody_1 rfl hl (by decide) rfl (fun ls hl => ?_)
  refine lv_iconst (v := 0) hx hb d_Model_isBody_2 (by decide) ?_
  refine lv_istore_n (lv' := [(3, .int 0), (2, .int 1), (0, .ref mo), (1, .int k0)]) hx hb d_Model_isBody_3 rfl hl (by decide) rfl (fun ls hl => ?_)
  refine lv_bipush (v := 10) hx hb d_Model_isBody_4 (by decide) ?_
  refine lv_istore (lv' := [(4, .int 10), (3, .int 0), (2, .int 1), (0, .ref mo), (1, .int k0)]) hx hb d_Model_isBody_6 hl (by decide) rfl (fun ls hl => ?_)
  refine lv_iconst (v := 0) hx hb d_Model_isBody_8 (by decide) ?_
  refine lv_istore (lv' := [(5, .int 0), (4, .int 10), (3, .int 0), (2, .int 1), (0, .ref mo), (1, .int k0)]) hx hb d_Model_isBody_9 hl (by decide) rfl (fun ls hl => ?_)
  exact (key n).1 k0 true false 10 0 _ (lv_sub hl [4, 5, 3, 2, 1, 0] rfl) hd
