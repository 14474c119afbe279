/-! Pure: numbers of the machine as natural numbers. -/
theorem le_T {a b : Nat} (h : a ≤ b) (hb : b < 2147483648) : (nI a ≤ nI b) = True := eq_true (nI_le h hb)
theorem le_F {a b : Nat} (h : b < a) (ha : a < 2147483648) : (nI a ≤ nI b) = False := eq_false (nI_ge h ha)
theorem lt_T {a b : Nat} (h : a < b) (hb : b < 2147483648) : (nI a < nI b) = True := eq_true (nI_lt h hb)
theorem lt_F {a b : Nat} (h : b ≤ a) (ha : a < 2147483648) : (nI a < nI b) = False := eq_false (nI_nlt h ha)
theorem eq_T {a b : Nat} (h : a = b) : (nI a = nI b) = True := eq_true (by rw [h])
theorem eq_F {a b : Nat} (h : ¬ a = b) (ha : a < 2147483648) (hb : b < 2147483648) : (nI a = nI b) = False := eq_false (fun e => h ((nI_eq ha hb).mp e))
theorem m1_toInt : (-nI 1).toInt = -1 := by decide +kernel
theorem m1_lt {a : Nat} (ha : a < 2147483648) : (-nI 1 < nI a) = True := eq_true (Int32.lt_iff_toInt_lt.mpr (by rw [m1_toInt, nI_toInt ha]; omega))
theorem m1_le {a : Nat} (ha : a < 2147483648) : (-nI 1 ≤ nI a) = True := eq_true (Int32.le_iff_toInt_le.mpr (by rw [m1_toInt, nI_toInt ha]; omega))
theorem lt_m1 {a : Nat} (ha : a < 2147483648) : (nI a < -nI 1) = False := eq_false (fun h => by have := Int32.lt_iff_toInt_lt.mp h; rw [m1_toInt, nI_toInt ha] at this; omega)
theorem le_m1 {a : Nat} (ha : a < 2147483648) : (nI a ≤ -nI 1) = False := eq_false (fun h => by have := Int32.le_iff_toInt_le.mp h; rw [m1_toInt, nI_toInt ha] at this; omega)
theorem eq_m1 {a : Nat} (ha : a < 2147483648) : (nI a = -nI 1) = False := eq_false (fun h => by have := congrArg Int32.toInt h; rw [m1_toInt, nI_toInt ha] at this; omega)
theorem m1_eq {a : Nat} (ha : a < 2147483648) : (-nI 1 = nI a) = False := eq_false (fun h => by have := congrArg Int32.toInt h; rw [m1_toInt, nI_toInt ha] at this; omega)
theorem nI_sub {a b : Nat} (h : b ≤ a) : nI a - nI b = nI (a - b) := by
  have e : nI (a - b) + nI b = nI a := by rw [nI_add, Nat.sub_add_cancel h]
  rw [← e, Int32.add_sub_cancel]
theorem nI_dec {a : Nat} (h : 0 < a) : nI a + -nI 1 = nI (a - 1) := by
  rw [← nI_sub (show 1 ≤ a from h), Int32.sub_eq_add_neg]
theorem nI_mul (a b : Nat) : nI a * nI b = nI (a * b) := (Int32.ofNat_mul a b).symm
theorem nI_bv (a : Nat) : (nI a).toBitVec = BitVec.ofNat 32 a := rfl
theorem nI_or (a b : Nat) : nI a ||| nI b = nI (a ||| b) := by
  apply Int32.toBitVec_inj.mp
  rw [Int32.toBitVec_or, nI_bv, nI_bv, nI_bv, BitVec.ofNat_or]
theorem nI_and (a b : Nat) : nI a &&& nI b = nI (a &&& b) := by
  apply Int32.toBitVec_inj.mp
  rw [Int32.toBitVec_and, nI_bv, nI_bv, nI_bv, BitVec.ofNat_and]
theorem nI_div {a b : Nat} (ha : a < 2147483648) (hb : b < 2147483648) : nI a / nI b = nI (a / b) := by
  apply Int32.toInt_inj.mp
  have h1 : a / b < 2147483648 := Nat.lt_of_le_of_lt (Nat.div_le_self a b) ha
  rw [Int32.toInt_div, nI_toInt ha, nI_toInt hb, nI_toInt h1]
  rw [show ((a : Int).tdiv (b : Int)) = ((a / b : Nat) : Int) from (Int.ofNat_tdiv a b).symm]
  generalize a / b = q at *
  apply Int.bmod_eq_of_le <;> omega
theorem nI_mod {a b : Nat} (ha : a < 2147483648) (hb : b < 2147483648) : nI a % nI b = nI (a % b) := by
  apply Int32.toInt_inj.mp
  have h1 : a % b < 2147483648 := Nat.lt_of_le_of_lt (Nat.mod_le a b) ha
  rw [Int32.toInt_mod, nI_toInt ha, nI_toInt hb, nI_toInt h1]
  exact (Int.ofNat_tmod a b).symm
theorem and_255 (a : Nat) : a &&& 255 = a % 256 := Nat.and_two_pow_sub_one_eq_mod a 8
theorem and_31 (a : Nat) : a &&& 31 = a % 32 := Nat.and_two_pow_sub_one_eq_mod a 5
theorem and_1 (a : Nat) : a &&& 1 = a % 2 := Nat.and_two_pow_sub_one_eq_mod a 1
theorem and_63 (a : Nat) : a &&& 63 = a % 64 := Nat.and_two_pow_sub_one_eq_mod a 6
theorem nI_shl {a s : Nat} (hs : s < 32) : nI a <<< nI s = nI (a <<< s) := by
  apply Int32.toBitVec_inj.mp
  rw [Int32.toBitVec_shiftLeft, nI_bv, nI_bv, nI_bv]
  have e : (BitVec.ofNat 32 s).smod 32 = BitVec.ofNat 32 s := by
    have : ∀ s : Fin 32, (BitVec.ofNat 32 s.val).smod 32 = BitVec.ofNat 32 s.val := by decide +kernel
    exact this ⟨s, hs⟩
  rw [e, BitVec.shiftLeft_eq', BitVec.toNat_ofNat, Nat.mod_eq_of_lt (by omega)]
  apply BitVec.eq_of_toNat_eq
  rw [BitVec.toNat_shiftLeft, BitVec.toNat_ofNat, BitVec.toNat_ofNat, Nat.shiftLeft_eq, Nat.shiftLeft_eq, Nat.mod_mul_mod]
theorem nI_shr {a s : Nat} (ha : a < 2147483648) (hs : s < 32) : nI a >>> nI s = nI (a >>> s) := by
  apply Int32.toBitVec_inj.mp
  rw [Int32.toBitVec_shiftRight, nI_bv, nI_bv, nI_bv]
  have e : (BitVec.ofNat 32 s).smod 32 = BitVec.ofNat 32 s := by
    have : ∀ s : Fin 32, (BitVec.ofNat 32 s.val).smod 32 = BitVec.ofNat 32 s.val := by decide +kernel
    exact this ⟨s, hs⟩
  rw [e, BitVec.sshiftRight_eq', BitVec.toNat_ofNat, Nat.mod_eq_of_lt (by omega)]
  have hm : (BitVec.ofNat 32 a).msb = false := by
    rw [BitVec.msb_eq_decide, BitVec.toNat_ofNat]; simp; omega
  rw [BitVec.sshiftRight_eq_of_msb_false hm]
  apply BitVec.eq_of_toNat_eq
  have h2 : a >>> s ≤ a := by rw [Nat.shiftRight_eq_div_pow]; exact Nat.div_le_self _ _
  rw [BitVec.toNat_ushiftRight, BitVec.toNat_ofNat, BitVec.toNat_ofNat, Nat.mod_eq_of_lt (by omega), Nat.mod_eq_of_lt (by omega)]
theorem bI_F (b : Bool) : (bI b = nI 0) = (b = false) := by cases b <;> simp [bI] <;> decide +kernel
theorem bI_1 (b : Bool) : (bI b = nI 1) = (b = true) := by cases b <;> simp [bI] <;> decide +kernel
theorem vp_T {a n : Nat} (h : a < n) (hn : n < 2147483648) : vp_in (nI a) n = True := eq_true (vp_in_nI h hn)
theorem cl_T {a : Nat} (h : a < 2147483648) : Int32.toNatClampNeg (nI a) = a := nI_clamp h
theorem lN_int {n : Nat} (h : n < 9223372036854775808) : (lN n).toInt = (n : Int) := lg_ofNat_toInt h
theorem q_lc_eq {a b : Nat} (ha : a < 9223372036854775808) (hb : b < 9223372036854775808) : (lg_cmp (lN a) (lN b) = nI 0) = (a = b) := by
  apply propext
  show lg_cmp (lN a) (lN b) = 0 ↔ _
  rw [lg_cmp_eq, ← Int64.toInt_inj, lN_int ha, lN_int hb]; omega
theorem q_lc_ge {a b : Nat} (ha : a < 9223372036854775808) (hb : b < 9223372036854775808) : (nI 0 ≤ lg_cmp (lN a) (lN b)) = (b ≤ a) := by
  apply propext
  show 0 ≤ lg_cmp (lN a) (lN b) ↔ _
  rw [lg_cmp_ge, Int64.le_iff_toInt_le, lN_int ha, lN_int hb]; omega
theorem q_lc_gt {a b : Nat} (ha : a < 9223372036854775808) (hb : b < 9223372036854775808) : (nI 0 < lg_cmp (lN a) (lN b)) = (b < a) := by
  apply propext
  show 0 < lg_cmp (lN a) (lN b) ↔ _
  rw [lg_cmp_gt, Int64.lt_iff_toInt_lt, lN_int ha, lN_int hb]; omega
theorem q_lc_le {a b : Nat} (ha : a < 9223372036854775808) (hb : b < 9223372036854775808) : (lg_cmp (lN a) (lN b) ≤ nI 0) = (a ≤ b) := by
  apply propext
  show lg_cmp (lN a) (lN b) ≤ 0 ↔ _
  rw [lg_cmp_le, Int64.le_iff_toInt_le, lN_int ha, lN_int hb]; omega
theorem lN_bv (a : Nat) : (lN a).toBitVec = BitVec.ofNat 64 a := rfl
theorem lN_or (a b : Nat) : lN a ||| lN b = lN (a ||| b) := by
  apply Int64.toBitVec_inj.mp
  rw [Int64.toBitVec_or, lN_bv, lN_bv, lN_bv, BitVec.ofNat_or]
theorem lN_and (a b : Nat) : lN a &&& lN b = lN (a &&& b) := by
  apply Int64.toBitVec_inj.mp
  rw [Int64.toBitVec_and, lN_bv, lN_bv, lN_bv, BitVec.ofNat_and]
theorem sh64 {s : Nat} (hs : s < 64) : (BitVec.ofNat 64 s &&& 63#64).smod 64 = BitVec.ofNat 64 s := by
  have : ∀ s : Fin 64, (BitVec.ofNat 64 s.val &&& 63#64).smod 64 = BitVec.ofNat 64 s.val := by decide +kernel
  exact this ⟨s, hs⟩
theorem lN_shl {a s : Nat} (hs : s < 64) : lN a <<< (lN s &&& 63) = lN (a <<< s) := by
  apply Int64.toBitVec_inj.mp
  rw [Int64.toBitVec_shiftLeft, Int64.toBitVec_and, lN_bv, lN_bv, lN_bv]
  rw [show (63 : Int64).toBitVec = 63#64 from rfl, sh64 hs, BitVec.shiftLeft_eq', BitVec.toNat_ofNat, Nat.mod_eq_of_lt (by omega)]
  apply BitVec.eq_of_toNat_eq
  rw [BitVec.toNat_shiftLeft, BitVec.toNat_ofNat, BitVec.toNat_ofNat, Nat.shiftLeft_eq, Nat.shiftLeft_eq, Nat.mod_mul_mod]
theorem lN_shr {a s : Nat} (ha : a < 9223372036854775808) (hs : s < 64) : lN a >>> (lN s &&& 63) = lN (a >>> s) := by
  apply Int64.toBitVec_inj.mp
  rw [Int64.toBitVec_shiftRight, Int64.toBitVec_and, lN_bv, lN_bv, lN_bv]
  rw [show (63 : Int64).toBitVec = 63#64 from rfl, sh64 hs, BitVec.sshiftRight_eq', BitVec.toNat_ofNat, Nat.mod_eq_of_lt (by omega)]
  have hm : (BitVec.ofNat 64 a).msb = false := by
    rw [BitVec.msb_eq_decide, BitVec.toNat_ofNat]; simp; omega
  rw [BitVec.sshiftRight_eq_of_msb_false hm]
  apply BitVec.eq_of_toNat_eq
  have h2 : a >>> s ≤ a := by rw [Nat.shiftRight_eq_div_pow]; exact Nat.div_le_self _ _
  rw [BitVec.toNat_ushiftRight, BitVec.toNat_ofNat, BitVec.toNat_ofNat, Nat.mod_eq_of_lt (by omega), Nat.mod_eq_of_lt (by omega)]
theorem nI_L {n : Nat} (h : n < 2147483648) : Int32.toInt64 (nI n) = lN n := nI_l h
theorem lN_I (n : Nat) : Int64.toInt32 (lN n) = nI n := lN_i n
theorem l_0 : (0 : Int64) = lN 0 := rfl
theorem q_lit : (0 : Int32) = nI 0 ∧ (1 : Int32) = nI 1 ∧ (2 : Int32) = nI 2 ∧ (3 : Int32) = nI 3 ∧ (4 : Int32) = nI 4 ∧ (5 : Int32) = nI 5 ∧ (6 : Int32) = nI 6 ∧ (7 : Int32) = nI 7 ∧ (8 : Int32) = nI 8 ∧ (9 : Int32) = nI 9 ∧ (10 : Int32) = nI 10 ∧ (11 : Int32) = nI 11 ∧ (12 : Int32) = nI 12 ∧ (16 : Int32) = nI 16 ∧ (31 : Int32) = nI 31 ∧ (32 : Int32) = nI 32 ∧ (33 : Int32) = nI 33 ∧ (35 : Int32) = nI 35 ∧ (38 : Int32) = nI 38 ∧ (40 : Int32) = nI 40 ∧ (41 : Int32) = nI 41 ∧ (42 : Int32) = nI 42 ∧ (60 : Int32) = nI 60 ∧ (63 : Int32) = nI 63 ∧ (64 : Int32) = nI 64 ∧ (65 : Int32) = nI 65 ∧ (72 : Int32) = nI 72 ∧ (90 : Int32) = nI 90 ∧ (91 : Int32) = nI 91 ∧ (93 : Int32) = nI 93 ∧ (96 : Int32) = nI 96 ∧ (97 : Int32) = nI 97 ∧ (122 : Int32) = nI 122 ∧ (124 : Int32) = nI 124 ∧ (125 : Int32) = nI 125 ∧ (126 : Int32) = nI 126 ∧ (127 : Int32) = nI 127 ∧ (128 : Int32) = nI 128 ∧ (188 : Int32) = nI 188 ∧ (234 : Int32) = nI 234 ∧ (250 : Int32) = nI 250 ∧ (255 : Int32) = nI 255 ∧ (256 : Int32) = nI 256 ∧ (700 : Int32) = nI 700 := by decide +kernel
