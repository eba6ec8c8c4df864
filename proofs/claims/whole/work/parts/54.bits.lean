/-! BITS of whole numbers -/
theorem zb_nat32 (x : Int) : (BitVec.ofInt 32 x).toNat = (x % 4294967296).toNat := by
  rw [BitVec.toNat_ofInt]; rfl
theorem zb_nat64 (x : Int) : (BitVec.ofInt 64 x).toNat = (x % 18446744073709551616).toNat := by
  rw [BitVec.toNat_ofInt]; rfl
theorem zb_pos32 (a : BitVec 32) (h : a.toNat < 2147483648) : a.toInt = a.toNat := BitVec.toInt_eq_toNat_of_lt (by omega)
theorem zb_pos64 (a : BitVec 64) (h : a.toNat < 9223372036854775808) : a.toInt = a.toNat := BitVec.toInt_eq_toNat_of_lt (by omega)
theorem zb_p2 {k n : Nat} (h : k ≤ n) : 2 ^ k ≤ 2 ^ n := Nat.pow_le_pow_right (by decide) h
theorem zb_iand_m {x m : Int} {k : Nat} (hk : k ≤ 31) (hm : m = ((2 ^ k - 1 : Nat) : Int)) : zb_iand x m = x % ((2 ^ k : Nat) : Int) := by
  have hp : 2 ^ k ≤ 2147483648 := zb_p2 hk
  have hp0 : 0 < 2 ^ k := Nat.pow_pos (by decide)
  have e1 : (BitVec.ofInt 32 m).toNat = 2 ^ k - 1 := by rw [zb_nat32]; omega
  have e0 := zb_nat32 x
  show (Int32.ofInt x &&& Int32.ofInt m).toBitVec.toInt = _
  rw [Int32.toBitVec_and, Int32.toBitVec_ofInt, Int32.toBitVec_ofInt]
  have e2 : (BitVec.ofInt 32 x &&& BitVec.ofInt 32 m).toNat = (x % 4294967296).toNat % 2 ^ k := by
    rw [BitVec.toNat_and, e1, e0, Nat.and_two_pow_sub_one_eq_mod]
  have e3 : (x % 4294967296).toNat % 2 ^ k < 2 ^ k := Nat.mod_lt _ hp0
  rw [zb_pos32 _ (by omega), e2, Int.natCast_emod, Int.toNat_of_nonneg (Int.emod_nonneg _ (by decide))]
  refine Int.emod_emod_of_dvd x ?_
  have : (4294967296 : Int) = ((2 ^ 32 : Nat) : Int) := rfl
  rw [this]
  exact Int.natCast_dvd_natCast.mpr (Nat.pow_dvd_pow 2 (by omega))
theorem zb_land_m {x m : Int} {k : Nat} (hk : k ≤ 63) (hm : m = ((2 ^ k - 1 : Nat) : Int)) : zb_land x m = x % ((2 ^ k : Nat) : Int) := by
  have hp : 2 ^ k ≤ 9223372036854775808 := zb_p2 hk
  have hp0 : 0 < 2 ^ k := Nat.pow_pos (by decide)
  have e1 : (BitVec.ofInt 64 m).toNat = 2 ^ k - 1 := by rw [zb_nat64]; omega
  have e0 := zb_nat64 x
  show (Int64.ofInt x &&& Int64.ofInt m).toBitVec.toInt = _
  rw [Int64.toBitVec_and, Int64.toBitVec_ofInt, Int64.toBitVec_ofInt]
  have e2 : (BitVec.ofInt 64 x &&& BitVec.ofInt 64 m).toNat = (x % 18446744073709551616).toNat % 2 ^ k := by
    rw [BitVec.toNat_and, e1, e0, Nat.and_two_pow_sub_one_eq_mod]
  have e3 : (x % 18446744073709551616).toNat % 2 ^ k < 2 ^ k := Nat.mod_lt _ hp0
  rw [zb_pos64 _ (by omega), e2, Int.natCast_emod, Int.toNat_of_nonneg (Int.emod_nonneg _ (by decide))]
  refine Int.emod_emod_of_dvd x ?_
  have : (18446744073709551616 : Int) = ((2 ^ 64 : Nat) : Int) := rfl
  rw [this]
  exact Int.natCast_dvd_natCast.mpr (Nat.pow_dvd_pow 2 (by omega))
theorem zb_255 (x : Int) : zb_iand x 255 = x % 256 := zb_iand_m (k := 8) (by decide) rfl
theorem zb_31 (x : Int) : zb_iand x 31 = x % 32 := zb_iand_m (k := 5) (by decide) rfl
theorem zb_1 (x : Int) : zb_iand x 1 = x % 2 := zb_iand_m (k := 1) (by decide) rfl
theorem zb_l31 (x : Int) : zb_land x 2147483647 = x % 2147483648 := zb_land_m (k := 31) (by decide) rfl
theorem zb_l8 (x : Int) : zb_land x 255 = x % 256 := zb_land_m (k := 8) (by decide) rfl
theorem zb_sa : (List.range 32).all (fun n => decide (((Int32.ofInt n &&& 31).toBitVec.smod 32).toNat = n ∧ (((Int32.ofInt n).toUInt32 &&& Int32.toUInt32 31).toBitVec % 32).toNat = n)) = true := by decide +kernel
theorem zb_sb : (List.range 64).all (fun n => decide ((((Int32.ofInt n).toInt64 &&& 63).toBitVec.smod 64).toNat = n)) = true := by decide +kernel
theorem zb_s1 {n : Nat} (h : n < 32) : ((Int32.ofInt n &&& 31).toBitVec.smod 32).toNat = n ∧ (((Int32.ofInt n).toUInt32 &&& Int32.toUInt32 31).toBitVec % 32).toNat = n := of_decide_eq_true (List.all_eq_true.mp zb_sa n (List.mem_range.mpr h))
theorem zb_s2 {n : Nat} (h : n < 64) : (((Int32.ofInt n).toInt64 &&& 63).toBitVec.smod 64).toNat = n := of_decide_eq_true (List.all_eq_true.mp zb_sb n (List.mem_range.mpr h))
theorem zb_ti {x : Int} (hx : zm_i32 x) : (Int32.ofInt x).toInt = x := Int32.toInt_ofInt_of_le (by omega) (by omega)
theorem zb_tl {x : Int} (hx : zm_i64 x) : (Int64.ofInt x).toInt = x := Int64.toInt_ofInt_of_le (by omega) (by omega)
theorem zb_shr {x : Int} {s : Nat} (hx : zm_i32 x) (hs : s < 32) : zb_ishr x s = x / ((2 ^ s : Nat) : Int) := by
  show (Int32.ofInt x >>> (Int32.ofInt s &&& 31)).toBitVec.toInt = _
  rw [Int32.toBitVec_shiftRight, BitVec.toInt_sshiftRight', (zb_s1 hs).1, Int.shiftRight_eq_div_pow]
  show (Int32.ofInt x).toInt / _ = _
  rw [zb_ti hx]
theorem zb_lsr {x : Int} {s : Nat} (hx : zm_i64 x) (hs : s < 64) : zb_lshr x s = x / ((2 ^ s : Nat) : Int) := by
  show (Int64.ofInt x >>> ((Int32.ofInt s).toInt64 &&& 63)).toBitVec.toInt = _
  rw [Int64.toBitVec_shiftRight, BitVec.toInt_sshiftRight', zb_s2 hs, Int.shiftRight_eq_div_pow]
  show (Int64.ofInt x).toInt / _ = _
  rw [zb_tl hx]
theorem zb_ushr (x : Int) {s : Nat} (hs : s < 32) : ∃ z : Int, zb_iushr x s = z ∧ (z = (x % 4294967296) / ((2 ^ s : Nat) : Int) ∨ z = (x % 4294967296) / ((2 ^ s : Nat) : Int) - 4294967296) := by
  refine ⟨_, rfl, ?_⟩
  have e : ((Int32.ofInt x).toUInt32 >>> ((Int32.ofInt s).toUInt32 &&& Int32.toUInt32 31)).toBitVec.toNat = (x % 4294967296).toNat / 2 ^ s := by
    rw [UInt32.toBitVec_shiftRight, BitVec.ushiftRight_eq', BitVec.toNat_ushiftRight, (zb_s1 hs).2, Nat.shiftRight_eq_div_pow]
    show (BitVec.ofInt 32 x).toNat / _ = _
    rw [zb_nat32]
  have e2 : zb_iushr x s = ((Int32.ofInt x).toUInt32 >>> ((Int32.ofInt s).toUInt32 &&& Int32.toUInt32 31)).toBitVec.toInt := rfl
  have e3 : (((x % 4294967296).toNat / 2 ^ s : Nat) : Int) = (x % 4294967296) / ((2 ^ s : Nat) : Int) := by
    rw [Int.natCast_ediv, Int.toNat_of_nonneg (Int.emod_nonneg _ (by decide))]
  rw [e2, BitVec.toInt_eq_toNat_cond, e]
  split
  · exact Or.inl e3
  · exact Or.inr (by rw [← e3]; rfl)
theorem zb_or {a b : Int} {i c : Nat} (ha : a = ((2 ^ i * c : Nat) : Int)) (hb : 0 ≤ b ∧ b < ((2 ^ i : Nat) : Int)) (hs : a + b < 2147483648) : zb_ior a b = a + b := by
  obtain ⟨n, rfl⟩ := Int.eq_ofNat_of_zero_le hb.1
  have hbn : n < 2 ^ i := by omega
  subst ha
  have hsum : 2 ^ i * c + n < 2147483648 := by omega
  have e := Nat.two_pow_add_eq_or_of_lt hbn c
  have ea : (BitVec.ofInt 32 ((2 ^ i * c : Nat) : Int)).toNat = 2 ^ i * c := by rw [zb_nat32]; omega
  have eb : (BitVec.ofInt 32 (n : Int)).toNat = n := by rw [zb_nat32]; omega
  show (Int32.ofInt _ ||| Int32.ofInt _).toBitVec.toInt = _
  rw [Int32.toBitVec_or, Int32.toBitVec_ofInt, Int32.toBitVec_ofInt]
  have e2 : (BitVec.ofInt 32 ((2 ^ i * c : Nat) : Int) ||| BitVec.ofInt 32 (n : Int)).toNat = 2 ^ i * c + n := by rw [BitVec.toNat_or, ea, eb, ← e]
  rw [zb_pos32 _ (by omega), e2]; omega
theorem zb_lor_a {a b : Int} {i c : Nat} (ha : a = ((2 ^ i * c : Nat) : Int)) (hb : 0 ≤ b ∧ b < ((2 ^ i : Nat) : Int)) (hs : a + b < 9223372036854775808) : zb_lor a b = a + b := by
  obtain ⟨n, rfl⟩ := Int.eq_ofNat_of_zero_le hb.1
  have hbn : n < 2 ^ i := by omega
  subst ha
  have hsum : 2 ^ i * c + n < 9223372036854775808 := by omega
  have e := Nat.two_pow_add_eq_or_of_lt hbn c
  have ea : (BitVec.ofInt 64 ((2 ^ i * c : Nat) : Int)).toNat = 2 ^ i * c := by rw [zb_nat64]; omega
  have eb : (BitVec.ofInt 64 (n : Int)).toNat = n := by rw [zb_nat64]; omega
  show (Int64.ofInt _ ||| Int64.ofInt _).toBitVec.toInt = _
  rw [Int64.toBitVec_or, Int64.toBitVec_ofInt, Int64.toBitVec_ofInt]
  have e2 : (BitVec.ofInt 64 ((2 ^ i * c : Nat) : Int) ||| BitVec.ofInt 64 (n : Int)).toNat = 2 ^ i * c + n := by rw [BitVec.toNat_or, ea, eb, ← e]
  rw [zb_pos64 _ (by omega), e2]; omega
theorem zb_shl {x : Int} {s : Nat} (hx : 0 ≤ x) (hs : s < 32) (hb : x * ((2 ^ s : Nat) : Int) < 2147483648) : zb_ishl x s = x * ((2 ^ s : Nat) : Int) := by
  obtain ⟨n, rfl⟩ := Int.eq_ofNat_of_zero_le hx
  have hp0 : 0 < 2 ^ s := Nat.pow_pos (by decide)
  have hb2 : n * 2 ^ s < 2147483648 := by
    have : ((n * 2 ^ s : Nat) : Int) < 2147483648 := by rw [Int.natCast_mul]; exact hb
    omega
  have hn : n ≤ n * 2 ^ s := Nat.le_mul_of_pos_right n hp0
  show (Int32.ofInt n <<< (Int32.ofInt s &&& 31)).toBitVec.toInt = _
  rw [Int32.toBitVec_shiftLeft, BitVec.shiftLeft_eq', (zb_s1 hs).1]
  have en : (Int32.ofInt (n : Int)).toBitVec.toNat = n := by
    show (BitVec.ofInt 32 (n : Int)).toNat = n
    rw [zb_nat32]; omega
  have e2 : ((Int32.ofInt (n : Int)).toBitVec <<< s).toNat = n * 2 ^ s := by
    rw [BitVec.toNat_shiftLeft, en, Nat.shiftLeft_eq, Nat.mod_eq_of_lt (by omega)]
  rw [zb_pos32 _ (by omega), e2, Int.natCast_mul]
theorem zb_lsl {x : Int} {s : Nat} (hx : 0 ≤ x) (hs : s < 64) (hb : x * ((2 ^ s : Nat) : Int) < 9223372036854775808) : zb_lshl x s = x * ((2 ^ s : Nat) : Int) := by
  obtain ⟨n, rfl⟩ := Int.eq_ofNat_of_zero_le hx
  have hp0 : 0 < 2 ^ s := Nat.pow_pos (by decide)
  have hb2 : n * 2 ^ s < 9223372036854775808 := by
    have : ((n * 2 ^ s : Nat) : Int) < 9223372036854775808 := by rw [Int.natCast_mul]; exact hb
    omega
  have hn : n ≤ n * 2 ^ s := Nat.le_mul_of_pos_right n hp0
  show (Int64.ofInt n <<< ((Int32.ofInt s).toInt64 &&& 63)).toBitVec.toInt = _
  rw [Int64.toBitVec_shiftLeft, BitVec.shiftLeft_eq', zb_s2 hs]
  have en : (Int64.ofInt (n : Int)).toBitVec.toNat = n := by
    show (BitVec.ofInt 64 (n : Int)).toNat = n
    rw [zb_nat64]; omega
  have e2 : ((Int64.ofInt (n : Int)).toBitVec <<< s).toNat = n * 2 ^ s := by
    rw [BitVec.toNat_shiftLeft, en, Nat.shiftLeft_eq, Nat.mod_eq_of_lt (by omega)]
  rw [zb_pos64 _ (by omega), e2, Int.natCast_mul]
