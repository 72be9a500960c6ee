/-! Numbers of the small machine, numbers of the real one -/
theorem zi32 {x : Int} (h : -2147483648 ≤ x ∧ x ≤ 2147483647) : (Int32.ofInt x).toInt = x := by
  rw [Int32.toInt_ofInt]
  show x.bmod 4294967296 = x
  rw [Int.bmod_eq_of_le] <;> omega
theorem zi64 {x : Int} (h : -2147483648 ≤ x ∧ x ≤ 2147483647) : (Int64.ofInt x).toInt = x := by
  rw [Int64.toInt_ofInt]
  show x.bmod 18446744073709551616 = x
  rw [Int.bmod_eq_of_le] <;> omega
theorem zi_add (x y : Int) : Int32.ofInt x + Int32.ofInt y = Int32.ofInt (x + y) := (Int32.ofInt_add x y).symm
theorem zi_sub (x y : Int) : Int32.ofInt x - Int32.ofInt y = Int32.ofInt (x - y) := (Int32.ofInt_sub x y).symm
theorem zi_mul (x y : Int) : Int32.ofInt x * Int32.ofInt y = Int32.ofInt (x * y) := (Int32.ofInt_mul x y).symm
theorem zi_lt {x y : Int} (hx : -2147483648 ≤ x ∧ x ≤ 2147483647) (hy : -2147483648 ≤ y ∧ y ≤ 2147483647) : (Int32.ofInt x < Int32.ofInt y) ↔ x < y := by
  rw [Int32.lt_iff_toInt_lt, zi32 hx, zi32 hy]
theorem zi_le {x y : Int} (hx : -2147483648 ≤ x ∧ x ≤ 2147483647) (hy : -2147483648 ≤ y ∧ y ≤ 2147483647) : (Int32.ofInt x ≤ Int32.ofInt y) ↔ x ≤ y := by
  rw [Int32.le_iff_toInt_le, zi32 hx, zi32 hy]
theorem zi_eq {x y : Int} (hx : -2147483648 ≤ x ∧ x ≤ 2147483647) (hy : -2147483648 ≤ y ∧ y ≤ 2147483647) : (Int32.ofInt x = Int32.ofInt y) ↔ x = y := by
  constructor
  · intro h
    have := congrArg Int32.toInt h
    rwa [zi32 hx, zi32 hy] at this
  · rintro rfl; rfl
theorem zi_0 : (0 : Int32) = Int32.ofInt 0 := rfl
theorem zi_nat {x : Int} (h : 0 ≤ x ∧ x ≤ 2147483647) : (Int32.ofInt x).toNatClampNeg = x.toNat := by
  unfold Int32.toNatClampNeg
  rw [zi32 ⟨by omega, h.2⟩]
theorem zi_in {x : Int} {n : Nat} (h : 0 ≤ x ∧ x < n) (hx : x ≤ 2147483647) : vp_in (Int32.ofInt x) n := by
  unfold vp_in
  rw [zi_nat ⟨h.1, hx⟩]
  intro q
  rcases q with q | q
  · rw [zi_0, zi_lt ⟨by omega, hx⟩ ⟨by omega, by omega⟩] at q
    omega
  · omega
theorem zi_inj {a b : Int32} (h : a.toBitVec.toNat = b.toBitVec.toNat) : a = b := Int32.toBitVec_inj.mp (BitVec.eq_of_toNat_eq h)
theorem zi_tn (x : Int) : (Int32.ofInt x).toBitVec.toNat = (x % 4294967296).toNat := by
  rw [Int32.toBitVec_ofInt, BitVec.toNat_ofInt]
  rfl
theorem zi_and {x y : Int} (h : (y = 1 ∨ y = 63 ∨ y = 255) ∨ 0 ≤ x ∧ 0 ≤ y) (hx : -2147483648 ≤ x ∧ x ≤ 2147483647) (hy : -2147483648 ≤ y ∧ y ≤ 2147483647) : Int32.ofInt x &&& Int32.ofInt y = Int32.ofInt (zand x y) := by
  apply zi_inj
  rw [Int32.toBitVec_and, BitVec.toNat_and, zi_tn, zi_tn, zi_tn]
  unfold zand
  by_cases h1 : y = 1 ∨ y = 63 ∨ y = 255
  · rw [if_pos h1]
    rcases h1 with rfl | rfl | rfl
    · show _ &&& (2 ^ 1 - 1) = _
      rw [Nat.and_two_pow_sub_one_eq_mod]; omega
    · show _ &&& (2 ^ 6 - 1) = _
      rw [Nat.and_two_pow_sub_one_eq_mod]; omega
    · show _ &&& (2 ^ 8 - 1) = _
      rw [Nat.and_two_pow_sub_one_eq_mod]; omega
  · rw [if_neg h1]
    obtain ⟨h2, h3⟩ := h.resolve_left h1
    have hle : x.toNat &&& y.toNat ≤ x.toNat := Nat.and_le_left
    have e1 : (x % 4294967296).toNat = x.toNat := by omega
    have e2 : (y % 4294967296).toNat = y.toNat := by omega
    rw [e1, e2]
    omega
theorem zi_or {x y : Int} (h : 0 ≤ x ∧ 0 ≤ y) (hx : -2147483648 ≤ x ∧ x ≤ 2147483647) (hy : -2147483648 ≤ y ∧ y ≤ 2147483647) : Int32.ofInt x ||| Int32.ofInt y = Int32.ofInt (zor x y) ∧ zor x y ≤ 2147483647 := by
  have hlt : x.toNat ||| y.toNat < 2 ^ 31 := Nat.or_lt_two_pow (by omega) (by omega)
  refine ⟨?_, by unfold zor; omega⟩
  apply zi_inj
  rw [Int32.toBitVec_or, BitVec.toNat_or, zi_tn, zi_tn, zi_tn]
  unfold zor
  have e1 : (x % 4294967296).toNat = x.toNat := by omega
  have e2 : (y % 4294967296).toNat = y.toNat := by omega
  rw [e1, e2]
  omega
theorem zi_31 {y : Int} (h : 0 ≤ y ∧ y < 32) : Int32.ofInt y &&& 31 = Int32.ofInt y := by
  apply zi_inj
  rw [Int32.toBitVec_and, BitVec.toNat_and, zi_tn]
  show (y % 4294967296).toNat &&& (2 ^ 5 - 1) = _
  rw [Nat.and_two_pow_sub_one_eq_mod]; omega
theorem zi_sm : ∀ k : Fin 32, (BitVec.ofNat 32 k).smod 32 = BitVec.ofNat 32 k := by decide +kernel
theorem zi_sn {y : Int} (h : 0 ≤ y ∧ y < 32) : ((Int32.ofInt y).toBitVec.smod 32).toNat = y.toNat := by
  have e : (Int32.ofInt y).toBitVec = BitVec.ofNat 32 y.toNat := by
    apply BitVec.eq_of_toNat_eq
    rw [zi_tn, BitVec.toNat_ofNat]
    omega
  rw [e]
  have := zi_sm ⟨y.toNat, by omega⟩
  dsimp only at this
  rw [this, BitVec.toNat_ofNat]
  omega
theorem zi_sh {x y : Int} (h : 0 ≤ y ∧ y < 32) : Int32.ofInt x <<< (Int32.ofInt y &&& 31) = Int32.ofInt (x * 2 ^ y.toNat) := by
  rw [zi_31 h]
  apply zi_inj
  show ((Int32.ofInt x).toBitVec <<< ((Int32.ofInt y).toBitVec.smod 32)).toNat = _
  rw [BitVec.shiftLeft_eq', BitVec.toNat_shiftLeft, zi_sn h, zi_tn, zi_tn, Nat.shiftLeft_eq]
  have e : ((x % 4294967296).toNat : Int) = x % 4294967296 := Int.toNat_of_nonneg (Int.emod_nonneg _ (by decide))
  apply Int.ofNat.inj
  show (((x % 4294967296).toNat * 2 ^ y.toNat % 2 ^ 32 : Nat) : Int) = ((x * 2 ^ y.toNat % 4294967296).toNat : Int)
  rw [Int.toNat_of_nonneg (Int.emod_nonneg _ (by decide)), Int.natCast_emod, Int.natCast_mul, e]
  show (x % 4294967296 * ((2 ^ y.toNat : Nat) : Int)) % 4294967296 = _
  rw [Int.natCast_pow, Int.mul_emod, Int.emod_emod, ← Int.mul_emod]
  rfl
theorem zi_ir {x y : Int} (h : 0 ≤ x ∧ 0 < y) (hx : -2147483648 ≤ x ∧ x ≤ 2147483647) (hy : -2147483648 ≤ y ∧ y ≤ 2147483647) : Int32.ofInt x - Int32.ofInt x / Int32.ofInt y * Int32.ofInt y = Int32.ofInt (x % y) := by
  have hd : 0 ≤ x / y ∧ x / y ≤ x := ⟨Int.ediv_nonneg h.1 (by omega), Int.ediv_le_self y h.1⟩
  have e : Int32.ofInt x / Int32.ofInt y = Int32.ofInt (x / y) := by
    apply Int32.toInt_inj.mp
    rw [Int32.toInt_div, zi32 hx, zi32 hy, zi32 (by omega), Int.tdiv_eq_ediv_of_nonneg h.1]
    show (x / y).bmod 4294967296 = x / y
    rw [Int.bmod_eq_of_le] <;> omega
  rw [e, zi_mul, zi_sub]
  congr 1
  have := Int.emod_add_mul_ediv x y
  rw [Int.mul_comm]
  omega
theorem zi_sr {x y : Int} (h : 0 ≤ y ∧ y < 32) (hx : -2147483648 ≤ x ∧ x ≤ 2147483647) : Int32.ofInt x >>> (Int32.ofInt y &&& 31) = Int32.ofInt (x / 2 ^ y.toNat) ∧ -2147483648 ≤ x / 2 ^ y.toNat ∧ x / 2 ^ y.toNat ≤ 2147483647 := by
  have hp : (1 : Int) ≤ 2 ^ y.toNat := by
    have : 1 ≤ 2 ^ y.toNat := Nat.one_le_two_pow
    exact_mod_cast this
  have hr : -2147483648 ≤ x / 2 ^ y.toNat ∧ x / 2 ^ y.toNat ≤ 2147483647 := by
    constructor
    · apply Int.le_ediv_of_mul_le (by omega)
      have : (2147483648 : Int) * 1 ≤ 2147483648 * 2 ^ y.toNat := Int.mul_le_mul_of_nonneg_left hp (by decide)
      omega
    · apply Int.le_of_lt_add_one
      apply Int.ediv_lt_of_lt_mul (by omega)
      have : (2147483648 : Int) * 1 ≤ 2147483648 * 2 ^ y.toNat := Int.mul_le_mul_of_nonneg_left hp (by decide)
      omega
  refine ⟨?_, hr⟩
  rw [zi_31 h]
  apply Int32.toInt_inj.mp
  rw [zi32 hr]
  show ((Int32.ofInt x).toBitVec.sshiftRight' ((Int32.ofInt y).toBitVec.smod 32)).toInt = _
  rw [BitVec.toInt_sshiftRight', zi_sn h, Int.shiftRight_eq_div_pow]
  show (Int32.ofInt x).toInt / _ = _
  rw [zi32 hx]
  rfl
theorem zi_us {x y : Int} (h : 0 ≤ y ∧ y < 32) (hx : -2147483648 ≤ x ∧ x ≤ 2147483647) : ((Int32.ofInt x).toUInt32 >>> ((Int32.ofInt y).toUInt32 &&& Int32.toUInt32 31)).toInt32 = Int32.ofInt (zushr x y) ∧ -2147483648 ≤ zushr x y ∧ zushr x y ≤ 2147483647 := by
  have hx0 : 0 ≤ x % 4294967296 ∧ x % 4294967296 < 4294967296 := ⟨Int.emod_nonneg _ (by decide), Int.emod_lt_of_pos _ (by decide)⟩
  have e1 : ((Int32.ofInt x).toUInt32 >>> ((Int32.ofInt y).toUInt32 &&& Int32.toUInt32 31)).toInt32.toBitVec.toNat = (x % 4294967296).toNat / 2 ^ y.toNat := by
    show ((Int32.ofInt x).toUInt32 >>> ((Int32.ofInt y).toUInt32 &&& Int32.toUInt32 31)).toNat = _
    rw [UInt32.toNat_shiftRight, UInt32.toNat_and]
    show (Int32.ofInt x).toBitVec.toNat >>> (((Int32.ofInt y).toBitVec.toNat &&& (2 ^ 5 - 1)) % 32) = _
    rw [Nat.and_two_pow_sub_one_eq_mod, zi_tn, zi_tn, Nat.shiftRight_eq_div_pow]
    congr 2
    omega
  unfold zushr
  by_cases hy : y = 0
  · subst hy
    rw [if_pos rfl]
    refine ⟨zi_inj ?_, hx⟩
    rw [e1, zi_tn]
    simp
  · rw [if_neg hy]
    have hp : (2 : Int) ≤ 2 ^ y.toNat := by
      have : 2 ^ 1 ≤ 2 ^ y.toNat := Nat.pow_le_pow_right (by decide) (by omega)
      exact_mod_cast this
    have hr : 0 ≤ x % 4294967296 / 2 ^ y.toNat ∧ x % 4294967296 / 2 ^ y.toNat < 2147483648 := by
      refine ⟨Int.ediv_nonneg hx0.1 (by omega), Int.ediv_lt_of_lt_mul (by omega) ?_⟩
      have : (2147483648 : Int) * 2 ≤ 2147483648 * 2 ^ y.toNat := Int.mul_le_mul_of_nonneg_left hp (by decide)
      omega
    refine ⟨zi_inj ?_, by omega⟩
    rw [e1, zi_tn]
    apply Int.ofNat.inj
    show (((x % 4294967296).toNat / 2 ^ y.toNat : Nat) : Int) = ((x % 4294967296 / 2 ^ y.toNat % 4294967296).toNat : Int)
    rw [Int.toNat_of_nonneg (Int.emod_nonneg _ (by decide)), Int.emod_eq_of_lt hr.1 (by omega), Int.natCast_ediv, Int.toNat_of_nonneg hx0.1, Int.natCast_pow]
    rfl
theorem zi_by (x : Int) : (Int32.ofInt x).toInt8.toInt32 = Int32.ofInt (zbyte x) ∧ -2147483648 ≤ zbyte x ∧ zbyte x ≤ 2147483647 := by
  have hr : -2147483648 ≤ zbyte x ∧ zbyte x ≤ 2147483647 := by unfold zbyte; omega
  refine ⟨?_, hr⟩
  apply Int32.toInt_inj.mp
  rw [zi32 hr, Int32.toInt8_ofInt, Int8.toInt_toInt32, Int8.toInt_ofInt]
  show x.bmod 256 = _
  unfold Int.bmod zbyte
  show (if x % 256 < 128 then x % 256 else x % 256 - 256) = _
  split <;> omega
theorem zi_cm {x y : Int} (hx : -2147483648 ≤ x ∧ x ≤ 2147483647) (hy : -2147483648 ≤ y ∧ y ≤ 2147483647) : lg_cmp (Int64.ofInt x) (Int64.ofInt y) = Int32.ofInt (zlc x y) := by
  unfold lg_cmp zlc
  have h1 : (Int64.ofInt x > Int64.ofInt y) ↔ y < x := by
    rw [gt_iff_lt, Int64.lt_iff_toInt_lt, zi64 hx, zi64 hy]
  have h2 : (Int64.ofInt x = Int64.ofInt y) ↔ x = y := by
    rw [← Int64.toInt_inj, zi64 hx, zi64 hy]
  by_cases a : x < y
  · rw [if_neg (by rw [h1]; omega), if_neg (by rw [h2]; omega), if_pos a]; rfl
  · rw [if_neg a]
    by_cases b : x = y
    · rw [if_neg (by rw [h1]; omega), if_pos (h2.mpr b), if_pos b]; rfl
    · rw [if_pos (by rw [h1]; omega), if_neg b]; rfl
