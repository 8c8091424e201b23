/-! THE CHECKER, 2: what the operations on ints do to the numbers -/
theorem nm_lo (x : Int32) : -2147483648 ≤ x.toInt := x.le_toInt
theorem nm_hi (x : Int32) : x.toInt ≤ 2147483647 := by have := x.toInt_lt; omega
theorem nm_bm {z : Int} (h1 : -2147483648 ≤ z) (h2 : z ≤ 2147483647) : z.bmod (2 ^ 32) = z := Int.bmod_eq_of_le_mul_two (by omega) (by omega)
theorem nm_add {x y : Int32} (h1 : -2147483648 ≤ x.toInt + y.toInt) (h2 : x.toInt + y.toInt ≤ 2147483647) : (x + y).toInt = x.toInt + y.toInt := by rw [Int32.toInt_add, nm_bm h1 h2]
theorem nm_sub {x y : Int32} (h1 : -2147483648 ≤ x.toInt - y.toInt) (h2 : x.toInt - y.toInt ≤ 2147483647) : (x - y).toInt = x.toInt - y.toInt := by rw [Int32.toInt_sub, nm_bm h1 h2]
theorem nm_mul {x y : Int32} (h1 : -2147483648 ≤ x.toInt * y.toInt) (h2 : x.toInt * y.toInt ≤ 2147483647) : (x * y).toInt = x.toInt * y.toInt := by rw [Int32.toInt_mul, nm_bm h1 h2]
theorem nm_neg {x : Int32} (h1 : -2147483648 ≤ -x.toInt) (h2 : -x.toInt ≤ 2147483647) : (-x).toInt = -x.toInt := by rw [Int32.toInt_neg, nm_bm h1 h2]
theorem nm_ofInt {k : Int} (h1 : -2147483648 ≤ k) (h2 : k ≤ 2147483647) : (Int32.ofInt k).toInt = k := Int32.toInt_ofInt_of_le (by omega) (by omega)
theorem nm_div {x y : Int32} (h : 1 ≤ y.toInt) : (x / y).toInt = x.toInt.tdiv y.toInt := by
  refine Int32.toInt_div_of_ne_right x y (fun e => ?_)
  rw [e] at h
  exact absurd h (by decide)
theorem nm_eml {a b : Int} (ha : 0 ≤ a) (hb : 1 ≤ b) : a % b ≤ a := by
  have h1 := Int.mul_ediv_add_emod a b
  have h2 : 0 ≤ b * (a / b) := Int.mul_nonneg (by omega) (Int.ediv_nonneg ha (by omega))
  omega
theorem nm_tdiv_nn {a b : Int} (ha : 0 ≤ a) : a.tdiv b = a / b := Int.tdiv_eq_ediv_of_nonneg ha
theorem nm_rem {x y : Int32} (h : 1 ≤ y.toInt) : (x - x / y * y).toInt = x.toInt.tmod y.toInt := by
  have h1 := nm_lo x
  have h2 := nm_hi x
  have e := Int.mul_tdiv_add_tmod x.toInt y.toInt
  have hq := nm_div (x := x) h
  have hm : x.toInt.tdiv y.toInt * y.toInt = x.toInt - x.toInt.tmod y.toInt := by rw [Int.mul_comm]; omega
  by_cases hx : 0 ≤ x.toInt
  · have t1 : 0 ≤ x.toInt.tmod y.toInt := Int.tmod_nonneg _ hx
    have t2 : x.toInt.tmod y.toInt ≤ x.toInt := by
      rw [Int.tmod_eq_emod_of_nonneg hx]
      exact nm_eml hx h
    have h3 : (x / y * y).toInt = x.toInt.tdiv y.toInt * y.toInt := by rw [nm_mul (by rw [hq, hm]; omega) (by rw [hq, hm]; omega), hq]
    rw [nm_sub (by rw [h3, hm]; omega) (by rw [h3, hm]; omega), h3, hm]
    omega
  · have t1 : x.toInt.tmod y.toInt ≤ 0 := by
      have := Int.tmod_nonneg y.toInt (a := -x.toInt) (by omega)
      rw [Int.neg_tmod] at this
      omega
    have t2 : x.toInt ≤ x.toInt.tmod y.toInt := by
      have : (-x.toInt).tmod y.toInt ≤ -x.toInt := by
        rw [Int.tmod_eq_emod_of_nonneg (by omega)]
        exact nm_eml (by omega) h
      rw [Int.neg_tmod] at this
      omega
    have h3 : (x / y * y).toInt = x.toInt.tdiv y.toInt * y.toInt := by rw [nm_mul (by rw [hq, hm]; omega) (by rw [hq, hm]; omega), hq]
    rw [nm_sub (by rw [h3, hm]; omega) (by rw [h3, hm]; omega), h3, hm]
    omega
theorem nm_tmod_nn {a b : Int} (ha : 0 ≤ a) (hb : 1 ≤ b) : 0 ≤ a.tmod b ∧ a.tmod b ≤ b - 1 ∧ a.tmod b ≤ a := by
  rw [Int.tmod_eq_emod_of_nonneg ha]
  exact ⟨Int.emod_nonneg _ (by omega), by have := Int.emod_lt_of_pos a (show 0 < b by omega); omega, nm_eml ha hb⟩
theorem nm_tmod {a b : Int} (hb : 1 ≤ b) : -(b - 1) ≤ a.tmod b ∧ a.tmod b ≤ b - 1 := by
  by_cases ha : 0 ≤ a
  · have := nm_tmod_nn ha hb
    omega
  · have := nm_tmod_nn (a := -a) (by omega) hb
    rw [Int.neg_tmod] at this
    omega
theorem nm_nat {x : Int32} (h : 0 ≤ x.toInt) : x.toInt = (x.toBitVec.toNat : Int) ∧ x.toBitVec.toNat < 2147483648 := by
  have e : x.toInt = x.toBitVec.toInt := rfl
  rw [e, BitVec.toInt_eq_toNat_cond] at h ⊢
  have hl := x.toBitVec.isLt
  split at h
  · rename_i hc
    rw [if_pos hc]
    exact ⟨rfl, by omega⟩
  · omega
theorem nm_ofnat {x : Int32} (h : x.toBitVec.toNat < 2147483648) : x.toInt = (x.toBitVec.toNat : Int) := by
  have e : x.toInt = x.toBitVec.toInt := rfl
  rw [e, BitVec.toInt_eq_toNat_cond, if_pos (by omega)]
theorem nm_and {x y : Int32} (h : 0 ≤ y.toInt) : 0 ≤ (x &&& y).toInt ∧ (x &&& y).toInt ≤ y.toInt := by
  obtain ⟨h1, h2⟩ := nm_nat h
  have h3 : (x &&& y).toBitVec.toNat = x.toBitVec.toNat &&& y.toBitVec.toNat := by
    rw [show (x &&& y).toBitVec = x.toBitVec &&& y.toBitVec from rfl, BitVec.toNat_and]
  have h4 : (x &&& y).toBitVec.toNat ≤ y.toBitVec.toNat := by rw [h3]; exact Nat.and_le_right
  rw [nm_ofnat (x := x &&& y) (by omega), h1]
  omega
theorem nm_andc (x y : Int32) : x &&& y = y &&& x := Int32.and_comm x y
theorem nm_or {x y : Int32} (k : Nat) (hk : k ≤ 30) (hx : 0 ≤ x.toInt) (hx2 : x.toInt < 2 ^ k) (hy : 0 ≤ y.toInt) (hy2 : y.toInt < 2 ^ k) : 0 ≤ (x ||| y).toInt ∧ (x ||| y).toInt < 2 ^ k := by
  obtain ⟨h1, h2⟩ := nm_nat hx
  obtain ⟨h3, h4⟩ := nm_nat hy
  have e1 : x.toBitVec.toNat < 2 ^ k := by rw [h1] at hx2; exact_mod_cast hx2
  have e2 : y.toBitVec.toNat < 2 ^ k := by rw [h3] at hy2; exact_mod_cast hy2
  have h5 : (x ||| y).toBitVec.toNat = x.toBitVec.toNat ||| y.toBitVec.toNat := by
    rw [show (x ||| y).toBitVec = x.toBitVec ||| y.toBitVec from rfl, BitVec.toNat_or]
  have h6 : (x ||| y).toBitVec.toNat < 2 ^ k := by rw [h5]; exact Nat.or_lt_two_pow e1 e2
  have h7 : (2 : Nat) ^ k ≤ 2 ^ 30 := Nat.pow_le_pow_right (by decide) hk
  rw [nm_ofnat (x := x ||| y) (by omega)]
  exact ⟨Int.natCast_nonneg _, by exact_mod_cast h6⟩
theorem nm_xor {x y : Int32} (k : Nat) (hk : k ≤ 30) (hx : 0 ≤ x.toInt) (hx2 : x.toInt < 2 ^ k) (hy : 0 ≤ y.toInt) (hy2 : y.toInt < 2 ^ k) : 0 ≤ (x ^^^ y).toInt ∧ (x ^^^ y).toInt < 2 ^ k := by
  obtain ⟨h1, h2⟩ := nm_nat hx
  obtain ⟨h3, h4⟩ := nm_nat hy
  have e1 : x.toBitVec.toNat < 2 ^ k := by rw [h1] at hx2; exact_mod_cast hx2
  have e2 : y.toBitVec.toNat < 2 ^ k := by rw [h3] at hy2; exact_mod_cast hy2
  have h5 : (x ^^^ y).toBitVec.toNat = x.toBitVec.toNat ^^^ y.toBitVec.toNat := by
    rw [show (x ^^^ y).toBitVec = x.toBitVec ^^^ y.toBitVec from rfl, BitVec.toNat_xor]
  have h6 : (x ^^^ y).toBitVec.toNat < 2 ^ k := by rw [h5]; exact Nat.xor_lt_two_pow e1 e2
  have h7 : (2 : Nat) ^ k ≤ 2 ^ 30 := Nat.pow_le_pow_right (by decide) hk
  rw [nm_ofnat (x := x ^^^ y) (by omega)]
  exact ⟨Int.natCast_nonneg _, by exact_mod_cast h6⟩
theorem nm_shl0 : ∀ j, j < 31 → ((1 : Int32) <<< (nI j &&& 31)).toInt = 2 ^ j := by decide +kernel
theorem nm_shr {x s : Int32} (h : 0 ≤ x.toInt) : 0 ≤ (x >>> (s &&& 31)).toInt ∧ (x >>> (s &&& 31)).toInt ≤ x.toInt := by
  rw [pk_shr x (s &&& 31) _ rfl, Int.shiftRight_eq_div_pow]
  exact ⟨Int.ediv_nonneg h (by exact_mod_cast Nat.zero_le _), Int.ediv_le_self _ h⟩
theorem nm_i2b (x : Int32) : -128 ≤ x.toInt8.toInt32.toInt ∧ x.toInt8.toInt32.toInt ≤ 127 := by
  rw [Int8.toInt_toInt32]
  have h1 := x.toInt8.le_toInt
  have h2 := x.toInt8.toInt_lt
  omega
theorem nm_i2b_id {x : Int32} (h1 : -128 ≤ x.toInt) (h2 : x.toInt ≤ 127) : x.toInt8.toInt32.toInt = x.toInt := by
  rw [Int8.toInt_toInt32, Int32.toInt_toInt8]
  exact Int.bmod_eq_of_le_mul_two (by omega) (by omega)
theorem nm_i2c (x : Int32) : 0 ≤ (x.toUInt32 % 65536).toInt32.toInt ∧ (x.toUInt32 % 65536).toInt32.toInt ≤ 65535 := by
  rw [pk_char, nI_toInt (by have := Nat.mod_lt x.toBitVec.toNat (show 0 < 65536 by decide); omega)]
  have := Nat.mod_lt x.toBitVec.toNat (show 0 < 65536 by decide)
  omega
theorem nm_i2c_id {x : Int32} (h1 : 0 ≤ x.toInt) (h2 : x.toInt ≤ 65535) : (x.toUInt32 % 65536).toInt32.toInt = x.toInt := by
  obtain ⟨e1, e2⟩ := nm_nat h1
  rw [pk_char, nI_toInt (by have := Nat.mod_lt x.toBitVec.toNat (show 0 < 65536 by decide); omega), Nat.mod_eq_of_lt (by omega)]
  exact e1.symm
theorem nm_lcmp (x y : Int64) : -1 ≤ (lg_cmp x y).toInt ∧ (lg_cmp x y).toInt ≤ 1 := by
  unfold lg_cmp
  repeat' split
  all_goals decide
theorem nm_mulnn {a b c d x y : Int} (ha : 0 ≤ a) (hc : 0 ≤ c) (h1 : a ≤ x) (h2 : x ≤ b) (h3 : c ≤ y) (h4 : y ≤ d) : a * c ≤ x * y ∧ x * y ≤ b * d :=
  ⟨Int.mul_le_mul h1 h3 hc (by omega), Int.mul_le_mul h2 h4 (by omega) (by omega)⟩
theorem nm_mulabs {m n x y : Int} (h1 : -m ≤ x) (h2 : x ≤ m) (h3 : -n ≤ y) (h4 : y ≤ n) : -(m * n) ≤ x * y ∧ x * y ≤ m * n := by
  have key : ∀ u v : Int, 0 ≤ u → u ≤ m → 0 ≤ v → v ≤ n → 0 ≤ u * v ∧ u * v ≤ m * n := fun u v a b c d => ⟨Int.mul_nonneg a c, Int.mul_le_mul b d c (by omega)⟩
  by_cases hx : 0 ≤ x <;> by_cases hy : 0 ≤ y
  · have := key x y hx h2 hy h4
    omega
  · have := key x (-y) hx h2 (by omega) (by omega)
    rw [Int.mul_neg] at this
    omega
  · have := key (-x) y (by omega) (by omega) hy h4
    rw [Int.neg_mul] at this
    omega
  · have := key (-x) (-y) (by omega) (by omega) (by omega) (by omega)
    rw [Int.neg_mul_neg] at this
    omega
theorem nm_ltI (a b : Int32) : a < b ↔ a.toInt < b.toInt := Int32.lt_iff_toInt_lt
theorem nm_leI (a b : Int32) : a ≤ b ↔ a.toInt ≤ b.toInt := Int32.le_iff_toInt_le
theorem nm_eqI (a b : Int32) : a = b ↔ a.toInt = b.toInt := Int32.toInt_inj.symm
