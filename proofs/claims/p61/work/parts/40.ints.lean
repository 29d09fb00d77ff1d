/-! ===== whole numbers of 32 and 64 bits as integers ===== -/
theorem gi_t {a : Int} (h1 : -2147483648 ≤ a) (h2 : a < 2147483648) : (gi a).toInt = a := Int32.toInt_ofInt_of_le h1 h2
theorem gj_t {a : Int} (h1 : -9223372036854775808 ≤ a) (h2 : a < 9223372036854775808) : (gj a).toInt = a := Int64.toInt_ofInt_of_le h1 h2
theorem gi_x (x : Int32) : gi x.toInt = x := Int32.ofInt_toInt x
theorem gj_x (x : Int64) : gj x.toInt = x := Int64.ofInt_toInt x
theorem gi_r1 (x : Int32) : -2147483648 ≤ x.toInt := Int32.le_toInt x
theorem gi_r2 (x : Int32) : x.toInt < 2147483648 := Int32.toInt_lt x
theorem gi_add (a b : Int) : gi a + gi b = gi (a + b) := (Int32.ofInt_add a b).symm
theorem gi_sub (a b : Int) : gi a - gi b = gi (a - b) := (Int32.ofInt_sub a b).symm
theorem gi_mul (a b : Int) : gi a * gi b = gi (a * b) := (Int32.ofInt_mul a b).symm
theorem gi_neg (a : Int) : -gi a = gi (-a) := (Int32.ofInt_neg a).symm
theorem gj_add (a b : Int) : gj a + gj b = gj (a + b) := (Int64.ofInt_add a b).symm
theorem gj_sub (a b : Int) : gj a - gj b = gj (a - b) := (Int64.ofInt_sub a b).symm
theorem gj_mul (a b : Int) : gj a * gj b = gj (a * b) := (Int64.ofInt_mul a b).symm
theorem gj_neg (a : Int) : -gj a = gj (-a) := (Int64.ofInt_neg a).symm
theorem gi_lt {a b : Int} (h1 : -2147483648 ≤ a) (h2 : a < 2147483648) (h3 : -2147483648 ≤ b) (h4 : b < 2147483648) : (gi a < gi b) = (a < b) := by
  rw [Int32.lt_iff_toInt_lt, gi_t h1 h2, gi_t h3 h4]
theorem gi_le {a b : Int} (h1 : -2147483648 ≤ a) (h2 : a < 2147483648) (h3 : -2147483648 ≤ b) (h4 : b < 2147483648) : (gi a ≤ gi b) = (a ≤ b) := by
  rw [Int32.le_iff_toInt_le, gi_t h1 h2, gi_t h3 h4]
theorem gi_eq {a b : Int} (h1 : -2147483648 ≤ a) (h2 : a < 2147483648) (h3 : -2147483648 ≤ b) (h4 : b < 2147483648) : (gi a = gi b) = (a = b) := by
  rw [← Int32.toInt_inj, gi_t h1 h2, gi_t h3 h4]
theorem gj_lt {a b : Int} (h1 : -9223372036854775808 ≤ a) (h2 : a < 9223372036854775808) (h3 : -9223372036854775808 ≤ b) (h4 : b < 9223372036854775808) : (gj a < gj b) = (a < b) := by
  rw [Int64.lt_iff_toInt_lt, gj_t h1 h2, gj_t h3 h4]
theorem gj_le {a b : Int} (h1 : -9223372036854775808 ≤ a) (h2 : a < 9223372036854775808) (h3 : -9223372036854775808 ≤ b) (h4 : b < 9223372036854775808) : (gj a ≤ gj b) = (a ≤ b) := by
  rw [Int64.le_iff_toInt_le, gj_t h1 h2, gj_t h3 h4]
theorem gj_eq {a b : Int} (h1 : -9223372036854775808 ≤ a) (h2 : a < 9223372036854775808) (h3 : -9223372036854775808 ≤ b) (h4 : b < 9223372036854775808) : (gj a = gj b) = (a = b) := by
  rw [← Int64.toInt_inj, gj_t h1 h2, gj_t h3 h4]
theorem gi_c {a : Int} (h1 : -2147483648 ≤ a) (h2 : a < 2147483648) : Int32.toNatClampNeg (gi a) = a.toNat := by
  rw [← Int32.toNat_toInt, gi_t h1 h2]
theorem gi_div {a b : Int} (h1 : -2147483648 ≤ a) (h2 : a < 2147483648) (h3 : -2147483648 ≤ b) (h4 : b < 2147483648) : gi a / gi b = gi (a.tdiv b) :=
  (Int32.ofInt_tdiv h1 (by show a ≤ 2147483647; omega) h3 (by show b ≤ 2147483647; omega)).symm
theorem gj_div {a b : Int} (h1 : -9223372036854775808 ≤ a) (h2 : a < 9223372036854775808) (h3 : -9223372036854775808 ≤ b) (h4 : b < 9223372036854775808) : gj a / gj b = gj (a.tdiv b) :=
  (Int64.ofInt_tdiv h1 (by show a ≤ 9223372036854775807; omega) h3 (by show b ≤ 9223372036854775807; omega)).symm
theorem tdm (a b : Int) : a - a.tdiv b * b = a.tmod b := by
  have := Int.tdiv_mul_add_tmod a b
  omega
theorem gi_rem {a b : Int} (h1 : -2147483648 ≤ a) (h2 : a < 2147483648) (h3 : -2147483648 ≤ b) (h4 : b < 2147483648) : gi a - gi a / gi b * gi b = gi (a.tmod b) := by
  rw [gi_div h1 h2 h3 h4, gi_mul, gi_sub, tdm]
theorem gj_rem {a b : Int} (h1 : -9223372036854775808 ≤ a) (h2 : a < 9223372036854775808) (h3 : -9223372036854775808 ≤ b) (h4 : b < 9223372036854775808) : gj a - gj a / gj b * gj b = gj (a.tmod b) := by
  rw [gj_div h1 h2 h3 h4, gj_mul, gj_sub, tdm]
theorem gij {a : Int} (h1 : -2147483648 ≤ a) (h2 : a < 2147483648) : Int32.toInt64 (gi a) = gj a := Int32.toInt64_ofInt h1 (by show a ≤ 2147483647; omega)
theorem gji {a : Int} : Int64.toInt32 (gj a) = gi a := Int64.toInt32_ofInt
theorem gvp {a : Int} {n : Nat} (h1 : 0 ≤ a) (h2 : a < n) (h3 : n ≤ 1000000) : vp_in (gi a) n := by
  unfold vp_in
  rw [gi_c (by omega) (by omega), show (gi a < 0) = (gi a < gi 0) from rfl, gi_lt (by omega) (by omega) (by decide) (by decide)]
  omega
theorem lg_cj {a b : Int} (h1 : -9223372036854775808 ≤ a) (h2 : a < 9223372036854775808) (h3 : -9223372036854775808 ≤ b) (h4 : b < 9223372036854775808) : lg_cmp (gj a) (gj b) = gi (if b < a then 1 else if a = b then 0 else -1) := by
  unfold lg_cmp
  simp only [GT.gt, gj_lt h3 h4 h1 h2, gj_eq h1 h2 h3 h4]
  split
  · rfl
  · split <;> rfl
