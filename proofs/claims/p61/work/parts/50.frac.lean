/-! ===== fractions ===== -/
theorem lc_eq {a b : Int} (h1 : -9223372036854775808 ≤ a) (h2 : a < 9223372036854775808) (h3 : -9223372036854775808 ≤ b) (h4 : b < 9223372036854775808) : (lg_cmp (gj a) (gj b) = gi 0) = (a = b) := by
  rw [lg_cj h1 h2 h3 h4, gi_eq (by split <;> (try split) <;> omega) (by split <;> (try split) <;> omega) (by decide) (by decide)]
  apply propext
  split
  · omega
  · split <;> omega
theorem lc_ge {a b : Int} (h1 : -9223372036854775808 ≤ a) (h2 : a < 9223372036854775808) (h3 : -9223372036854775808 ≤ b) (h4 : b < 9223372036854775808) : (gi 0 ≤ lg_cmp (gj a) (gj b)) = (b ≤ a) := by
  rw [lg_cj h1 h2 h3 h4, gi_le (by decide) (by decide) (by split <;> (try split) <;> omega) (by split <;> (try split) <;> omega)]
  apply propext
  split
  · omega
  · split <;> omega
theorem lc_le {a b : Int} (h1 : -9223372036854775808 ≤ a) (h2 : a < 9223372036854775808) (h3 : -9223372036854775808 ≤ b) (h4 : b < 9223372036854775808) : (lg_cmp (gj a) (gj b) ≤ gi 0) = (a ≤ b) := by
  rw [lg_cj h1 h2 h3 h4, gi_le (by split <;> (try split) <;> omega) (by split <;> (try split) <;> omega) (by decide) (by decide)]
  apply propext
  split
  · omega
  · split <;> omega
theorem lc_lt {a b : Int} (h1 : -9223372036854775808 ≤ a) (h2 : a < 9223372036854775808) (h3 : -9223372036854775808 ≤ b) (h4 : b < 9223372036854775808) : (lg_cmp (gj a) (gj b) < gi 0) = (a < b) := by
  rw [lg_cj h1 h2 h3 h4, gi_lt (by split <;> (try split) <;> omega) (by split <;> (try split) <;> omega) (by decide) (by decide)]
  apply propext
  split
  · omega
  · split <;> omega
theorem lc_gt {a b : Int} (h1 : -9223372036854775808 ≤ a) (h2 : a < 9223372036854775808) (h3 : -9223372036854775808 ≤ b) (h4 : b < 9223372036854775808) : (gi 0 < lg_cmp (gj a) (gj b)) = (b < a) := by
  rw [lg_cj h1 h2 h3 h4, gi_lt (by decide) (by decide) (by split <;> (try split) <;> omega) (by split <;> (try split) <;> omega)]
  apply propext
  split
  · omega
  · split <;> omega
theorem lc_eqx {x y : Int64} : (lg_cmp x y = gi 0) = (x = y) := by
  have := lc_eq (a := x.toInt) (b := y.toInt) (Int64.le_toInt x) (Int64.toInt_lt x) (Int64.le_toInt y) (Int64.toInt_lt y)
  rw [gj_x, gj_x] at this
  rw [this, Int64.toInt_inj]
/-- Euclid's way ends within so many rounds -/
def gOK : Nat → Nat → Nat → Prop
  | 0, _, y => y = 0
  | d + 1, x, y => y = 0 ∨ gOK d y (x % y)
theorem gOK_up : ∀ {d x y : Nat}, gOK d x y → gOK (d + 1) x y
  | 0, _, _, h => Or.inl h
  | d + 1, _, _, h => by
    rcases h with h | h
    · exact Or.inl h
    · exact Or.inr (gOK_up h)
theorem gOK_add {d x y : Nat} (h : gOK d x y) : ∀ k, gOK (d + k) x y
  | 0 => h
  | k + 1 => gOK_up (gOK_add h k)
theorem gOK_b : ∀ (k x y : Nat), y < 2 ^ k → gOK (2 * k + 1) x y
  | 0, _, y, h => Or.inl (by omega)
  | k + 1, x, y, h => by
    by_cases h0 : y = 0
    · exact Or.inl h0
    · refine Or.inr ?_
      show gOK (2 * k + 1 + 1) y (x % y)
      by_cases h1 : x % y = 0
      · exact Or.inl h1
      · refine Or.inr (gOK_b k _ _ ?_)
        have a1 := Nat.mod_lt x (show y > 0 by omega)
        have a2 := Nat.mod_lt y (show x % y > 0 by omega)
        have a3 := Nat.div_add_mod y (x % y)
        have a4 : 1 ≤ y / (x % y) := (Nat.le_div_iff_mul_le (by omega)).mpr (by omega)
        have a5 := Nat.mul_le_mul_left (x % y) a4
        rw [Nat.pow_succ] at h
        omega
theorem gOK_100 {x y : Nat} (h : y ≤ 1000000000000) : gOK 100 x y := gOK_add (gOK_b 40 x y (by have : (2 : Nat) ^ 40 = 1099511627776 := by decide
                                                                                               omega)) 19
section ZJ
variable {E : gEn} {Q : gQt} {X : gXt} {I : gI} {J : gJ} {B : gB} {c w : Nat} {n : Nat} {f : Nat → Int} {p : Int}
theorem z_large {x m : Int} (h1 : -1000000000001 ≤ x) (h2 : x ≤ 1000000000001) (h3 : 0 ≤ m) (h4 : m ≤ 1000000000000) (h : Q (.inl (.int (gi (if m < 2 * x * x then 1 else 0)))) I J B) : gC E 3 [.inl (.long (gj x)), .inl (.long (gj m))] I J B Q X := by
  refine e_X0_isLarge (z_absl (by omega) (by omega) ?_)
  have hx : 2 * (x.natAbs : Int) * (x.natAbs : Int) = 2 * x * x := by
    rw [Int.mul_assoc, Int.mul_assoc, Int.natAbs_mul_self']
  show (gi 0 ≤ lg_cmp (gj (x.natAbs : Int)) (gj 1000000) → _) ∧ _
  rw [lc_ge (by omega) (by omega) (by decide) (by decide), gj_mul, gj_mul, hx]
  refine ⟨fun h0 => ⟨Or.inr rfl, ?_⟩, fun h0 => ?_⟩
  · have e1 := Int.mul_le_mul (show 1000000 ≤ (x.natAbs : Int) by omega) (show 1000000 ≤ (x.natAbs : Int) by omega) (by decide) (by omega)
    rw [Int.natAbs_mul_self'] at e1
    rw [if_pos (by rw [Int.mul_assoc]; omega)] at h
    exact h
  · have e1 := Int.mul_le_mul (show (x.natAbs : Int) ≤ 1000000 by omega) (show (x.natAbs : Int) ≤ 1000000 by omega) (by omega) (by decide)
    have e2 := Int.mul_nonneg (show 0 ≤ (x.natAbs : Int) by omega) (show 0 ≤ (x.natAbs : Int) by omega)
    rw [Int.natAbs_mul_self'] at e1 e2
    have e3 : 2 * x * x = 2 * (x * x) := Int.mul_assoc 2 x x
    rw [lc_le (by omega) (by omega) (by omega) (by omega)]
    refine ⟨fun h5 => ⟨Or.inl rfl, ?_⟩, fun h5 => ⟨Or.inr rfl, ?_⟩⟩
    · rw [if_neg (by omega)] at h
      exact h
    · rw [if_pos (by omega)] at h
      exact h
theorem z_gcd_l : ∀ (d x y : Nat), gOK d x y → d ≤ 100 → x < 9223372036854775808 → y < 9223372036854775808 → Q (.inl (.long (gj ((Nat.gcd x y : Nat) : Int)))) I J B → gG E 4 15 [(4, .inl (.long (gj (x : Int)))), (6, .inl (.long (gj (y : Int)))), (8, .inl (.int (gi ((100 - d : Nat) : Int))))] [] I J B c w Q X
  | 0, x, y, ho, hd, hx, hy, h => by
    have h0 : y = 0 := ho
    subst h0
    rw [Nat.gcd_zero_right] at h
    refine s_X0_greatestDivisor_15 ⟨fun _ => h, fun _ => ⟨fun _ => h, fun h1 => ?_⟩⟩
    exact absurd (lc_eqx.mpr rfl) h1
  | d + 1, x, y, ho, hd, hx, hy, h => by
    refine s_X0_greatestDivisor_15 ?_
    rw [gi_le (by decide) (by decide) (by omega) (by omega), lc_eq (by omega) (by omega) (by decide) (by decide), gj_eq (by omega) (by omega) (by decide) (by decide), gj_rem (by omega) (by omega) (by omega) (by omega), gi_add]
    refine ⟨fun h0 => by omega, fun _ => ⟨fun h0 => ?_, fun h0 => ⟨h0, ?_⟩⟩⟩
    · have h1 : y = 0 := by omega
      subst h1
      rw [Nat.gcd_zero_right] at h
      exact h
    · rcases ho with ho | ho
      · omega
      · have hm := Nat.mod_lt x (show y > 0 by omega)
        have hh := z_gcd_l d y (x % y) ho (by omega) hy (by omega) (by rw [Nat.gcd_comm y, ← Nat.gcd_rec, Nat.gcd_comm]; exact h)
        rw [show (x : Int).tmod (y : Int) = ((x % y : Nat) : Int) from rfl, show ((100 - (d + 1) : Nat) : Int) + 1 = ((100 - d : Nat) : Int) by omega]
        exact hh
theorem z_gcd {a b : Int} (h1 : -9223372036854775807 ≤ a) (h2 : a < 9223372036854775808) (h3 : -1000000000000 ≤ b) (h4 : b ≤ 1000000000000) (h : Q (.inl (.long (gj ((Int.gcd a b : Nat) : Int)))) I J B) : gC E 4 [.inl (.long (gj a)), .inl (.long (gj b))] I J B Q X := by
  refine e_X0_greatestDivisor (z_absl h1 h2 ?_)
  show gC _ _ _ _ _ _ _ _
  refine z_absl (by omega) (by omega) ?_
  show gG _ _ _ _ _ _ _ _ _ _ _ _
  exact z_gcd_l 100 a.natAbs b.natAbs (gOK_100 (by omega)) (Nat.le_refl _) (by omega) (by omega) h
end ZJ
