/-! ===== the model reduces ===== -/
def F389 (I I' : gI) : Prop := ∀ a b c d, a ≠ 38 → a ≠ 39 → I' a b c d = I a b c d
theorem F389.rf {I : gI} : F389 I I := fun _ _ _ _ _ _ => rfl
theorem F389.tr {I I' I2 : gI} (h : F389 I I') (h2 : F389 I' I2) : F389 I I2 := fun a b c d h3 h4 => (h2 a b c d h3 h4).trans (h a b c d h3 h4)
theorem F38.to9 {I I' : gI} (h : F38 I I') : F389 I I' := fun a b c d h1 _ => h a b c d h1
def Lds (I : gI) (lim k : Nat) (S : gEs) : Prop := (∀ t, t < S.1 → t < S.2.2.1 → I 39 0 0 t = gi t) ∧ ((S.1 = k ∧ S.2.2.1 = lim) ∨ (S.1 < k ∧ S.2.2.1 < k ∧ S.2.2.1 ≤ S.1 ∧ (S.2.2.1 < S.1 → I 39 0 0 S.2.2.1 ≠ gi (S.2.2.1 : Nat))))
section ZW
variable {E : gEn} {Q : gQt} {X : gXt} {I : gI} {J : gJ} {B : gB} {c w : Nat} {p : Int} {f : Nat → Int} {n : Nat} {M0 : gMx}
def scF (p : Int) (E0 : gMx) (i mm cc : Nat) : gMx := fun a b => if a = mm then (inv p (E0 i cc) * E0 i b) % p else E0 (sw i mm a) b
theorem sc_ld {E0 : gMx} {i mm cc : Nat} : scF p E0 i mm cc = ldF p E0 i mm cc := by
  funext a b
  unfold scF ldF sw
  by_cases h1 : a = mm
  · rw [if_pos h1, if_pos h1]
  · rw [if_neg h1, if_neg h1]
    by_cases h2 : a = i
    · rw [if_pos h2, if_pos h2, if_neg h1]
    · rw [if_neg h2, if_neg h2, if_neg h1]
end ZW
