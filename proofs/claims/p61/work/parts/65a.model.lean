/-! ===== the model's grid ===== -/
def F38 (I I' : gI) : Prop := ∀ a b c d, a ≠ 38 → I' a b c d = I a b c d
theorem F38.rf {I : gI} : F38 I I := fun _ _ _ _ _ => rfl
theorem F38.tr {I I' I2 : gI} (h : F38 I I') (h2 : F38 I' I2) : F38 I I2 := fun a b c d h3 => (h2 a b c d h3).trans (h a b c d h3)
theorem F38.up {I I' : gI} {k : Nat} {x : Int32} (h : F38 I I') : F38 I (gUI I' 38 0 0 k x) := fun a b c d h3 => by
  rw [gUI_at, if_neg (fun h => h3 h.1)]
  exact h a b c d h3
def sw (i k a : Nat) : Nat := if a = i then k else if a = k then i else a
def cmx (R j : Nat) : Nat := if j < R then j else 7
def Gm (I : gI) (R a0 a1 : Nat) (M : gMx) : Prop := ∀ i j, a0 ≤ i → i < a1 → j ≤ R → I 38 0 0 (8 * i + cmx R j) = gi (M i j)
def Mrow (f : Nat → Int) (I : gI) : Prop := ∀ k, k < 408 → I 32 0 0 k = gi (f k)
theorem cmx_lt {R j : Nat} (hR : R ≤ 7) : cmx R j < 8 := by
  unfold cmx
  split <;> omega
theorem cmx_in {R j : Nat} (h : j < R) : cmx R j = j := if_pos h
section ZS
variable {E : gEn} {Q : gQt} {X : gXt} {I : gI} {J : gJ} {B : gB} {c w : Nat} {p : Int} {f : Nat → Int} {R : Nat}
theorem gidx {i j : Nat} (hi : i < 7) (hj : j < 8) : (gi 8 * gi (i : Int) + gi (j : Int)) = gi ((8 * i + j : Nat) : Int) ∧ Int32.toNatClampNeg (gi ((8 * i + j : Nat) : Int)) = 8 * i + j ∧ vp_in (gi ((8 * i + j : Nat) : Int)) 56 := by
  refine ⟨?_, ?_, gvp (by omega) (by omega) (by decide)⟩
  · rw [gi_mul, gi_add]
    rfl
  · rw [gi_c (by omega) (by omega)]
    rfl
end ZS
