section ZY
variable {E : gEn} {Q : gQt} {X : gXt} {I : gI} {J : gJ} {B : gB} {c w : Nat} {p : Int} {f : Nat → Int}
/-! ===== the reference: are the fractions exact ===== -/
def FX (J J' : gJ) : Prop := ∀ a b d, a ≠ 31 → a ≠ 44 → a ≠ 45 → J' a b d = J a b d
theorem FX.rf {J : gJ} : FX J J := fun _ _ _ _ _ _ => rfl
theorem FX.tr {J J' J2 : gJ} (h : FX J J') (h2 : FX J' J2) : FX J J2 := fun a b d h3 h4 h5 => (h2 a b d h3 h4 h5).trans (h a b d h3 h4 h5)
def Fsm (f : Nat → Int) (J : gJ) (i : Nat) : Prop := ∀ j, j < i → frac f j = some (ft f j, fb f j) ∧ J 44 0 j = gj (ft f j) ∧ J 45 0 j = gj (fb f j)
theorem gsi {r0 i : Nat} (h : r0 + i < 408) : vp_in (gi (r0 : Int) + gi (i : Int)) 408 ∧ Int32.toNatClampNeg (gi (r0 : Int) + gi (i : Int)) = r0 + i := by
  rw [gi_add, show ((r0 : Int) + (i : Int)) = ((r0 + i : Nat) : Int) from rfl, gi_c (by omega) (by omega), gtn]
  exact ⟨gvp (by omega) (by omega) (by decide), rfl⟩
end ZY
