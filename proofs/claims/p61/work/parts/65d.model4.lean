section ZV
variable {E : gEn} {Q : gQt} {X : gXt} {I : gI} {J : gJ} {B : gB} {c w : Nat} {p : Int} {f : Nat → Int} {q n : Nat}
def Mpr (I : gI) (q n : Nat) (S : gPs) : Prop := Shi I q n S.2.1 ∧ ∀ a k, a < S.1 → q ≤ k → k < n → I 42 0 0 (49 * a + k) = gi (S.2.2.1 a k) ∧ I 43 0 0 (49 * a + k) = gi (S.2.2.2 a k)
def F3 (I I' : gI) : Prop := ∀ a b c d, a ≠ 41 → a ≠ 42 → a ≠ 43 → I' a b c d = I a b c d
theorem F3.rf {I : gI} : F3 I I := fun _ _ _ _ _ _ _ => rfl
theorem F3.tr {I I' I2 : gI} (h : F3 I I') (h2 : F3 I' I2) : F3 I I2 := fun a b c d h3 h4 h5 => (h2 a b c d h3 h4 h5).trans (h a b c d h3 h4 h5)
theorem F41.to3 {I I' : gI} (h : F41 I I') : F3 I I' := fun a b c d h1 _ _ => h a b c d h1
theorem F3.toD {I I' : gI} (h : F3 I I') : Fpd I I' := fun a b c d _ h1 h2 h3 _ => h a b c d h1 h2 h3
def Fme (I I' : gI) : Prop := ∀ a b c d, a ≠ 38 → a ≠ 40 → ¬ (a = 31 ∧ (d = 21 ∨ d = 24)) → I' a b c d = I a b c d
theorem Fme.rf {I : gI} : Fme I I := fun _ _ _ _ _ _ _ => rfl
theorem Fme.tr {I I' I2 : gI} (h : Fme I I') (h2 : Fme I' I2) : Fme I I2 := fun a b c d h3 h4 h5 => (h2 a b c d h3 h4 h5).trans (h a b c d h3 h4 h5)
theorem Fpg.toE {I I' : gI} (h : Fpg I I') : Fme I I' := fun a b c d h1 _ h2 => h a b c d h1 (fun h3 => h2 ⟨h3.1, Or.inl h3.2⟩)
def esP (f : Nat → Int) : Nat → List Nat
  | 0 => []
  | k + 1 => esL f k
theorem det_0 (hv : Vf f) : detF f (f 1) 0 ≠ 0 := by
  have hp := hv.p
  show (1 : Int) % f 1 ≠ 0
  rw [Int.emod_eq_of_lt (by decide) (by omega)]
  decide
theorem esP_s (hv : Vf f) {k : Nat} : esP f (k + 1) = if detF f (f 1) k = 0 then esP f k else esP f k ++ [k] := by
  cases k with
  | zero =>
    rw [if_neg (det_0 hv)]
    rfl
  | succ k => rfl
theorem esP_len {k : Nat} : (esP f k).length ≤ k := by
  cases k with
  | zero => exact Nat.le_refl 0
  | succ k => exact (esL_len k).2
theorem ess_det (hv : Vf f) {q : Nat} (h : q ∈ ess f) : detF f (f 1) q ≠ 0 := by
  have key : ∀ k, ∀ x ∈ esL f k, detF f (f 1) x ≠ 0 := by
    intro k
    induction k with
    | zero =>
      intro x hx
      have : x = 0 := by simpa [esL] using hx
      subst this
      exact det_0 hv
    | succ k ih =>
      intro x hx
      unfold esL at hx
      split at hx
      · exact ih x hx
      · rename_i h1
        rcases List.mem_append.mp hx with h2 | h2
        · exact ih x h2
        · rw [List.mem_singleton.mp h2]
          exact h1
  exact key _ q h
end ZV
