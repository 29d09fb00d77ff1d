/-! ===== the model's complements and pairs ===== -/
theorem elF_up {p : Int} {lim : Nat} {M : gMx} {k : Nat} : ∀ d, (elF p lim M (k + d)).1 ≤ (elF p lim M k).1 + d
  | 0 => Nat.le_refl _
  | d + 1 => by
    have ih := elF_up (p := p) (lim := lim) (M := M) (k := k) d
    show (esF p lim (elF p lim M (k + d)) (k + d)).1 ≤ _
    cases hv : pvF (elF p lim M (k + d)).2.2.2 (k + d) (lim - (elF p lim M (k + d)).1) (elF p lim M (k + d)).1 with
    | none =>
      rw [esF_n hv]
      show (elF p lim M (k + d)).1 ≤ _
      omega
    | some i =>
      rw [esF_s hv]
      show (elF p lim M (k + d)).1 + 1 ≤ _
      omega
theorem elF_all {p : Int} {lim : Nat} {M : gMx} {k c : Nat} (hp : 1 ≤ p) (hM : Rg p M) (h : (elF p lim M k).1 = k) (hc : c ≤ k) : (elF p lim M c).1 = c := by
  have h1 := elF_up (p := p) (lim := lim) (M := M) (k := c) (k - c)
  rw [show c + (k - c) = k by omega] at h1
  have h2 := (elF_b (lim := lim) hp hM c).1
  omega
theorem reg_n {f : Nat → Int} {q : Nat} (hv : Vf f) (hq : q ≤ (f 0).toNat) (h : detF f (f 1) q ≠ 0) : ∀ c, c ≤ q → (elF (f 1) q (mtF f (f 1) ((f 0).toNat)) c).1 = c := by
  have hp := hv.p
  have h1 := (det_reg hv.2.1).mp h
  have h2 : Aq q (mtF f (f 1) ((f 0).toNat)) (mtF f (f 1) q) := fun i j hj => by
    unfold mtF
    rw [if_pos (by omega), if_pos hj]
  have h3 := (elF_ext (lim := q) (p := f 1) h2 q (Nat.le_refl q)).1
  exact fun c hc => elF_all (by omega) (Rg.mt (by omega)) (h3.trans h1) hc
section ZU
variable {E : gEn} {Q : gQt} {X : gXt} {I : gI} {J : gJ} {B : gB} {c w : Nat} {p : Int} {f : Nat → Int}
def Fpd (I I' : gI) : Prop := ∀ a b c d, a ≠ 38 → a ≠ 41 → a ≠ 42 → a ≠ 43 → ¬ (a = 31 ∧ d = 21) → I' a b c d = I a b c d
theorem Fpd.rf {I : gI} : Fpd I I := fun _ _ _ _ _ _ _ _ _ => rfl
theorem Fpd.tr {I I' I2 : gI} (h : Fpd I I') (h2 : Fpd I' I2) : Fpd I I2 := fun a b c d h3 h4 h5 h6 h7 => (h2 a b c d h3 h4 h5 h6 h7).trans (h a b c d h3 h4 h5 h6 h7)
theorem Fpg.toD {I I' : gI} (h : Fpg I I') : Fpd I I' := fun a b c d h1 _ _ _ h2 => h a b c d h1 h2
def F41 (I I' : gI) : Prop := ∀ a b c d, a ≠ 41 → I' a b c d = I a b c d
theorem F41.rf {I : gI} : F41 I I := fun _ _ _ _ _ => rfl
theorem F41.up {I I' : gI} {k : Nat} {x : Int32} (h : F41 I I') : F41 I (gUI I' 41 0 0 k x) := fun a b c d h3 => by
  rw [gUI_at, if_neg (fun h => h3 h.1)]
  exact h a b c d h3
theorem F41.toD {I I' : gI} (h : F41 I I') : Fpd I I' := fun a b c d _ h1 _ _ _ => h a b c d h1
theorem gidx7 {i j : Nat} (hi : i < 7) (hj : j < 7) : (gi 7 * gi (i : Int) + gi (j : Int)) = gi ((7 * i + j : Nat) : Int) ∧ Int32.toNatClampNeg (gi ((7 * i + j : Nat) : Int)) = 7 * i + j ∧ vp_in (gi ((7 * i + j : Nat) : Int)) 49 := by
  refine ⟨?_, ?_, gvp (by omega) (by omega) (by decide)⟩
  · rw [gi_mul, gi_add]
    rfl
  · rw [gi_c (by omega) (by omega)]
    rfl
theorem gidx49 {i j : Nat} (hi : i < 7) (hj : j < 7) : (gi 49 * gi (i : Int) + gi (j : Int)) = gi ((49 * i + j : Nat) : Int) ∧ Int32.toNatClampNeg (gi ((49 * i + j : Nat) : Int)) = 49 * i + j ∧ vp_in (gi ((49 * i + j : Nat) : Int)) 343 := by
  refine ⟨?_, ?_, gvp (by omega) (by omega) (by decide)⟩
  · rw [gi_mul, gi_add]
    rfl
  · rw [gi_c (by omega) (by omega)]
    rfl
def Shi (I : gI) (q n : Nat) (D : gMx) : Prop := ∀ i j, q ≤ i → i < n → q ≤ j → j < n → I 41 0 0 (7 * i + j) = gi (D i j)
end ZU
