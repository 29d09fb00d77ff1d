/-! ===== the grid ===== -/
abbrev gMx : Type := Nat → Nat → Int
def invF (p v : Int) : Nat → Nat → Int
  | 0, _ => 0
  | d + 1, k => if ((k : Int) * v) % p = 1 then (k : Int) else invF p v d (k + 1)
/-- the inverse that both search for -/
def inv (p v : Int) : Int := invF p v (p.toNat - 1) 1
def pvF (M : gMx) (c : Nat) : Nat → Nat → Option Nat
  | 0, _ => none
  | d + 1, i => if M i c = 0 then pvF M c d (i + 1) else some i
def ldF (p : Int) (M : gMx) (i r c : Nat) : gMx := fun a b => if a = r then (inv p (M i c) * M i b) % p else if a = i then M r b else M a b
def clF (p : Int) (M : gMx) (r c : Nat) : gMx := fun a b => if a = r then M a b else (M a b - M a c * M r b) % p
def Rg (p : Int) (M : gMx) : Prop := ∀ i j, 0 ≤ M i j ∧ M i j < p
def Fc (n : Nat) (I I' : gI) : Prop := ∀ a b c d, ¬ (a = 19 ∧ b = n) → I' a b c d = I a b c d
def Fg (n : Nat) (I I' : gI) : Prop := ∀ a b c d, ¬ ((a = 17 ∨ a = 19) ∧ b = n) → I' a b c d = I a b c d
def Gr (I : gI) (n R C : Nat) (p : Int) (M : gMx) : Prop := I 17 n 0 1 = gi R ∧ I 17 n 0 2 = gi C ∧ I 17 n 0 3 = gi p ∧ ∀ i j, i < R → j < C → I 19 n i j = gi (M i j)
theorem Fc.rf {n : Nat} {I : gI} : Fc n I I := fun _ _ _ _ _ => rfl
theorem Fg.rf {n : Nat} {I : gI} : Fg n I I := fun _ _ _ _ _ => rfl
theorem Fc.g {n : Nat} {I I' : gI} (h : Fc n I I') : Fg n I I' := fun a b c d h1 => h a b c d (fun h2 => h1 ⟨Or.inr h2.1, h2.2⟩)
theorem Fc.tr {n : Nat} {I I' I2 : gI} (h : Fc n I I') (h2 : Fc n I' I2) : Fc n I I2 := fun a b c d h1 => (h2 a b c d h1).trans (h a b c d h1)
theorem Fg.tr {n : Nat} {I I' I2 : gI} (h : Fg n I I') (h2 : Fg n I' I2) : Fg n I I2 := fun a b c d h1 => (h2 a b c d h1).trans (h a b c d h1)
theorem Fc.up {n a b : Nat} {x : Int32} {I I' : gI} (h : Fc n I I') : Fc n I (gUI I' 19 n a b x) := fun a2 b2 c d h1 => by
  unfold gUI
  rw [if_neg (fun h2 => h1 ⟨h2.1, h2.2.1⟩)]
  exact h a2 b2 c d h1
theorem Fg.up17 {n b : Nat} {x : Int32} {I I' : gI} (h : Fg n I I') : Fg n I (gUI I' 17 n 0 b x) := fun a2 b2 c d h1 => by
  unfold gUI
  rw [if_neg (fun h2 => h1 ⟨Or.inl h2.1, h2.2.1⟩)]
  exact h a2 b2 c d h1
theorem Fg.up19 {n a b : Nat} {x : Int32} {I I' : gI} (h : Fg n I I') : Fg n I (gUI I' 19 n a b x) := h.tr (Fc.up Fc.rf).g
theorem mulb {x y : Int} (h1 : 0 ≤ x) (h2 : x < 31) (h3 : 0 ≤ y) (h4 : y < 31) : 0 ≤ x * y ∧ x * y < 961 := by
  refine ⟨Int.mul_nonneg h1 h3, ?_⟩
  have := Int.mul_le_mul (show x ≤ 30 by omega) (show y ≤ 30 by omega) h3 (by decide)
  omega
theorem invF_b {p v : Int} : ∀ (d k : Nat), (k : Int) + d ≤ p → 0 ≤ invF p v d k ∧ (invF p v d k < p ∨ invF p v d k = 0)
  | 0, _, _ => ⟨Int.le_refl _, Or.inr rfl⟩
  | d + 1, k, h => by
    unfold invF
    split
    · exact ⟨by omega, Or.inl (by omega)⟩
    · exact invF_b d (k + 1) (by omega)
theorem inv_b {p v : Int} (hp : 1 ≤ p) : 0 ≤ inv p v ∧ inv p v < p := by
  obtain ⟨h1, h2⟩ := invF_b (p := p) (v := v) (p.toNat - 1) 1 (by omega)
  exact ⟨h1, by unfold inv; omega⟩
theorem Rg.ld {p : Int} {M : gMx} {i r c : Nat} (hp : 1 ≤ p) (h : Rg p M) : Rg p (ldF p M i r c) := fun a b => by
  unfold ldF
  split
  · exact ⟨Int.emod_nonneg _ (by omega), Int.emod_lt_of_pos _ (by omega)⟩
  · split
    · exact h r b
    · exact h a b
theorem Rg.cl {p : Int} {M : gMx} {r c : Nat} (hp : 1 ≤ p) (h : Rg p M) : Rg p (clF p M r c) := fun a b => by
  unfold clF
  split
  · exact h a b
  · exact ⟨Int.emod_nonneg _ (by omega), Int.emod_lt_of_pos _ (by omega)⟩
theorem gU19 {I : gI} {n a b a2 b2 : Nat} {x : Int32} : (gUI I 19 n a b x) 19 n a2 b2 = if a2 = a ∧ b2 = b then x else I 19 n a2 b2 := by
  unfold gUI
  by_cases h : a2 = a ∧ b2 = b
  · rw [if_pos h, if_pos ⟨rfl, rfl, h⟩]
  · rw [if_neg h, if_neg (fun h2 => h h2.2.2)]
theorem Gr.fc {I I' : gI} {n R C : Nat} {p : Int} {M M' : gMx} (h : Gr I n R C p M) (hf : Fc n I I') (hM : ∀ i j, i < R → j < C → I' 19 n i j = gi (M' i j)) : Gr I' n R C p M' :=
  ⟨(hf 17 n 0 1 (fun h => absurd h.1 (by decide))).trans h.1, (hf 17 n 0 2 (fun h => absurd h.1 (by decide))).trans h.2.1, (hf 17 n 0 3 (fun h => absurd h.1 (by decide))).trans h.2.2.1, hM⟩
section ZB
variable {E : gEn} {Q : gQt} {X : gXt} {I : gI} {J : gJ} {B : gB} {c w : Nat} {n R C : Nat} {p : Int} {M : gMx}
theorem z_at {i j : Nat} (hG : Gr I n R C p M) (hR : R ≤ 7) (hC : C ≤ 14) (hi : i < R) (hj : j < C) (h : Q (.inl (.int (gi (M i j)))) I J B) : gC E 8 [.inr (17, n, 0), .inl (.int (gi i)), .inl (.int (gi j))] I J B Q X := by
  refine e_X1_at ?_
  rw [hG.1, hG.2.1, gi_lt (by omega) (by omega) (by decide) (by decide), gi_le (by omega) (by omega) (by omega) (by omega), gi_lt (by omega) (by omega) (by decide) (by decide), gi_le (by omega) (by omega) (by omega) (by omega), gi_c (by omega) (by omega), gtn, gi_c (by omega) (by omega), gtn, hG.2.2.2 i j hi hj]
  exact ⟨fun h0 => by omega, fun _ => ⟨fun h0 => by omega, fun _ => ⟨fun h0 => by omega, fun _ => ⟨fun h0 => by omega, fun _ => ⟨gvp (by omega) (by omega) (by decide), gvp (by omega) (by omega) (by decide), h⟩⟩⟩⟩⟩
theorem z_put {i j : Nat} {x : Int} (hG : Gr I n R C p M) (hR : R ≤ 7) (hC : C ≤ 14) (hi : i < R) (hj : j < C) (hp : 1 ≤ p) (hp2 : p ≤ 31) (h1 : -2147483648 ≤ x) (h2 : x < 2147483648) (h : Q (.inl .null) (gUI I 19 n i j (gi (x % p))) J B) : gC E 9 [.inr (17, n, 0), .inl (.int (gi i)), .inl (.int (gi j)), .inl (.int (gi x))] I J B Q X := by
  refine e_X1_put ?_
  rw [hG.1, hG.2.1, hG.2.2.1, gi_lt (by omega) (by omega) (by decide) (by decide), gi_le (by omega) (by omega) (by omega) (by omega), gi_lt (by omega) (by omega) (by decide) (by decide), gi_le (by omega) (by omega) (by omega) (by omega), gi_c (by omega) (by omega), gtn, gi_c (by omega) (by omega), gtn]
  exact ⟨fun h0 => by omega, fun _ => ⟨fun h0 => by omega, fun _ => ⟨fun h0 => by omega, fun _ => ⟨fun h0 => by omega, fun _ => ⟨gvp (by omega) (by omega) (by decide), z_red h1 h2 hp (by omega) ⟨gvp (by omega) (by omega) (by decide), h⟩⟩⟩⟩⟩⟩
theorem z_inv_l {v : Int} (hG3 : I 17 n 0 3 = gi p) (hp : 1 ≤ p) (hp2 : p ≤ 31) (hv : 0 ≤ v) (hv2 : v < p) (h : Q (.inl (.int (gi (inv p v)))) I J B) : ∀ (d k : Nat), (k : Int) + d = p → 1 ≤ k → invF p v d k = inv p v → gG E 15 2 [(0, .inr (17, n, 0)), (1, .inl (.int (gi v))), (2, .inl (.int (gi k)))] [] I J B c w Q X
  | 0, k, hk, _, hi => by
    refine s_X1_inverseOf_2 ?_
    rw [hG3, gi_le (by omega) (by omega) (by omega) (by omega)]
    refine ⟨fun _ => ?_, fun h0 => by omega⟩
    rw [← hi] at h
    exact h
  | d + 1, k, hk, h1, hi => by
    refine s_X1_inverseOf_2 ?_
    have hb := mulb (x := (k : Int)) (y := v) (by omega) (by omega) hv (by omega)
    rw [hG3, gi_le (by omega) (by omega) (by omega) (by omega), gi_eq (by omega) (by omega) (by decide) (by decide), gi_mul, gi_rem (by omega) (by omega) (by omega) (by omega), Int.tmod_eq_emod_of_nonneg hb.1]
    have hm1 := Int.emod_nonneg ((k : Int) * v) (show p ≠ 0 by omega)
    have hm2 := Int.emod_lt_of_pos ((k : Int) * v) (show 0 < p by omega)
    rw [gi_eq (by omega) (by omega) (by decide) (by decide), gi_add]
    unfold invF at hi
    refine ⟨fun h0 => by omega, fun _ => ⟨by omega, fun hne => ?_, fun he => ?_⟩⟩
    · rw [if_neg hne] at hi
      exact z_inv_l hG3 hp hp2 hv hv2 h d (k + 1) (by omega) (by omega) hi
    · rw [if_pos he] at hi
      rw [← hi] at h
      exact h
theorem z_inv {v : Int} (hG3 : I 17 n 0 3 = gi p) (hp : 1 ≤ p) (hp2 : p ≤ 31) (hv : 0 ≤ v) (hv2 : v < p) (h : Q (.inl (.int (gi (inv p v)))) I J B) : gC E 15 [.inr (17, n, 0), .inl (.int (gi v))] I J B Q X :=
  e_X1_inverseOf (z_inv_l hG3 hp hp2 hv hv2 h (p.toNat - 1) 1 (by omega) (Nat.le_refl 1) rfl)
end ZB
