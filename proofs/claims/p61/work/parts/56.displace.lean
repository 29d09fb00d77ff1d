/-! ===== displacements and generators ===== -/
def dpF (p : Int) (q : Nat) (M : gMx) : gMx := fun i j => if q < i ∧ q < j then (M i j - M (i - 1) (j - 1)) % p else M i j
theorem Rg.dp {p : Int} {q : Nat} {M : gMx} (hp : 1 ≤ p) (h : Rg p M) : Rg p (dpF p q M) := fun i j => by
  unfold dpF
  split
  · exact ⟨Int.emod_nonneg _ (by omega), Int.emod_lt_of_pos _ (by omega)⟩
  · exact h i j
section ZO
variable {E : gEn} {Q : gQt} {X : gXt} {I : gI} {J : gJ} {B : gB} {c w : Nat} {n R C : Nat} {p : Int} {M : gMx}
theorem z_dp_i {q : Nat} (hR : R ≤ 7) (hC : C ≤ 14) (hRC : R ≤ C) (hp : 1 ≤ p) (hp2 : p ≤ 31) (hG : Gr I n R C p M) (hM : Rg p M)
    (h : ∀ I', Fc n I I' → Gr I' n R C p (fun a b => if b < R then dpF p q M a b else M a b) → Q (.inl .null) I' J B) (D i : Nat) (hD : q + D + 1 = i) (hi : i < R)
    (nx : ∀ (i : Nat) (hD : q + D = i) (hi : i < R) (I' : gI), Fc n I I' → Gr I' n R C p (fun a b => if b < R ∧ i < a then dpF p q M a b else M a b) →
      gG E 17 7 [(0, .inr (17, n, 0)), (1, .inl (.int (gi q))), (2, .inl (.int (gi i)))] [] I' J B c w Q X) :
    ∀ (d j : Nat) (I' : gI), q + d = j → j < R → Fc n I I' → Gr I' n R C p (fun a b => if b < R ∧ (i < a ∨ (a = i ∧ j < b)) then dpF p q M a b else M a b) →
      gG E 17 19 [(0, .inr (17, n, 0)), (1, .inl (.int (gi q))), (2, .inl (.int (gi i))), (3, .inl (.int (gi j)))] [] I' J B c w Q X
  | 0, j, I', hj, hjR, hF, hG2 => by
    refine s_X1_displace_19 ?_
    rw [gi_le (by omega) (by omega) (by omega) (by omega), gi_add]
    refine ⟨fun _ => ?_, fun h0 => by omega⟩
    have hh := nx (i - 1) (by omega) (by omega) I' hF ⟨hG2.1, hG2.2.1, hG2.2.2.1, fun a b ha hb => by
      rw [hG2.2.2.2 a b ha hb]
      dsimp only
      congr 1
      by_cases h1 : b < R ∧ (i < a ∨ (a = i ∧ j < b))
      · rw [if_pos h1, if_pos ⟨h1.1, by omega⟩]
      · rw [if_neg h1]
        by_cases h2 : b < R ∧ i - 1 < a
        · rw [if_pos h2]
          unfold dpF
          rw [if_neg (by omega)]
        · rw [if_neg h2]⟩
    rw [show (i : Int) + -1 = ((i - 1 : Nat) : Int) by omega]
    exact hh
  | d + 1, j, I', hj, hjR, hF, hG2 => by
    refine s_X1_displace_19 ?_
    rw [gi_le (by omega) (by omega) (by omega) (by omega), gi_add]
    have m1 := hM i j
    have m2 := hM (i - 1) (j - 1)
    refine ⟨fun h0 => by omega, fun _ => z_at hG2 hR hC hi (by omega) ?_⟩
    show gC _ _ _ _ _ _ _ _
    rw [gi_sub, gi_sub, show (i : Int) - 1 = ((i - 1 : Nat) : Int) by omega, show (j : Int) - 1 = ((j - 1 : Nat) : Int) by omega]
    refine z_at hG2 hR hC (by omega) (by omega) ?_
    show gC _ _ _ _ _ _ _ _
    rw [if_neg (by omega), if_neg (by omega), gi_sub]
    refine z_put hG2 hR hC hi (by omega) hp hp2 (by omega) (by omega) ?_
    rw [gi_add, show (j : Int) + -1 = ((j - 1 : Nat) : Int) by omega]
    refine z_dp_i hR hC hRC hp hp2 hG hM h D i hD hi nx d (j - 1) _ (by omega) (by omega) hF.up (hG2.fc (Fc.up Fc.rf) fun a b ha hb => ?_)
    rw [gU19]
    by_cases h1 : a = i ∧ b = j
    · rw [if_pos h1, h1.1, h1.2, if_pos ⟨hjR, by omega⟩]
      unfold dpF
      rw [if_pos (by omega)]
    · rw [if_neg h1, hG2.2.2.2 a b ha hb]
      dsimp only
      congr 1
      by_cases h2 : b < R ∧ (i < a ∨ (a = i ∧ j < b))
      · rw [if_pos h2, if_pos ⟨h2.1, by omega⟩]
      · rw [if_neg h2, if_neg (fun h3 => h2 ⟨h3.1, by
          by_cases h4 : a = i
          · have : b ≠ j := fun e => h1 ⟨h4, e⟩
            omega
          · omega⟩)]
theorem z_dp_l {q : Nat} (hR : R ≤ 7) (hC : C ≤ 14) (hRC : R ≤ C) (hp : 1 ≤ p) (hp2 : p ≤ 31) (hG : Gr I n R C p M) (hM : Rg p M)
    (h : ∀ I', Fc n I I' → Gr I' n R C p (fun a b => if b < R then dpF p q M a b else M a b) → Q (.inl .null) I' J B) :
    ∀ (D i : Nat) (hD : q + D = i) (hi : i < R) (I' : gI), Fc n I I' → Gr I' n R C p (fun a b => if b < R ∧ i < a then dpF p q M a b else M a b) →
      gG E 17 7 [(0, .inr (17, n, 0)), (1, .inl (.int (gi q))), (2, .inl (.int (gi i)))] [] I' J B c w Q X
  | 0, i, hD, hi, I', hF, hG2 => by
    refine s_X1_displace_7 ?_
    rw [gi_le (by omega) (by omega) (by omega) (by omega)]
    refine ⟨fun _ => h I' hF ⟨hG2.1, hG2.2.1, hG2.2.2.1, fun a b ha hb => ?_⟩, fun h0 => by omega⟩
    rw [hG2.2.2.2 a b ha hb]
    dsimp only
    congr 1
    by_cases h1 : b < R ∧ i < a
    · rw [if_pos h1, if_pos h1.1]
    · rw [if_neg h1]
      by_cases h2 : b < R
      · rw [if_pos h2]
        unfold dpF
        rw [if_neg (by omega)]
      · rw [if_neg h2]
  | D + 1, i, hD, hi, I', hF, hG2 => by
    refine s_X1_displace_7 ?_
    rw [hG2.1, gi_le (by omega) (by omega) (by omega) (by omega), gi_sub, show (R : Int) - 1 = ((R - 1 : Nat) : Int) by omega]
    refine ⟨fun h0 => by omega, fun _ => z_dp_i hR hC hRC hp hp2 hG hM h D i (by omega) hi (z_dp_l hR hC hRC hp hp2 hG hM h D) (R - 1 - q) (R - 1) I' (by omega) (by omega) hF ⟨hG2.1, hG2.2.1, hG2.2.2.1, fun a b ha hb => ?_⟩⟩
    rw [hG2.2.2.2 a b ha hb]
    dsimp only
    congr 1
    by_cases h1 : b < R ∧ i < a
    · rw [if_pos h1, if_pos ⟨h1.1, Or.inl h1.2⟩]
    · rw [if_neg h1, if_neg (by omega)]
theorem z_dp {q : Nat} (hR : R ≤ 7) (hC : C ≤ 14) (hRC : R ≤ C) (hq : q ≤ R) (hR0 : 1 ≤ R) (hp : 1 ≤ p) (hp2 : p ≤ 31) (hG : Gr I n R C p M) (hM : Rg p M)
    (h : ∀ I', Fc n I I' → Gr I' n R C p (fun a b => if b < R then dpF p q M a b else M a b) → Q (.inl .null) I' J B) : gC E 17 [.inr (17, n, 0), .inl (.int (gi q))] I J B Q X := by
  refine e_X1_displace ?_
  rw [hG.1, gi_sub, show (R : Int) - 1 = ((R - 1 : Nat) : Int) by omega]
  by_cases hq2 : q = R
  · refine s_X1_displace_7 ?_
    rw [gi_le (by omega) (by omega) (by omega) (by omega)]
    refine ⟨fun _ => h I Fc.rf ⟨hG.1, hG.2.1, hG.2.2.1, fun a b ha hb => ?_⟩, fun h0 => by omega⟩
    rw [hG.2.2.2 a b ha hb]
    dsimp only
    congr 1
    split
    · unfold dpF
      rw [if_neg (by omega)]
    · rfl
  · refine z_dp_l hR hC hRC hp hp2 hG hM h (R - 1 - q) (R - 1) (by omega) (by omega) I Fc.rf ⟨hG.1, hG.2.1, hG.2.2.1, fun a b ha hb => ?_⟩
    rw [hG.2.2.2 a b ha hb]
    dsimp only
    rw [if_neg (by omega)]
end ZO
