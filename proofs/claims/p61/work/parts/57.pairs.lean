/-- found pairs, rest, left and right parts -/
abbrev gPs : Type := Nat × gMx × gMx × gMx
def pkF (p : Int) (S : gPs) (i j : Nat) : gPs := if S.2.1 i j = 0 then S else
  (S.1 + 1, (fun a b => (S.2.1 a b - (S.2.1 a j * inv p (S.2.1 i j)) % p * S.2.1 i b) % p), (fun q k => if q = S.1 then (S.2.1 k j * inv p (S.2.1 i j)) % p else S.2.2.1 q k), (fun q k => if q = S.1 then S.2.1 i k else S.2.2.2 q k))
def prF (p : Int) (i : Nat) : Nat → Nat → gPs → gPs
  | 0, _, S => S
  | d + 1, j, S => prF p i d (j + 1) (pkF p S i j)
def paF (p : Int) (q R : Nat) : Nat → Nat → gPs → gPs
  | 0, _, S => S
  | d + 1, i, S => paF p q R d (i + 1) (prF p i (R - q) q S)
theorem pk_rg {p : Int} {S : gPs} {i j : Nat} (hp : 1 ≤ p) (h : Rg p S.2.1) : Rg p (pkF p S i j).2.1 := by
  unfold pkF
  split
  · exact h
  · exact fun a b => ⟨Int.emod_nonneg _ (by omega), Int.emod_lt_of_pos _ (by omega)⟩
/-- within a row: how many are found, and when one more is found the row is empty -/
def Prw (q : Nat) (i : Nat) (S : gPs) : Prop := S.1 + q ≤ i + 1 ∧ (S.1 + q = i + 1 → ∀ b, S.2.1 i b = 0)
theorem pk_row {p : Int} {S : gPs} {q i j : Nat} (hp : p ∈ primesL) (h : Rg p S.2.1) (hw : Prw q i S) : Prw q i (pkF p S i j) := by
  unfold pkF
  split
  · exact hw
  · rename_i h0
    have hl : S.1 + q ≤ i := by
      apply Classical.byContradiction
      intro hn
      exact h0 (hw.2 (by have := hw.1; omega) j)
    refine ⟨by show S.1 + 1 + q ≤ i + 1; omega, fun _ b => ?_⟩
    have hb := pr_b hp
    have hm := h i j
    have hi := pr_inv p hp (S.2.1 i j) (by omega) hm.2
    show (S.2.1 i b - (S.2.1 i j * inv p (S.2.1 i j)) % p * S.2.1 i b) % p = 0
    rw [Int.mul_comm (S.2.1 i j), hi.1, Int.one_mul, Int.sub_self]
    rfl
section ZP
variable {E : gEn} {Q : gQt} {X : gXt} {I : gI} {J : gJ} {B : gB} {c w : Nat} {n R C : Nat} {p : Int} {M : gMx} {q : Nat}
/-- what the finder of pairs writes -/
def FP (I I' : gI) : Prop := ∀ a b c d, ¬ (a = 19 ∧ b = 0) → a ≠ 22 → a ≠ 24 → I' a b c d = I a b c d
theorem FP.rf {I : gI} : FP I I := fun _ _ _ _ _ _ _ => rfl
theorem FP.tr {I I' I2 : gI} (h : FP I I') (h2 : FP I' I2) : FP I I2 := fun a b c d h3 h4 h5 => (h2 a b c d h3 h4 h5).trans (h a b c d h3 h4 h5)
/-- the grid and the pairs, on the rows and columns from q to R -/
def Pst (I : gI) (q R C : Nat) (p : Int) (S : gPs) : Prop := (I 17 0 0 1 = gi R ∧ I 17 0 0 2 = gi C ∧ I 17 0 0 3 = gi p) ∧ (∀ i j, q ≤ i → i < R → q ≤ j → j < R → I 19 0 i j = gi (S.2.1 i j)) ∧
  ∀ a k, a < S.1 → q ≤ k → k < R → I 22 0 a k = gi (S.2.2.1 a k) ∧ I 24 0 a k = gi (S.2.2.2 a k)
theorem z_atq {i j : Nat} {x : Int} (hF : I 17 n 0 1 = gi R ∧ I 17 n 0 2 = gi C) (hx : I 19 n i j = gi x) (hR : R ≤ 7) (hC : C ≤ 14) (hi : i < R) (hj : j < C) (h : Q (.inl (.int (gi x))) I J B) : gC E 8 [.inr (17, n, 0), .inl (.int (gi i)), .inl (.int (gi j))] I J B Q X := by
  refine e_X1_at ?_
  rw [hF.1, hF.2, gi_lt (by omega) (by omega) (by decide) (by decide), gi_le (by omega) (by omega) (by omega) (by omega), gi_lt (by omega) (by omega) (by decide) (by decide), gi_le (by omega) (by omega) (by omega) (by omega), gi_c (by omega) (by omega), gtn, gi_c (by omega) (by omega), gtn, hx]
  exact ⟨fun h0 => by omega, fun _ => ⟨fun h0 => by omega, fun _ => ⟨fun h0 => by omega, fun _ => ⟨fun h0 => by omega, fun _ => ⟨gvp (by omega) (by omega) (by decide), gvp (by omega) (by omega) (by decide), h⟩⟩⟩⟩⟩
theorem z_putq {i j : Nat} {x : Int} (hF : I 17 n 0 1 = gi R ∧ I 17 n 0 2 = gi C ∧ I 17 n 0 3 = gi p) (hR : R ≤ 7) (hC : C ≤ 14) (hi : i < R) (hj : j < C) (hp : 1 ≤ p) (hp2 : p ≤ 31) (h1 : -2147483648 ≤ x) (h2 : x < 2147483648) (h : Q (.inl .null) (gUI I 19 n i j (gi (x % p))) J B) : gC E 9 [.inr (17, n, 0), .inl (.int (gi i)), .inl (.int (gi j)), .inl (.int (gi x))] I J B Q X := by
  refine e_X1_put ?_
  rw [hF.1, hF.2.1, hF.2.2, gi_lt (by omega) (by omega) (by decide) (by decide), gi_le (by omega) (by omega) (by omega) (by omega), gi_lt (by omega) (by omega) (by decide) (by decide), gi_le (by omega) (by omega) (by omega) (by omega), gi_c (by omega) (by omega), gtn, gi_c (by omega) (by omega), gtn]
  exact ⟨fun h0 => by omega, fun _ => ⟨fun h0 => by omega, fun _ => ⟨fun h0 => by omega, fun _ => ⟨fun h0 => by omega, fun _ => ⟨gvp (by omega) (by omega) (by decide), z_red h1 h2 hp (by omega) ⟨gvp (by omega) (by omega) (by decide), h⟩⟩⟩⟩⟩⟩
theorem z_keep_l {S : gPs} {i j : Nat} (hR : R ≤ 7) (hC : C ≤ 14) (hRC : R ≤ C) (hp : 1 ≤ p) (hp2 : p ≤ 31) (hM : Rg p S.2.1) (hi : q ≤ i ∧ i < R) (hj : q ≤ j ∧ j < R) (hS : S.1 < 7)
    (h : ∀ I', FP I I' → (I' 17 0 0 1 = gi R ∧ I' 17 0 0 2 = gi C ∧ I' 17 0 0 3 = gi p) → (∀ a b, q ≤ a → a < R → q ≤ b → b < R → I' 19 0 a b = gi (S.2.1 a b)) → (∀ a k, a < S.1 + 1 → q ≤ k → k < R → I' 22 0 a k = gi (if a = S.1 then (S.2.1 k j * inv p (S.2.1 i j)) % p else S.2.2.1 a k) ∧ I' 24 0 a k = gi (if a = S.1 then S.2.1 i k else S.2.2.2 a k)) → Q (.inl .null) I' J B) :
    ∀ (d k : Nat) (I' : gI), k + d = R → q ≤ k → FP I I' → Pst I' q R C p S → (∀ b, q ≤ b → b < k → I' 22 0 S.1 b = gi ((S.2.1 b j * inv p (S.2.1 i j)) % p) ∧ I' 24 0 S.1 b = gi (S.2.1 i b)) →
      gG E 42 21 [(0, .inr (20, 0, 0)), (1, .inr (17, 0, 0)), (3, .inl (.int (gi S.1))), (4, .inl (.int (gi i))), (5, .inl (.int (gi j))), (6, .inl (.int (gi (inv p (S.2.1 i j))))), (7, .inl (.int (gi k)))] [] I' J B c w Q X
  | 0, k, I', hk, hqk, hF, hP, hb => by
    refine s_X5_keep_21 (e_X1_height ?_)
    show (_ → _) ∧ (_ → _)
    rw [hP.1.1, gi_le (by omega) (by omega) (by omega) (by omega)]
    refine ⟨fun _ => h I' hF hP.1 hP.2.1 fun a b ha hb1 hb2 => ?_, fun h0 => by omega⟩
    by_cases h1 : a = S.1
    · rw [if_pos h1, if_pos h1, h1]
      exact hb b hb1 (by omega)
    · rw [if_neg h1, if_neg h1]
      exact hP.2.2 a b (by omega) hb1 hb2
  | d + 1, k, I', hk, hqk, hF, hP, hb => by
    have m1 := hM k j
    have m2 := hM i k
    have m3 := inv_b (p := p) (v := S.2.1 i j) hp
    have mu := mulb (x := S.2.1 k j) (y := inv p (S.2.1 i j)) m1.1 (by omega) m3.1 (by omega)
    refine s_X5_keep_21 (e_X1_height ?_)
    show (_ → _) ∧ (_ → _)
    rw [hP.1.1, gi_le (by omega) (by omega) (by omega) (by omega)]
    refine ⟨fun h0 => by omega, fun _ => ⟨gvp (by omega) (by omega) (by decide), z_atq (i := k) (j := j) ⟨hP.1.1, hP.1.2.1⟩ (hP.2.1 k j hqk (by omega) hj.1 hj.2) hR hC (by omega) (by omega) ?_⟩⟩
    show gC _ _ _ _ _ _ _ _
    rw [hP.1.2.2, gi_mul]
    refine z_red (by omega) (by omega) hp (by omega) ⟨gvp (by omega) (by omega) (by decide), gvp (by omega) (by omega) (by decide), ?_⟩
    rw [gi_c (by omega) (by omega), gtn, gi_c (by omega) (by omega), gtn]
    have e17 : ∀ (a : Nat) (x : Int32), (gUI I' 22 0 S.1 k x) 17 0 0 a = I' 17 0 0 a := fun a x => if_neg (fun h => absurd h.1 (by decide))
    refine z_atq (i := i) (j := k) ⟨(e17 _ _).trans hP.1.1, (e17 _ _).trans hP.1.2.1⟩ (x := S.2.1 i k) ?_ hR hC hi.2 (by omega) ⟨gvp (by omega) (by omega) (by decide), ?_⟩
    · rw [gUI_at, if_neg (fun h => absurd h.1 (by decide))]
      exact hP.2.1 i k hi.1 hi.2 hqk (by omega)
    · rw [gi_add]
      refine z_keep_l hR hC hRC hp hp2 hM hi hj hS h d (k + 1) _ (by omega) (by omega) ?_ ?_ ?_
      · intro a b c d h1 h2 h3
        rw [gUI_at, if_neg (fun h => h3 h.1), gUI_at, if_neg (fun h => h2 h.1)]
        exact hF a b c d h1 h2 h3
      · refine ⟨⟨?_, ?_, ?_⟩, fun a b h1 h2 h3 h4 => ?_, fun a b h1 h2 h3 => ?_⟩
        · rw [gUI_at, if_neg (fun h => absurd h.1 (by decide)), gUI_at, if_neg (fun h => absurd h.1 (by decide))]
          exact hP.1.1
        · rw [gUI_at, if_neg (fun h => absurd h.1 (by decide)), gUI_at, if_neg (fun h => absurd h.1 (by decide))]
          exact hP.1.2.1
        · rw [gUI_at, if_neg (fun h => absurd h.1 (by decide)), gUI_at, if_neg (fun h => absurd h.1 (by decide))]
          exact hP.1.2.2
        · rw [gUI_at, if_neg (fun h => absurd h.1 (by decide)), gUI_at, if_neg (fun h => absurd h.1 (by decide))]
          exact hP.2.1 a b h1 h2 h3 h4
        · refine ⟨?_, ?_⟩
          · rw [gUI_at, if_neg (fun h => absurd h.1 (by decide)), gUI_at, if_neg (fun h => by omega)]
            exact (hP.2.2 a b h1 h2 h3).1
          · rw [gUI_at, if_neg (fun h => by omega), gUI_at, if_neg (fun h => absurd h.1 (by decide))]
            exact (hP.2.2 a b h1 h2 h3).2
      · intro b h1 h2
        by_cases hbk : b = k
        · subst hbk
          refine ⟨?_, ?_⟩
          · rw [gUI_at, if_neg (fun h => absurd h.1 (by decide)), gUI_at, if_pos ⟨rfl, rfl, rfl, rfl⟩]
          · rw [gUI_at, if_pos ⟨rfl, rfl, rfl, rfl⟩]
        · refine ⟨?_, ?_⟩
          · rw [gUI_at, if_neg (fun h => absurd h.1 (by decide)), gUI_at, if_neg (fun h => hbk h.2.2.2)]
            exact (hb b h1 (by omega)).1
          · rw [gUI_at, if_neg (fun h => hbk h.2.2.2), gUI_at, if_neg (fun h => absurd h.1 (by decide))]
            exact (hb b h1 (by omega)).2
theorem z_keep {S : gPs} {i j : Nat} (hR : R ≤ 7) (hC : C ≤ 14) (hRC : R ≤ C) (hp : 1 ≤ p) (hp2 : p ≤ 31) (hM : Rg p S.2.1) (hi : q ≤ i ∧ i < R) (hj : q ≤ j ∧ j < R) (hS : S.1 < 7) (hP : Pst I q R C p S)
    (h : ∀ I', FP I I' → (I' 17 0 0 1 = gi R ∧ I' 17 0 0 2 = gi C ∧ I' 17 0 0 3 = gi p) → (∀ a b, q ≤ a → a < R → q ≤ b → b < R → I' 19 0 a b = gi (S.2.1 a b)) → (∀ a k, a < S.1 + 1 → q ≤ k → k < R → I' 22 0 a k = gi (if a = S.1 then (S.2.1 k j * inv p (S.2.1 i j)) % p else S.2.2.1 a k) ∧ I' 24 0 a k = gi (if a = S.1 then S.2.1 i k else S.2.2.2 a k)) → Q (.inl .null) I' J B) :
    gC E 42 [.inr (20, 0, 0), .inr (17, 0, 0), .inl (.int (gi q)), .inl (.int (gi S.1)), .inl (.int (gi i)), .inl (.int (gi j))] I J B Q X := by
  have m1 := hM i j
  refine e_X5_keep (z_atq (i := i) (j := j) ⟨hP.1.1, hP.1.2.1⟩ (hP.2.1 i j hi.1 hi.2 hj.1 hj.2) hR hC hi.2 (by omega) ?_)
  show gC _ _ _ _ _ _ _ _
  refine z_inv hP.1.2.2 hp hp2 m1.1 m1.2 ?_
  show gC _ _ _ _ _ _ _ _
  refine z_max (by decide) (by decide) (by omega) (by omega) ?_
  show gG _ _ _ _ _ _ _ _ _ _ _ _
  rw [show max 0 (q : Int) = q by omega]
  exact z_keep_l hR hC hRC hp hp2 hM hi hj hS h (R - q) q I (by omega) (Nat.le_refl q) FP.rf hP (fun b h1 h2 => by omega)
end ZP
