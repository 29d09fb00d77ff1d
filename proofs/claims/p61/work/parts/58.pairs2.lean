section ZQ
variable {E : gEn} {Q : gQt} {X : gXt} {I : gI} {J : gJ} {B : gB} {c w : Nat} {n R C : Nat} {p : Int} {q : Nat}
theorem z_sub_i {D : gMx} {l r : Nat → Int} {t : Nat} (hR : R ≤ 7) (hC : C ≤ 14) (hRC : R ≤ C) (hp : 1 ≤ p) (hp2 : p ≤ 31) (hD : Rg p D) (hl : ∀ a, 0 ≤ l a ∧ l a < p) (hr : ∀ a, 0 ≤ r a ∧ r a < p) (ht : t < 7)
    (h17 : I 17 0 0 1 = gi R ∧ I 17 0 0 2 = gi C ∧ I 17 0 0 3 = gi p) (hL : ∀ k, q ≤ k → k < R → I 22 0 t k = gi (l k) ∧ I 24 0 t k = gi (r k))
    (h : ∀ I', Fc 0 I I' → (∀ a b, q ≤ a → a < R → q ≤ b → b < R → I' 19 0 a b = gi ((D a b - l a * r b) % p)) → Q (.inl .null) I' J B) (A a : Nat) (hA : a + A + 1 = R) (hqa : q ≤ a)
    (nx : ∀ (a : Nat) (I' : gI), a + A = R → q ≤ a → Fc 0 I I' → (∀ x y, q ≤ x → x < R → q ≤ y → y < R → I' 19 0 x y = gi (if x < a then (D x y - l x * r y) % p else D x y)) →
      gG E 43 13 [(0, .inr (20, 0, 0)), (1, .inr (17, 0, 0)), (2, .inl (.int (gi q))), (3, .inl (.int (gi t))), (4, .inl (.int (gi R))), (5, .inl (.int (gi a)))] [] I' J B c w Q X) :
    ∀ (d b : Nat) (I' : gI), b + d = R → q ≤ b → Fc 0 I I' → (∀ x y, q ≤ x → x < R → q ≤ y → y < R → I' 19 0 x y = gi (if x < a ∨ (x = a ∧ y < b) then (D x y - l x * r y) % p else D x y)) →
      gG E 43 27 [(0, .inr (20, 0, 0)), (1, .inr (17, 0, 0)), (2, .inl (.int (gi q))), (3, .inl (.int (gi t))), (4, .inl (.int (gi R))), (5, .inl (.int (gi a))), (6, .inl (.int (gi b)))] [] I' J B c w Q X
  | 0, b, I', hb, hqb, hF, hI => by
    refine s_X5_subtract_27 ?_
    rw [gi_le (by omega) (by omega) (by omega) (by omega), gi_add]
    refine ⟨fun _ => nx (a + 1) I' (by omega) (by omega) hF fun x y h1 h2 h3 h4 => ?_, fun h0 => by omega⟩
    rw [hI x y h1 h2 h3 h4]
    congr 1
    by_cases h5 : x < a ∨ (x = a ∧ y < b)
    · rw [if_pos h5, if_pos (by omega)]
    · rw [if_neg h5, if_neg (by omega)]
  | d + 1, b, I', hb, hqb, hF, hI => by
    have e17 : ∀ k, I' 17 0 0 k = I 17 0 0 k := fun k => hF 17 0 0 k (fun h => absurd h.1 (by decide))
    have e22 : ∀ x y, I' 22 0 x y = I 22 0 x y := fun x y => hF 22 0 x y (fun h => absurd h.1 (by decide))
    have e24 : ∀ x y, I' 24 0 x y = I 24 0 x y := fun x y => hF 24 0 x y (fun h => absurd h.1 (by decide))
    have m1 := hD a b
    have m2 := hl a
    have m3 := hr b
    have mu := mulb (x := l a) (y := r b) m2.1 (by omega) m3.1 (by omega)
    refine s_X5_subtract_27 ?_
    rw [gi_le (by omega) (by omega) (by omega) (by omega)]
    refine ⟨fun h0 => by omega, fun _ => z_atq (i := a) (j := b) ⟨(e17 _).trans h17.1, (e17 _).trans h17.2.1⟩ ((hI a b hqa (by omega) hqb (by omega)).trans (by rw [if_neg (by omega)])) hR hC (by omega) (by omega) ⟨gvp (by omega) (by omega) (by decide), gvp (by omega) (by omega) (by decide), gvp (by omega) (by omega) (by decide), gvp (by omega) (by omega) (by decide), ?_⟩⟩
    rw [gi_c (by omega) (by omega), gtn, gi_c (by omega) (by omega), gtn, gi_c (by omega) (by omega), gtn, e22, e24, (hL a hqa (by omega)).1, (hL b hqb (by omega)).2, gi_mul, gi_sub]
    refine z_putq (i := a) (j := b) ⟨(e17 _).trans h17.1, (e17 _).trans h17.2.1, (e17 _).trans h17.2.2⟩ hR hC (by omega) (by omega) hp hp2 (by omega) (by omega) ?_
    rw [gi_add]
    refine z_sub_i hR hC hRC hp hp2 hD hl hr ht h17 hL h A a hA hqa nx d (b + 1) _ (by omega) (by omega) hF.up fun x y h1 h2 h3 h4 => ?_
    rw [gU19]
    by_cases h5 : x = a ∧ y = b
    · rw [if_pos h5, h5.1, h5.2, if_pos (by omega)]
    · rw [if_neg h5, hI x y h1 h2 h3 h4]
      congr 1
      by_cases h6 : x < a ∨ (x = a ∧ y < b)
      · rw [if_pos h6, if_pos (by omega)]
      · rw [if_neg h6, if_neg (by omega)]
theorem z_sub_l {D : gMx} {l r : Nat → Int} {t : Nat} (hR : R ≤ 7) (hC : C ≤ 14) (hRC : R ≤ C) (hp : 1 ≤ p) (hp2 : p ≤ 31) (hD : Rg p D) (hl : ∀ a, 0 ≤ l a ∧ l a < p) (hr : ∀ a, 0 ≤ r a ∧ r a < p) (ht : t < 7)
    (h17 : I 17 0 0 1 = gi R ∧ I 17 0 0 2 = gi C ∧ I 17 0 0 3 = gi p) (hL : ∀ k, q ≤ k → k < R → I 22 0 t k = gi (l k) ∧ I 24 0 t k = gi (r k))
    (h : ∀ I', Fc 0 I I' → (∀ a b, q ≤ a → a < R → q ≤ b → b < R → I' 19 0 a b = gi ((D a b - l a * r b) % p)) → Q (.inl .null) I' J B) :
    ∀ (A a : Nat) (I' : gI), a + A = R → q ≤ a → Fc 0 I I' → (∀ x y, q ≤ x → x < R → q ≤ y → y < R → I' 19 0 x y = gi (if x < a then (D x y - l x * r y) % p else D x y)) →
      gG E 43 13 [(0, .inr (20, 0, 0)), (1, .inr (17, 0, 0)), (2, .inl (.int (gi q))), (3, .inl (.int (gi t))), (4, .inl (.int (gi R))), (5, .inl (.int (gi a)))] [] I' J B c w Q X
  | 0, a, I', ha, hqa, hF, hI => by
    refine s_X5_subtract_13 ?_
    rw [gi_le (by omega) (by omega) (by omega) (by omega)]
    refine ⟨fun _ => h I' hF fun x y h1 h2 h3 h4 => ?_, fun h0 => by omega⟩
    rw [hI x y h1 h2 h3 h4, if_pos (by omega)]
  | A + 1, a, I', ha, hqa, hF, hI => by
    refine s_X5_subtract_13 ?_
    rw [gi_le (by omega) (by omega) (by omega) (by omega)]
    refine ⟨fun h0 => by omega, fun _ => z_max (by decide) (by decide) (by omega) (by omega) ?_⟩
    show gG _ _ _ _ _ _ _ _ _ _ _ _
    rw [show max 0 (q : Int) = q by omega]
    refine z_sub_i hR hC hRC hp hp2 hD hl hr ht h17 hL h A a (by omega) hqa (z_sub_l hR hC hRC hp hp2 hD hl hr ht h17 hL h A) (R - q) q I' (by omega) (Nat.le_refl q) hF fun x y h1 h2 h3 h4 => ?_
    rw [hI x y h1 h2 h3 h4]
    congr 1
    by_cases h6 : x < a
    · rw [if_pos h6, if_pos (Or.inl h6)]
    · rw [if_neg h6, if_neg (by omega)]
theorem z_sub {D : gMx} {l r : Nat → Int} {t : Nat} (hR : R ≤ 7) (hC : C ≤ 14) (hRC : R ≤ C) (hq : q ≤ R) (hp : 1 ≤ p) (hp2 : p ≤ 31) (hD : Rg p D) (hl : ∀ a, 0 ≤ l a ∧ l a < p) (hr : ∀ a, 0 ≤ r a ∧ r a < p) (ht : t < 7)
    (h17 : I 17 0 0 1 = gi R ∧ I 17 0 0 2 = gi C ∧ I 17 0 0 3 = gi p) (hI : ∀ a b, q ≤ a → a < R → q ≤ b → b < R → I 19 0 a b = gi (D a b)) (hL : ∀ k, q ≤ k → k < R → I 22 0 t k = gi (l k) ∧ I 24 0 t k = gi (r k))
    (h : ∀ I', Fc 0 I I' → (∀ a b, q ≤ a → a < R → q ≤ b → b < R → I' 19 0 a b = gi ((D a b - l a * r b) % p)) → Q (.inl .null) I' J B) :
    gC E 43 [.inr (20, 0, 0), .inr (17, 0, 0), .inl (.int (gi q)), .inl (.int (gi t))] I J B Q X := by
  refine e_X5_subtract (e_X1_height ?_)
  show gC _ _ _ _ _ _ _ _
  refine z_max (by decide) (by decide) (by omega) (by omega) ?_
  show gG _ _ _ _ _ _ _ _ _ _ _ _
  rw [show max 0 (q : Int) = q by omega, h17.1]
  refine z_sub_l hR hC hRC hp hp2 hD hl hr ht h17 hL h (R - q) q I (by omega) (Nat.le_refl q) Fc.rf fun x y h1 h2 h3 h4 => ?_
  rw [if_neg (by omega)]
  exact hI x y h1 h2 h3 h4
/-- all that is known of the pairs while they are found -/
def Pok (p : Int) (S : gPs) : Prop := Rg p S.2.1
theorem Fc.toP {I I' : gI} (h : Fc 0 I I') : FP I I' := fun a b c d h1 _ _ => h a b c d h1
theorem z_pf_i {S0 : gPs} (hR : R ≤ 7) (hC : C ≤ 14) (hRC : R ≤ C) (hp : p ∈ primesL) (h : ∀ I', FP I I' → Pst I' q R C p (paF p q R (R - q) q S0) → Q (.inl (.int (gi ((paF p q R (R - q) q S0).1 : Nat)))) I' J B) (A i : Nat) (hA : i + A + 1 = R) (hqi : q ≤ i)
    (nx : ∀ (i : Nat) (S : gPs) (I' : gI), i + A = R → q ≤ i → Rg p S.2.1 → S.1 + q ≤ i → FP I I' → Pst I' q R C p S → paF p q R A i S = paF p q R (R - q) q S0 →
      gG E 41 15 [(0, .inr (20, 0, 0)), (1, .inr (17, 0, 0)), (2, .inl (.int (gi q))), (3, .inl (.int (gi R))), (4, .inl (.int (gi (S.1 : Nat)))), (5, .inl (.int (gi i)))] [] I' J B c w Q X) :
    ∀ (d j : Nat) (S : gPs) (I' : gI), j + d = R → q ≤ j → Rg p S.2.1 → Prw q i S → FP I I' → Pst I' q R C p S → paF p q R A (i + 1) (prF p i d j S) = paF p q R (R - q) q S0 →
      gG E 41 28 [(0, .inr (20, 0, 0)), (1, .inr (17, 0, 0)), (2, .inl (.int (gi q))), (3, .inl (.int (gi R))), (4, .inl (.int (gi (S.1 : Nat)))), (5, .inl (.int (gi i))), (6, .inl (.int (gi j)))] [] I' J B c w Q X
  | 0, j, S, I', hj, hqj, hM, hw, hF, hP, he => by
    refine s_X5_find_28 ?_
    rw [gi_le (by omega) (by omega) (by omega) (by omega), gi_add]
    exact ⟨fun _ => nx (i + 1) S I' (by omega) (by omega) hM (by have := hw.1; omega) hF hP he, fun h0 => by omega⟩
  | d + 1, j, S, I', hj, hqj, hM, hw, hF, hP, he => by
    have hb := pr_b hp
    have m1 := hM i j
    have hw1 := hw.1
    refine s_X5_find_28 ?_
    rw [gi_le (by omega) (by omega) (by omega) (by omega)]
    refine ⟨fun h0 => by omega, fun _ => z_atq (i := i) (j := j) ⟨hP.1.1, hP.1.2.1⟩ (hP.2.1 i j hqi (by omega) hqj (by omega)) hR hC (by omega) (by omega) ?_⟩
    show (gi _ = gi 0 → _) ∧ (¬ gi _ = gi 0 → _)
    rw [gi_eq (by omega) (by omega) (by decide) (by decide), gi_le (by decide) (by decide) (by omega) (by omega)]
    have he2 : paF p q R A (i + 1) (prF p i d (j + 1) (pkF p S i j)) = paF p q R (R - q) q S0 := he
    refine ⟨fun h0 => ?_, fun h0 => ⟨fun h1 => ?_, fun h1 => ?_⟩⟩
    · rw [gi_add]
      rw [show pkF p S i j = S from if_pos h0] at he2
      exact z_pf_i hR hC hRC hp h A i hA hqi nx d (j + 1) S I' (by omega) (by omega) hM hw hF hP he2
    · exfalso
      have : ¬ S.1 + q = i + 1 := fun e => h0 (hw.2 e j)
      omega
    · have hpk : pkF p S i j = (S.1 + 1, (fun a b => (S.2.1 a b - (S.2.1 a j * inv p (S.2.1 i j)) % p * S.2.1 i b) % p), (fun q k => if q = S.1 then (S.2.1 k j * inv p (S.2.1 i j)) % p else S.2.2.1 q k), (fun q k => if q = S.1 then S.2.1 i k else S.2.2.2 q k)) := if_neg h0
      refine z_keep hR hC hRC (by omega) (by omega) hM ⟨hqi, by omega⟩ ⟨hqj, by omega⟩ (by omega) hP fun I2 f2 g1 g2 g3 => ?_
      refine z_sub (D := S.2.1) (l := fun a => (S.2.1 a j * inv p (S.2.1 i j)) % p) (r := fun k => S.2.1 i k) hR hC hRC (by omega) (by omega) (by omega) hM (fun a => ⟨Int.emod_nonneg _ (by omega), Int.emod_lt_of_pos _ (by omega)⟩) (fun a => hM i a) (by omega) g1 g2 (fun k h2 h3 => ?_) fun I3 f3 g4 => ?_
      · have := g3 S.1 k (by omega) h2 h3
        rw [if_pos rfl, if_pos rfl] at this
        exact this
      · rw [gi_add, gi_add]
        have e17 : ∀ k, I3 17 0 0 k = I2 17 0 0 k := fun k => f3 17 0 0 k (fun h => absurd h.1 (by decide))
        have hh := z_pf_i hR hC hRC hp h A i hA hqi nx d (j + 1) (pkF p S i j) I3 (by omega) (by omega) (pk_rg (by omega) hM) (pk_row hp hM hw) (hF.tr (f2.tr f3.toP))
        rw [hpk] at hh
        refine hh ⟨⟨(e17 _).trans g1.1, (e17 _).trans g1.2.1, (e17 _).trans g1.2.2⟩, g4, fun a k h2 h3 h4 => ?_⟩ (by rw [← hpk]; exact he2)
        have := g3 a k h2 h3 h4
        rw [← f3 22 0 a k (fun h => absurd h.1 (by decide)), ← f3 24 0 a k (fun h => absurd h.1 (by decide))] at this
        exact this
theorem z_pf_l {S0 : gPs} (hR : R ≤ 7) (hC : C ≤ 14) (hRC : R ≤ C) (hp : p ∈ primesL) (h : ∀ I', FP I I' → Pst I' q R C p (paF p q R (R - q) q S0) → Q (.inl (.int (gi ((paF p q R (R - q) q S0).1 : Nat)))) I' J B) :
    ∀ (A i : Nat) (S : gPs) (I' : gI), i + A = R → q ≤ i → Rg p S.2.1 → S.1 + q ≤ i → FP I I' → Pst I' q R C p S → paF p q R A i S = paF p q R (R - q) q S0 →
      gG E 41 15 [(0, .inr (20, 0, 0)), (1, .inr (17, 0, 0)), (2, .inl (.int (gi q))), (3, .inl (.int (gi R))), (4, .inl (.int (gi (S.1 : Nat)))), (5, .inl (.int (gi i)))] [] I' J B c w Q X
  | 0, i, S, I', hi, hqi, hM, hw, hF, hP, he => by
    refine s_X5_find_15 ?_
    rw [gi_le (by omega) (by omega) (by omega) (by omega)]
    have he2 : S = paF p q R (R - q) q S0 := he
    rw [← he2] at h
    exact ⟨fun _ => h I' hF hP, fun h0 => by omega⟩
  | A + 1, i, S, I', hi, hqi, hM, hw, hF, hP, he => by
    refine s_X5_find_15 ?_
    rw [gi_le (by omega) (by omega) (by omega) (by omega)]
    refine ⟨fun h0 => by omega, fun _ => z_max (by decide) (by decide) (by omega) (by omega) ?_⟩
    show gG _ _ _ _ _ _ _ _ _ _ _ _
    rw [show max 0 (q : Int) = q by omega]
    exact z_pf_i hR hC hRC hp h A i (by omega) hqi (z_pf_l hR hC hRC hp h A) (R - q) q S I' (by omega) (Nat.le_refl q) hM ⟨by omega, fun h => by omega⟩ hF hP he
theorem z_pf {S0 : gPs} (hR : R ≤ 7) (hC : C ≤ 14) (hRC : R ≤ C) (hq : q ≤ R) (hp : p ∈ primesL) (h0 : S0.1 = 0) (hM : Rg p S0.2.1) (hP : Pst I q R C p S0) (h : ∀ I', FP I I' → Pst I' q R C p (paF p q R (R - q) q S0) → Q (.inl (.int (gi ((paF p q R (R - q) q S0).1 : Nat)))) I' J B) :
    gC E 41 [.inr (20, 0, 0), .inr (17, 0, 0), .inl (.int (gi q))] I J B Q X := by
  refine e_X5_find (e_X1_height ?_)
  show gC _ _ _ _ _ _ _ _
  refine z_max (by decide) (by decide) (by omega) (by omega) ?_
  show gG _ _ _ _ _ _ _ _ _ _ _ _
  rw [show max 0 (q : Int) = q by omega, hP.1.1]
  have hh := z_pf_l (E := E) (X := X) (c := 0) (w := 0) hR hC hRC hp h (R - q) q S0 I (by omega) (Nat.le_refl q) hM (by omega) FP.rf hP rfl
  rw [h0] at hh
  exact hh
end ZQ
