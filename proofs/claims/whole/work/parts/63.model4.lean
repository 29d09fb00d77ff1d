section ZV
variable {E : gEn} {Q : gQt} {X : gXt} {I : gI} {J : gJ} {B : gB} {c w : Nat} {p : Int} {f : Nat → Int} {q n : Nat}
/-- the pairs that the model has laid -/
def Mpr (I : gI) (q n : Nat) (S : gPs) : Prop := Shi I q n S.2.1 ∧ ∀ a k, a < S.1 → q ≤ k → k < n → I 42 0 0 (49 * a + k) = gi (S.2.2.1 a k) ∧ I 43 0 0 (49 * a + k) = gi (S.2.2.2 a k)
def F3 (I I' : gI) : Prop := ∀ a b c d, a ≠ 41 → a ≠ 42 → a ≠ 43 → I' a b c d = I a b c d
theorem F3.rf {I : gI} : F3 I I := fun _ _ _ _ _ _ _ => rfl
theorem F3.tr {I I' I2 : gI} (h : F3 I I') (h2 : F3 I' I2) : F3 I I2 := fun a b c d h3 h4 h5 => (h2 a b c d h3 h4 h5).trans (h a b c d h3 h4 h5)
theorem F41.to3 {I I' : gI} (h : F41 I I') : F3 I I' := fun a b c d h1 _ _ => h a b c d h1
theorem F3.toD {I I' : gI} (h : F3 I I') : Fpd I I' := fun a b c d _ h1 h2 h3 _ => h a b c d h1 h2 h3
theorem z_pe_i {D : gMx} {l r : Nat → Int} {t : Nat} (hn : n ≤ 7) (hM0 : I 32 0 0 0 = gi n) (hp1 : 1 ≤ p) (hp2 : p ≤ 31) (hD : Rg p D) (hl : ∀ a, 0 ≤ l a ∧ l a < p) (hr : ∀ a, 0 ≤ r a ∧ r a < p) (ht : t < 7) (hp : I 31 0 0 21 = gi p)
    (hL : ∀ k, q ≤ k → k < n → I 42 0 0 (49 * t + k) = gi (l k) ∧ I 43 0 0 (49 * t + k) = gi (r k)) (h : ∀ I', F41 I I' → Shi I' q n (fun a b => (D a b - l a * r b) % p) → Q (.inl .null) I' J B) (A a : Nat) (hA : a + A + 1 = n) (hqa : q ≤ a)
    (nx : ∀ (a : Nat) (I' : gI), a + A = n → q ≤ a → F41 I I' → (∀ x y, q ≤ x → x < n → q ≤ y → y < n → I' 41 0 0 (7 * x + y) = gi (if x < a then (D x y - l x * r y) % p else D x y)) →
      gG E 196 98 [(0, .inr (31, 0, 0)), (1, .inl (.int (gi q))), (4, .inl (.int (gi t))), (6, .inl (.int (gi a)))] [] I' J B c w Q X) :
    ∀ (d b : Nat) (I' : gI), b + d = n → q ≤ b → F41 I I' → (∀ x y, q ≤ x → x < n → q ≤ y → y < n → I' 41 0 0 (7 * x + y) = gi (if x < a ∨ (x = a ∧ y < b) then (D x y - l x * r y) % p else D x y)) →
      gG E 196 112 [(0, .inr (31, 0, 0)), (1, .inl (.int (gi q))), (4, .inl (.int (gi t))), (6, .inl (.int (gi a))), (7, .inl (.int (gi b)))] [] I' J B c w Q X
  | 0, b, I', hb, hqb, hF, hI => by
    refine s_X8_peels_112 ⟨gvp (by decide) (by decide) (by decide), ?_⟩
    rw [(hF 32 0 0 0 (by decide)).trans hM0, gi_le (by omega) (by omega) (by omega) (by omega), gi_add]
    refine ⟨fun _ => nx (a + 1) I' (by omega) (by omega) hF fun x y h1 h2 h3 h4 => ?_, fun h0 => by omega⟩
    rw [hI x y h1 h2 h3 h4]
    congr 1
    by_cases h5 : x < a ∨ (x = a ∧ y < b)
    · rw [if_pos h5, if_pos (by omega)]
    · rw [if_neg h5, if_neg (by omega)]
  | d + 1, b, I', hb, hqb, hF, hI => by
    obtain ⟨a1, a2, a3⟩ := gidx7 (show a < 7 by omega) (show b < 7 by omega)
    obtain ⟨b1, b2, b3⟩ := gidx49 ht (show a < 7 by omega)
    obtain ⟨c1, c2, c3⟩ := gidx49 ht (show b < 7 by omega)
    have m1 := hD a b
    have m2 := hl a
    have m3 := hr b
    have mu := mulb (x := l a) (y := r b) m2.1 (by omega) m3.1 (by omega)
    have hp3 : I' 31 0 0 21 = gi p := (hF 31 0 0 21 (by decide)).trans hp
    refine s_X8_peels_112 ⟨gvp (by decide) (by decide) (by decide), ?_⟩
    rw [(hF 32 0 0 0 (by decide)).trans hM0, gi_le (by omega) (by omega) (by omega) (by omega), a1, b1, c1, a2, b2, c2, hI a b hqa (by omega) hqb (by omega), if_neg (by omega), hF 42 0 0 _ (by decide), hF 43 0 0 _ (by decide), (hL a hqa (by omega)).1, (hL b hqb (by omega)).2, gi_mul, gi_sub]
    refine ⟨fun h0 => by omega, fun _ => ⟨a3, b3, c3, z_modi (by omega) (by omega) hp3 hp1 hp2 ⟨a3, ?_⟩⟩⟩
    rw [gi_add]
    refine z_pe_i hn hM0 hp1 hp2 hD hl hr ht hp hL h A a hA hqa nx d (b + 1) _ (by omega) (by omega) hF.up fun x y h1 h2 h3 h4 => ?_
    rw [gUI_at]
    by_cases h5 : x = a ∧ y = b
    · rw [h5.1, h5.2, if_pos ⟨rfl, rfl, rfl, rfl⟩, if_pos (by omega)]
    · rw [if_neg (fun h => h5 (by omega)), hI x y h1 h2 h3 h4]
      congr 1
      by_cases h6 : x < a ∨ (x = a ∧ y < b)
      · rw [if_pos h6, if_pos (by omega)]
      · rw [if_neg h6, if_neg (by omega)]
theorem z_pe_l {D : gMx} {l r : Nat → Int} {t : Nat} (hn : n ≤ 7) (hM0 : I 32 0 0 0 = gi n) (hp1 : 1 ≤ p) (hp2 : p ≤ 31) (hD : Rg p D) (hl : ∀ a, 0 ≤ l a ∧ l a < p) (hr : ∀ a, 0 ≤ r a ∧ r a < p) (ht : t < 7) (hp : I 31 0 0 21 = gi p)
    (hL : ∀ k, q ≤ k → k < n → I 42 0 0 (49 * t + k) = gi (l k) ∧ I 43 0 0 (49 * t + k) = gi (r k)) (h : ∀ I', F41 I I' → Shi I' q n (fun a b => (D a b - l a * r b) % p) → Q (.inl .null) I' J B) :
    ∀ (A a : Nat) (I' : gI), a + A = n → q ≤ a → F41 I I' → (∀ x y, q ≤ x → x < n → q ≤ y → y < n → I' 41 0 0 (7 * x + y) = gi (if x < a then (D x y - l x * r y) % p else D x y)) →
      gG E 196 98 [(0, .inr (31, 0, 0)), (1, .inl (.int (gi q))), (4, .inl (.int (gi t))), (6, .inl (.int (gi a)))] [] I' J B c w Q X
  | 0, a, I', ha, hqa, hF, hI => by
    refine s_X8_peels_98 ⟨gvp (by decide) (by decide) (by decide), ?_⟩
    rw [(hF 32 0 0 0 (by decide)).trans hM0, gi_le (by omega) (by omega) (by omega) (by omega)]
    refine ⟨fun _ => h I' hF fun x y h1 h2 h3 h4 => ?_, fun h0 => by omega⟩
    rw [hI x y h1 h2 h3 h4, if_pos (by omega)]
  | A + 1, a, I', ha, hqa, hF, hI => by
    refine s_X8_peels_98 ⟨gvp (by decide) (by decide) (by decide), ?_⟩
    rw [(hF 32 0 0 0 (by decide)).trans hM0, gi_le (by omega) (by omega) (by omega) (by omega)]
    refine ⟨fun h0 => by omega, fun _ => z_pe_i hn hM0 hp1 hp2 hD hl hr ht hp hL h A a (by omega) hqa (z_pe_l hn hM0 hp1 hp2 hD hl hr ht hp hL h A) (n - q) q I' (by omega) (Nat.le_refl q) hF fun x y h1 h2 h3 h4 => ?_⟩
    rw [hI x y h1 h2 h3 h4]
    congr 1
    by_cases h6 : x < a
    · rw [if_pos h6, if_pos (Or.inl h6)]
    · rw [if_neg h6, if_neg (by omega)]
theorem z_pk_l {S : gPs} {i j : Nat} (hn : n ≤ 7) (hM0 : I 32 0 0 0 = gi n) (hp1 : 1 ≤ p) (hp2 : p ≤ 31) (hM : Rg p S.2.1) (hi : q ≤ i ∧ i < n) (hj : q ≤ j ∧ j < n) (hS : S.1 < 7) (hp : I 31 0 0 21 = gi p) (h0 : S.2.1 i j ≠ 0)
    (h : ∀ I', F3 I I' → Mpr I' q n (pkF p S i j) → Q (.inl .null) I' J B) :
    ∀ (d k : Nat) (I' : gI), k + d = n → q ≤ k → F3 I I' → Mpr I' q n S → (∀ b, q ≤ b → b < k → I' 42 0 0 (49 * S.1 + b) = gi ((S.2.1 b j * inv p (S.2.1 i j)) % p) ∧ I' 43 0 0 (49 * S.1 + b) = gi (S.2.1 i b)) →
      gG E 196 20 [(0, .inr (31, 0, 0)), (1, .inl (.int (gi q))), (2, .inl (.int (gi i))), (3, .inl (.int (gi j))), (4, .inl (.int (gi S.1))), (5, .inl (.int (gi (inv p (S.2.1 i j))))), (6, .inl (.int (gi k)))] [] I' J B c w Q X
  | 0, k, I', hk, hqk, hF, hP, hb => by
    refine s_X8_peels_20 ⟨gvp (by decide) (by decide) (by decide), ?_⟩
    have hp3 : I' 31 0 0 21 = gi p := (hF 31 0 0 21 (by decide) (by decide) (by decide)).trans hp
    have hM3 : I' 32 0 0 0 = gi n := (hF 32 0 0 0 (by decide) (by decide) (by decide)).trans hM0
    rw [hM3, gi_le (by omega) (by omega) (by omega) (by omega)]
    refine ⟨fun _ => ?_, fun h0 => by omega⟩
    have hpk : pkF p S i j = (S.1 + 1, (fun a b => (S.2.1 a b - (S.2.1 a j * inv p (S.2.1 i j)) % p * S.2.1 i b) % p), (fun q k => if q = S.1 then (S.2.1 k j * inv p (S.2.1 i j)) % p else S.2.2.1 q k), (fun q k => if q = S.1 then S.2.1 i k else S.2.2.2 q k)) := if_neg h0
    refine z_pe_l (I := I') (D := S.2.1) (l := fun a => (S.2.1 a j * inv p (S.2.1 i j)) % p) (r := fun k => S.2.1 i k) hn hM3 hp1 hp2 hM (fun a => ⟨Int.emod_nonneg _ (by omega), Int.emod_lt_of_pos _ (by omega)⟩) (fun a => hM i a) hS hp3 (fun k h2 h3 => hb k h2 (by omega)) (fun I3 f3 g3 => ?_) (n - q) q I' (by omega) (Nat.le_refl q) F41.rf (fun x y h1 h2 h3 h4 => ?_)
    · refine h I3 (hF.tr f3.to3) ?_
      rw [hpk]
      refine ⟨g3, fun a k h1 h2 h3 => ?_⟩
      rw [f3 42 0 0 _ (by decide), f3 43 0 0 _ (by decide)]
      by_cases ha : a = S.1
      · dsimp only
        rw [if_pos ha, if_pos ha, ha]
        exact hb k h2 (by omega)
      · dsimp only
        rw [if_neg ha, if_neg ha]
        have h1 : a < S.1 + 1 := h1
        exact hP.2 a k (by omega) h2 h3
    · rw [hP.1 x y h1 h2 h3 h4, if_neg (by omega)]
  | d + 1, k, I', hk, hqk, hF, hP, hb => by
    obtain ⟨a1, a2, a3⟩ := gidx7 (show k < 7 by omega) (show j < 7 by omega)
    obtain ⟨b1, b2, b3⟩ := gidx49 hS (show k < 7 by omega)
    obtain ⟨c1, c2, c3⟩ := gidx7 (show i < 7 by omega) (show k < 7 by omega)
    have m1 := hM k j
    have m3 := inv_b (p := p) (v := S.2.1 i j) hp1
    have mu := mulb (x := S.2.1 k j) (y := inv p (S.2.1 i j)) m1.1 (by omega) m3.1 (by omega)
    have hp3 : I' 31 0 0 21 = gi p := (hF 31 0 0 21 (by decide) (by decide) (by decide)).trans hp
    have hM3 : I' 32 0 0 0 = gi n := (hF 32 0 0 0 (by decide) (by decide) (by decide)).trans hM0
    refine s_X8_peels_20 ⟨gvp (by decide) (by decide) (by decide), ?_⟩
    rw [hM3, gi_le (by omega) (by omega) (by omega) (by omega), a1, b1, c1, a2, b2, c2, hP.1 k j hqk (by omega) hj.1 hj.2, hP.1 i k hi.1 hi.2 hqk (by omega), hp3, gi_eq (by omega) (by omega) (by decide) (by decide), gi_mul, gi_rem (by omega) (by omega) (by omega) (by omega), Int.tmod_eq_emod_of_nonneg mu.1, gi_add]
    refine ⟨fun h0 => by omega, fun _ => ⟨a3, by omega, b3, c3, b3, z_pk_l hn hM0 hp1 hp2 hM hi hj hS hp h0 h d (k + 1) _ (by omega) (by omega) ?_ ?_ ?_⟩⟩
    · intro a b c d h1 h2 h3
      rw [gUI_at, if_neg (fun h => h3 h.1), gUI_at, if_neg (fun h => h2 h.1)]
      exact hF a b c d h1 h2 h3
    · refine ⟨fun a b h1 h2 h3 h4 => ?_, fun a b h1 h2 h3 => ⟨?_, ?_⟩⟩
      · rw [gUI_at, if_neg (fun h => absurd h.1 (by decide)), gUI_at, if_neg (fun h => absurd h.1 (by decide))]
        exact hP.1 a b h1 h2 h3 h4
      · rw [gUI_at, if_neg (fun h => absurd h.1 (by decide)), gUI_at, if_neg (fun h => by omega)]
        exact (hP.2 a b h1 h2 h3).1
      · rw [gUI_at, if_neg (fun h => by omega), gUI_at, if_neg (fun h => absurd h.1 (by decide))]
        exact (hP.2 a b h1 h2 h3).2
    · intro b h1 h2
      by_cases hbk : b = k
      · subst hbk
        refine ⟨?_, ?_⟩
        · rw [gUI_at, if_neg (fun h => absurd h.1 (by decide)), gUI_at, if_pos ⟨rfl, rfl, rfl, rfl⟩]
        · rw [gUI_at, if_pos ⟨rfl, rfl, rfl, rfl⟩]
      · refine ⟨?_, ?_⟩
        · rw [gUI_at, if_neg (fun h => absurd h.1 (by decide)), gUI_at, if_neg (fun h => hbk (by omega))]
          exact (hb b h1 (by omega)).1
        · rw [gUI_at, if_neg (fun h => hbk (by omega)), gUI_at, if_neg (fun h => absurd h.1 (by decide))]
          exact (hb b h1 (by omega)).2
theorem z_pk {S : gPs} {i j : Nat} (hn : n ≤ 7) (hM0 : I 32 0 0 0 = gi n) (hp1 : 1 ≤ p) (hp2 : p ≤ 31) (hM : Rg p S.2.1) (hi : q ≤ i ∧ i < n) (hj : q ≤ j ∧ j < n) (hS : S.1 < 7) (hp : I 31 0 0 21 = gi p) (h0 : S.2.1 i j ≠ 0) (hP : Mpr I q n S)
    (h : ∀ I', F3 I I' → Mpr I' q n (pkF p S i j) → Q (.inl .null) I' J B) : gC E 196 [.inr (31, 0, 0), .inl (.int (gi q)), .inl (.int (gi i)), .inl (.int (gi j)), .inl (.int (gi S.1))] I J B Q X := by
  obtain ⟨a1, a2, a3⟩ := gidx7 (show i < 7 by omega) (show j < 7 by omega)
  have m1 := hM i j
  refine e_X8_peels ?_
  rw [a1, a2, hP.1 i j hi.1 hi.2 hj.1 hj.2]
  refine ⟨a3, z_minv hp hp1 hp2 m1.1 m1.2 ?_⟩
  exact z_pk_l hn hM0 hp1 hp2 hM hi hj hS hp h0 h (n - q) q I (by omega) (Nat.le_refl q) F3.rf hP (fun b h1 h2 => by omega)
theorem z_lp_i {S0 : gPs} (hn : n ≤ 7) (hq : q ≤ n) (hM0 : I 32 0 0 0 = gi n) (hp : p ∈ primesL) (hp0 : I 31 0 0 21 = gi p) (h : ∀ I', F3 I I' → Mpr I' q n (paF p q n (n - q) q S0) → Q (.inl (.int (gi ((paF p q n (n - q) q S0).1 : Nat)))) I' J B) (A i : Nat) (hA : i + A + 1 = n) (hqi : q ≤ i)
    (nx : ∀ (i : Nat) (S : gPs) (I' : gI), i + A = n → q ≤ i → Rg p S.2.1 → S.1 + q ≤ i → F3 I I' → Mpr I' q n S → paF p q n A i S = paF p q n (n - q) q S0 →
      gG E 197 9 [(0, .inr (31, 0, 0)), (1, .inl (.int (gi q))), (2, .inl (.int (gi (S.1 : Nat)))), (3, .inl (.int (gi i)))] [] I' J B c w Q X) :
    ∀ (d j : Nat) (S : gPs) (I' : gI), j + d = n → q ≤ j → Rg p S.2.1 → Prw q i S → F3 I I' → Mpr I' q n S → paF p q n A (i + 1) (prF p i d j S) = paF p q n (n - q) q S0 →
      gG E 197 22 [(0, .inr (31, 0, 0)), (1, .inl (.int (gi q))), (2, .inl (.int (gi (S.1 : Nat)))), (3, .inl (.int (gi i))), (4, .inl (.int (gi j)))] [] I' J B c w Q X
  | 0, j, S, I', hj, hqj, hM, hw, hF, hP, he => by
    refine s_X8_laysPairs_22 ⟨gvp (by decide) (by decide) (by decide), ?_⟩
    rw [(hF 32 0 0 0 (by decide) (by decide) (by decide)).trans hM0, gi_le (by omega) (by omega) (by omega) (by omega), gi_add]
    exact ⟨fun _ => nx (i + 1) S I' (by omega) (by omega) hM (by have := hw.1; omega) hF hP he, fun h0 => by omega⟩
  | d + 1, j, S, I', hj, hqj, hM, hw, hF, hP, he => by
    have hb := pr_b hp
    have m1 := hM i j
    have hw1 := hw.1
    obtain ⟨a1, a2, a3⟩ := gidx7 (show i < 7 by omega) (show j < 7 by omega)
    have hM3 : I' 32 0 0 0 = gi n := (hF 32 0 0 0 (by decide) (by decide) (by decide)).trans hM0
    have hp3 : I' 31 0 0 21 = gi p := (hF 31 0 0 21 (by decide) (by decide) (by decide)).trans hp0
    refine s_X8_laysPairs_22 ⟨gvp (by decide) (by decide) (by decide), ?_⟩
    rw [hM3, gi_le (by omega) (by omega) (by omega) (by omega), a1, a2, hP.1 i j hqi (by omega) hqj (by omega), gi_eq (by omega) (by omega) (by decide) (by decide)]
    have he2 : paF p q n A (i + 1) (prF p i d (j + 1) (pkF p S i j)) = paF p q n (n - q) q S0 := he
    refine ⟨fun h0 => by omega, fun _ => ⟨a3, fun h0 => ?_, fun h0 => ?_⟩⟩
    · rw [gi_add]
      rw [show pkF p S i j = S from if_pos h0] at he2
      exact z_lp_i hn hq hM0 hp hp0 h A i hA hqi nx d (j + 1) S I' (by omega) (by omega) hM hw hF hP he2
    · have hl : ¬ S.1 + q = i + 1 := fun e => h0 (hw.2 e j)
      refine z_pk hn hM3 (by omega) (by omega) hM ⟨hqi, by omega⟩ ⟨hqj, by omega⟩ (by omega) hp3 h0 hP fun I2 f2 g2 => ?_
      rw [gi_add, gi_add]
      have hpk : (pkF p S i j).1 = S.1 + 1 := by
        unfold pkF
        rw [if_neg h0]
      have hh := z_lp_i hn hq hM0 hp hp0 h A i hA hqi nx d (j + 1) (pkF p S i j) I2 (by omega) (by omega) (pk_rg (by omega) hM) (pk_row hp hM hw) (hF.tr f2) g2 he2
      rw [hpk] at hh
      exact hh
theorem z_lp_l {S0 : gPs} (hn : n ≤ 7) (hq : q ≤ n) (hM0 : I 32 0 0 0 = gi n) (hp : p ∈ primesL) (hp0 : I 31 0 0 21 = gi p) (h : ∀ I', F3 I I' → Mpr I' q n (paF p q n (n - q) q S0) → Q (.inl (.int (gi ((paF p q n (n - q) q S0).1 : Nat)))) I' J B) :
    ∀ (A i : Nat) (S : gPs) (I' : gI), i + A = n → q ≤ i → Rg p S.2.1 → S.1 + q ≤ i → F3 I I' → Mpr I' q n S → paF p q n A i S = paF p q n (n - q) q S0 →
      gG E 197 9 [(0, .inr (31, 0, 0)), (1, .inl (.int (gi q))), (2, .inl (.int (gi (S.1 : Nat)))), (3, .inl (.int (gi i)))] [] I' J B c w Q X
  | 0, i, S, I', hi, hqi, hM, hw, hF, hP, he => by
    refine s_X8_laysPairs_9 ⟨gvp (by decide) (by decide) (by decide), ?_⟩
    rw [(hF 32 0 0 0 (by decide) (by decide) (by decide)).trans hM0, gi_le (by omega) (by omega) (by omega) (by omega)]
    have he2 : S = paF p q n (n - q) q S0 := he
    rw [← he2] at h
    exact ⟨fun _ => h I' hF hP, fun h0 => by omega⟩
  | A + 1, i, S, I', hi, hqi, hM, hw, hF, hP, he => by
    refine s_X8_laysPairs_9 ⟨gvp (by decide) (by decide) (by decide), ?_⟩
    rw [(hF 32 0 0 0 (by decide) (by decide) (by decide)).trans hM0, gi_le (by omega) (by omega) (by omega) (by omega)]
    exact ⟨fun h0 => by omega, fun _ => z_lp_i hn hq hM0 hp hp0 h A i (by omega) hqi (z_lp_l hn hq hM0 hp hp0 h A) (n - q) q S I' (by omega) (Nat.le_refl q) hM ⟨by omega, fun h => by omega⟩ hF hP he⟩
theorem z_lp {q : Nat} (hv : Vf f) (hM : Mrow f I) (hq : q ≤ (f 0).toNat) (hd : detF f (f 1) q ≠ 0) (h : ∀ I', Fpd I I' → Mpr I' q ((f 0).toNat) (prs f q) → Q (.inl (.int (gi ((prs f q).1 : Nat)))) I' J B) : gC E 197 [.inr (31, 0, 0), .inl (.int (gi q))] I J B Q X := by
  have hb := hv.p
  have h0 := hv.1
  refine e_X8_laysPairs (z_ds hv hM hq hd fun I2 f2 p2 g2 => ?_)
  have hM0 : I2 32 0 0 0 = gi ((f 0).toNat : Nat) := by
    rw [f2 32 0 0 0 (by decide) (by decide) (by decide) (by decide) (fun h => absurd h.1 (by decide)), hM 0 (by decide), show (((f 0).toNat : Nat) : Int) = f 0 by omega]
  exact z_lp_l (I := I2) (S0 := (0, dpF (f 1) q (cpF f q), (fun _ _ => 0), fun _ _ => 0)) (by omega) hq hM0 hv.2.1 p2 (fun I3 f3 g3 => h I3 (f2.tr f3.toD) g3) ((f 0).toNat - q) q _ I2 (by omega) (Nat.le_refl q) (Rg.dp (by omega) (cp_rg hv)) (by show 0 + q ≤ q; omega) F3.rf ⟨g2, fun a k h1 => absurd h1 (Nat.not_lt_zero a)⟩ rfl
/-- the regular sizes, laid by the model -/
def Fme (I I' : gI) : Prop := ∀ a b c d, a ≠ 38 → a ≠ 40 → ¬ (a = 31 ∧ (d = 21 ∨ d = 24)) → I' a b c d = I a b c d
theorem Fme.rf {I : gI} : Fme I I := fun _ _ _ _ _ _ _ => rfl
theorem Fme.tr {I I' I2 : gI} (h : Fme I I') (h2 : Fme I' I2) : Fme I I2 := fun a b c d h3 h4 h5 => (h2 a b c d h3 h4 h5).trans (h a b c d h3 h4 h5)
theorem Fpg.toE {I I' : gI} (h : Fpg I I') : Fme I I' := fun a b c d h1 _ h2 => h a b c d h1 (fun h3 => h2 ⟨h3.1, Or.inl h3.2⟩)
/-- the sizes before k -/
def esP (f : Nat → Int) : Nat → List Nat
  | 0 => []
  | k + 1 => esL f k
theorem det_0 (hv : Vf f) : detF f (f 1) 0 ≠ 0 := by
  have hp := hv.p
  show (1 : Int) % f 1 ≠ 0
  rw [Int.emod_eq_of_lt (by decide) (by omega)]
  decide
theorem esP_s (hv : Vf f) {k : Nat} : esP f (k + 1) = if detF f (f 1) k = 0 then esP f k else esP f k ++ [k] := by
  cases k with
  | zero =>
    rw [if_neg (det_0 hv)]
    rfl
  | succ k => rfl
theorem esP_len {k : Nat} : (esP f k).length ≤ k := by
  cases k with
  | zero => exact Nat.le_refl 0
  | succ k => exact (esL_len k).2
theorem z_le_l (hv : Vf f) (h : ∀ I', Fme I I' → I' 31 0 0 24 = gi ((ess f).length : Nat) → (∀ j, j < (ess f).length → I' 40 0 0 j = gi ((ess f).getD j 0 : Nat)) → Q (.inl .null) I' J B) :
    ∀ (d k : Nat) (I' : gI), k + d = (f 0).toNat + 1 → Fme I I' → Mrow f I' → I' 31 0 0 24 = gi ((esP f k).length : Nat) → (∀ j, j < (esP f k).length → I' 40 0 0 j = gi ((esP f k).getD j 0 : Nat)) →
      gG E 186 7 [(0, .inr (31, 0, 0)), (1, .inl (.int (gi k)))] [] I' J B c w Q X
  | 0, k, I', hk, hF, hM, hl, he => by
    have h0 := hv.1
    obtain rfl : k = (f 0).toNat + 1 := hk
    refine s_X8_laysEnds_7 ⟨gvp (by decide) (by decide) (by decide), ?_⟩
    rw [hM 0 (by decide), gi_lt (by omega) (by omega) (by omega) (by omega)]
    exact ⟨fun _ => h I' hF hl he, fun h1 => by omega⟩
  | d + 1, k, I', hk, hF, hM, hl, he => by
    have h0 := hv.1
    have hp := hv.p
    have hlen := esP_len (f := f) (k := k)
    have hdb : 0 ≤ detF f (f 1) k ∧ detF f (f 1) k < f 1 := (elF_b (by omega) (Rg.mt (by omega)) _).2.1
    refine s_X8_laysEnds_7 ⟨gvp (by decide) (by decide) (by decide), ?_⟩
    rw [hM 0 (by decide), gi_lt (by omega) (by omega) (by omega) (by omega)]
    refine ⟨fun h1 => by omega, fun _ => z_mn hv hM (by omega) fun I2 f2 => ?_⟩
    show (gi _ = gi 0 → _) ∧ (¬ gi _ = gi 0 → _)
    have hl2 : I2 31 0 0 24 = gi ((esP f k).length : Nat) := (f2 31 0 0 24 (by decide) (fun h => absurd h.2 (by decide))).trans hl
    have he2 : ∀ j, j < (esP f k).length → I2 40 0 0 j = gi ((esP f k).getD j 0 : Nat) := fun j hj => (f2 40 0 0 j (by decide) (fun h => absurd h.1 (by decide))).trans (he j hj)
    have hM2 : Mrow f I2 := hM.fpg f2
    rw [gi_eq (by omega) (by omega) (by decide) (by decide), hl2, gi_c (a := ((esP f k).length : Nat)) (by omega) (by omega), gtn, gi_add, gi_add]
    have hs := esP_s hv (k := k)
    refine ⟨fun h1 => ?_, fun h1 => ⟨gvp (by omega) (by omega) (by decide), ?_⟩⟩
    · rw [if_pos h1] at hs
      have hh := z_le_l hv h d (k + 1) I2 (by omega) (hF.tr f2.toE) hM2
      rw [hs] at hh
      exact hh hl2 he2
    · rw [if_neg h1] at hs
      have hh := z_le_l hv h d (k + 1) (gUI (gUI I2 40 0 0 (esP f k).length (gi k)) 31 0 0 24 (gi ((((esP f k).length : Nat) : Int) + 1))) (by omega)
      rw [hs] at hh
      refine hh ((hF.tr f2.toE).tr fun a b c d g1 g2 g3 => ?_) (fun j hj => ?_) ?_ fun j hj => ?_
      · rw [gUI_at, if_neg (fun h => g3 ⟨h.1, Or.inr h.2.2.2⟩), gUI_at, if_neg (fun h => g2 h.1)]
      · rw [gUI_at, if_neg (fun h => absurd h.1 (by decide)), gUI_at, if_neg (fun h => absurd h.1 (by decide))]
        exact hM2 j hj
      · rw [gUI_at, if_pos ⟨rfl, rfl, rfl, rfl⟩, List.length_append]
        rfl
      · rw [gUI_at, if_neg (fun h => absurd h.1 (by decide)), gUI_at]
        rw [List.length_append] at hj
        have : [k].length = 1 := rfl
        by_cases hjl : j = (esP f k).length
        · rw [if_pos ⟨rfl, rfl, rfl, hjl⟩, hjl, List.getD_eq_getElem?_getD, List.getElem?_append_right (Nat.le_refl _), Nat.sub_self]
          rfl
        · rw [if_neg (fun h => hjl h.2.2.2), List.getD_eq_getElem?_getD, List.getElem?_append_left (by omega), ← List.getD_eq_getElem?_getD]
          exact he2 j (by omega)
theorem z_le (hv : Vf f) (hM : Mrow f I) (h : ∀ I', Fme I I' → I' 31 0 0 24 = gi ((ess f).length : Nat) → (∀ j, j < (ess f).length → I' 40 0 0 j = gi ((ess f).getD j 0 : Nat)) → Q (.inl .null) I' J B) : gC E 186 [.inr (31, 0, 0)] I J B Q X := by
  refine e_X8_laysEnds (z_le_l hv h ((f 0).toNat + 1) 0 _ (by omega) (fun a b c d g1 g2 g3 => ?_) (fun j hj => ?_) ?_ fun j hj => absurd hj (Nat.not_lt_zero j))
  · rw [gUI_at, if_neg (fun h => g3 ⟨h.1, Or.inr h.2.2.2⟩)]
  · rw [gUI_at, if_neg (fun h => absurd h.1 (by decide))]
    exact hM j hj
  · exact if_pos ⟨rfl, rfl, rfl, rfl⟩
theorem ess_det (hv : Vf f) {q : Nat} (h : q ∈ ess f) : detF f (f 1) q ≠ 0 := by
  have key : ∀ k, ∀ x ∈ esL f k, detF f (f 1) x ≠ 0 := by
    intro k
    induction k with
    | zero =>
      intro x hx
      have : x = 0 := by simpa [esL] using hx
      subst this
      exact det_0 hv
    | succ k ih =>
      intro x hx
      unfold esL at hx
      split at hx
      · exact ih x hx
      · rename_i h1
        rcases List.mem_append.mp hx with h2 | h2
        · exact ih x h2
        · rw [List.mem_singleton.mp h2]
          exact h1
  exact key _ q h
end ZV
