/-! ===== the state's diagonals, and what the grid takes ===== -/
def dg (f : Nat → Int) (k : Int) : Int := if -6 ≤ k ∧ k ≤ 6 then f ((k + 8).toNat) else 0
theorem dg_eq {f f' : Nat → Int} (h : ∀ k, k < 13 → f' (2 + k) = f (2 + k)) : dg f' = dg f := by
  funext k
  unfold dg
  split
  · have := h (k + 6).toNat (by omega)
    rw [show (k + 8).toNat = 2 + (k + 6).toNat by omega]
    exact this
  · rfl
theorem dg_in {f : Nat → Int} {k : Int} (h1 : -6 ≤ k) (h2 : k ≤ 6) : dg f k = f ((k + 8).toNat) := if_pos ⟨h1, h2⟩
def Dia (f : Nat → Int) (I : gI) (n : Nat) : Prop := ∀ k, k < 13 → I 7 n 0 k = gi (f (2 + k)) ∧ -50 ≤ f (2 + k) ∧ f (2 + k) ≤ 50
theorem Dia.to {f : Nat → Int} {I I' : gI} {n : Nat} (h : Dia f I n) (h2 : ∀ k, k < 13 → I' 7 n 0 k = I 7 n 0 k) : Dia f I' n := fun k hk => by
  rw [h2 k hk]
  exact h k hk
theorem Dia.dg {f : Nat → Int} {I : gI} {n : Nat} (h : Dia f I n) {k : Int} (h1 : -6 ≤ k) (h2 : k ≤ 6) : I 7 n 0 (k + 6).toNat = gi (dg f k) ∧ -50 ≤ dg f k ∧ dg f k ≤ 50 := by
  have := h (k + 6).toNat (by omega)
  rw [dg_in h1 h2, show (k + 8).toNat = 2 + (k + 6).toNat by omega]
  exact this
def mtF (f : Nat → Int) (p : Int) (size : Nat) : gMx := fun i j => if j < size then dg f ((i : Int) - (j : Int)) % p else 0
theorem Rg.mt {f : Nat → Int} {p : Int} {size : Nat} (hp : 1 ≤ p) : Rg p (mtF f p size) := fun i j => by
  unfold mtF
  split
  · exact ⟨Int.emod_nonneg _ (by omega), Int.emod_lt_of_pos _ (by omega)⟩
  · exact ⟨Int.le_refl 0, by omega⟩
section ZE
variable {E : gEn} {Q : gQt} {X : gXt} {I : gI} {J : gJ} {B : gB} {c w : Nat} {n m : Nat} {p : Int} {f : Nat → Int}
theorem z_along {k : Int} (hd : Dia f I n) (h1 : -6 ≤ k) (h2 : k ≤ 6) (h : Q (.inl (.int (gi (dg f k)))) I J B) : gC E 46 [.inr (6, n, 0), .inl (.int (gi k))] I J B Q X := by
  refine e_X6_along ?_
  rw [gi_add, gi_sub, gi_lt (by omega) (by omega) (by decide) (by decide), gi_le (by decide) (by decide) (by omega) (by omega), gi_c (by omega) (by omega), show (k + 7 - 1).toNat = (k + 6).toNat by omega, (hd.dg h1 h2).1]
  exact ⟨fun h0 => by omega, fun _ => ⟨fun h0 => by omega, fun _ => ⟨gvp (by omega) (by omega) (by decide), h⟩⟩⟩
theorem z_putAlong {k : Int} {x : Int32} (h1 : -6 ≤ k) (h2 : k ≤ 6) (h : Q (.inl .null) (gUI I 7 n 0 (k + 6).toNat x) J B) : gC E 47 [.inr (6, n, 0), .inl (.int (gi k)), .inl (.int x)] I J B Q X := by
  refine e_X6_putAlong ?_
  rw [gi_add, gi_sub, gi_lt (by omega) (by omega) (by decide) (by decide), gi_le (by decide) (by decide) (by omega) (by omega), gi_c (by omega) (by omega), show (k + 7 - 1).toNat = (k + 6).toNat by omega]
  exact ⟨fun h0 => by omega, fun _ => ⟨fun h0 => by omega, fun _ => ⟨gvp (by omega) (by omega) (by decide), h⟩⟩⟩
variable {size more : Nat}
theorem z_take_i (hs : size ≤ 7) (hm : size + more ≤ 14) (hp : 1 ≤ p) (hp2 : p ≤ 31) (hd : Dia f I m)
    (h : ∀ I', Fg n I I' → Gr I' n size (size + more) p (mtF f p size) → Q (.inl .null) I' J B) (D i : Nat) (hD : i + D + 1 = size)
    (nx : ∀ (i : Nat) (I' : gI), i + D = size → Fg n I I' → I' 17 n 0 1 = gi size → I' 17 n 0 2 = gi ((size + more : Nat) : Int) → I' 17 n 0 3 = gi p → (∀ a b, a < size → b < size + more → a < i → I' 19 n a b = gi (mtF f p size a b)) →
      gG E 6 45 [(0, .inr (17, n, 0)), (1, .inr (6, m, 0)), (3, .inl (.int (gi p))), (5, .inl (.int (gi i)))] [] I' J B c w Q X) :
    ∀ (d j : Nat) (I' : gI), j + d = size + more → Fg n I I' → I' 17 n 0 1 = gi size → I' 17 n 0 2 = gi ((size + more : Nat) : Int) → I' 17 n 0 3 = gi p → (∀ a b, a < size → b < size + more → (a < i ∨ (a = i ∧ b < j)) → I' 19 n a b = gi (mtF f p size a b)) →
      gG E 6 57 [(0, .inr (17, n, 0)), (1, .inr (6, m, 0)), (3, .inl (.int (gi p))), (5, .inl (.int (gi i))), (6, .inl (.int (gi j)))] [] I' J B c w Q X
  | 0, j, I', hj, hF, g1, g2, g3, hI => by
    refine s_X1_take_57 ?_
    rw [g2, gi_le (by omega) (by omega) (by omega) (by omega), gi_add]
    refine ⟨fun _ => nx (i + 1) I' (by omega) hF g1 g2 g3 fun a b ha hb hc => hI a b ha hb (by omega), fun h0 => by omega⟩
  | d + 1, j, I', hj, hF, g1, g2, g3, hI => by
    refine s_X1_take_57 ?_
    have hd2 : Dia f I' m := hd.to fun k hk => hF 7 m 0 k (fun h => by omega)
    rw [g2, g1, gi_le (by omega) (by omega) (by omega) (by omega), gi_le (by omega) (by omega) (by omega) (by omega), gi_c (by omega) (by omega), gtn, gi_c (by omega) (by omega), gtn]
    simp only [gi_add, gi_sub]
    have nx : ∀ x : Int32, x = gi (mtF f p size i j) → gG E 6 57 [(0, .inr (17, n, 0)), (1, .inr (6, m, 0)), (3, .inl (.int (gi p))), (5, .inl (.int (gi i))), (6, .inl (.int (gi ((j + 1 : Nat) : Int))))] [] (gUI I' 19 n i j x) J B c w Q X := fun x hx => by
      refine z_take_i hs hm hp hp2 hd h D i hD nx d (j + 1) _ (by omega) hF.up19 ?_ ?_ ?_ fun a b ha hb hc => ?_
      · exact (Fc.up Fc.rf 17 n 0 1 (fun h => absurd h.1 (by decide))).trans g1
      · exact (Fc.up Fc.rf 17 n 0 2 (fun h => absurd h.1 (by decide))).trans g2
      · exact (Fc.up Fc.rf 17 n 0 3 (fun h => absurd h.1 (by decide))).trans g3
      · rw [gU19]
        by_cases h1 : a = i ∧ b = j
        · rw [if_pos h1, h1.1, h1.2]
          exact hx
        · rw [if_neg h1]
          exact hI a b ha hb (by omega)
    refine ⟨fun h0 => by omega, fun _ => ⟨gvp (by omega) (by omega) (by decide), fun h0 => ⟨gvp (by omega) (by omega) (by decide), nx _ ?_⟩, fun h0 => ?_⟩⟩
    · unfold mtF
      rw [if_neg (by omega)]
    · have hb := hd2.dg (k := (i : Int) - (j : Int)) (by omega) (by omega)
      refine z_along hd2 (by omega) (by omega) ?_
      show gC _ _ _ _ _ _ _ _
      refine z_red (by omega) (by omega) hp (by omega) ⟨gvp (by omega) (by omega) (by decide), nx _ ?_⟩
      unfold mtF
      rw [if_pos (by omega)]
theorem z_take_l (hs : size ≤ 7) (hm : size + more ≤ 14) (hp : 1 ≤ p) (hp2 : p ≤ 31) (hd : Dia f I m)
    (h : ∀ I', Fg n I I' → Gr I' n size (size + more) p (mtF f p size) → Q (.inl .null) I' J B) :
    ∀ (D i : Nat) (I' : gI), i + D = size → Fg n I I' → I' 17 n 0 1 = gi size → I' 17 n 0 2 = gi ((size + more : Nat) : Int) → I' 17 n 0 3 = gi p → (∀ a b, a < size → b < size + more → a < i → I' 19 n a b = gi (mtF f p size a b)) →
      gG E 6 45 [(0, .inr (17, n, 0)), (1, .inr (6, m, 0)), (3, .inl (.int (gi p))), (5, .inl (.int (gi i)))] [] I' J B c w Q X
  | 0, i, I', hi, hF, g1, g2, g3, hI => by
    refine s_X1_take_45 ?_
    rw [g1, gi_le (by omega) (by omega) (by omega) (by omega)]
    exact ⟨fun _ => h I' hF ⟨g1, g2, g3, fun a b ha hb => hI a b ha hb (by omega)⟩, fun h0 => by omega⟩
  | D + 1, i, I', hi, hF, g1, g2, g3, hI => by
    refine s_X1_take_45 ?_
    rw [g1, gi_le (by omega) (by omega) (by omega) (by omega)]
    exact ⟨fun h0 => by omega, fun _ => z_take_i hs hm hp hp2 hd h D i (by omega) (z_take_l hs hm hp hp2 hd h D) (size + more) 0 I' (by omega) hF g1 g2 g3 fun a b ha hb hc => hI a b ha hb (by omega)⟩
theorem z_take (hs : size ≤ 7) (hm : size + more ≤ 14) (hp : 1 ≤ p) (hp2 : p ≤ 31) (hd : Dia f I m)
    (h : ∀ I', Fg n I I' → Gr I' n size (size + more) p (mtF f p size) → Q (.inl .null) I' J B) : gC E 6 [.inr (17, n, 0), .inr (6, m, 0), .inl (.int (gi size)), .inl (.int (gi p)), .inl (.int (gi more))] I J B Q X := by
  refine e_X1_take (z_min (by omega) (by omega) (by decide) (by decide) ?_)
  show gC _ _ _ _ _ _ _ _
  rw [show min (size : Int) 7 = size by omega]
  refine z_max (by decide) (by decide) (by omega) (by omega) ?_
  show gC _ _ _ _ _ _ _ _
  rw [show max 0 (size : Int) = size by omega, show (gUI I 17 n 0 1 (gi size)) 17 n 0 1 = gi size from if_pos ⟨rfl, rfl, rfl, rfl⟩, gi_add]
  refine z_min (by omega) (by omega) (by decide) (by decide) ?_
  show gC _ _ _ _ _ _ _ _
  rw [show min ((size : Int) + more) 14 = ((size + more : Nat) : Int) by omega]
  refine z_max (by omega) (by omega) (by omega) (by omega) ?_
  show gG _ _ _ _ _ _ _ _ _ _ _ _
  rw [show max (size : Int) ((size + more : Nat) : Int) = ((size + more : Nat) : Int) by omega]
  refine z_take_l hs hm hp hp2 hd h size 0 _ (by omega) Fg.rf.up17.up17.up17 ?_ ?_ ?_ (fun a b ha hb hc => by omega)
  · unfold gUI
    rw [if_neg (fun h => absurd h.2.2.2 (by decide)), if_neg (fun h => absurd h.2.2.2 (by decide)), if_pos ⟨rfl, rfl, rfl, rfl⟩]
  · unfold gUI
    rw [if_neg (fun h => absurd h.2.2.2 (by decide)), if_pos ⟨rfl, rfl, rfl, rfl⟩]
  · exact if_pos ⟨rfl, rfl, rfl, rfl⟩
end ZE
