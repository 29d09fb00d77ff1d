/-- a step of the elimination: found rows, determinant, first free column, grid -/
abbrev gEs : Type := Nat × Int × Nat × gMx
def esF (p : Int) (lim : Nat) (S : gEs) (col : Nat) : gEs := match pvF S.2.2.2 col (lim - S.1) S.1 with
  | none => (S.1, 0, min S.2.2.1 col, S.2.2.2)
  | some i => (S.1 + 1, (S.2.1 * (if i = S.1 then S.2.2.2 i col else - S.2.2.2 i col)) % p, S.2.2.1, clF p (ldF p S.2.2.2 i S.1 col) S.1 col)
def elF (p : Int) (lim : Nat) (M : gMx) : Nat → gEs
  | 0 => (0, 1 % p, lim, M)
  | k + 1 => esF p lim (elF p lim M k) k
def elM (p : Int) (lim : Nat) (M : gMx) : gMx := (elF p lim M lim).2.2.2
theorem esF_n {p : Int} {lim col : Nat} {S : gEs} (h : pvF S.2.2.2 col (lim - S.1) S.1 = none) : esF p lim S col = (S.1, 0, min S.2.2.1 col, S.2.2.2) := by
  unfold esF
  rw [h]
theorem esF_s {p : Int} {lim col i : Nat} {S : gEs} (h : pvF S.2.2.2 col (lim - S.1) S.1 = some i) : esF p lim S col = (S.1 + 1, (S.2.1 * (if i = S.1 then S.2.2.2 i col else - S.2.2.2 i col)) % p, S.2.2.1, clF p (ldF p S.2.2.2 i S.1 col) S.1 col) := by
  unfold esF
  rw [h]
theorem elF_k {p : Int} {lim k : Nat} {M : gMx} : elF p lim M (k + 1) = esF p lim (elF p lim M k) k := rfl
theorem elF_b {p : Int} {lim : Nat} {M : gMx} (hp : 1 ≤ p) (hM : Rg p M) : ∀ k, (elF p lim M k).1 ≤ k ∧ (0 ≤ (elF p lim M k).2.1 ∧ (elF p lim M k).2.1 < p) ∧ (elF p lim M k).2.2.1 ≤ lim ∧ Rg p (elF p lim M k).2.2.2
  | 0 => ⟨Nat.le_refl _, ⟨Int.emod_nonneg _ (by omega), Int.emod_lt_of_pos _ (by omega)⟩, Nat.le_refl _, hM⟩
  | k + 1 => by
    obtain ⟨h1, h2, h3, h4⟩ := elF_b (lim := lim) hp hM k
    rw [elF_k]
    cases hv : pvF (elF p lim M k).2.2.2 k (lim - (elF p lim M k).1) (elF p lim M k).1 with
    | none =>
      rw [esF_n hv]
      exact ⟨by show (elF p lim M k).1 ≤ k + 1; omega, ⟨Int.le_refl 0, by show (0 : Int) < p; omega⟩, by show min _ _ ≤ lim; omega, h4⟩
    | some i =>
      rw [esF_s hv]
      exact ⟨by show (elF p lim M k).1 + 1 ≤ k + 1; omega, ⟨Int.emod_nonneg _ (by omega), Int.emod_lt_of_pos _ (by omega)⟩, h3, Rg.cl hp (Rg.ld hp h4)⟩
theorem elF_lim {p : Int} {lim : Nat} {M : gMx} : ∀ k, (elF p lim M k).1 ≤ lim
  | 0 => Nat.zero_le _
  | k + 1 => by
    have h := elF_lim (p := p) (lim := lim) (M := M) k
    rw [elF_k]
    cases hv : pvF (elF p lim M k).2.2.2 k (lim - (elF p lim M k).1) (elF p lim M k).1 with
    | none =>
      rw [esF_n hv]
      exact h
    | some i =>
      have := pvF_s hv
      rw [esF_s hv]
      show (elF p lim M k).1 + 1 ≤ lim
      omega
theorem Gr.fg {I : gI} {n R C : Nat} {p : Int} {M : gMx} {b : Nat} {x : Int32} (h : Gr I n R C p M) (hb : 3 < b) : Gr (gUI I 17 n 0 b x) n R C p M := by
  have e : ∀ k, k ≤ 3 → (gUI I 17 n 0 b x) 17 n 0 k = I 17 n 0 k := fun k hk => if_neg (fun h => by omega)
  refine ⟨(e 1 (by decide)).trans h.1, (e 2 (by decide)).trans h.2.1, (e 3 (by decide)).trans h.2.2.1, fun i j hi hj => ?_⟩
  rw [show (gUI I 17 n 0 b x) 19 n i j = I 19 n i j from if_neg (fun h => absurd h.1 (by decide))]
  exact h.2.2.2 i j hi hj
section ZD
variable {E : gEn} {Q : gQt} {X : gXt} {I : gI} {J : gJ} {B : gB} {c w : Nat} {n R C : Nat} {p : Int} {M : gMx}
/-- what stands behind an elimination -/
def Elm (n R C : Nat) (p : Int) (lim : Nat) (M : gMx) (I I' : gI) (k : Nat) : Prop := Fg n I I' ∧ Gr I' n R C p (elF p lim M k).2.2.2 ∧ I' 17 n 0 4 = gi (elF p lim M k).2.1 ∧ I' 17 n 0 5 = gi ((elF p lim M k).2.2.1 : Nat)
theorem z_el_l {lim : Nat} (hR : R ≤ 7) (hC : C ≤ 14) (hl : lim ≤ R) (hlc : lim ≤ C) (hp : 1 ≤ p) (hp2 : p ≤ 31) (hM : Rg p M)
    (h : ∀ I', Elm n R C p lim M I I' lim → Q (.inl (.int (gi ((elF p lim M lim).1 : Nat)))) I' J B) :
    ∀ (d k : Nat) (I' : gI), k + d = lim → Elm n R C p lim M I I' k → gG E 11 35 [(0, .inr (17, n, 0)), (2, .inl (.int (gi lim))), (3, .inl (.int (gi ((elF p lim M k).1 : Nat)))), (4, .inl (.int (gi k)))] [] I' J B c w Q X
  | 0, k, I', hd, hI => by
    refine s_X1_eliminate_35 ?_
    obtain rfl : k = lim := hd
    rw [gi_le (by omega) (by omega) (by omega) (by omega)]
    exact ⟨fun _ => h I' hI, fun h0 => by omega⟩
  | d + 1, k, I', hd, ⟨hF, hG, h4, h5⟩ => by
    refine s_X1_eliminate_35 ?_
    obtain ⟨b1, b2, b3, b4⟩ := elF_b (lim := lim) hp hM k
    have bl := elF_lim (p := p) (lim := lim) (M := M) k
    rw [gi_le (by omega) (by omega) (by omega) (by omega)]
    refine ⟨fun h0 => by omega, fun _ => z_piv hR hC hl (by omega) bl hp2 hG b4 ?_⟩
    show (¬ gi _ = gi (-1) → _) ∧ _
    have hk1 : elF p lim M (k + 1) = esF p lim (elF p lim M k) k := rfl
    cases hpv : pvF (elF p lim M k).2.2.2 k (lim - (elF p lim M k).1) (elF p lim M k).1 with
    | none =>
      have e1 : esF p lim (elF p lim M k) k = ((elF p lim M k).1, 0, min (elF p lim M k).2.2.1 k, (elF p lim M k).2.2.2) := by
        unfold esF
        rw [hpv]
      refine ⟨fun h0 => absurd rfl h0, fun _ => ?_⟩
      rw [h5]
      refine z_min (by omega) (by omega) (by omega) (by omega) ?_
      show gG _ _ _ _ _ _ _ _ _ _ _ _
      rw [gi_add]
      have hh := z_el_l hR hC hl hlc hp hp2 hM h d (k + 1) (gUI (gUI I' 17 n 0 5 (gi (min ((elF p lim M k).2.2.1 : Int) (k : Int)))) 17 n 0 4 (gi 0)) (by omega)
      rw [hk1, e1] at hh
      refine hh ⟨hF.up17.up17, by rw [hk1, e1]; exact (hG.fg (b := 5) (by decide)).fg (b := 4) (by decide), ?_, ?_⟩
      · rw [hk1, e1]
        exact if_pos ⟨rfl, rfl, rfl, rfl⟩
      · rw [hk1, e1]
        show (gUI (gUI I' 17 n 0 5 _) 17 n 0 4 _) 17 n 0 5 = _
        unfold gUI
        rw [if_neg (fun h => absurd h.2.2.2 (by decide)), if_pos ⟨rfl, rfl, rfl, rfl⟩]
        show gi (min ((elF p lim M k).2.2.1 : Int) (k : Int)) = gi ((min (elF p lim M k).2.2.1 k : Nat) : Int)
        congr 1
        omega
    | some i =>
      have hs := pvF_s hpv
      have e1 : esF p lim (elF p lim M k) k = ((elF p lim M k).1 + 1, ((elF p lim M k).2.1 * (if i = (elF p lim M k).1 then (elF p lim M k).2.2.2 i k else - (elF p lim M k).2.2.2 i k)) % p, (elF p lim M k).2.2.1, clF p (ldF p (elF p lim M k).2.2.2 i (elF p lim M k).1 k) (elF p lim M k).1 k) := by
        unfold esF
        rw [hpv]
      show (¬ gi (i : Int) = gi (-1) → _) ∧ (gi (i : Int) = gi (-1) → _)
      rw [gi_eq (a := (i : Int)) (by omega) (by omega) (by decide) (by decide)]
      refine ⟨fun _ => ?_, fun h0 => by omega⟩
      refine z_lead hR hC (by omega) (by omega) (by omega) hp hp2 hG b4 fun I2 f2 g2 => ?_
      show gC _ _ _ _ _ _ _ _
      have hm := b4 i k
      have hmu := mulb (x := (elF p lim M k).2.1) (y := (elF p lim M k).2.2.2 i k) b2.1 (by omega) hm.1 (by omega)
      have hneg : (elF p lim M k).2.1 * -(elF p lim M k).2.2.2 i k = -((elF p lim M k).2.1 * (elF p lim M k).2.2.2 i k) := Int.mul_neg _ _
      rw [h4, g2.2.2.1, gi_mul]
      have hr : -961 < (elF p lim M k).2.1 * (if i = (elF p lim M k).1 then (elF p lim M k).2.2.2 i k else -(elF p lim M k).2.2.2 i k) ∧ (elF p lim M k).2.1 * (if i = (elF p lim M k).1 then (elF p lim M k).2.2.2 i k else -(elF p lim M k).2.2.2 i k) < 961 := by
        split
        · omega
        · rw [hneg]
          omega
      refine z_red (by omega) (by omega) hp (by omega) ?_
      show gC _ _ _ _ _ _ _ _
      refine z_cl hR hC (by omega) (by omega) hp hp2 (g2.fg (b := 4) (by decide)) (Rg.ld hp b4) fun I3 f3 g3 => ?_
      rw [gi_add, gi_add]
      have hh := z_el_l hR hC hl hlc hp hp2 hM h d (k + 1) I3 (by omega)
      rw [hk1, e1] at hh
      refine hh ⟨(hF.tr f2.g).up17.tr f3.g, by rw [hk1, e1]; exact g3, ?_, ?_⟩
      · rw [hk1, e1, f3 17 n 0 4 (fun h => absurd h.1 (by decide))]
        exact if_pos ⟨rfl, rfl, rfl, rfl⟩
      · rw [hk1, e1, f3 17 n 0 5 (fun h => absurd h.1 (by decide))]
        unfold gUI
        rw [if_neg (fun h => absurd h.2.2.2 (by decide)), f2 17 n 0 5 (fun h => absurd h.1 (by decide))]
        exact h5
theorem z_el {lim : Nat} (hR : R ≤ 7) (hC : C ≤ 14) (hl : lim ≤ R) (hlc : lim ≤ C) (hp : 1 ≤ p) (hp2 : p ≤ 31) (hG : Gr I n R C p M) (hM : Rg p M)
    (h : ∀ I', Elm n R C p lim M I I' lim → Q (.inl (.int (gi ((elF p lim M lim).1 : Nat)))) I' J B) : gC E 11 [.inr (17, n, 0), .inl (.int (gi lim))] I J B Q X := by
  refine e_X1_eliminate ?_
  rw [hG.1]
  refine z_min (by omega) (by omega) (by omega) (by omega) ?_
  show gC _ _ _ _ _ _ _ _
  rw [show min (lim : Int) (R : Int) = lim by omega]
  refine z_max (by omega) (by omega) (by omega) (by omega) ?_
  show gC _ _ _ _ _ _ _ _
  rw [hG.2.2.1, show max (0 : Int) (lim : Int) = lim by omega]
  refine z_red (by decide) (by decide) hp (by omega) ?_
  show gG _ _ _ _ _ _ _ _ _ _ _ _
  refine z_el_l hR hC hl hlc hp hp2 hM h lim 0 _ (by omega) ⟨Fg.rf.up17.up17, (hG.fg (b := 4) (by decide)).fg (b := 5) (by decide), ?_, ?_⟩
  · show (gUI (gUI I 17 n 0 4 _) 17 n 0 5 _) 17 n 0 4 = _
    unfold gUI
    rw [if_neg (fun h => absurd h.2.2.2 (by decide)), if_pos ⟨rfl, rfl, rfl, rfl⟩]
    rfl
  · exact if_pos ⟨rfl, rfl, rfl, rfl⟩
end ZD
