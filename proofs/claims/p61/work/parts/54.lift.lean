/-! ===== lifts ===== -/
def mI (f : Nat → Int) (p : Int) (n : Nat) : gMx := fun i j => if j < n then dg f ((i : Int) - (j : Int)) % p else if j = n + i then 1 % p else 0
theorem Rg.mi {f : Nat → Int} {p : Int} {n : Nat} (hp : 1 ≤ p) : Rg p (mI f p n) := fun i j => by
  unfold mI
  split
  · exact ⟨Int.emod_nonneg _ (by omega), Int.emod_lt_of_pos _ (by omega)⟩
  · split
    · exact ⟨Int.emod_nonneg _ (by omega), Int.emod_lt_of_pos _ (by omega)⟩
    · exact ⟨Int.le_refl 0, by omega⟩
def IvM (f : Nat → Int) : gMx := (elF (f 1) ((f 0).toNat) (mI f (f 1) ((f 0).toNat)) ((f 0).toNat)).2.2.2
/-- how many pivots there are -/
def rkF (f : Nat → Int) : Nat := (elF (f 1) ((f 0).toNat) (mtF f (f 1) ((f 0).toNat)) ((f 0).toNat)).1
def rgB (f : Nat → Int) : Bool := decide (rkF f = (f 0).toNat)
theorem mt_mi {f : Nat → Int} {p : Int} {n : Nat} : Aq n (mtF f p n) (mI f p n) := fun i j hj => by
  unfold mtF mI
  rw [if_pos hj, if_pos hj]
theorem rk_mi {f : Nat → Int} : (elF (f 1) ((f 0).toNat) (mI f (f 1) ((f 0).toNat)) ((f 0).toNat)).1 = rkF f := (elF_ext mt_mi ((f 0).toNat) (Nat.le_refl _)).1.symm
/-- the lifter is ready -/
def Lrd (f : Nat → Int) (I : gI) : Prop := Gr I 1 ((f 0).toNat) ((f 0).toNat + (f 0).toNat) (f 1) (IvM f)
theorem Gr.fr {I I' : gI} {n R C : Nat} {p : Int} {M : gMx} (h : Gr I n R C p M) (h1 : ∀ c d, I' 17 n c d = I 17 n c d) (h2 : ∀ c d, I' 19 n c d = I 19 n c d) : Gr I' n R C p M :=
  ⟨(h1 0 1).trans h.1, (h1 0 2).trans h.2.1, (h1 0 3).trans h.2.2.1, fun i j hi hj => (h2 i j).trans (h.2.2.2 i j hi hj)⟩
/-- the new digit -/
def frF (f : Nat → Int) (i : Nat) : Int := (smF (IvM f) (fun j => f (29 + j) % f 1) ((f 0).toNat) i ((f 0).toNat)) % f 1
def rsS (f : Nat → Int) (i : Nat) : Nat → Int
  | 0 => f (29 + i)
  | j + 1 => rsS f i j - dg f ((i : Int) - (j : Int)) * frF f j
def lfF (f : Nat → Int) : Nat → Int := fun j => if j = 36 then f 36 + 1 else if 29 ≤ j ∧ j < 29 + (f 0).toNat then (rsS f (j - 29) ((f 0).toNat)).tdiv (f 1) else if 37 + 7 * (f 36).toNat ≤ j ∧ j < 37 + 7 * (f 36).toNat + (f 0).toNat then frF f (j - (37 + 7 * (f 36).toNat)) else f j
theorem lf_lo {f : Nat → Int} {j : Nat} (h : j < 29) : lfF f j = f j := by
  unfold lfF
  rw [if_neg (by omega), if_neg (by omega), if_neg (by omega)]
theorem lf_hi {f : Nat → Int} {j : Nat} (h1 : (f 36).toNat ≤ 39) (h2 : f 0 ≤ 7) (h : 317 ≤ j) : lfF f j = f j := by
  unfold lfF
  rw [if_neg (by omega), if_neg (by omega), if_neg (by omega)]
theorem lf_dig {f : Nat → Int} {k i : Nat} (h2 : f 0 ≤ 7) (hi : i < 7) (hk : k < (f 36).toNat) : lfF f (37 + 7 * k + i) = f (37 + 7 * k + i) := by
  unfold lfF
  rw [if_neg (by omega), if_neg (by omega), if_neg (by omega)]
theorem lf_new {f : Nat → Int} {i : Nat} (h2 : f 0 ≤ 7) (hi : i < (f 0).toNat) : lfF f (37 + 7 * (f 36).toNat + i) = frF f i := by
  unfold lfF
  rw [if_neg (by omega), if_neg (by omega), if_pos (by omega), show 37 + 7 * (f 36).toNat + i - (37 + 7 * (f 36).toNat) = i by omega]
theorem lf_res {f : Nat → Int} {i : Nat} (hi : i < (f 0).toNat) (h2 : f 0 ≤ 7) : lfF f (29 + i) = (rsS f i ((f 0).toNat)).tdiv (f 1) := by
  unfold lfF
  rw [if_neg (by omega), if_pos (by omega), show 29 + i - 29 = i by omega]
theorem lf_36 {f : Nat → Int} : lfF f 36 = f 36 + 1 := if_pos rfl
theorem lf_vXs {f : Nat → Int} {i : Nat} (h2 : f 0 ≤ 7) (hi : i < 7) : ∀ k, k ≤ (f 36).toNat → vXs (lfF f) i k = vXs f i k
  | 0, _ => rfl
  | k + 1, hk => by
    show vXs (lfF f) i k + lfF f (37 + 7 * k + i) * (lfF f 1) ^ k = vXs f i k + f (37 + 7 * k + i) * (f 1) ^ k
    rw [lf_vXs h2 hi k (by omega), lf_dig h2 hi (by omega), lf_lo (by decide)]
theorem lf_vX {f : Nat → Int} {i : Nat} (h0 : 0 ≤ f 36) (h2 : f 0 ≤ 7) (hi : i < (f 0).toNat) : vX (lfF f) i = vX f i + frF f i * (f 1) ^ (f 36).toNat := by
  unfold vX
  rw [lf_36, show (f 36 + 1).toNat = (f 36).toNat + 1 by omega]
  show vXs (lfF f) i (f 36).toNat + lfF f (37 + 7 * (f 36).toNat + i) * (lfF f 1) ^ (f 36).toNat = _
  rw [lf_vXs h2 (by omega) _ (Nat.le_refl _), lf_new h2 hi, lf_lo (by decide)]
theorem frF_b {f : Nat → Int} {i : Nat} (hp : 1 ≤ f 1) : 0 ≤ frF f i ∧ frF f i < f 1 := ⟨Int.emod_nonneg _ (by omega), Int.emod_lt_of_pos _ (by omega)⟩
theorem dg_b {f : Nat → Int} (hv : ∀ k, k < 13 → -50 ≤ f (2 + k) ∧ f (2 + k) ≤ 50) (k : Int) : -50 ≤ dg f k ∧ dg f k ≤ 50 := by
  unfold dg
  split
  · have := hv (k + 6).toNat (by omega)
    rw [show (k + 8).toNat = 2 + (k + 6).toNat by omega]
    exact this
  · decide
theorem mulb2 {x y p : Int} (h1 : -50 ≤ x) (h2 : x ≤ 50) (h3 : 0 ≤ y) (h4 : y < p) : -(50 * (p - 1)) ≤ x * y ∧ x * y ≤ 50 * (p - 1) := by
  have a1 := Int.mul_le_mul_of_nonneg_right h2 h3
  have a2 := Int.mul_le_mul_of_nonneg_right h1 h3
  omega
theorem rsS_b {f : Nat → Int} (hv : Vf f) {i : Nat} (hi : i < 7) : ∀ j, j ≤ 7 → -999 - 50 * (f 1 - 1) * j ≤ rsS f i j ∧ rsS f i j ≤ 999 + 50 * (f 1 - 1) * j
  | 0, _ => by
    have h := hv.2.2.2.2.2.1 i hi
    show _ ≤ f (29 + i) ∧ f (29 + i) ≤ _
    omega
  | j + 1, hj => by
    have ih := rsS_b hv hi j (by omega)
    have hd := dg_b hv.2.2.1 ((i : Int) - (j : Int))
    have hf := frF_b (f := f) (i := j) (by have := hv.p; omega)
    have hm := mulb2 hd.1 hd.2 hf.1 hf.2
    show _ ≤ rsS f i j - _ ∧ rsS f i j - _ ≤ _
    have e : 50 * (f 1 - 1) * ((j + 1 : Nat) : Int) = 50 * (f 1 - 1) * (j : Int) + 50 * (f 1 - 1) := by
      rw [Int.natCast_add, Int.mul_add]
      omega
    omega
theorem rsS_b2 {f : Nat → Int} (hv : Vf f) {i j : Nat} (hi : i < 7) (hj : j ≤ 7) : -(999 * f 1) ≤ rsS f i j ∧ rsS f i j ≤ 999 * f 1 := by
  have h := rsS_b hv hi j hj
  have hp := hv.p
  have := Int.mul_le_mul_of_nonneg_left (show (j : Int) ≤ 7 by omega) (show 0 ≤ 50 * (f 1 - 1) by omega)
  omega
theorem tdiv_b {x p k : Int} (hp : 1 ≤ p) (h1 : -(k * p) ≤ x) (h2 : x ≤ k * p) : -k ≤ x.tdiv p ∧ x.tdiv p ≤ k := by
  have key : ∀ z : Int, 0 ≤ z → z ≤ k * p → 0 ≤ z.tdiv p ∧ z.tdiv p ≤ k := fun z hz1 hz2 => by
    rw [Int.tdiv_eq_ediv_of_nonneg hz1]
    exact ⟨Int.ediv_nonneg hz1 (by omega), Int.ediv_le_of_le_mul (by omega) hz2⟩
  by_cases h : 0 ≤ x
  · have := key x h h2
    omega
  · have := key (-x) (by omega) (by omega)
    rw [Int.neg_tdiv] at this
    omega
theorem Vf.lf {f : Nat → Int} (hv : Vf f) (hm : (f 36).toNat < md (f 1)) : Vf (lfF f) := by
  obtain ⟨v0, v1, v2, v3, v4, v5, v6, v7, v8⟩ := id hv
  have hp := hv.p
  have h39 := pow_lim hp.1 v6.2
  unfold Vf
  rw [lf_lo (show 0 < 29 by decide), lf_lo (show 1 < 29 by decide), lf_36, lf_hi h39 v0.2 (show 317 ≤ 317 by decide), show (f 36 + 1).toNat = (f 36).toNat + 1 by omega]
  refine ⟨v0, v1, fun k hk => ?_, fun k hk => ?_, fun k hk => ?_, fun k hk => ?_, ⟨by omega, (md_le hp.1).mpr hm⟩, fun k i hk hi => ?_, v8⟩
  · rw [lf_lo (by omega)]
    exact v2 k hk
  · rw [lf_lo (by omega)]
    exact v3 k hk
  · rw [lf_lo (by omega)]
    exact v4 k hk
  · by_cases hk2 : k < (f 0).toNat
    · rw [lf_res hk2 v0.2]
      have := rsS_b2 hv hk (show (f 0).toNat ≤ 7 by omega)
      exact tdiv_b (by omega) this.1 this.2
    · have e : lfF f (29 + k) = f (29 + k) := by
        unfold lfF
        rw [if_neg (by omega), if_neg (by omega), if_neg (by omega)]
      rw [e]
      exact v5 k hk
  · by_cases hk2 : k = (f 36).toNat
    · subst hk2
      rw [lf_new v0.2 hi]
      exact frF_b (by omega)
    · rw [lf_dig v0.2 (by omega) (by omega)]
      exact v7 k i (by omega) hi
theorem lf_dg {f : Nat → Int} : dg (lfF f) = dg f := dg_eq fun k hk => lf_lo (by omega)
theorem lf_Iv {f : Nat → Int} : IvM (lfF f) = IvM f := by
  unfold IvM mI
  rw [lf_lo (show 0 < 29 by decide), lf_lo (show 1 < 29 by decide), lf_dg]
theorem Lrd.lf {f : Nat → Int} {I : gI} (h : Lrd f I) : Lrd (lfF f) I := by
  unfold Lrd
  rw [lf_Iv, lf_lo (show 0 < 29 by decide), lf_lo (show 1 < 29 by decide)]
  exact h
def FL (n : Nat) (I I' : gI) : Prop := ∀ a b c d, ¬ (6 ≤ a ∧ a ≤ 12 ∧ b = n) → a ≠ 29 → I' a b c d = I a b c d
theorem FL.rf {n : Nat} {I : gI} : FL n I I := fun _ _ _ _ _ _ => rfl
theorem FL.tr {n : Nat} {I I' I2 : gI} (h : FL n I I') (h2 : FL n I' I2) : FL n I I2 := fun a b c d h3 h4 => (h2 a b c d h3 h4).trans (h a b c d h3 h4)
section ZM
variable {E : gEn} {Q : gQt} {X : gXt} {I : gI} {J : gJ} {B : gB} {c w : Nat} {n : Nat} {f : Nat → Int} {p : Int}
theorem z_prep_l {m : Nat} (hv : Vf f) (k : ∀ I', Fg 1 I I' → Gr I' 1 ((f 0).toNat) ((f 0).toNat + (f 0).toNat) (f 1) (IvM f) → Q (.inl (.int (gi (bI (rgB f))))) I' J B) :
    ∀ (d i : Nat) (I' : gI), i + d = (f 0).toNat → Fg 1 I I' → Gr I' 1 ((f 0).toNat) ((f 0).toNat + (f 0).toNat) (f 1) (fun a b => if b < (f 0).toNat then dg f ((a : Int) - (b : Int)) % f 1 else if b = (f 0).toNat + a ∧ a < i then 1 % f 1 else 0) → gG E 35 21 [(0, .inr (28, 0, 0)), (2, .inl (.int (gi (f 0)))), (3, .inl (.int (gi i)))] [] I' J B c w Q X
  | 0, i, I', hi, hF, hG => by
    have h0 := hv.1
    have hp := hv.p
    have en : (((f 0).toNat : Nat) : Int) = f 0 := by omega
    refine s_X4_prepare_21 ?_
    rw [gi_le (by omega) (by omega) (by omega) (by omega)]
    refine ⟨fun _ => ?_, fun h1 => by omega⟩
    have hG2 : Gr I' 1 ((f 0).toNat) ((f 0).toNat + (f 0).toNat) (f 1) (mI f (f 1) ((f 0).toNat)) := ⟨hG.1, hG.2.1, hG.2.2.1, fun a b ha hb => by
      rw [hG.2.2.2 a b ha hb]
      unfold mI
      dsimp only
      congr 1
      split
      · rfl
      · by_cases hb2 : b = (f 0).toNat + a
        · rw [if_pos ⟨hb2, by omega⟩, if_pos hb2]
        · rw [if_neg (fun h => hb2 h.1), if_neg hb2]⟩
    rw [← en]
    refine z_el (by omega) (by omega) (Nat.le_refl _) (by omega) (by omega) (by omega) hG2 (Rg.mi (by omega)) fun I2 hE => ?_
    show (¬ gi _ = gi _ → _) ∧ (gi _ = gi _ → _)
    have hk := k I2 (hF.tr hE.1) hE.2.1
    have hl := elF_lim (p := f 1) (lim := (f 0).toNat) (M := mI f (f 1) ((f 0).toNat)) ((f 0).toNat)
    rw [gi_eq (by omega) (by omega) (by omega) (by omega)]
    have hrk := rk_mi (f := f)
    unfold rgB at hk
    refine ⟨fun h1 => ⟨Or.inl rfl, ?_⟩, fun h1 => ⟨Or.inr rfl, ?_⟩⟩
    · rw [decide_eq_false (by omega)] at hk
      exact hk
    · rw [decide_eq_true (by omega)] at hk
      exact hk
  | d + 1, i, I', hi, hF, hG => by
    have h0 := hv.1
    have hp := hv.p
    have en : (((f 0).toNat : Nat) : Int) = f 0 := by omega
    refine s_X4_prepare_21 ?_
    rw [gi_le (by omega) (by omega) (by omega) (by omega), gi_add, gi_add, ← en]
    refine ⟨fun h1 => by omega, fun _ => ?_⟩
    refine z_put (i := i) (j := (f 0).toNat + i) (x := 1) hG (by omega) (by omega) (by omega) (by omega) (by omega) (by omega) (by decide) (by decide) ?_
    show gG _ _ _ _ _ _ _ _ _ _ _ _
    rw [en]
    refine z_prep_l (m := m) hv k d (i + 1) _ (by omega) hF.up19 (hG.fc (Fc.up Fc.rf) fun a b ha hb => ?_)
    rw [gU19]
    by_cases h1 : a = i ∧ b = (f 0).toNat + i
    · rw [if_pos h1, h1.1, h1.2, if_neg (by omega), if_pos ⟨rfl, by omega⟩]
    · rw [if_neg h1, hG.2.2.2 a b ha hb]
      dsimp only
      congr 1
      split
      · rfl
      · by_cases h2 : b = (f 0).toNat + a ∧ a < i
        · rw [if_pos h2, if_pos ⟨h2.1, by omega⟩]
        · rw [if_neg h2, if_neg (fun h3 => h2 ⟨h3.1, by
            by_cases h4 : a = i
            · exact absurd ⟨h4, by rw [h3.1, h4]⟩ h1
            · omega⟩)]
theorem z_prep (hv : Vf f) (hR : Rst f I J n) (k : ∀ I', Fg 1 I I' → Lrd f I' → Q (.inl (.int (gi (bI (rgB f))))) I' J B) : gC E 35 [.inr (28, 0, 0), .inr (6, n, 0)] I J B Q X := by
  have h0 := hv.1
  have hp := hv.p
  have en : (((f 0).toNat : Nat) : Int) = f 0 := by omega
  refine e_X4_prepare ?_
  rw [hR.1.1, hR.1.2.1, ← en]
  refine z_take (by omega) (by omega) (by omega) (by omega) (hR.dia hv) fun I2 h1 h2 => ?_
  rw [en]
  refine z_prep_l (m := n) hv (fun I' g1 g2 => k I' (h1.tr g1) g2) ((f 0).toNat) 0 I2 (by omega) Fg.rf ⟨h2.1, h2.2.1, h2.2.2.1, fun a b ha hb => ?_⟩
  rw [h2.2.2.2 a b ha hb]
  unfold mtF
  dsimp only
  congr 1
  split
  · rfl
  · rw [if_neg (fun h => absurd h.2 (Nat.not_lt_zero a))]
theorem z_ofInv {i j : Nat} (hv : Vf f) (hL : Lrd f I) (hi : i < (f 0).toNat) (hj : j < (f 0).toNat) (h : Q (.inl (.int (gi (IvM f i ((f 0).toNat + j))))) I J B) : gC E 36 [.inr (28, 0, 0), .inl (.int (gi i)), .inl (.int (gi j))] I J B Q X := by
  have h0 := hv.1
  refine e_X4_ofInverse (e_X1_height ?_)
  show gC _ _ _ _ _ _ _ _
  rw [hL.1, gi_add]
  exact z_at (i := i) (j := (f 0).toNat + j) hL (by omega) (by omega) hi (by omega) h
end ZM
