/-! ===== what changes the reference's row ===== -/
def FR (I I' : gI) : Prop := ∀ a b c d, a ≠ 32 → a ≠ 38 → a ≠ 39 → ¬ (a = 31 ∧ d = 21) → I' a b c d = I a b c d
theorem FR.rf {I : gI} : FR I I := fun _ _ _ _ _ _ _ _ => rfl
theorem FR.tr {I I' I2 : gI} (h : FR I I') (h2 : FR I' I2) : FR I I2 := fun a b c d h3 h4 h5 h6 => (h2 a b c d h3 h4 h5 h6).trans (h a b c d h3 h4 h5 h6)
theorem Fgl.toR {I I' : gI} (h : Fgl I I') : FR I I' := fun a b c d _ h1 h2 h3 => h a b c d h1 h2 h3
theorem FR.up {I I' : gI} {k : Nat} {x : Int32} (h : FR I I') : FR I (gUI I' 32 0 0 k x) := fun a b c d h1 h2 h3 h4 => by
  rw [gUI_at, if_neg (fun h5 => h1 h5.1)]
  exact h a b c d h1 h2 h3 h4
theorem Mrow.up {g : Nat → Int} {I : gI} {k : Nat} {v : Int} (h : Mrow g I) : Mrow (upF g k v) (gUI I 32 0 0 k (gi v)) := fun j hj => by
  unfold upF
  rw [gUI_at]
  by_cases hjk : j = k
  · rw [if_pos ⟨rfl, rfl, rfl, hjk⟩, if_pos hjk]
  · rw [if_neg (fun h2 => hjk h2.2.2.2), if_neg hjk]
    exact h j hj
theorem Mrow.eq {g g' : Nat → Int} {I : gI} (h : Mrow g I) (he : ∀ k, k < 408 → g' k = g k) : Mrow g' I := fun k hk => (h k hk).trans (congrArg gi (he k hk).symm)
theorem Mrow.to {g : Nat → Int} {I I' : gI} (h : Mrow g I) (he : ∀ k, k < 408 → I' 32 0 0 k = I 32 0 0 k) : Mrow g I' := fun k hk => (he k hk).trans (h k hk)
/-! the new digits are those of the solution -/
def rsB (f : Nat → Int) : Nat → Int := fun i => if i < (f 0).toNat then f (29 + i) else 0
theorem smF_mI {f : Nat → Int} {p : Int} {n i : Nat} {r : Nat → Int} : ∀ m, smF (mI f p n) r n i m = if i < m then (1 % p) * r i else 0
  | 0 => (if_neg (Nat.not_lt_zero i)).symm
  | m + 1 => by
    show smF (mI f p n) r n i m + mI f p n i (n + m) * r m = _
    rw [smF_mI m, show mI f p n i (n + m) = if n + m = n + i then 1 % p else 0 from by
      unfold mI
      rw [if_neg (by omega)]]
    by_cases h1 : i = m
    · subst h1
      rw [if_neg (Nat.lt_irrefl i), if_pos rfl, if_pos (Nat.lt_succ_self i), Int.zero_add]
    · rw [if_neg (show ¬ n + m = n + i by omega), Int.zero_mul, Int.add_zero]
      by_cases h2 : i < m
      · rw [if_pos h2, if_pos (by omega)]
      · rw [if_neg h2, if_neg (by omega)]
theorem sd_fr {f : Nat → Int} {i : Nat} (hp : 2 ≤ f 1) : sdF f (rsB f) i ((f 0).toNat) = frF f i := by
  have h : Lin (f 1) ((f 0).toNat) ((f 0).toNat) ((f 0).toNat) (fun j => f (29 + j) % f 1) (mI f (f 1) ((f 0).toNat)) (mbF f (f 1) ((f 0).toNat) (rsB f)) := by
    refine ⟨fun a j hj => ?_, fun a => ?_⟩
    · unfold mI mbF
      rw [if_pos hj, if_pos hj]
    · rw [smF_mI]
      unfold mbF rsB
      rw [if_neg (Nat.lt_irrefl _), if_pos rfl]
      by_cases h1 : a < (f 0).toNat
      · rw [if_pos h1, if_pos h1, Int.emod_eq_of_lt (show (0 : Int) ≤ 1 by decide) (by omega), Int.one_mul, Int.emod_emod_of_dvd _ (Int.dvd_refl _)]
      · rw [if_neg h1, if_neg h1]
  exact (elF_lin (lim := (f 0).toNat) h ((f 0).toNat) (Nat.le_refl _)).2 i
def lfA (f : Nat → Int) (i : Nat) : Nat → Int := fun k => if 37 + 7 * (f 36).toNat ≤ k ∧ k < 37 + 7 * (f 36).toNat + i then frF f (k - (37 + 7 * (f 36).toNat)) else f k
def lfB (f : Nat → Int) (i : Nat) : Nat → Int := fun k => if 29 ≤ k ∧ k < 29 + i then (rsS f (k - 29) ((f 0).toNat)).tdiv (f 1) else lfA f ((f 0).toNat) k
theorem lfA_0 {f : Nat → Int} : lfA f 0 = f := by
  funext k
  exact if_neg (fun h => by omega)
theorem lfA_s {f : Nat → Int} {i : Nat} : upF (lfA f i) (37 + 7 * (f 36).toNat + i) (frF f i) = lfA f (i + 1) := by
  funext k
  unfold upF lfA
  by_cases h1 : k = 37 + 7 * (f 36).toNat + i
  · rw [if_pos h1, if_pos ⟨by omega, by omega⟩, show k - (37 + 7 * (f 36).toNat) = i by omega]
  · rw [if_neg h1]
    by_cases h2 : 37 + 7 * (f 36).toNat ≤ k ∧ k < 37 + 7 * (f 36).toNat + i
    · rw [if_pos h2, if_pos ⟨h2.1, by omega⟩]
    · rw [if_neg h2, if_neg (fun h3 => h2 ⟨h3.1, by omega⟩)]
theorem lfB_0 {f : Nat → Int} : lfB f 0 = lfA f ((f 0).toNat) := by
  funext k
  exact if_neg (fun h => by omega)
theorem lfB_s {f : Nat → Int} {i : Nat} : upF (lfB f i) (29 + i) ((rsS f i ((f 0).toNat)).tdiv (f 1)) = lfB f (i + 1) := by
  funext k
  unfold upF lfB
  by_cases h1 : k = 29 + i
  · rw [if_pos h1, if_pos ⟨by omega, by omega⟩, show k - 29 = i by omega]
  · rw [if_neg h1]
    by_cases h2 : 29 ≤ k ∧ k < 29 + i
    · rw [if_pos h2, if_pos ⟨h2.1, by omega⟩]
    · rw [if_neg h2, if_neg (fun h3 => h2 ⟨h3.1, by omega⟩)]
theorem lfB_e {f : Nat → Int} : upF (lfB f ((f 0).toNat)) 36 (f 36 + 1) = lfF f := rfl
theorem lfB_lo {f : Nat → Int} {i k : Nat} (h : k < 29 ∨ k = 36) : lfB f i k = if 29 ≤ k ∧ k < 29 + i then (rsS f (k - 29) ((f 0).toNat)).tdiv (f 1) else f k := by
  unfold lfB lfA
  split
  · rfl
  · exact if_neg (fun h => by omega)
theorem lfB_l {f : Nat → Int} {i k : Nat} (h : k < 29) : lfB f i k = f k := by
  rw [lfB_lo (Or.inl h), if_neg (by omega)]
theorem lfB_36 {f : Nat → Int} {i : Nat} (h : i ≤ 7) : lfB f i 36 = f 36 := by
  rw [lfB_lo (Or.inr rfl), if_neg (by omega)]
theorem lfB_fr {f : Nat → Int} {i j : Nat} (hi : i ≤ 7) (hj : j < (f 0).toNat) : lfB f i (37 + 7 * (f 36).toNat + j) = frF f j := by
  unfold lfB lfA
  rw [if_neg (by omega), if_pos ⟨by omega, by omega⟩, show 37 + 7 * (f 36).toNat + j - (37 + 7 * (f 36).toNat) = j by omega]
theorem lfB_rs {f : Nat → Int} {i : Nat} (hi : i < 7) : lfB f i (29 + i) = f (29 + i) := by
  unfold lfB lfA
  rw [if_neg (by omega), if_neg (by omega)]
section YA
variable {E : gEn} {Q : gQt} {X : gXt} {I : gI} {J : gJ} {B : gB} {c w : Nat} {p : Int} {f : Nat → Int}
theorem gat {m i : Nat} (hm : m ≤ 39) (hi : i < 7) : vp_in (gi ((37 + 7 * m : Nat) : Int) + gi (i : Int)) 408 ∧ Int32.toNatClampNeg (gi ((37 + 7 * m : Nat) : Int) + gi (i : Int)) = 37 + 7 * m + i := gsi (r0 := 37 + 7 * m) (i := i) (by omega)
end YA
