/-! ===== the model's elimination of the rows below ===== -/
theorem sw_c {i c : Nat} : sw i c c = i := by
  unfold sw
  by_cases h : c = i
  · rw [if_pos h, h]
  · rw [if_neg h, if_pos rfl]
theorem sw_s {i a : Nat} : sw i i a = a := by
  unfold sw
  by_cases h : a = i
  · rw [if_pos h, h]
  · rw [if_neg h, if_neg h]
theorem elF_z {p : Int} {lim : Nat} {M : gMx} {k : Nat} (h : (elF p lim M k).2.1 = 0) : ∀ d, (elF p lim M (k + d)).2.1 = 0
  | 0 => h
  | d + 1 => by
    have ih := elF_z h d
    show (esF p lim (elF p lim M (k + d)) (k + d)).2.1 = 0
    cases hv : pvF (elF p lim M (k + d)).2.2.2 (k + d) (lim - (elF p lim M (k + d)).1) (elF p lim M (k + d)).1 with
    | none => rw [esF_n hv]
    | some i =>
      rw [esF_s hv]
      show ((elF p lim M (k + d)).2.1 * _) % p = 0
      rw [ih, Int.zero_mul]
      rfl
theorem step_row {p : Int} {E : gMx} {i c r b : Nat} (hr : r ≠ c) : clF p (ldF p E i c c) c c r b = (E (sw i c r) b - (E (sw i c r) c * inv p (E i c)) % p * E i b) % p := by
  have e1 : ∀ b, ldF p E i c c r b = E (sw i c r) b := fun b => by
    unfold ldF sw
    rw [if_neg hr]
    by_cases h : r = i
    · rw [if_pos h, if_pos h]
    · rw [if_neg h, if_neg h, if_neg hr]
  have e2 : ldF p E i c c c b = (inv p (E i c) * E i b) % p := if_pos rfl
  unfold clF
  rw [if_neg hr, e1, e1, e2, ← emod_sub_r, emod_mul_r, ← emod_sub_r (b := _ % p * _), emod_mul_l, ← Int.mul_assoc]
def Bel (I : gI) (R c RB : Nat) (W E' : gMx) (r : Nat) : Prop := (∀ a b, c < a → a < r → a < RB → b ≤ R → I 38 0 0 (8 * a + cmx R b) = gi (E' a b)) ∧ ∀ a b, (a = c ∨ r ≤ a) → a < RB → b ≤ R → I 38 0 0 (8 * a + cmx R b) = gi (W a b)
theorem tk_val {u o v : Int} {p : Int} (hu : 0 ≤ u) (hu2 : u < 31) (ho : 0 ≤ o) (ho2 : o < 31) (hv : 0 ≤ v) (hv2 : v < 31) : gi ((gi u - gi o * gi v).toInt % p) = gi ((u - o * v) % p) := by
  have := mulb ho ho2 hv hv2
  rw [gi_mul, gi_sub, gi_t (by omega) (by omega)]
theorem Bel.step {I I' : gI} {p : Int} {R c RB r i : Nat} {E : gMx} (hR : R ≤ 7) (hRB : RB ≤ 7) (hM : Rg p E) (hp : 1 ≤ p) (hp2 : p ≤ 31) (hr : r < RB) (hcr : c < r) (h : Bel I R c RB (fun a b => E (sw i c a) b) (clF p (ldF p E i c c) c c) r)
    (hI : ∀ a b, a < 7 → b < 8 → I' 38 0 0 (8 * a + b) = if a = r then gi ((I 38 0 0 (8 * r + b) - gi ((E (sw i c r) c * inv p (E i c)) % p) * I 38 0 0 (8 * c + b)).toInt % p) else I 38 0 0 (8 * a + b)) : Bel I' R c RB (fun a b => E (sw i c a) b) (clF p (ldF p E i c c) c c) (r + 1) := by
  have hc : sw i c c = i := by
    unfold sw
    by_cases h : c = i
    · rw [if_pos h, h]
    · rw [if_neg h, if_pos rfl]
  refine ⟨fun a b h1 h2 h3 h4 => ?_, fun a b h1 h3 h4 => ?_⟩
  · have hb := cmx_lt (j := b) hR
    rw [hI a _ (by omega) hb]
    by_cases har : a = r
    · subst har
      have o1 := Int.emod_nonneg (E (sw i c a) c * inv p (E i c)) (show p ≠ 0 by omega)
      have o2 := Int.emod_lt_of_pos (E (sw i c a) c * inv p (E i c)) (show 0 < p by omega)
      have m1 := hM (sw i c a) b
      have m2 := hM i b
      rw [if_pos rfl, h.2 a b (Or.inr (Nat.le_refl a)) h3 h4, h.2 c b (Or.inl rfl) (by omega) h4]
      dsimp only
      rw [hc, tk_val (by omega) (by omega) (by omega) (by omega) (by omega) (by omega), step_row (by omega)]
    · rw [if_neg har]
      exact h.1 a b h1 (by omega) h3 h4
  · have hb := cmx_lt (j := b) hR
    rw [hI a _ (by omega) hb, if_neg (by omega)]
    exact h.2 a b (by omega) h3 h4
def Fpg (I I' : gI) : Prop := ∀ a b c d, a ≠ 38 → ¬ (a = 31 ∧ d = 21) → I' a b c d = I a b c d
theorem Fpg.rf {I : gI} : Fpg I I := fun _ _ _ _ _ _ => rfl
theorem Fpg.tr {I I' I2 : gI} (h : Fpg I I') (h2 : Fpg I' I2) : Fpg I I2 := fun a b c d h3 h4 => (h2 a b c d h3 h4).trans (h a b c d h3 h4)
theorem F38.toG {I I' : gI} (h : F38 I I') : Fpg I I' := fun a b c d h1 _ => h a b c d h1
section ZT
variable {E : gEn} {Q : gQt} {X : gXt} {I : gI} {J : gJ} {B : gB} {c w : Nat} {p : Int} {f : Nat → Int}
theorem Mrow.f38 {I' : gI} (h : Mrow f I) (hF : F38 I I') : Mrow f I' := fun k hk => (hF 32 0 0 k (by decide)).trans (h k hk)
theorem Mrow.fpg {I' : gI} (h : Mrow f I) (hF : Fpg I I') : Mrow f I' := fun k hk => (hF 32 0 0 k (by decide) (fun h => absurd h.1 (by decide))).trans (h k hk)
theorem det_n {k : Nat} (hk : k ≤ (f 0).toNat) : (elF p k (mtF f p ((f 0).toNat)) k).2.1 = detF f p k := by
  have h : Aq k (mtF f p ((f 0).toNat)) (mtF f p k) := fun i j hj => by
    unfold mtF
    rw [if_pos (by omega), if_pos hj]
  exact (elF_ext h k (Nat.le_refl k)).2.1
end ZT
