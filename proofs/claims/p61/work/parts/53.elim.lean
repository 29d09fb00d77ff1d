/-! ===== the elimination: what it depends on ===== -/
theorem pr_mul : ∀ p ∈ primesL, ∀ a b : Int, 0 < a → a < p → 0 < b → b < p → (a * b) % p ≠ 0 := by
  have key : primesL.all (fun p => (List.range 31).all fun a => (List.range 31).all fun b => decide (0 < a → (a : Int) < p → 0 < b → (b : Int) < p → ((a : Int) * (b : Int)) % p ≠ 0)) = true := by decide +kernel
  intro p hp a b h1 h2 h3 h4
  have hb := pr_b hp
  have k1 := List.all_eq_true.mp key p hp
  have k2 := List.all_eq_true.mp k1 a.toNat (List.mem_range.mpr (by omega))
  have k3 := of_decide_eq_true (List.all_eq_true.mp k2 b.toNat (List.mem_range.mpr (by omega)))
  rw [show ((a.toNat : Nat) : Int) = a by omega, show ((b.toNat : Nat) : Int) = b by omega] at k3
  exact k3 (by omega) h2 (by omega) h4
theorem pr_inv : ∀ p ∈ primesL, ∀ a : Int, 0 < a → a < p → (inv p a * a) % p = 1 ∧ 0 < inv p a ∧ inv p a < p := by
  have key : primesL.all (fun p => (List.range 31).all fun a => decide (0 < a → (a : Int) < p → (inv p a * (a : Int)) % p = 1 ∧ 0 < inv p a ∧ inv p a < p)) = true := by decide +kernel
  intro p hp a h1 h2
  have hb := pr_b hp
  have k1 := List.all_eq_true.mp key p hp
  have k2 := of_decide_eq_true (List.all_eq_true.mp k1 a.toNat (List.mem_range.mpr (by omega)))
  rw [show ((a.toNat : Nat) : Int) = a by omega] at k2
  exact k2 (by omega) h2
/-- two grids that are alike in the first columns -/
def Aq (l : Nat) (M M' : gMx) : Prop := ∀ i j, j < l → M i j = M' i j
theorem pvF_ext {l col : Nat} {M M' : gMx} (h : Aq l M M') (hc : col < l) : ∀ d i, pvF M col d i = pvF M' col d i
  | 0, _ => rfl
  | d + 1, i => by
    unfold pvF
    rw [h i col hc, pvF_ext h hc d (i + 1)]
theorem Aq.ld {l i r c : Nat} {p : Int} {M M' : gMx} (h : Aq l M M') (hc : c < l) : Aq l (ldF p M i r c) (ldF p M' i r c) := fun a b hb => by
  unfold ldF
  rw [h i c hc, h i b hb, h r b hb, h a b hb]
theorem Aq.cl {l r c : Nat} {p : Int} {M M' : gMx} (h : Aq l M M') (hc : c < l) : Aq l (clF p M r c) (clF p M' r c) := fun a b hb => by
  unfold clF
  rw [h a c hc, h r b hb, h a b hb]
/-- an elimination's steps go alike -/
def Eq3 (l : Nat) (S S' : gEs) : Prop := S.1 = S'.1 ∧ S.2.1 = S'.2.1 ∧ S.2.2.1 = S'.2.2.1 ∧ Aq l S.2.2.2 S'.2.2.2
theorem elF_ext {l lim : Nat} {p : Int} {M M' : gMx} (h : Aq l M M') : ∀ k, k ≤ l → Eq3 l (elF p lim M k) (elF p lim M' k)
  | 0, _ => ⟨rfl, rfl, rfl, h⟩
  | k + 1, hk => by
    obtain ⟨h1, h2, h3, h4⟩ := elF_ext (lim := lim) (p := p) h k (by omega)
    rw [elF_k, elF_k]
    have hv : pvF (elF p lim M k).2.2.2 k (lim - (elF p lim M k).1) (elF p lim M k).1 = pvF (elF p lim M' k).2.2.2 k (lim - (elF p lim M' k).1) (elF p lim M' k).1 := by
      rw [h1]
      exact pvF_ext h4 (by omega) _ _
    cases hv2 : pvF (elF p lim M' k).2.2.2 k (lim - (elF p lim M' k).1) (elF p lim M' k).1 with
    | none =>
      rw [hv2] at hv
      rw [esF_n hv, esF_n hv2]
      exact ⟨h1, rfl, by show min _ _ = min _ _; rw [h3], h4⟩
    | some i =>
      rw [hv2] at hv
      rw [esF_s hv, esF_s hv2]
      refine ⟨by show _ + 1 = _ + 1; rw [h1], ?_, h3, ?_⟩
      · show (_ * (if _ then _ else _)) % p = (_ * (if _ then _ else _)) % p
        rw [h1, h2, h4 i k (by omega)]
      · show Aq l (clF p (ldF p _ i _ k) _ k) (clF p (ldF p _ i _ k) _ k)
        rw [h1]
        exact (h4.ld (by omega)).cl (by omega)
theorem emod_mul_l (a b p : Int) : (a % p * b) % p = (a * b) % p := by
  rw [Int.mul_emod, Int.emod_emod_of_dvd _ (Int.dvd_refl p), ← Int.mul_emod]
theorem emod_mul_r (a b p : Int) : (a * (b % p)) % p = (a * b) % p := by
  rw [Int.mul_comm, emod_mul_l, Int.mul_comm]
theorem emod_add_l (a b p : Int) : (a % p + b) % p = (a + b) % p := by
  rw [Int.add_emod, Int.emod_emod_of_dvd _ (Int.dvd_refl p), ← Int.add_emod]
theorem emod_add_r (a b p : Int) : (a + b % p) % p = (a + b) % p := by
  rw [Int.add_comm, emod_add_l, Int.add_comm]
theorem emod_sub_l (a b p : Int) : (a % p - b) % p = (a - b) % p := by
  rw [Int.sub_emod, Int.emod_emod_of_dvd _ (Int.dvd_refl p), ← Int.sub_emod]
theorem emod_sub_r (a b p : Int) : (a - b % p) % p = (a - b) % p := by
  rw [Int.sub_emod, Int.emod_emod_of_dvd _ (Int.dvd_refl p), ← Int.sub_emod]
/-- found as many as columns: the determinant isn't 0 -/
theorem elF_det {lim : Nat} {p : Int} {M : gMx} (hp : p ∈ primesL) (hM : Rg p M) : ∀ k, ((elF p lim M k).1 = k → (elF p lim M k).2.1 ≠ 0) ∧ ((elF p lim M k).1 < k → (elF p lim M k).2.1 = 0)
  | 0 => ⟨fun _ => by
      have hb := pr_b hp
      show (1 : Int) % p ≠ 0
      rw [Int.emod_eq_of_lt (by decide) (by omega)]
      decide, fun h => absurd h (Nat.not_lt_zero _)⟩
  | k + 1 => by
    have hb := pr_b hp
    obtain ⟨h1, h2⟩ := elF_det (lim := lim) hp hM k
    obtain ⟨b1, b2, b3, b4⟩ := elF_b (lim := lim) (show 1 ≤ p by omega) hM k
    rw [elF_k]
    cases hv : pvF (elF p lim M k).2.2.2 k (lim - (elF p lim M k).1) (elF p lim M k).1 with
    | none =>
      rw [esF_n hv]
      exact ⟨fun h => by
        have : (elF p lim M k).1 = k + 1 := h
        omega, fun _ => rfl⟩
    | some i =>
      rw [esF_s hv]
      obtain ⟨s1, s2, s3⟩ := pvF_s hv
      have hm := b4 i k
      refine ⟨fun h => ?_, fun h => ?_⟩
      · have hk : (elF p lim M k).1 = k := by
          have : (elF p lim M k).1 + 1 = k + 1 := h
          omega
        have hd := h1 hk
        show ((elF p lim M k).2.1 * _) % p ≠ 0
        have hx := pr_mul p hp (elF p lim M k).2.1 ((elF p lim M k).2.2.2 i k) (by omega) b2.2 (by omega) hm.2
        split
        · exact hx
        · intro h0
          rw [Int.mul_neg] at h0
          exact hx (Int.emod_eq_zero_of_dvd ((Int.dvd_neg).mp (Int.dvd_of_emod_eq_zero h0)))
      · have hk : (elF p lim M k).1 < k := by
          have : (elF p lim M k).1 + 1 < k + 1 := h
          omega
        show ((elF p lim M k).2.1 * _) % p = 0
        rw [h2 hk, Int.zero_mul]
        rfl
/-- the determinant of the first rows and columns -/
def detF (f : Nat → Int) (p : Int) (k : Nat) : Int := (elF p k (mtF f p k) k).2.1
theorem det_reg {f : Nat → Int} {p : Int} {k : Nat} (hp : p ∈ primesL) : detF f p k ≠ 0 ↔ (elF p k (mtF f p k) k).1 = k := by
  have hb := pr_b hp
  obtain ⟨h1, h2⟩ := elF_det (lim := k) hp (Rg.mt (f := f) (size := k) (show 1 ≤ p by omega)) k
  have h3 := elF_lim (p := p) (lim := k) (M := mtF f p k) k
  constructor
  · intro h
    apply Classical.byContradiction
    intro hn
    exact h (h2 (by omega))
  · exact h1
/-- a column that is a sum of others stays one -/
def smF (M : gMx) (r : Nat → Int) (n i : Nat) : Nat → Int
  | 0 => 0
  | k + 1 => smF M r n i k + M i (n + k) * r k
def Lin (p : Int) (n m q : Nat) (r : Nat → Int) (M M' : gMx) : Prop := Aq n M M' ∧ ∀ i, M' i q = (smF M r n i m) % p
theorem smF_ld {p : Int} {M : gMx} {r : Nat → Int} {n i a c : Nat} : ∀ m, (smF (ldF p M i a c) r n a m) % p = (inv p (M i c) * smF M r n i m) % p
  | 0 => by
    show (0 : Int) % p = (inv p (M i c) * 0) % p
    rw [Int.mul_zero]
  | m + 1 => by
    show (smF (ldF p M i a c) r n a m + ldF p M i a c a (n + m) * r m) % p = (inv p (M i c) * (smF M r n i m + M i (n + m) * r m)) % p
    have e : ldF p M i a c a (n + m) = (inv p (M i c) * M i (n + m)) % p := if_pos rfl
    rw [e, ← emod_add_l, smF_ld m, ← emod_add_r, emod_mul_l, emod_add_l, emod_add_r, Int.mul_add, Int.mul_assoc]
theorem smF_cl {p : Int} {M : gMx} {r : Nat → Int} {n i a c : Nat} (h : i ≠ a) : ∀ m, (smF (clF p M a c) r n i m) % p = (smF M r n i m - M i c * smF M r n a m) % p
  | 0 => by
    show (0 : Int) % p = (0 - M i c * 0) % p
    rw [Int.mul_zero]
    rfl
  | m + 1 => by
    show (smF (clF p M a c) r n i m + clF p M a c i (n + m) * r m) % p = (smF M r n i m + M i (n + m) * r m - M i c * (smF M r n a m + M a (n + m) * r m)) % p
    have e : clF p M a c i (n + m) = (M i (n + m) - M i c * M a (n + m)) % p := if_neg h
    rw [e, ← emod_add_l, smF_cl h m, ← emod_add_r, emod_mul_l, emod_add_l, emod_add_r]
    congr 1
    grind
theorem smF_eq {M M' : gMx} {r : Nat → Int} {n i i' : Nat} (h : ∀ b, M i b = M' i' b) : ∀ m, smF M r n i m = smF M' r n i' m
  | 0 => rfl
  | m + 1 => by
    show smF M r n i m + M i (n + m) * r m = smF M' r n i' m + M' i' (n + m) * r m
    rw [smF_eq h m, h]
theorem Lin.ld {p : Int} {n m q : Nat} {r : Nat → Int} {M M' : gMx} {i a c : Nat} (h : Lin p n m q r M M') (hc : c < n) : Lin p n m q r (ldF p M i a c) (ldF p M' i a c) := by
  refine ⟨h.1.ld hc, fun b => ?_⟩
  by_cases h1 : b = a
  · subst h1
    rw [smF_ld]
    show (if b = b then (inv p (M' i c) * M' i q) % p else _) = _
    rw [if_pos rfl, ← h.1 i c hc, h.2 i, emod_mul_r]
  · unfold ldF
    rw [if_neg h1]
    by_cases h2 : b = i
    · subst h2
      rw [if_pos rfl, h.2 a]
      congr 1
      exact smF_eq (fun z => by rw [if_neg h1, if_pos rfl]) m
    · rw [if_neg h2, h.2 b]
      congr 1
      exact smF_eq (fun z => by rw [if_neg h1, if_neg h2]) m
theorem Lin.cl {p : Int} {n m q : Nat} {r : Nat → Int} {M M' : gMx} {a c : Nat} (h : Lin p n m q r M M') (hc : c < n) : Lin p n m q r (clF p M a c) (clF p M' a c) := by
  refine ⟨h.1.cl hc, fun b => ?_⟩
  by_cases h1 : b = a
  · subst h1
    unfold clF
    rw [if_pos rfl, h.2 b]
    congr 1
    exact smF_eq (fun z => by rw [if_pos rfl]) m
  · rw [smF_cl h1]
    unfold clF
    rw [if_neg h1, ← h.1 b c hc, h.2 b, h.2 a, emod_sub_l, ← emod_sub_r, emod_mul_r, emod_sub_r]
theorem elF_lin {p : Int} {n m q lim : Nat} {r : Nat → Int} {M M' : gMx} (h : Lin p n m q r M M') : ∀ k, k ≤ n → Lin p n m q r (elF p lim M k).2.2.2 (elF p lim M' k).2.2.2
  | 0, _ => h
  | k + 1, hk => by
    have ih := elF_lin (lim := lim) h k (by omega)
    obtain ⟨h1, h2, h3, h4⟩ := elF_ext (lim := lim) (p := p) h.1 k (by omega)
    rw [elF_k, elF_k]
    have hv : pvF (elF p lim M k).2.2.2 k (lim - (elF p lim M k).1) (elF p lim M k).1 = pvF (elF p lim M' k).2.2.2 k (lim - (elF p lim M' k).1) (elF p lim M' k).1 := by
      rw [h1]
      exact pvF_ext h4 (by omega) _ _
    cases hv2 : pvF (elF p lim M' k).2.2.2 k (lim - (elF p lim M' k).1) (elF p lim M' k).1 with
    | none =>
      rw [hv2] at hv
      rw [esF_n hv, esF_n hv2]
      exact ih
    | some i =>
      rw [hv2] at hv
      rw [esF_s hv, esF_s hv2]
      show Lin p n m q r (clF p (ldF p _ i _ k) _ k) (clF p (ldF p _ i _ k) _ k)
      rw [h1]
      exact (ih.ld (by omega)).cl (by omega)
