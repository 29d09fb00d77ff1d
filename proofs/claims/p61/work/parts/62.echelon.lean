/-! ===== the grid behind an elimination ===== -/
/-- a column that holds a pivot -/
def isP (p : Int) (lim : Nat) (M : gMx) (c : Nat) : Bool := (pvF (elF p lim M c).2.2.2 c (lim - (elF p lim M c).1) (elF p lim M c).1).isSome
def pvL (p : Int) (lim : Nat) (M : gMx) (k : Nat) : List Nat := (List.range k).filter (isP p lim M)
theorem pvL_n {p : Int} {lim k : Nat} {M : gMx} (h : isP p lim M k = false) : pvL p lim M (k + 1) = pvL p lim M k := by
  unfold pvL
  rw [List.range_succ, List.filter_append, List.filter_cons_of_neg (by rw [h]; decide), List.filter_nil, List.append_nil]
theorem pvL_s {p : Int} {lim k : Nat} {M : gMx} (h : isP p lim M k = true) : pvL p lim M (k + 1) = pvL p lim M k ++ [k] := by
  unfold pvL
  rw [List.range_succ, List.filter_append, List.filter_cons_of_pos h, List.filter_nil]
theorem pvL_lt {p : Int} {lim k : Nat} {M : gMx} : ∀ x ∈ pvL p lim M k, x < k := fun x hx => List.mem_range.mp (List.mem_filter.mp hx).1
theorem pvF_n {M : gMx} {col : Nat} : ∀ {d i : Nat}, pvF M col d i = none → ∀ a, i ≤ a → a < i + d → M a col = 0
  | 0, _, _, a, h1, h2 => by omega
  | d + 1, i, h, a, h1, h2 => by
    unfold pvF at h
    split at h
    · rename_i h0
      by_cases e : a = i
      · rw [e]; exact h0
      · exact pvF_n h a (by omega) (by omega)
    · cases h
/-- what stands behind k columns -/
def Ech (p : Int) (lim : Nat) (M : gMx) (k : Nat) : Prop :=
  (pvL p lim M k).length = (elF p lim M k).1 ∧
  (∀ t c, (pvL p lim M k)[t]? = some c → (elF p lim M k).2.2.2 t c = 1 ∧ ∀ a, a ≠ t → (elF p lim M k).2.2.2 a c = 0) ∧
  (∀ a c, (elF p lim M k).1 ≤ a → a < lim → c < k → (elF p lim M k).2.2.2 a c = 0)
theorem Ech.ok {p : Int} {lim : Nat} {M : gMx} (hp : p ∈ primesL) (hM : Rg p M) : ∀ k, Ech p lim M k
  | 0 => by
    refine ⟨rfl, fun t c h => ?_, fun a c _ _ h => absurd h (Nat.not_lt_zero c)⟩
    have h2 : ([] : List Nat)[t]? = some c := h
    simp at h2
  | k + 1 => by
    obtain ⟨h1, h2, h3⟩ := Ech.ok (lim := lim) hp hM k
    have hb := pr_b hp
    obtain ⟨b1, b2, b3, b4⟩ := elF_b (lim := lim) (show 1 ≤ p by omega) hM k
    have e1 : (1 : Int) % p = 1 := Int.emod_eq_of_lt (by decide) (by omega)
    cases hv : pvF (elF p lim M k).2.2.2 k (lim - (elF p lim M k).1) (elF p lim M k).1 with
    | none =>
      have hP : isP p lim M k = false := by unfold isP; rw [hv]; rfl
      unfold Ech
      rw [elF_k, esF_n hv, pvL_n hP]
      refine ⟨h1, h2, fun a c ha hl hc => ?_⟩
      by_cases e : c = k
      · subst e
        exact pvF_n hv a ha (by have := elF_lim (p := p) (lim := lim) (M := M) c; omega)
      · exact h3 a c ha hl (by omega)
    | some i =>
      have hP : isP p lim M k = true := by unfold isP; rw [hv]; rfl
      obtain ⟨s1, s2, s3⟩ := pvF_s hv
      unfold Ech
      rw [elF_k, esF_s hv, pvL_s hP]
      have hlen := h1
      generalize hS : elF p lim M k = S at *
      obtain ⟨r, dt, ff, N⟩ := S
      simp only at h1 h2 h3 b4 s1 s2 s3 hv b1 ⊢
      have hbi := b4 i k
      obtain ⟨g1, g2, g3⟩ := pr_inv p hp (N i k) (by omega) hbi.2
      -- behind the leading row
      have l1 : ldF p N i r k r k = 1 := by
        show (if r = r then _ else _) = _
        rw [if_pos rfl, g1]
      have l2 : ∀ t c, (pvL p lim M k)[t]? = some c → ldF p N i r k t c = 1 ∧ ∀ a, a ≠ t → ldF p N i r k a c = 0 := by
        intro t c ht
        obtain ⟨u1, u2⟩ := h2 t c ht
        have htr : t < r := by
          have := (List.getElem?_eq_some_iff.mp ht).1
          omega
        refine ⟨?_, fun a ha => ?_⟩
        · unfold ldF
          rw [if_neg (by omega), if_neg (by omega)]
          exact u1
        · unfold ldF
          by_cases e : a = r
          · rw [if_pos e, u2 i (by omega), Int.mul_zero, Int.zero_emod]
          · rw [if_neg e]
            by_cases e2 : a = i
            · rw [if_pos e2]
              exact u2 r (by omega)
            · rw [if_neg e2]
              exact u2 a ha
      have l3 : ∀ a c, r ≤ a → a < lim → c < k → ldF p N i r k a c = 0 := by
        intro a c ha hl hc
        unfold ldF
        by_cases e : a = r
        · rw [if_pos e, h3 i c s1 (by omega) hc, Int.mul_zero, Int.zero_emod]
        · rw [if_neg e]
          by_cases e2 : a = i
          · rw [if_pos e2]
            exact h3 r c (Nat.le_refl r) (by omega) hc
          · rw [if_neg e2]
            exact h3 a c ha hl hc
      refine ⟨by rw [List.length_append, h1]; rfl, fun t c ht => ?_, fun a c ha hl hc => ?_⟩
      · by_cases e : t < (pvL p lim M k).length
        · rw [List.getElem?_append_left e] at ht
          obtain ⟨u1, u2⟩ := l2 t c ht
          have htr : t ≠ r := by omega
          have hr0 : ldF p N i r k r c = 0 := u2 r (Ne.symm htr)
          refine ⟨?_, fun a ha => ?_⟩
          · unfold clF
            rw [if_neg htr, hr0, Int.mul_zero, Int.sub_zero, u1, e1]
          · unfold clF
            by_cases e2 : a = r
            · rw [if_pos e2]
              exact u2 a ha
            · rw [if_neg e2, hr0, Int.mul_zero, Int.sub_zero, u2 a ha, Int.zero_emod]
        · rw [List.getElem?_append_right (by omega)] at ht
          have ht2 : t - (pvL p lim M k).length = 0 := by
            have := (List.getElem?_eq_some_iff.mp ht).1
            simp only [List.length_cons, List.length_nil] at this
            omega
          rw [ht2] at ht
          have hc : c = k := by simpa using ht.symm
          have htr : t = r := by omega
          subst hc
          subst htr
          refine ⟨?_, fun a ha => ?_⟩
          · unfold clF
            rw [if_pos rfl]
            exact l1
          · unfold clF
            rw [if_neg ha, l1, Int.mul_one, Int.sub_self, Int.zero_emod]
      · have ha2 : r + 1 ≤ a := ha
        unfold clF
        rw [if_neg (show a ≠ r by omega)]
        by_cases e : c = k
        · subst e
          rw [l1, Int.mul_one, Int.sub_self, Int.zero_emod]
        · rw [l3 a c (by omega) hl (by omega), l3 r c (Nat.le_refl r) (by omega) (by omega), Int.mul_zero, Int.sub_zero, Int.zero_emod]
/-! the rows of the one are made of the rows of the other -/
theorem Rc.ld {p : Int} {n W i r c : Nat} {M : gMx} (hi : i < n) (hr : r < n) : Rc p n W M (ldF p M i r c) := fun a ha => by
  by_cases e : a = r
  · exact ⟨i, i, inv p (M i c), 0, hi, hi, fun b _ => by
      unfold ldF
      rw [if_pos e]
      exact Cg.md.tr (Cg.of (by omega))⟩
  · by_cases e2 : a = i
    · exact ⟨r, r, 1, 0, hr, hr, fun b _ => by
        unfold ldF
        rw [if_neg e, if_pos e2]
        exact Cg.of (by omega)⟩
    · exact ⟨a, a, 1, 0, ha, ha, fun b _ => by
        unfold ldF
        rw [if_neg e, if_neg e2]
        exact Cg.of (by omega)⟩
theorem Rc.ldi {p : Int} {n W i r c : Nat} {M : gMx} (hp : p ∈ primesL) (hM : Rg p M) (hi : i < n) (hr : r < n) (h0 : M i c ≠ 0) : Rc p n W (ldF p M i r c) M := fun a ha => by
  have hb := hM i c
  have hpb := pr_b hp
  obtain ⟨g1, g2, g3⟩ := pr_inv p hp (M i c) (by omega) hb.2
  have hv : Cg p (M i c * inv p (M i c)) 1 := Cg.of_md (by rw [Int.mul_comm, g1, Int.emod_eq_of_lt (by decide) (by omega)])
  by_cases e2 : a = i
  · refine ⟨r, r, M i c, 0, hr, hr, fun b _ => ?_⟩
    rw [e2]
    unfold ldF
    rw [if_pos rfl]
    refine Cg.sy ?_
    refine (((Cg.rf.mul Cg.md).add Cg.rf).tr (Cg.of (show M i c * (inv p (M i c) * M i b) + 0 * (inv p (M i c) * M i b % p) = (M i c * inv p (M i c)) * M i b by rw [Int.zero_mul, Int.add_zero, Int.mul_assoc]))).tr ?_
    have h2 := hv.mul (Cg.rf (p := p) (x := M i b))
    rw [Int.one_mul] at h2
    exact h2
  · by_cases e : a = r
    · refine ⟨i, i, 1, 0, hi, hi, fun b _ => ?_⟩
      rw [e]
      unfold ldF
      rw [if_neg (show i ≠ r by omega), if_pos rfl]
      exact Cg.of (by omega)
    · exact ⟨a, a, 1, 0, ha, ha, fun b _ => by
        unfold ldF
        rw [if_neg e, if_neg e2]
        exact Cg.of (by omega)⟩
theorem Rc.cl {p : Int} {n W r c : Nat} {M : gMx} (hr : r < n) : Rc p n W M (clF p M r c) := fun a ha => by
  by_cases e : a = r
  · exact ⟨a, a, 1, 0, ha, ha, fun b _ => by
      unfold clF
      rw [if_pos e]
      exact Cg.of (by omega)⟩
  · exact ⟨a, r, 1, - M a c, ha, hr, fun b _ => by
      unfold clF
      rw [if_neg e]
      exact Cg.md.tr (Cg.of (by rw [Int.neg_mul]; omega))⟩
theorem Rc.cli {p : Int} {n W r c : Nat} {M : gMx} (hr : r < n) : Rc p n W (clF p M r c) M := fun a ha => by
  by_cases e : a = r
  · exact ⟨a, a, 1, 0, ha, ha, fun b _ => by
      unfold clF
      rw [if_pos e]
      exact Cg.of (by omega)⟩
  · exact ⟨a, r, 1, M a c, ha, hr, fun b _ => by
      unfold clF
      rw [if_neg e, if_pos rfl]
      exact Cg.sy (((Cg.rf.mul Cg.md).add Cg.rf).tr (Cg.of (by omega)))⟩
/-- what all rows' combinations keep -/
def Kp (p : Int) (n : Nat) (G : gMx → Prop) : Prop := ∀ M N : gMx, Rc p n (n + 1) M N → Rc p n (n + 1) N M → G M → G N
theorem elF_kp {p : Int} {n : Nat} {M : gMx} (hp : p ∈ primesL) (hM : Rg p M) {G : gMx → Prop} (hG : Kp p n G) : ∀ k, (G M ↔ G (elF p n M k).2.2.2)
  | 0 => Iff.rfl
  | k + 1 => by
    refine (elF_kp hp hM hG k).trans ?_
    have hpb := pr_b hp
    obtain ⟨b1, b2, b3, b4⟩ := elF_b (lim := n) (show 1 ≤ p by omega) hM k
    rw [elF_k]
    cases hv : pvF (elF p n M k).2.2.2 k (n - (elF p n M k).1) (elF p n M k).1 with
    | none =>
      rw [esF_n hv]
    | some i =>
      obtain ⟨s1, s2, s3⟩ := pvF_s hv
      have hl := elF_lim (p := p) (lim := n) (M := M) k
      rw [esF_s hv]
      have hi : i < n := by omega
      have hr : (elF p n M k).1 < n := by omega
      have q1 := hG _ _ (Rc.ld (p := p) (c := k) hi hr) (Rc.ldi hp b4 hi hr s3)
      have q2 := hG _ _ (Rc.ldi (W := n + 1) hp b4 hi hr s3) (Rc.ld (p := p) (c := k) hi hr)
      have q3 := hG _ _ (Rc.cl (p := p) (c := k) (M := ldF p (elF p n M k).2.2.2 i (elF p n M k).1 k) hr) (Rc.cli hr)
      have q4 := hG _ _ (Rc.cli (p := p) (W := n + 1) (c := k) (M := ldF p (elF p n M k).2.2.2 i (elF p n M k).1 k) hr) (Rc.cl hr)
      exact ⟨fun h => q3 (q1 h), fun h => q2 (q4 h)⟩
theorem Zv.kp {p : Int} {n : Nat} {cs : List Nat} (hc : ∀ c ∈ cs, c < n + 1) : Kp p n (fun M => Zv p n M cs) := fun _ _ h1 _ hz => hz.rc h1 hc
/-- the determinant along the elimination -/
theorem elF_Dn {p : Int} {n : Nat} {M : gMx} {cs : List Nat} (hp : p ∈ primesL) (hM : Rg p M) : ∀ k, (elF p n M k).1 = k → Cg p (Dn n M cs) ((elF p n M k).2.1 * Dn n (elF p n M k).2.2.2 cs)
  | 0, _ => by
    show Cg p (Dn n M cs) ((1 % p) * Dn n M cs)
    have h := (Cg.md (p := p) (x := 1)).mul (Cg.rf (p := p) (x := Dn n M cs))
    rw [Int.one_mul] at h
    exact h.sy
  | k + 1, hk => by
    have hpb := pr_b hp
    obtain ⟨b1, b2, b3, b4⟩ := elF_b (lim := n) (show 1 ≤ p by omega) hM k
    rw [elF_k] at hk ⊢
    cases hv : pvF (elF p n M k).2.2.2 k (n - (elF p n M k).1) (elF p n M k).1 with
    | none =>
      rw [esF_n hv] at hk
      have hk : (elF p n M k).1 = k + 1 := hk
      omega
    | some i =>
      obtain ⟨s1, s2, s3⟩ := pvF_s hv
      have hl := elF_lim (p := p) (lim := n) (M := M) k
      rw [esF_s hv] at hk ⊢
      have hk : (elF p n M k).1 + 1 = k + 1 := hk
      have ih := elF_Dn (n := n) (cs := cs) hp hM k (by omega)
      have hi : i < n := by omega
      have hr : (elF p n M k).1 < n := by omega
      refine ih.tr ?_
      show Cg p _ (((elF p n M k).2.1 * (if i = (elF p n M k).1 then (elF p n M k).2.2.2 i k else - (elF p n M k).2.2.2 i k)) % p * Dn n (clF p (ldF p (elF p n M k).2.2.2 i (elF p n M k).1 k) (elF p n M k).1 k) cs)
      have h1 := Dn_ld (cs := cs) hp b4 hi hr s3
      have h2 := Dn_cl (p := p) (c := k) (M := ldF p (elF p n M k).2.2.2 i (elF p n M k).1 k) (cs := cs) hr
      refine (Cg.rf.mul h1).tr ?_
      rw [← Int.mul_assoc]
      exact (Cg.md.sy).mul h2.sy
