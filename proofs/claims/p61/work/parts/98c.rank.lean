/-! ===== the law's minors and rank are the class's ===== -/
theorem Cg0 {x y : Int} (h : Cg 0 x y) : x = y := by
  obtain ⟨k, hk⟩ := h
  omega
theorem dtm_eqv {M N : gMx} {ks cs : List Nat} (h : ∀ i ∈ ks, ∀ c ∈ cs, M i c = N i c) : dtm (ks.map M) cs = dtm (ks.map N) cs := by
  have h1 := dtm_cg (p := 0) (M := M) (N := N) (ks := ks) (us := []) (cs := cs) (fun i hi c hc => Cg.of (h i hi c hc))
  rw [List.append_nil, List.append_nil] at h1
  exact Cg0 h1
theorem lA_mt {f : Nat → Int} {p : Int} {n i c : Nat} (hc : c < n) : Cg p (mtF f p n i c) (lA f i c) := by
  unfold mtF lA
  rw [if_pos hc]
  exact Cg.md
theorem det_link {f : Nat → Int} {p : Int} {k : Nat} (hp : p ∈ primesL) : mnF f k % p = detF f p k := by
  have hb := pr_b hp
  have hM := Rg.mt (f := f) (size := k) (show 1 ≤ p by omega)
  have h1 := el_det (n := k) hp hM
  have h2 : Cg p (Dn k (mtF f p k) (List.range k)) (Dn k (lA f) (List.range k)) := Dn_cg fun i _ c hc => lA_mt (List.mem_range.mp hc)
  have h3 := (h2.sy.tr h1).eq
  have h4 := (elF_b (lim := k) (show 1 ≤ p by omega) hM k).2.1
  rw [Int.emod_eq_of_lt h4.1 h4.2] at h3
  exact h3
/-- sets of columns that are free, as the law says it -/
def Fr (f : Nat → Int) (q : Nat) : Prop := ∃ r, r < 2 ^ (f 0).toNat ∧ (ml (f 0).toNat r).length = (ml (f 0).toNat q).length ∧ dtm ((ml (f 0).toNat r).map (lA f)) (ml (f 0).toNat q) % f 1 ≠ 0
theorem mask_of (P : Nat → Bool) : ∀ n : Nat, ∃ m, m < 2 ^ n ∧ ∀ j, j < n → m.testBit j = P j
  | 0 => ⟨0, by decide, fun j h => absurd h (Nat.not_lt_zero j)⟩
  | n + 1 => by
    obtain ⟨m, h1, h2⟩ := mask_of (fun j => P (j + 1)) n
    refine ⟨2 * m + (if P 0 = true then 1 else 0), ?_, fun j hj => ?_⟩
    · rw [Nat.pow_succ]
      split <;> omega
    · cases j with
      | zero =>
        rw [Nat.testBit_zero]
        cases hP : P 0 <;> simp <;> omega
      | succ j =>
        rw [Nat.testBit_succ]
        have e : (2 * m + (if P 0 = true then 1 else 0)) / 2 = m := by split <;> omega
        rw [e]
        exact h2 j (by omega)
theorem ml_of {n m : Nat} {P : Nat → Bool} (h : ∀ j, j < n → m.testBit j = P j) : ml n m = (List.range n).filter P := by
  unfold ml
  apply List.filter_congr
  intro j hj
  exact h j (List.mem_range.mp hj)
theorem ml_lt {n m : Nat} : ∀ c ∈ ml n m, c < n := fun c hc => List.mem_range.mp (List.mem_filter.mp hc).1
theorem Zv.mt {f : Nat → Int} {p : Int} {n : Nat} {cs : List Nat} (hc : ∀ c ∈ cs, c < n) : Zv p n (mtF f p n) cs ↔ Zv p n (lA f) cs := by
  constructor
  · intro h
    exact h.rc (W := n) (fun i hi => ⟨i, i, 1, 0, hi, hi, fun c hc2 => (lA_mt hc2).sy.tr (Cg.of (by omega))⟩) hc
  · intro h
    exact h.rc (W := n) (fun i hi => ⟨i, i, 1, 0, hi, hi, fun c hc2 => (lA_mt hc2).tr (Cg.of (by omega))⟩) hc
theorem Fr.iff {f : Nat → Int} {q : Nat} : Fr f q ↔ ¬ Zv (f 1) (f 0).toNat (mtF f (f 1) (f 0).toNat) (ml (f 0).toNat q) := by
  rw [Zv.mt ml_lt, ← Zs.iff]
  constructor
  · rintro ⟨r, h1, h2, h3⟩ hz
    exact h3 (Cg.z.mp (hz (fun j => r.testBit j) h2))
  · intro h
    apply Classical.byContradiction
    intro hn
    refine h fun P hl => ?_
    obtain ⟨m, h1, h2⟩ := mask_of P (f 0).toNat
    have e := ml_of h2
    apply Classical.byContradiction
    intro hc
    refine hn ⟨m, h1, by rw [e]; exact hl, fun hz => hc ?_⟩
    rw [e] at hz
    exact Cg.z.mpr hz
/-- the law's rank, as its loop has it -/
noncomputable def rkL (f : Nat → Int) : Nat → Nat
  | 0 => 0
  | q + 1 => @ite Nat (rkL f q < (ml (f 0).toNat q).length ∧ Fr f q) (Classical.propDecidable _) (ml (f 0).toNat q).length (rkL f q)
theorem rkL_t {f : Nat → Int} {q : Nat} (h : rkL f q < (ml (f 0).toNat q).length ∧ Fr f q) : rkL f (q + 1) = (ml (f 0).toNat q).length := @if_pos _ (Classical.propDecidable _) h _ _ _
theorem rkL_f {f : Nat → Int} {q : Nat} (h : ¬ (rkL f q < (ml (f 0).toNat q).length ∧ Fr f q)) : rkL f (q + 1) = rkL f q := @if_neg _ (Classical.propDecidable _) h _ _ _
theorem rkL_ok {f : Nat → Int} (hv : Vf f) : rkL f (2 ^ (f 0).toNat) = rkF f := by
  have h0 := hv.1
  have hb := pr_b hv.2.1
  have hM := Rg.mt (f := f) (p := f 1) (size := (f 0).toNat) (show 1 ≤ f 1 by omega)
  obtain ⟨g1, g2⟩ := el_rank (n := (f 0).toNat) hv.2.1 hM
  have up : ∀ q, rkL f q ≤ rkF f := by
    intro q
    induction q with
    | zero => exact Nat.zero_le _
    | succ q ih =>
      by_cases h : rkL f q < (ml (f 0).toNat q).length ∧ Fr f q
      · rw [rkL_t h]
        apply Classical.byContradiction
        intro hn
        exact Fr.iff.mp h.2 (g2 _ ml_lt (by show rkF f < _; omega))
      · rw [rkL_f h]
        exact ih
  have mono : ∀ q d, rkL f q ≤ rkL f (q + d) := by
    intro q d
    induction d with
    | zero => exact Nat.le_refl _
    | succ d ih =>
      rw [← Nat.add_assoc]
      by_cases h : rkL f (q + d) < (ml (f 0).toNat (q + d)).length ∧ Fr f (q + d)
      · rw [rkL_t h]
        omega
      · rw [rkL_f h]
        exact ih
  obtain ⟨m, h1, h2⟩ := mask_of (isP (f 1) (f 0).toNat (mtF f (f 1) (f 0).toNat)) (f 0).toNat
  have e : ml (f 0).toNat m = pvL (f 1) (f 0).toNat (mtF f (f 1) (f 0).toNat) (f 0).toNat := ml_of h2
  have hF : Fr f m := Fr.iff.mpr (by rw [e]; exact g1)
  have hl : (ml (f 0).toNat m).length = rkF f := by
    rw [e]
    exact (Ech.ok (lim := (f 0).toNat) hv.2.1 hM (f 0).toNat).1
  have h3 := mono (m + 1) (2 ^ (f 0).toNat - (m + 1))
  rw [show m + 1 + (2 ^ (f 0).toNat - (m + 1)) = 2 ^ (f 0).toNat by omega] at h3
  have h4 : rkF f ≤ rkL f (m + 1) := by
    by_cases h : rkL f m < (ml (f 0).toNat m).length ∧ Fr f m
    · rw [rkL_t h]
      omega
    · rw [rkL_f h]
      apply Classical.byContradiction
      intro hn
      exact h ⟨by omega, hF⟩
  have := up (2 ^ (f 0).toNat)
  omega
section LR
variable {E : gEn} {Q : gQt} {X : gXt} {I : gI} {J : gJ} {B : gB} {c w : Nat} {f : Nat → Int}
theorem z_lfree_l {q : Nat} (hv : Vl f) (hL : Lb f I) (hq : q < 2 ^ (f 0).toNat) (k1 : Fr f q → Q (.inl (.int (gi 1))) I J B) (k0 : ¬ Fr f q → Q (.inl (.int (gi 0))) I J B) :
    ∀ d r : Nat, r + d = 2 ^ (f 0).toNat → (∀ r2, r2 < r → ¬ ((ml (f 0).toNat r2).length = (ml (f 0).toNat q).length ∧ dtm ((ml (f 0).toNat r2).map (lA f)) (ml (f 0).toNat q) % f 1 ≠ 0)) → gG E 145 2 [(0, .inr (49, 0, 0)), (1, .inl (.int (gi (q : Int)))), (2, .inl (.int (gi (r : Int))))] [] I J B c w Q X
  | 0, r, hr, hno => by
    have h0 := hv.1.1
    have h5 := hv.2
    have hp := pow32 (f 0).toNat (by omega)
    refine s_X9_areFree_2 ?_
    rw [hL.1, show gi (f 0) = gi (((f 0).toNat : Nat) : Int) by rw [show (((f 0).toNat : Nat) : Int) = f 0 by omega], (ml_first (f 0).toNat (by omega)).2, gi_le (by omega) (by omega) (by omega) (by omega)]
    refine ⟨fun _ => ⟨Or.inl rfl, k0 ?_⟩, fun z => by omega⟩
    rintro ⟨r2, h1, h2, h3⟩
    exact hno r2 (by omega) ⟨h2, h3⟩
  | d + 1, r, hr, hno => by
    have h0 := hv.1.1
    have h5 := hv.2
    have hp := pow32 (f 0).toNat (by omega)
    have hpb := pr_b hv.1.2.1
    refine s_X9_areFree_2 ?_
    rw [hL.1, show gi (f 0) = gi (((f 0).toNat : Nat) : Int) by rw [show (((f 0).toNat : Nat) : Int) = f 0 by omega], (ml_first (f 0).toNat (by omega)).2, gi_le (by omega) (by omega) (by omega) (by omega), gi_add]
    refine ⟨fun z => by omega, fun _ => ?_⟩
    refine z_bc (by omega) ?_
    show gC _ _ _ _ _ _ _ _
    refine z_bc (by omega) ?_
    have l1 := ml_len (n := 5) (m := r)
    have l2 := ml_len (n := 5) (m := q)
    show (¬ gi ((ml 5 r).length : Nat) = gi ((ml 5 q).length : Nat) → _) ∧ (gi ((ml 5 r).length : Nat) = gi ((ml 5 q).length : Nat) → _)
    rw [gi_eq (by omega) (by omega) (by omega) (by omega), ml_5 (f 0).toNat (by omega) r (by omega), ml_5 (f 0).toNat (by omega) q hq]
    refine ⟨fun z => ?_, fun z => ?_⟩
    · refine z_lfree_l hv hL hq k1 k0 d (r + 1) (by omega) fun r2 h2 => ?_
      by_cases e : r2 = r
      · subst e
        exact fun y => z (by rw [y.1])
      · exact hno r2 (by omega)
    · have hb := lA_bd hv (rs := ml (f 0).toNat r) (cs := ml (f 0).toNat q) (by have := ml_len (n := (f 0).toNat) (m := q); omega) (by have := ml_len (n := (f 0).toNat) (m := r); omega)
      refine z_ldet (by omega) hq hv hL ?_
      show gC _ _ _ _ _ _ _ _
      refine z_lmod hv hL (by omega) (by omega) ?_
      have b1 := Int.emod_nonneg (dtm ((ml (f 0).toNat r).map (lA f)) (ml (f 0).toNat q)) (show f 1 ≠ 0 by omega)
      have b2 := Int.emod_lt_of_pos (dtm ((ml (f 0).toNat r).map (lA f)) (ml (f 0).toNat q)) (show 0 < f 1 by omega)
      show (gi _ = gi 0 → _) ∧ (¬ gi _ = gi 0 → _)
      rw [gi_eq (by omega) (by omega) (by decide) (by decide)]
      refine ⟨fun y => ?_, fun y => ⟨Or.inr rfl, k1 ⟨r, by omega, by omega, y⟩⟩⟩
      refine z_lfree_l hv hL hq k1 k0 d (r + 1) (by omega) fun r2 h2 => ?_
      by_cases e : r2 = r
      · subst e
        exact fun x => x.2 y
      · exact hno r2 (by omega)
theorem z_lfree {q : Nat} (hv : Vl f) (hL : Lb f I) (hq : q < 2 ^ (f 0).toNat) (k1 : Fr f q → Q (.inl (.int (gi 1))) I J B) (k0 : ¬ Fr f q → Q (.inl (.int (gi 0))) I J B) : gC E 145 [.inr (49, 0, 0), .inl (.int (gi (q : Int)))] I J B Q X :=
  e_X9_areFree (z_lfree_l hv hL hq k1 k0 _ 0 (Nat.zero_add _) fun r2 h => absurd h (Nat.not_lt_zero r2))
theorem z_lrank_l (hv : Vl f) (hL : Lb f I) (k : Q (.inl (.int (gi (rkF f : Nat)))) I J B) :
    ∀ d q : Nat, q + d = 2 ^ (f 0).toNat → gG E 146 4 [(0, .inr (49, 0, 0)), (1, .inl (.int (gi (rkL f q : Nat)))), (2, .inl (.int (gi (q : Int))))] [] I J B c w Q X
  | 0, q, hq => by
    have h0 := hv.1.1
    have h5 := hv.2
    have hp := pow32 (f 0).toNat (by omega)
    refine s_X9_rank_4 ?_
    rw [hL.1, show gi (f 0) = gi (((f 0).toNat : Nat) : Int) by rw [show (((f 0).toNat : Nat) : Int) = f 0 by omega], (ml_first (f 0).toNat (by omega)).2, gi_le (by omega) (by omega) (by omega) (by omega)]
    refine ⟨fun _ => ?_, fun z => by omega⟩
    rw [show q = 2 ^ (f 0).toNat by omega, rkL_ok hv.1]
    exact k
  | d + 1, q, hq => by
    have h0 := hv.1.1
    have h5 := hv.2
    have hp := pow32 (f 0).toNat (by omega)
    have hr : rkL f q ≤ 5 := by
      have : ∀ q, rkL f q ≤ (f 0).toNat := by
        intro q
        induction q with
        | zero => exact Nat.zero_le _
        | succ q ih =>
          by_cases h : rkL f q < (ml (f 0).toNat q).length ∧ Fr f q
          · rw [rkL_t h]
            exact ml_len
          · rw [rkL_f h]
            exact ih
      have := this q
      omega
    refine s_X9_rank_4 ?_
    rw [hL.1, show gi (f 0) = gi (((f 0).toNat : Nat) : Int) by rw [show (((f 0).toNat : Nat) : Int) = f 0 by omega], (ml_first (f 0).toNat (by omega)).2, gi_le (by omega) (by omega) (by omega) (by omega), gi_add]
    refine ⟨fun z => by omega, fun _ => ?_⟩
    refine z_bc (by omega) ?_
    have l1 := ml_len (n := 5) (m := q)
    show (gi ((ml 5 q).length : Nat) ≤ gi (rkL f q : Nat) → _) ∧ (¬ gi ((ml 5 q).length : Nat) ≤ gi (rkL f q : Nat) → _)
    rw [gi_le (by omega) (by omega) (by omega) (by omega), ml_5 (f 0).toNat (by omega) q (by omega)]
    refine ⟨fun z => ?_, fun z => ?_⟩
    · have := z_lrank_l hv hL k d (q + 1) (by omega)
      rw [rkL_f (fun y => by omega)] at this
      exact this
    · refine z_lfree hv hL (by omega) (fun hF => ?_) (fun hF => ?_)
      · refine ⟨fun y => absurd y (by decide), fun _ => ?_⟩
        refine z_bc (by omega) ?_
        have := z_lrank_l hv hL k d (q + 1) (by omega)
        rw [rkL_t ⟨by omega, hF⟩] at this
        rw [ml_5 (f 0).toNat (by omega) q (by omega)]
        exact this
      · refine ⟨fun _ => ?_, fun y => absurd rfl y⟩
        have := z_lrank_l hv hL k d (q + 1) (by omega)
        rw [rkL_f (fun y => hF y.2)] at this
        exact this
theorem z_lrank (hv : Vl f) (hL : Lb f I) (k : Q (.inl (.int (gi (rkF f : Nat)))) I J B) : gC E 146 [.inr (49, 0, 0)] I J B Q X :=
  e_X9_rank (z_lrank_l hv hL k _ 0 (Nat.zero_add _))
theorem z_lproduct_l {i : Nat} (hv : Vl f) (hL : Lb f I) (hi : i < (f 0).toNat) (k : Q (.inl (.int (gi (pdF f i (f 0).toNat)))) I J B) :
    ∀ d j : Nat, j + d = (f 0).toNat → gG E 147 4 [(0, .inr (49, 0, 0)), (1, .inl (.int (gi (i : Int)))), (2, .inl (.int (gi (pdF f i j)))), (3, .inl (.int (gi (j : Int))))] [] I J B c w Q X
  | 0, j, hj => by
    have h0 := hv.1.1
    have h5 := hv.2
    refine s_X9_product_4 ?_
    rw [hL.1, gi_le (by omega) (by omega) (by omega) (by omega)]
    refine ⟨fun _ => ?_, fun z => by omega⟩
    rw [show j = (f 0).toNat by omega]
    exact k
  | d + 1, j, hj => by
    have h0 := hv.1.1
    have h5 := hv.2
    refine s_X9_product_4 ?_
    rw [hL.1, gi_le (by omega) (by omega) (by omega) (by omega), gi_add]
    refine ⟨fun z => by omega, fun _ => ?_⟩
    refine z_lat hv hL hi (by omega) ?_
    refine ⟨gvp (by omega) (by omega) (by decide), ?_⟩
    rw [gi_c (by omega) (by omega), gtn, hL.2.2.2.2 j (by omega), gi_mul, gi_add]
    exact z_lproduct_l hv hL hi k d (j + 1) (by omega)
theorem z_lproduct {i : Nat} (hv : Vl f) (hL : Lb f I) (hi : i < (f 0).toNat) (k : Q (.inl (.int (gi (pdF f i (f 0).toNat)))) I J B) : gC E 147 [.inr (49, 0, 0), .inl (.int (gi (i : Int)))] I J B Q X :=
  e_X9_product (z_lproduct_l hv hL hi k _ 0 (Nat.zero_add _))
/-- a draw -/
theorem z_draw {a : Nat} {lo hi : Int} (h1 : I 48 0 0 1 = gi (a : Int)) (ha : a ≤ 100000) (hlo : -1000 ≤ lo) (hlh : lo ≤ hi) (hhi : hi ≤ 1000) (hgl : gL E ≤ 100000) (k : ∀ r : Int, lo ≤ r → r ≤ hi → Q (.inl (.int (gi r))) (gUI I 48 0 0 1 (gi ((a + 1 : Nat) : Int))) J B) : gC E 131 [.inr (48, 0, 0), .inl (.int (gi lo)), .inl (.int (gi hi))] I J B Q X := by
  refine e_X8_next ?_
  rw [h1, show Int32.ofNat (gL E) = gi ((gL E : Nat) : Int) from gt_nat _, gi_le (by omega) (by omega) (by omega) (by omega), gi_sub, gi_add, gi_add, gi_eq (by omega) (by omega) (by decide) (by decide)]
  have key : ∀ v : Int, 0 ≤ v → v < 2147483648 → Q (.inl (.int (gi lo + (gi v - gi v / gi (hi - lo + 1) * gi (hi - lo + 1))))) (gUI I 48 0 0 1 (gi ((a : Int) + 1))) J B := by
    intro v hv1 hv2
    rw [gi_rem (by omega) (by omega) (by omega) (by omega), gi_add, Int.tmod_eq_emod_of_nonneg hv1]
    have b1 := Int.emod_nonneg v (show hi - lo + 1 ≠ 0 by omega)
    have b2 := Int.emod_lt_of_pos v (show 0 < hi - lo + 1 by omega)
    exact k _ (by omega) (by omega)
  refine ⟨fun _ => ⟨by omega, key 0 (by decide) (by decide)⟩, fun z => ⟨gvp (by omega) (by omega) (by omega), by omega, ?_⟩⟩
  have e : ∀ x : Int32, ∃ v : Int, 0 ≤ v ∧ v < 2147483648 ∧ (x &&& gi 2147483647) = gi v := by
    intro x
    refine ⟨((x &&& gi 2147483647).toInt), ?_, ?_, (gi_x _).symm⟩
    · have : 0 ≤ (x &&& gi 2147483647).toInt := by
        rw [← Int32.toInt_toBitVec]
        have h2 : (x &&& gi 2147483647).toBitVec = x.toBitVec &&& 2147483647#32 := rfl
        rw [h2, BitVec.toInt_eq_msb_cond, BitVec.msb_and]
        simp
        rw [if_neg (fun h => absurd h.2 (by decide))]
        exact Int.natCast_nonneg _
      exact this
    · exact gi_r2 _
  obtain ⟨v, v1, v2, v3⟩ := e (gXs E (Int32.toNatClampNeg (gi (a : Int))))
  rw [v3]
  exact key v v1 v2
end LR
