/-! ===== digits ===== -/
def vT (f : Nat → Int) (i : Nat) : Nat → Nat → Int
  | 0, _ => 0
  | d + 1, k => f (37 + 7 * k + i) + f 1 * vT f i d (k + 1)
theorem vXs_T {f : Nat → Int} {i : Nat} : ∀ d k, vXs f i (k + d) = vXs f i k + f 1 ^ k * vT f i d k
  | 0, k => by
    show vXs f i k = _ + _ * 0
    omega
  | d + 1, k => by
    have h := vXs_T (f := f) (i := i) d (k + 1)
    rw [show k + 1 + d = k + (d + 1) by omega] at h
    rw [h]
    show vXs f i k + f (37 + 7 * k + i) * f 1 ^ k + f 1 ^ (k + 1) * vT f i d (k + 1) = vXs f i k + f 1 ^ k * (f (37 + 7 * k + i) + f 1 * vT f i d (k + 1))
    rw [Int.pow_succ, Int.mul_add, Int.mul_assoc, Int.mul_comm (f (37 + 7 * k + i))]
    omega
theorem vX_T {f : Nat → Int} {i : Nat} : vX f i = vT f i (f 36).toNat 0 := by
  have h := vXs_T (f := f) (i := i) (f 36).toNat 0
  rw [Nat.zero_add] at h
  unfold vX
  rw [h, Int.pow_zero, Int.one_mul]
  show 0 + _ = _
  omega
theorem vT_b {f : Nat → Int} {i : Nat} (hp : 2 ≤ f 1) : ∀ d k, (∀ j, k ≤ j → j < k + d → 0 ≤ f (37 + 7 * j + i) ∧ f (37 + 7 * j + i) < f 1) → 0 ≤ vT f i d k ∧ vT f i d k < f 1 ^ d
  | 0, k, _ => ⟨Int.le_refl 0, by show (0 : Int) < f 1 ^ 0; rw [Int.pow_zero]; decide⟩
  | d + 1, k, h => by
    obtain ⟨h1, h2⟩ := vT_b hp d (k + 1) (fun j h1 h2 => h j (by omega) (by omega))
    obtain ⟨h3, h4⟩ := h k (Nat.le_refl k) (by omega)
    show 0 ≤ f (37 + 7 * k + i) + f 1 * vT f i d (k + 1) ∧ f (37 + 7 * k + i) + f 1 * vT f i d (k + 1) < f 1 ^ (d + 1)
    rw [Int.pow_succ]
    have a1 := Int.mul_nonneg (show 0 ≤ f 1 by omega) h1
    have a2 : f 1 * vT f i d (k + 1) ≤ f 1 * (f 1 ^ d - 1) := Int.mul_le_mul_of_nonneg_left (by omega) (by omega)
    rw [Int.mul_sub, Int.mul_one, Int.mul_comm (f 1) (f 1 ^ d)] at a2
    omega
theorem vT_dm {f : Nat → Int} {i d k : Nat} (h1 : 0 ≤ f (37 + 7 * k + i)) (h2 : f (37 + 7 * k + i) < f 1) : vT f i (d + 1) k / f 1 = vT f i d (k + 1) ∧ vT f i (d + 1) k % f 1 = f (37 + 7 * k + i) := by
  show (f (37 + 7 * k + i) + f 1 * vT f i d (k + 1)) / f 1 = _ ∧ (f (37 + 7 * k + i) + f 1 * vT f i d (k + 1)) % f 1 = _
  refine ⟨?_, ?_⟩
  · rw [Int.add_mul_ediv_left _ _ (by omega), Int.ediv_eq_zero_of_lt h1 h2, Int.zero_add]
  · rw [Int.add_mul_emod_self_left, Int.emod_eq_of_lt h1 h2]
theorem Vf.p {f : Nat → Int} (h : Vf f) : 2 ≤ f 1 ∧ f 1 ≤ 31 := pr_b h.2.1
theorem Vf.dig {f : Nat → Int} (h : Vf f) {k i : Nat} (hk : k < (f 36).toNat) (hi : i < (f 0).toNat) : 0 ≤ f (37 + 7 * k + i) ∧ f (37 + 7 * k + i) < f 1 := h.2.2.2.2.2.2.2.1 k i hk hi
theorem Vf.pw {f : Nat → Int} (h : Vf f) : 0 ≤ f 36 ∧ f 1 ^ (f 36).toNat ≤ 1000000000000 := h.2.2.2.2.2.2.1
theorem Vf.vT {f : Nat → Int} (h : Vf f) {k d i : Nat} (hk : k + d = (f 36).toNat) (hi : i < (f 0).toNat) : 0 ≤ vT f i d k ∧ vT f i d k < 1000000000000 := by
  obtain ⟨h1, h2⟩ := vT_b (i := i) h.p.1 d k (fun j a b => h.dig (by omega) hi)
  have h3 := pow_mono h.p.1 d k
  rw [Nat.add_comm d k, hk] at h3
  have := h.pw.2
  exact ⟨h1, by omega⟩
section ZI
variable {E : gEn} {Q : gQt} {X : gXt} {I : gI} {J : gJ} {B : gB} {c w : Nat} {n : Nat} {f : Nat → Int} {p : Int}
theorem z_digitOf_l {k i : Nat} (hv : Vf f) (h1 : I 6 n 0 1 = gi (f 1)) (hk : k < (f 36).toNat) (hi : i < (f 0).toNat) (h : Q (.inl (.int (gi (f (37 + 7 * k + i))))) I J B) : ∀ d j : Nat, j + d = k → gG E 50 33 [(0, .inr (6, n, 0)), (1, .inl (.int (gi k))), (3, .inl (.long (gj (vT f i ((f 36).toNat - j) j)))), (5, .inl (.int (gi j)))] [] I J B c w Q X
  | d, j, hj => by
    have hp := hv.p
    have hl := hv.pw
    have h36 : (f 36).toNat ≤ 39 := pow_lim hp.1 hl.2
    obtain ⟨b1, b2⟩ := hv.vT (k := j) (d := (f 36).toNat - j) (i := i) (by omega) hi
    obtain ⟨q1, q2⟩ := hv.dig (k := j) (i := i) (by omega) hi
    have e : (f 36).toNat - j = ((f 36).toNat - (j + 1)) + 1 := by omega
    obtain ⟨m1, m2⟩ := vT_dm (f := f) (i := i) (d := (f 36).toNat - (j + 1)) (k := j) q1 q2
    rw [← e] at m1 m2
    refine s_X6_digitOf_33 ?_
    rw [h1, gij (by omega) (by omega), gj_rem (by omega) (by omega) (by omega) (by omega), gj_div (by omega) (by omega) (by omega) (by omega), gji, gi_le (by omega) (by omega) (by omega) (by omega), gj_eq (by omega) (by omega) (by decide) (by decide), Int.tmod_eq_emod_of_nonneg b1, Int.tdiv_eq_ediv_of_nonneg b1, m1, m2, gi_add]
    refine ⟨fun h0 => ⟨by omega, ?_⟩, fun h0 => ⟨by omega, ?_⟩⟩
    · obtain rfl : j = k := by omega
      exact h
    · cases d with
      | zero => omega
      | succ d => exact z_digitOf_l hv h1 hk hi h d (j + 1) (by omega)
theorem z_digitOf {k i : Nat} (hv : Vf f) (hR : Rst f I J n) (hk : k < (f 36).toNat) (hi : i < (f 0).toNat) (h : Q (.inl (.int (gi (f (37 + 7 * k + i))))) I J B) : gC E 50 [.inr (6, n, 0), .inl (.int (gi k)), .inl (.int (gi i))] I J B Q X := by
  have hp := hv.p
  have h0 := hv.1
  have hl := hv.pw
  have h36 : (f 36).toNat ≤ 39 := pow_lim hp.1 hl.2
  refine e_X6_digitOf ?_
  rw [hR.1.2.1, gi_lt (by omega) (by omega) (by decide) (by decide), gi_lt (by omega) (by omega) (by decide) (by decide), gi_lt (by omega) (by omega) (by decide) (by decide), gi_c (by omega) (by omega), gtn, hR.2.2.2.1 i hi, vX_T]
  exact ⟨fun h => by omega, fun _ => ⟨fun h => by omega, fun _ => ⟨fun _ => ⟨gvp (by omega) (by omega) (by decide), z_digitOf_l hv hR.1.2.1 hk hi h k 0 (by omega)⟩, fun h => by omega⟩⟩⟩
/-- the greatest residual -/
def mxF (f : Nat → Int) : Nat → Int
  | 0 => 0
  | i + 1 => max (mxF f i) ((f (29 + i)).natAbs : Int)
theorem mxF_b {f : Nat → Int} (h : ∀ i, i < 7 → -999 ≤ f (29 + i) ∧ f (29 + i) ≤ 999) : ∀ i, i ≤ 7 → 0 ≤ mxF f i ∧ mxF f i ≤ 999
  | 0, _ => ⟨Int.le_refl 0, by show (0 : Int) ≤ 999; decide⟩
  | i + 1, hi => by
    have h1 := mxF_b h i (by omega)
    have h2 := h i (by omega)
    show 0 ≤ max (mxF f i) _ ∧ max (mxF f i) _ ≤ 999
    omega
def upF (f : Nat → Int) (k : Nat) (v : Int) : Nat → Int := fun j => if j = k then v else f j
/-- an entry in the account -/
def bkF (f : Nat → Int) (x : Int) : Nat → Int := if f 317 < 30 then upF (upF (upF (upF f (318 + 3 * (f 317).toNat) (f 36)) (319 + 3 * (f 317).toNat) (mxF f (f 0).toNat)) (320 + 3 * (f 317).toNat) x) 317 (f 317 + 1) else f
theorem upF_ne {f : Nat → Int} {k j : Nat} {v : Int} (h : j ≠ k) : upF f k v j = f j := if_neg h
theorem bkF_lo {f : Nat → Int} {x : Int} {j : Nat} (h : j < 317) : bkF f x j = f j := by
  unfold bkF
  split
  · rw [upF_ne (by omega), upF_ne (by omega), upF_ne (by omega), upF_ne (by omega)]
  · rfl
theorem bkF_vX {f : Nat → Int} {x : Int} {i : Nat} (h36 : (f 36).toNat ≤ 39) (hi : i < 7) : vX (bkF f x) i = vX f i := by
  unfold vX
  rw [bkF_lo (by decide)]
  have key : ∀ k, k ≤ 39 → vXs (bkF f x) i k = vXs f i k := by
    intro k
    induction k with
    | zero => exact fun _ => rfl
    | succ k ih =>
      intro hk
      show vXs (bkF f x) i k + bkF f x (37 + 7 * k + i) * (bkF f x 1) ^ k = _
      rw [ih (by omega), bkF_lo (by omega), bkF_lo (by decide)]
      rfl
  exact key _ h36
theorem z_enter_l {x : Int} (hv : Vf f) (hR : Rst f I J n) (hx : x = 0 ∨ x = 1) (h317 : f 317 < 30) (k : ∀ I', FS n I I' → Rst (bkF f x) I' J n → Q (.inl .null) I' J B) : ∀ d i : Nat, i + d = (f 0).toNat → gG E 51 14 [(0, .inr (6, n, 0)), (1, .inl (.int (gi x))), (2, .inl (.int (gi (mxF f i)))), (3, .inl (.int (gi i)))] [] I J B c w Q X
  | 0, i, hi => by
    obtain ⟨v0, v1, v2, v3, v4, v5, v6, v7, v8⟩ := hv
    have h36 : (f 36).toNat ≤ 39 := pow_lim (pr_b v1).1 v6.2
    have ho := hR.1.1
    have he := hR.1.2.2.2.2.2.1
    have hc := hR.2.1
    refine s_X6_enter_14 ?_
    rw [ho, he, hc]
    simp only [gi_mul, gi_add]
    rw [gi_le (by omega) (by omega) (by omega) (by omega), gi_eq (by omega) (by omega) (by decide) (by decide), gi_c (by omega) (by omega), gi_c (by omega) (by omega), gi_c (by omega) (by omega)]
    have e1 : (3 * f 317).toNat = 3 * (f 317).toNat := by omega
    have e2 : (3 * f 317 + 1).toNat = 3 * (f 317).toNat + 1 := by omega
    have e3 : (3 * f 317 + 2).toNat = 3 * (f 317).toNat + 2 := by omega
    rw [e1, e2, e3]
    have key : Q (.inl .null) (gUI (gUI (gUI (gUI I 12 n 0 (3 * (f 317).toNat) (gi (f 36))) 12 n 0 (3 * (f 317).toNat + 1) (gi (mxF f i))) 12 n 0 (3 * (f 317).toNat + 2) (gi x)) 6 n 0 9 (gi (f 317 + 1))) J B := by
      refine k _ ((((FS.rf.up (by decide) (by decide)).up (by decide) (by decide)).up (by decide) (by decide)).up (by decide) (by decide)) ?_
      obtain ⟨⟨a1, a2, a3, a4, a5, a6, a7⟩, a8, a9, a10, a11⟩ := hR
      have hb : bkF f x 317 = f 317 + 1 := by
        unfold bkF
        rw [if_pos h317]
        exact if_pos rfl
      refine ⟨⟨?_, ?_, fun i hi => ?_, fun i hi => ?_, fun i hi => ?_, ?_, fun j hj => ?_⟩, ?_, ?_, fun i hi => ?_, fun i hi => ?_⟩
      · rw [bkF_lo (by decide)]
        simp only [gUI_at]
        simpa using a1
      · rw [bkF_lo (by decide)]
        simp only [gUI_at]
        simpa using a2
      · rw [bkF_lo (by omega)]
        simp only [gUI_at]
        simpa using a3 i hi
      · rw [bkF_lo (by omega)]
        simp only [gUI_at]
        simpa using a4 i hi
      · rw [bkF_lo (by omega)]
        simp only [gUI_at]
        simpa using a5 i hi
      · rw [hb]
        exact if_pos ⟨rfl, rfl, rfl, rfl⟩
      · rw [hb] at hj
        unfold bkF
        rw [if_pos h317, upF_ne (by omega)]
        rw [gUI_at, if_neg (fun h => absurd h.1 (by decide)), gUI_at]
        by_cases j3 : j = 3 * (f 317).toNat + 2
        · rw [if_pos ⟨rfl, rfl, rfl, j3⟩, j3]
          unfold upF
          rw [if_pos (by omega)]
        · rw [if_neg (fun h => j3 h.2.2.2), upF_ne (by omega), gUI_at]
          by_cases j2 : j = 3 * (f 317).toNat + 1
          · rw [if_pos ⟨rfl, rfl, rfl, j2⟩, j2, ← hi, Nat.add_zero]
            unfold upF
            rw [if_pos (by omega)]
          · rw [if_neg (fun h => j2 h.2.2.2), upF_ne (by omega), gUI_at]
            by_cases j1 : j = 3 * (f 317).toNat
            · rw [if_pos ⟨rfl, rfl, rfl, j1⟩, j1]
              unfold upF
              rw [if_pos rfl]
            · rw [if_neg (fun h => j1 h.2.2.2), upF_ne (by omega)]
              exact a7 j (by omega)
      · rw [bkF_lo (by decide)]
        simp only [gUI_at]
        simpa using a8
      · rw [bkF_lo (by decide), bkF_lo (by decide)]
        exact a9
      · rw [bkF_lo (by decide)] at hi
        rw [bkF_vX h36 (by omega)]
        exact a10 i hi
      · rw [bkF_lo (by decide)] at hi
        rw [bkF_lo (by omega)]
        simp only [gUI_at]
        simpa using a11 i hi
    have p1 : vp_in (gi (3 * f 317)) 90 := gvp (by omega) (by omega) (by decide)
    have p2 : vp_in (gi (3 * f 317 + 1)) 90 := gvp (by omega) (by omega) (by decide)
    have p3 : vp_in (gi (3 * f 317 + 2)) 90 := gvp (by omega) (by omega) (by decide)
    refine ⟨fun _ => ⟨p1, p2, fun h0 => ⟨p3, ?_⟩, fun h0 => ⟨p3, ?_⟩⟩, fun h0 => by omega⟩
    · rw [h0] at key
      exact key
    · rw [show x = 1 by omega] at key
      exact key
  | d + 1, i, hi => by
    have hv2 := hv
    obtain ⟨v0, v1, v2, v3, v4, v5, v6, v7, v8⟩ := hv2
    have ho := hR.1.1
    have hm := mxF_b v5 i (by omega)
    have hr := v5 i (by omega)
    refine s_X6_enter_14 ?_
    rw [ho, gi_le (by omega) (by omega) (by omega) (by omega), gi_le (by decide) (by decide) (by omega) (by omega), gi_c (a := (i : Int)) (by omega) (by omega), gtn, hR.2.2.2.2 i (by omega)]
    refine ⟨fun h0 => by omega, fun _ => ⟨fun h0 => by omega, fun _ => ⟨gvp (by omega) (by omega) (by decide), z_abs (by omega) (by omega) ?_⟩⟩⟩
    show gC _ _ _ _ _ _ _ _
    refine z_max (by omega) (by omega) (by omega) (by omega) ?_
    show gG _ _ _ _ _ _ _ _ _ _ _ _
    rw [gi_add]
    exact z_enter_l hv hR hx h317 k d (i + 1) (by omega)
theorem z_enter {x : Int} (hv : Vf f) (hR : Rst f I J n) (hx : x = 0 ∨ x = 1) (k : ∀ I', FS n I I' → Rst (bkF f x) I' J n → Q (.inl .null) I' J B) : gC E 51 [.inr (6, n, 0), .inl (.int (gi x))] I J B Q X := by
  have v8 := hv.2.2.2.2.2.2.2.2
  refine e_X6_enter ?_
  rw [hR.1.2.2.2.2.2.1, gi_lt (by omega) (by omega) (by decide) (by decide)]
  refine ⟨fun h0 => z_enter_l hv hR hx h0 k (f 0).toNat 0 (by omega), fun h0 => ?_⟩
  have hk := k I FS.rf
  rw [show bkF f x = f from if_neg h0] at hk
  exact hk hR
end ZI
