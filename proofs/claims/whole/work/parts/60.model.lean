/-! ===== the model's grid ===== -/
def F38 (I I' : gI) : Prop := ∀ a b c d, a ≠ 38 → I' a b c d = I a b c d
theorem F38.rf {I : gI} : F38 I I := fun _ _ _ _ _ => rfl
theorem F38.tr {I I' I2 : gI} (h : F38 I I') (h2 : F38 I' I2) : F38 I I2 := fun a b c d h3 => (h2 a b c d h3).trans (h a b c d h3)
theorem F38.up {I I' : gI} {k : Nat} {x : Int32} (h : F38 I I') : F38 I (gUI I' 38 0 0 k x) := fun a b c d h3 => by
  rw [gUI_at, if_neg (fun h => h3 h.1)]
  exact h a b c d h3
def sw (i k a : Nat) : Nat := if a = i then k else if a = k then i else a
def cmx (R j : Nat) : Nat := if j < R then j else 7
/-- the model's grid holds a matrix in some rows -/
def Gm (I : gI) (R a0 a1 : Nat) (M : gMx) : Prop := ∀ i j, a0 ≤ i → i < a1 → j ≤ R → I 38 0 0 (8 * i + cmx R j) = gi (M i j)
def Mrow (f : Nat → Int) (I : gI) : Prop := ∀ k, k < 408 → I 32 0 0 k = gi (f k)
theorem cmx_lt {R j : Nat} (hR : R ≤ 7) : cmx R j < 8 := by
  unfold cmx
  split <;> omega
theorem cmx_in {R j : Nat} (h : j < R) : cmx R j = j := if_pos h
section ZS
variable {E : gEn} {Q : gQt} {X : gXt} {I : gI} {J : gJ} {B : gB} {c w : Nat} {p : Int} {f : Nat → Int} {R : Nat}
theorem z_mod {x : Int32} (hp : I 31 0 0 21 = gi p) (hp1 : 1 ≤ p) (hp2 : p ≤ 31) (h : Q (.inl (.int (gi (x.toInt % p)))) I J B) : gC E 172 [.inr (31, 0, 0), .inl (.int x)] I J B Q X := by
  have e1 := Int.emod_nonneg x.toInt (show p ≠ 0 by omega)
  have e2 := Int.emod_lt_of_pos x.toInt (show 0 < p by omega)
  have key : x.toInt.tmod p = if 0 ≤ x.toInt ∨ x.toInt % p = 0 then x.toInt % p else x.toInt % p - p := by
    rw [Int.tmod_eq_emod]
    have hd : (p ∣ x.toInt) ↔ x.toInt % p = 0 := Int.dvd_iff_emod_eq_zero
    simp only [hd]
    split
    · simp
    · rw [Int.natAbs_of_nonneg (by omega)]
  refine e_X8_mod ?_
  rw [hp, ← gi_x x, gi_rem (gi_r1 x) (gi_r2 x) (by omega) (by omega), key, gi_le (by decide) (by decide) (by split <;> omega) (by split <;> omega), gi_add, gi_eq (by omega) (by omega) (by decide) (by decide)]
  refine ⟨by omega, fun h0 => ?_, fun h0 => ?_⟩
  · split at h0
    · rename_i hc
      rw [if_pos hc]
      exact h
    · omega
  · split at h0
    · omega
    · rename_i hc
      rw [if_neg hc, show x.toInt % p - p + p = x.toInt % p by omega]
      exact h
theorem z_modi {a : Int} (h1 : -2147483648 ≤ a) (h2 : a < 2147483648) (hp : I 31 0 0 21 = gi p) (hp1 : 1 ≤ p) (hp2 : p ≤ 31) (h : Q (.inl (.int (gi (a % p)))) I J B) : gC E 172 [.inr (31, 0, 0), .inl (.int (gi a))] I J B Q X :=
  z_mod hp hp1 hp2 (by rw [gi_t h1 h2]; exact h)
theorem z_minv_l {v : Int} (hG3 : I 31 0 0 21 = gi p) (hp : 1 ≤ p) (hp2 : p ≤ 31) (hv : 0 ≤ v) (hv2 : v < p) (h : Q (.inl (.int (gi (inv p v)))) I J B) : ∀ (d k : Nat), (k : Int) + d = p → 1 ≤ k → invF p v d k = inv p v → gG E 173 2 [(0, .inr (31, 0, 0)), (1, .inl (.int (gi v))), (2, .inl (.int (gi k)))] [] I J B c w Q X
  | 0, k, hk, _, hi => by
    refine s_X8_inverseOf_2 ?_
    rw [hG3, gi_le (by omega) (by omega) (by omega) (by omega)]
    refine ⟨fun _ => ?_, fun h0 => by omega⟩
    rw [← hi] at h
    exact h
  | d + 1, k, hk, h1, hi => by
    refine s_X8_inverseOf_2 ?_
    have hb := mulb (x := (k : Int)) (y := v) (by omega) (by omega) hv (by omega)
    rw [hG3, gi_le (by omega) (by omega) (by omega) (by omega), gi_eq (by omega) (by omega) (by decide) (by decide), gi_mul, Int.mul_comm v, gi_rem (by omega) (by omega) (by omega) (by omega), Int.tmod_eq_emod_of_nonneg hb.1]
    have hm1 := Int.emod_nonneg ((k : Int) * v) (show p ≠ 0 by omega)
    have hm2 := Int.emod_lt_of_pos ((k : Int) * v) (show 0 < p by omega)
    rw [gi_eq (by omega) (by omega) (by decide) (by decide), gi_add]
    unfold invF at hi
    refine ⟨fun h0 => by omega, fun _ => ⟨by omega, fun hne => ?_, fun he => ?_⟩⟩
    · rw [if_neg hne] at hi
      exact z_minv_l hG3 hp hp2 hv hv2 h d (k + 1) (by omega) (by omega) hi
    · rw [if_pos he] at hi
      rw [← hi] at h
      exact h
theorem z_minv {v : Int} (hG3 : I 31 0 0 21 = gi p) (hp : 1 ≤ p) (hp2 : p ≤ 31) (hv : 0 ≤ v) (hv2 : v < p) (h : Q (.inl (.int (gi (inv p v)))) I J B) : gC E 173 [.inr (31, 0, 0), .inl (.int (gi v))] I J B Q X :=
  e_X8_inverseOf (z_minv_l hG3 hp hp2 hv hv2 h (p.toNat - 1) 1 (by omega) (Nat.le_refl 1) rfl)
theorem gidx {i j : Nat} (hi : i < 7) (hj : j < 8) : (gi 8 * gi (i : Int) + gi (j : Int)) = gi ((8 * i + j : Nat) : Int) ∧ Int32.toNatClampNeg (gi ((8 * i + j : Nat) : Int)) = 8 * i + j ∧ vp_in (gi ((8 * i + j : Nat) : Int)) 56 := by
  refine ⟨?_, ?_, gvp (by omega) (by omega) (by decide)⟩
  · rw [gi_mul, gi_add]
    rfl
  · rw [gi_c (by omega) (by omega)]
    rfl
theorem z_sw_l {i k : Nat} (hi : i < 7) (hk : k < 7) (h : ∀ I', F38 I I' → (∀ a b, a < 7 → b < 8 → I' 38 0 0 (8 * a + b) = I 38 0 0 (8 * sw i k a + b)) → Q (.inl .null) I' J B) :
    ∀ (d j : Nat) (I' : gI), j + d = 8 → F38 I I' → (∀ a b, a < 7 → b < 8 → I' 38 0 0 (8 * a + b) = if b < j then I 38 0 0 (8 * sw i k a + b) else I 38 0 0 (8 * a + b)) →
      gG E 175 2 [(0, .inr (31, 0, 0)), (1, .inl (.int (gi i))), (2, .inl (.int (gi k))), (3, .inl (.int (gi j)))] [] I' J B c w Q X
  | 0, j, I', hj, hF, hI => by
    refine s_X8_swaps_2 ?_
    rw [gi_le (by decide) (by decide) (by omega) (by omega)]
    refine ⟨fun _ => h I' hF fun a b ha hb => ?_, fun h0 => by omega⟩
    rw [hI a b ha hb, if_pos (by omega)]
  | d + 1, j, I', hj, hF, hI => by
    refine s_X8_swaps_2 ?_
    obtain ⟨a1, a2, a3⟩ := gidx hi (show j < 8 by omega)
    obtain ⟨b1, b2, b3⟩ := gidx hk (show j < 8 by omega)
    rw [gi_le (by decide) (by decide) (by omega) (by omega), a1, b1, a2, b2, gi_add, hI i j hi (by omega), hI k j hk (by omega), if_neg (by omega), if_neg (by omega)]
    refine ⟨fun h0 => by omega, fun _ => ⟨a3, b3, a3, b3, z_sw_l hi hk h d (j + 1) _ (by omega) hF.up.up fun a b ha hb => ?_⟩⟩
    rw [gUI_at, gUI_at]
    by_cases hbj : b = j
    · subst hbj
      rw [if_pos (show b < b + 1 by omega)]
      by_cases h1 : a = k
      · subst h1
        rw [if_pos ⟨rfl, rfl, rfl, rfl⟩]
        unfold sw
        by_cases h2 : a = i
        · rw [if_pos h2, h2]
        · rw [if_neg h2, if_pos rfl]
      · rw [if_neg (fun h => h1 (by omega))]
        by_cases h2 : a = i
        · subst h2
          rw [if_pos ⟨rfl, rfl, rfl, rfl⟩]
          unfold sw
          rw [if_pos rfl]
        · rw [if_neg (fun h => h2 (by omega)), hI a b ha hb, if_neg (by omega)]
          unfold sw
          rw [if_neg h2, if_neg h1]
    · rw [if_neg (fun h => hbj (by omega)), if_neg (fun h => hbj (by omega)), hI a b ha hb]
      by_cases h1 : b < j
      · rw [if_pos h1, if_pos (by omega)]
      · rw [if_neg h1, if_neg (by omega)]
theorem z_sw {i k : Nat} (hi : i < 7) (hk : k < 7) (h : ∀ I', F38 I I' → (∀ a b, a < 7 → b < 8 → I' 38 0 0 (8 * a + b) = I 38 0 0 (8 * sw i k a + b)) → Q (.inl .null) I' J B) : gC E 175 [.inr (31, 0, 0), .inl (.int (gi i)), .inl (.int (gi k))] I J B Q X :=
  e_X8_swaps (z_sw_l hi hk h 8 0 I rfl F38.rf fun a b ha hb => by rw [if_neg (Nat.not_lt_zero b)])
theorem z_tk_l {i k : Nat} {o : Int32} (hi : i < 7) (hk : k < 7) (hik : i ≠ k) (hp : I 31 0 0 21 = gi p) (hp1 : 1 ≤ p) (hp2 : p ≤ 31)
    (h : ∀ I', F38 I I' → (∀ a b, a < 7 → b < 8 → I' 38 0 0 (8 * a + b) = if a = i then gi ((I 38 0 0 (8 * i + b) - o * I 38 0 0 (8 * k + b)).toInt % p) else I 38 0 0 (8 * a + b)) → Q (.inl .null) I' J B) :
    ∀ (d j : Nat) (I' : gI), j + d = 8 → F38 I I' → (∀ a b, a < 7 → b < 8 → I' 38 0 0 (8 * a + b) = if a = i ∧ b < j then gi ((I 38 0 0 (8 * i + b) - o * I 38 0 0 (8 * k + b)).toInt % p) else I 38 0 0 (8 * a + b)) →
      gG E 176 3 [(0, .inr (31, 0, 0)), (1, .inl (.int (gi i))), (2, .inl (.int (gi k))), (3, .inl (.int o)), (4, .inl (.int (gi j)))] [] I' J B c w Q X
  | 0, j, I', hj, hF, hI => by
    refine s_X8_takesOff_3 ?_
    rw [gi_le (by decide) (by decide) (by omega) (by omega)]
    refine ⟨fun _ => h I' hF fun a b ha hb => ?_, fun h0 => by omega⟩
    rw [hI a b ha hb]
    by_cases h1 : a = i
    · rw [if_pos ⟨h1, by omega⟩, if_pos h1]
    · rw [if_neg (fun h => h1 h.1), if_neg h1]
  | d + 1, j, I', hj, hF, hI => by
    refine s_X8_takesOff_3 ?_
    obtain ⟨a1, a2, a3⟩ := gidx hi (show j < 8 by omega)
    obtain ⟨b1, b2, b3⟩ := gidx hk (show j < 8 by omega)
    rw [gi_le (by decide) (by decide) (by omega) (by omega), a1, b1, a2, b2, gi_add, hI i j hi (by omega), hI k j hk (by omega), if_neg (by omega), if_neg (fun h => hik h.1.symm)]
    refine ⟨fun h0 => by omega, fun _ => ⟨a3, b3, z_mod ((hF 31 0 0 21 (by decide)).trans hp) hp1 hp2 ⟨a3, z_tk_l hi hk hik hp hp1 hp2 h d (j + 1) _ (by omega) hF.up fun a b ha hb => ?_⟩⟩⟩
    rw [gUI_at]
    by_cases h1 : a = i ∧ b = j
    · obtain ⟨rfl, rfl⟩ := h1
      rw [if_pos ⟨rfl, rfl, rfl, rfl⟩, if_pos ⟨rfl, by omega⟩]
    · rw [if_neg (fun h => h1 (by omega)), hI a b ha hb]
      by_cases h2 : a = i ∧ b < j
      · rw [if_pos h2, if_pos ⟨h2.1, by omega⟩]
      · rw [if_neg h2, if_neg (by omega)]
theorem z_tk {i k : Nat} {o : Int32} (hi : i < 7) (hk : k < 7) (hik : i ≠ k) (hp : I 31 0 0 21 = gi p) (hp1 : 1 ≤ p) (hp2 : p ≤ 31)
    (h : ∀ I', F38 I I' → (∀ a b, a < 7 → b < 8 → I' 38 0 0 (8 * a + b) = if a = i then gi ((I 38 0 0 (8 * i + b) - o * I 38 0 0 (8 * k + b)).toInt % p) else I 38 0 0 (8 * a + b)) → Q (.inl .null) I' J B) :
    gC E 176 [.inr (31, 0, 0), .inl (.int (gi i)), .inl (.int (gi k)), .inl (.int o)] I J B Q X :=
  e_X8_takesOff (z_tk_l hi hk hik hp hp1 hp2 h 8 0 I rfl F38.rf fun a b ha hb => by rw [if_neg (fun h => absurd h.2 (Nat.not_lt_zero b))])
theorem z_mpiv_l {M : gMx} {a0 a1 col lim : Nat} (hR : R ≤ 7) (ha1 : lim ≤ a1) (hl : lim ≤ 7) (hc : col < R) (hp2 : p ≤ 31) (hG : Gm I R a0 a1 M) (hM : Rg p M) : ∀ (d i : Nat), i + d = lim → a0 ≤ i → Q (.inl (.int (gi (pvI (pvF M col d i))))) I J B →
    gG E 177 3 [(0, .inr (31, 0, 0)), (1, .inl (.int (gi col))), (3, .inl (.int (gi lim))), (4, .inl (.int (gi i)))] [] I J B c w Q X
  | 0, i, hd, h0, h => by
    refine s_X8_pivot_3 ?_
    rw [gi_le (by omega) (by omega) (by omega) (by omega)]
    exact ⟨fun _ => h, fun h0 => by omega⟩
  | d + 1, i, hd, h0, h => by
    refine s_X8_pivot_3 ?_
    have hm := hM i col
    obtain ⟨a1, a2, a3⟩ := gidx (show i < 7 by omega) (show col < 8 by omega)
    have hg := hG i col h0 (by omega) (by omega)
    rw [cmx_in hc] at hg
    rw [gi_le (by omega) (by omega) (by omega) (by omega), a1, a2, hg, gi_eq (by omega) (by omega) (by decide) (by decide), gi_add]
    unfold pvF at h
    refine ⟨fun h0 => by omega, fun _ => ⟨a3, fun h1 => ?_, fun h1 => ?_⟩⟩
    · rw [if_pos h1] at h
      exact z_mpiv_l hR ha1 hl hc hp2 hG hM d (i + 1) (by omega) (by omega) h
    · rw [if_neg h1] at h
      exact h
theorem z_mpiv {M : gMx} {a0 a1 col lim q : Nat} (hR : R ≤ 7) (ha1 : lim ≤ a1) (hl : lim ≤ 7) (hc : col < R) (hp2 : p ≤ 31) (hG : Gm I R a0 a1 M) (hM : Rg p M) (hq : a0 ≤ q) (hql : q ≤ lim) (h : Q (.inl (.int (gi (pvI (pvF M col (lim - q) q))))) I J B) :
    gC E 177 [.inr (31, 0, 0), .inl (.int (gi col)), .inl (.int (gi q)), .inl (.int (gi lim))] I J B Q X :=
  e_X8_pivot (z_mpiv_l hR ha1 hl hc hp2 hG hM (lim - q) q (by omega) hq h)
theorem z_ent {i j : Nat} (hM : Mrow f I) (hi : i < 7) (hj : j < 7) (h : Q (.inl (.int (gi (dg f ((i : Int) - (j : Int)))))) I J B) : gC E 167 [.inr (31, 0, 0), .inl (.int (gi i)), .inl (.int (gi j))] I J B Q X := by
  refine e_X8_entryOf ?_
  rw [gi_add, gi_sub, gi_c (by omega) (by omega), hM _ (by omega)]
  refine ⟨gvp (by omega) (by omega) (by decide), ?_⟩
  rw [dg_in (by omega) (by omega)] at h
  rw [show ((8 : Int) + i - j).toNat = ((i : Int) - j + 8).toNat by omega]
  exact h
theorem z_lay_i (hv : Vf f) (hM : Mrow f I) (hp : I 31 0 0 21 = gi p) (hp1 : 1 ≤ p) (hp2 : p ≤ 31) (h : ∀ I', F38 I I' → Gm I' ((f 0).toNat) 0 ((f 0).toNat) (mtF f p ((f 0).toNat)) → Q (.inl .null) I' J B) (A i : Nat) (hA : i + A + 1 = (f 0).toNat)
    (nx : ∀ (i : Nat) (I' : gI), i + A = (f 0).toNat → F38 I I' → Gm I' ((f 0).toNat) 0 i (mtF f p ((f 0).toNat)) → gG E 174 2 [(0, .inr (31, 0, 0)), (1, .inl (.int (gi i)))] [] I' J B c w Q X) :
    ∀ (d j : Nat) (I' : gI), j + d = (f 0).toNat → F38 I I' → Gm I' ((f 0).toNat) 0 i (mtF f p ((f 0).toNat)) → (∀ b, b < j → I' 38 0 0 (8 * i + b) = gi (mtF f p ((f 0).toNat) i b)) →
      gG E 174 14 [(0, .inr (31, 0, 0)), (1, .inl (.int (gi i))), (2, .inl (.int (gi j)))] [] I' J B c w Q X
  | 0, j, I', hj, hF, hG, hr => by
    have h0 := hv.1
    refine s_X8_lays_14 ⟨gvp (by decide) (by decide) (by decide), ?_⟩
    obtain ⟨a1, a2, a3⟩ := gidx (show i < 7 by omega) (show 7 < 8 by decide)
    rw [(hF 32 0 0 0 (by decide)).trans (hM 0 (by decide)), gi_le (by omega) (by omega) (by omega) (by omega)]
    refine ⟨fun _ => ?_, fun h1 => by omega⟩
    have a1' : gi 8 * gi (i : Int) + gi 7 = gi ((8 * i + 7 : Nat) : Int) := a1
    rw [a1', a2, gi_add]
    refine ⟨a3, nx (i + 1) _ (by omega) hF.up fun a b g1 g2 g3 => ?_⟩
    rw [gUI_at]
    by_cases hai : a = i
    · subst hai
      by_cases hb : b < (f 0).toNat
      · rw [cmx_in hb, if_neg (by omega)]
        exact hr b (by omega)
      · have : cmx ((f 0).toNat) b = 7 := if_neg hb
        rw [this, if_pos ⟨rfl, rfl, rfl, rfl⟩]
        unfold mtF
        rw [if_neg hb]
    · have := cmx_lt (R := (f 0).toNat) (j := b) (by omega)
      rw [if_neg (by omega)]
      exact hG a b g1 (by omega) g3
  | d + 1, j, I', hj, hF, hG, hr => by
    have h0 := hv.1
    refine s_X8_lays_14 ⟨gvp (by decide) (by decide) (by decide), ?_⟩
    obtain ⟨a1, a2, a3⟩ := gidx (show i < 7 by omega) (show j < 8 by omega)
    have hd := dg_b hv.2.2.1 ((i : Int) - (j : Int))
    rw [(hF 32 0 0 0 (by decide)).trans (hM 0 (by decide)), gi_le (by omega) (by omega) (by omega) (by omega), a1, a2, gi_add, gi_add]
    have hM2 : Mrow f I' := fun k hk => (hF 32 0 0 k (by decide)).trans (hM k hk)
    refine ⟨fun h1 => by omega, fun _ => z_ent hM2 (by omega) (by omega) ?_⟩
    show gC _ _ _ _ _ _ _ _
    refine z_modi (by omega) (by omega) ((hF 31 0 0 21 (by decide)).trans hp) hp1 hp2 ⟨a3, ?_⟩
    refine z_lay_i hv hM hp hp1 hp2 h A i hA nx d (j + 1) _ (by omega) hF.up (fun a b g1 g2 g3 => ?_) fun b hb => ?_
    · have := cmx_lt (R := (f 0).toNat) (j := b) (by omega)
      rw [gUI_at, if_neg (by omega)]
      exact hG a b g1 g2 g3
    · rw [gUI_at]
      by_cases hbj : b = j
      · subst hbj
        rw [if_pos ⟨rfl, rfl, rfl, rfl⟩]
        unfold mtF
        rw [if_pos (by omega)]
      · rw [if_neg (by omega)]
        exact hr b (by omega)
theorem z_lay_l (hv : Vf f) (hM : Mrow f I) (hp : I 31 0 0 21 = gi p) (hp1 : 1 ≤ p) (hp2 : p ≤ 31) (h : ∀ I', F38 I I' → Gm I' ((f 0).toNat) 0 ((f 0).toNat) (mtF f p ((f 0).toNat)) → Q (.inl .null) I' J B) :
    ∀ (A i : Nat) (I' : gI), i + A = (f 0).toNat → F38 I I' → Gm I' ((f 0).toNat) 0 i (mtF f p ((f 0).toNat)) → gG E 174 2 [(0, .inr (31, 0, 0)), (1, .inl (.int (gi i)))] [] I' J B c w Q X
  | 0, i, I', hi, hF, hG => by
    have h0 := hv.1
    refine s_X8_lays_2 ⟨gvp (by decide) (by decide) (by decide), ?_⟩
    rw [(hF 32 0 0 0 (by decide)).trans (hM 0 (by decide)), gi_le (by omega) (by omega) (by omega) (by omega)]
    obtain rfl : i = (f 0).toNat := hi
    exact ⟨fun _ => h I' hF hG, fun h1 => by omega⟩
  | A + 1, i, I', hi, hF, hG => by
    have h0 := hv.1
    refine s_X8_lays_2 ⟨gvp (by decide) (by decide) (by decide), ?_⟩
    rw [(hF 32 0 0 0 (by decide)).trans (hM 0 (by decide)), gi_le (by omega) (by omega) (by omega) (by omega)]
    exact ⟨fun h1 => by omega, fun _ => z_lay_i hv hM hp hp1 hp2 h A i (by omega) (z_lay_l hv hM hp hp1 hp2 h A) ((f 0).toNat) 0 I' (by omega) hF hG fun b hb => absurd hb (Nat.not_lt_zero b)⟩
theorem z_lay (hv : Vf f) (hM : Mrow f I) (hp : I 31 0 0 21 = gi p) (hp1 : 1 ≤ p) (hp2 : p ≤ 31) (h : ∀ I', F38 I I' → Gm I' ((f 0).toNat) 0 ((f 0).toNat) (mtF f p ((f 0).toNat)) → Q (.inl .null) I' J B) : gC E 174 [.inr (31, 0, 0)] I J B Q X :=
  e_X8_lays (z_lay_l hv hM hp hp1 hp2 h ((f 0).toNat) 0 I (by omega) F38.rf fun a b _ g => absurd g (Nat.not_lt_zero a))
end ZS
