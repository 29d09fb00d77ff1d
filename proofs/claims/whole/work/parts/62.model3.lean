/-! ===== the model's complements and pairs ===== -/
theorem elF_up {p : Int} {lim : Nat} {M : gMx} {k : Nat} : ∀ d, (elF p lim M (k + d)).1 ≤ (elF p lim M k).1 + d
  | 0 => Nat.le_refl _
  | d + 1 => by
    have ih := elF_up (p := p) (lim := lim) (M := M) (k := k) d
    show (esF p lim (elF p lim M (k + d)) (k + d)).1 ≤ _
    cases hv : pvF (elF p lim M (k + d)).2.2.2 (k + d) (lim - (elF p lim M (k + d)).1) (elF p lim M (k + d)).1 with
    | none =>
      rw [esF_n hv]
      show (elF p lim M (k + d)).1 ≤ _
      omega
    | some i =>
      rw [esF_s hv]
      show (elF p lim M (k + d)).1 + 1 ≤ _
      omega
theorem elF_all {p : Int} {lim : Nat} {M : gMx} {k c : Nat} (hp : 1 ≤ p) (hM : Rg p M) (h : (elF p lim M k).1 = k) (hc : c ≤ k) : (elF p lim M c).1 = c := by
  have h1 := elF_up (p := p) (lim := lim) (M := M) (k := c) (k - c)
  rw [show c + (k - c) = k by omega] at h1
  have h2 := (elF_b (lim := lim) hp hM c).1
  omega
theorem reg_n {f : Nat → Int} {q : Nat} (hv : Vf f) (hq : q ≤ (f 0).toNat) (h : detF f (f 1) q ≠ 0) : ∀ c, c ≤ q → (elF (f 1) q (mtF f (f 1) ((f 0).toNat)) c).1 = c := by
  have hp := hv.p
  have h1 := (det_reg hv.2.1).mp h
  have h2 : Aq q (mtF f (f 1) ((f 0).toNat)) (mtF f (f 1) q) := fun i j hj => by
    unfold mtF
    rw [if_pos (by omega), if_pos hj]
  have h3 := (elF_ext (lim := q) (p := f 1) h2 q (Nat.le_refl q)).1
  exact fun c hc => elF_all (by omega) (Rg.mt (by omega)) (h3.trans h1) hc
section ZU
variable {E : gEn} {Q : gQt} {X : gXt} {I : gI} {J : gJ} {B : gB} {c w : Nat} {p : Int} {f : Nat → Int}
theorem z_cm_i {q cc i : Nat} {E0 : gMx} (hn : (f 0).toNat ≤ 7) (hq : q ≤ (f 0).toNat) (hM0 : I 32 0 0 0 = gi ((f 0).toNat : Nat)) (hp1 : 1 ≤ p) (hp2 : p ≤ 31) (hE : Rg p E0) (hc : cc < q) (hp : I 31 0 0 21 = gi p)
    (h : ∀ I', F38 I I' → Gm I' ((f 0).toNat) (cc + 1) ((f 0).toNat) (clF p (ldF p E0 i cc cc) cc cc) → gG E 194 16 [(0, .inr (31, 0, 0)), (1, .inl (.int (gi q))), (2, .inl (.int (gi ((cc + 1 : Nat) : Int))))] [] I' J B c w Q X) :
    ∀ (d r : Nat) (I' : gI), r + d = (f 0).toNat → cc < r → F38 I I' → Bel I' ((f 0).toNat) cc ((f 0).toNat) (fun a b => E0 (sw i cc a) b) (clF p (ldF p E0 i cc cc) cc cc) r →
      gG E 194 54 [(0, .inr (31, 0, 0)), (1, .inl (.int (gi q))), (2, .inl (.int (gi cc))), (3, .inl (.int (gi (inv p (E0 i cc))))), (4, .inl (.int (gi r)))] [] I' J B c w Q X
  | 0, r, I', hr, hcr, hF, hB => by
    refine s_X8_complements_54 ⟨gvp (by decide) (by decide) (by decide), ?_⟩
    rw [(hF 32 0 0 0 (by decide)).trans hM0, gi_le (by omega) (by omega) (by omega) (by omega), gi_add]
    exact ⟨fun _ => h I' hF fun a b h1 h2 h3 => hB.1 a b (by omega) (by omega) h2 h3, fun h0 => by omega⟩
  | d + 1, r, I', hr, hcr, hF, hB => by
    have m1 := hE (sw i cc r) cc
    have m2 := inv_b (p := p) (v := E0 i cc) hp1
    have mu := mulb (x := E0 (sw i cc r) cc) (y := inv p (E0 i cc)) m1.1 (by omega) m2.1 (by omega)
    obtain ⟨a1, a2, a3⟩ := gidx (show r < 7 by omega) (show cc < 8 by omega)
    have hg := hB.2 r cc (Or.inr (Nat.le_refl r)) (by omega) (by omega)
    rw [cmx_in (by omega)] at hg
    have hp3 : I' 31 0 0 21 = gi p := (hF 31 0 0 21 (by decide)).trans hp
    refine s_X8_complements_54 ⟨gvp (by decide) (by decide) (by decide), ?_⟩
    rw [(hF 32 0 0 0 (by decide)).trans hM0, gi_le (by omega) (by omega) (by omega) (by omega), a1, a2, hg, hp3, gi_eq (by omega) (by omega) (by decide) (by decide), gi_add, gi_add]
    dsimp only
    rw [gi_mul, gi_rem (by omega) (by omega) (by omega) (by omega), Int.tmod_eq_emod_of_nonneg mu.1]
    refine ⟨fun h0 => by omega, fun _ => ⟨a3, by omega, z_tk (by omega) (by omega) (by omega) hp3 hp1 hp2 fun I2 f2 g2 => ?_⟩⟩
    exact z_cm_i hn hq hM0 hp1 hp2 hE hc hp h d (r + 1) I2 (by omega) (by omega) (hF.tr f2) (hB.step hn (by omega) hE hp1 hp2 (by omega) (by omega) g2)
theorem z_cm_l {q : Nat} (hv : Vf f) (hq : q ≤ (f 0).toNat) (hp1 : 1 ≤ p) (hp2 : p ≤ 31) (hp : I 31 0 0 21 = gi p) (hM0 : I 32 0 0 0 = gi ((f 0).toNat : Nat)) (hreg : ∀ c, c ≤ q → (elF p q (mtF f p ((f 0).toNat)) c).1 = c) (h : ∀ I', F38 I I' → Gm I' ((f 0).toNat) q ((f 0).toNat) (elF p q (mtF f p ((f 0).toNat)) q).2.2.2 → Q (.inl .null) I' J B) :
    ∀ (d cc : Nat) (I' : gI), cc + d = q → F38 I I' → Gm I' ((f 0).toNat) cc ((f 0).toNat) (elF p q (mtF f p ((f 0).toNat)) cc).2.2.2 →
      gG E 194 16 [(0, .inr (31, 0, 0)), (1, .inl (.int (gi q))), (2, .inl (.int (gi cc)))] [] I' J B c w Q X
  | 0, cc, I', hc, hF, hG => by
    have h0 := hv.1
    refine s_X8_complements_16 ?_
    obtain rfl : cc = q := hc
    rw [gi_le (by omega) (by omega) (by omega) (by omega)]
    exact ⟨fun _ => h I' hF hG, fun h1 => by omega⟩
  | d + 1, cc, I', hc, hF, hG => by
    have h0 := hv.1
    have hf := hreg cc (by omega)
    obtain ⟨b1, b2, b3, b4⟩ := elF_b (lim := q) hp1 (Rg.mt (f := f) (size := (f 0).toNat) hp1) cc
    have hp3 : I' 31 0 0 21 = gi p := (hF 31 0 0 21 (by decide)).trans hp
    have hk1 : elF p q (mtF f p ((f 0).toNat)) (cc + 1) = esF p q (elF p q (mtF f p ((f 0).toNat)) cc) cc := rfl
    refine s_X8_complements_16 ?_
    rw [gi_le (by omega) (by omega) (by omega) (by omega)]
    refine ⟨fun h1 => by omega, fun _ => z_mpiv (R := (f 0).toNat) (by omega) hq (by omega) (by omega) hp2 hG b4 (Nat.le_refl cc) (by omega) ?_⟩
    cases hv2 : pvF (elF p q (mtF f p ((f 0).toNat)) cc).2.2.2 cc (q - cc) cc with
    | none =>
      exfalso
      have h9 := hreg (cc + 1) (by omega)
      rw [hk1, esF_n (by rw [hf]; exact hv2)] at h9
      have h9 : (elF p q (mtF f p ((f 0).toNat)) cc).1 = cc + 1 := h9
      omega
    | some i =>
      obtain ⟨s1, s2, s3⟩ := pvF_s hv2
      have e1 := esF_s (p := p) (lim := q) (col := cc) (S := elF p q (mtF f p ((f 0).toNat)) cc) (i := i) (by rw [hf]; exact hv2)
      rw [hf] at e1
      rw [show pvI (some i) = (i : Int) from rfl]
      show gC _ _ _ _ _ _ _ _
      have m1 := b4 i cc
      obtain ⟨a1, a2, a3⟩ := gidx (show cc < 7 by omega) (show cc < 8 by omega)
      refine z_sw (by omega) (by omega) fun I2 f2 g2 => ?_
      have gs := hG.sw (I' := I2) (by omega) (by omega) ⟨s1, by omega⟩ ⟨Nat.le_refl cc, by omega⟩ g2
      have hp4 : I2 31 0 0 21 = gi p := (f2 31 0 0 21 (by decide)).trans hp3
      have hcs : I2 38 0 0 (8 * cc + cc) = gi ((elF p q (mtF f p ((f 0).toNat)) cc).2.2.2 i cc) := by
        have hg := gs cc cc (Nat.le_refl cc) (by omega) (by omega)
        rw [cmx_in (by omega)] at hg
        rw [hg]
        dsimp only
        rw [sw_c]
      rw [a1, a2, hcs]
      refine ⟨a3, z_minv hp4 hp1 hp2 m1.1 m1.2 ?_⟩
      show gG _ _ _ _ _ _ _ _ _ _ _ _
      rw [gi_add]
      refine z_cm_i (I := I2) (i := i) (by omega) hq ((f2 32 0 0 0 (by decide)).trans ((hF 32 0 0 0 (by decide)).trans hM0)) hp1 hp2 b4 (by omega) hp4 (fun I3 f3 g3 => ?_) ((f 0).toNat - (cc + 1)) (cc + 1) I2 (by omega) (by omega) F38.rf ⟨fun a b h1 h2 _ _ => by omega, fun a b h1 h2 h3 => gs a b (by omega) h2 h3⟩
      refine z_cm_l hv hq hp1 hp2 hp hM0 hreg h d (cc + 1) I3 (by omega) (hF.tr (f2.tr f3)) ?_
      rw [hk1, e1]
      exact g3
theorem z_cm {q : Nat} (hv : Vf f) (hM : Mrow f I) (hq : q ≤ (f 0).toNat) (hd : detF f (f 1) q ≠ 0) (h : ∀ I', Fpg I I' → I' 31 0 0 21 = gi (f 1) → Gm I' ((f 0).toNat) q ((f 0).toNat) (cpF f q) → Q (.inl .null) I' J B) : gC E 194 [.inr (31, 0, 0), .inl (.int (gi q))] I J B Q X := by
  have hb := hv.p
  have h0 := hv.1
  have f0 : Fpg I (gUI I 31 0 0 21 (gi (f 1))) := fun a b c d h1 h2 => by
    rw [gUI_at, if_neg (fun h => h2 ⟨h.1, h.2.2.2⟩)]
  have hp0 : (gUI I 31 0 0 21 (gi (f 1))) 31 0 0 21 = gi (f 1) := if_pos ⟨rfl, rfl, rfl, rfl⟩
  refine e_X8_complements ⟨gvp (by decide) (by decide) (by decide), ?_⟩
  rw [hM 1 (by decide)]
  refine z_lay (p := f 1) hv (hM.fpg f0) hp0 (by omega) (by omega) fun I2 f2 g2 => ?_
  have hp3 : I2 31 0 0 21 = gi (f 1) := (f2 31 0 0 21 (by decide)).trans hp0
  refine z_cm_l (I := I2) hv hq (by omega) (by omega) hp3 ((f2 32 0 0 0 (by decide)).trans ((f0 32 0 0 0 (by decide) (fun h => absurd h.1 (by decide))).trans ((hM 0 (by decide)).trans (by rw [show (((f 0).toNat : Nat) : Int) = f 0 by omega])))) (reg_n hv hq hd) (fun I3 f3 g3 => ?_) q 0 I2 (by omega) F38.rf (fun a b h1 h2 h3 => g2 a b h1 h2 h3)
  exact h I3 (f0.tr (f2.toG.tr f3.toG)) ((f3 31 0 0 21 (by decide)).trans hp3) g3
def Fpd (I I' : gI) : Prop := ∀ a b c d, a ≠ 38 → a ≠ 41 → a ≠ 42 → a ≠ 43 → ¬ (a = 31 ∧ d = 21) → I' a b c d = I a b c d
theorem Fpd.rf {I : gI} : Fpd I I := fun _ _ _ _ _ _ _ _ _ => rfl
theorem Fpd.tr {I I' I2 : gI} (h : Fpd I I') (h2 : Fpd I' I2) : Fpd I I2 := fun a b c d h3 h4 h5 h6 h7 => (h2 a b c d h3 h4 h5 h6 h7).trans (h a b c d h3 h4 h5 h6 h7)
theorem Fpg.toD {I I' : gI} (h : Fpg I I') : Fpd I I' := fun a b c d h1 _ _ _ h2 => h a b c d h1 h2
def F41 (I I' : gI) : Prop := ∀ a b c d, a ≠ 41 → I' a b c d = I a b c d
theorem F41.rf {I : gI} : F41 I I := fun _ _ _ _ _ => rfl
theorem F41.up {I I' : gI} {k : Nat} {x : Int32} (h : F41 I I') : F41 I (gUI I' 41 0 0 k x) := fun a b c d h3 => by
  rw [gUI_at, if_neg (fun h => h3 h.1)]
  exact h a b c d h3
theorem F41.toD {I I' : gI} (h : F41 I I') : Fpd I I' := fun a b c d _ h1 _ _ _ => h a b c d h1
theorem gidx7 {i j : Nat} (hi : i < 7) (hj : j < 7) : (gi 7 * gi (i : Int) + gi (j : Int)) = gi ((7 * i + j : Nat) : Int) ∧ Int32.toNatClampNeg (gi ((7 * i + j : Nat) : Int)) = 7 * i + j ∧ vp_in (gi ((7 * i + j : Nat) : Int)) 49 := by
  refine ⟨?_, ?_, gvp (by omega) (by omega) (by decide)⟩
  · rw [gi_mul, gi_add]
    rfl
  · rw [gi_c (by omega) (by omega)]
    rfl
theorem gidx49 {i j : Nat} (hi : i < 7) (hj : j < 7) : (gi 49 * gi (i : Int) + gi (j : Int)) = gi ((49 * i + j : Nat) : Int) ∧ Int32.toNatClampNeg (gi ((49 * i + j : Nat) : Int)) = 49 * i + j ∧ vp_in (gi ((49 * i + j : Nat) : Int)) 343 := by
  refine ⟨?_, ?_, gvp (by omega) (by omega) (by decide)⟩
  · rw [gi_mul, gi_add]
    rfl
  · rw [gi_c (by omega) (by omega)]
    rfl
/-- the shifted rows that stand -/
def Shi (I : gI) (q n : Nat) (D : gMx) : Prop := ∀ i j, q ≤ i → i < n → q ≤ j → j < n → I 41 0 0 (7 * i + j) = gi (D i j)
theorem z_ds_i {q : Nat} {M : gMx} (hn : (f 0).toNat ≤ 7) (hq : q ≤ (f 0).toNat) (hM0 : I 32 0 0 0 = gi ((f 0).toNat : Nat)) (hp1 : 1 ≤ p) (hp2 : p ≤ 31) (hM : Rg p M) (hp : I 31 0 0 21 = gi p) (hG : Gm I ((f 0).toNat) q ((f 0).toNat) M)
    (h : ∀ I', F41 I I' → Shi I' q ((f 0).toNat) (dpF p q M) → Q (.inl .null) I' J B) (A i : Nat) (hA : i + A + 1 = (f 0).toNat) (hqi : q ≤ i)
    (nx : ∀ (i : Nat) (I' : gI), i + A = (f 0).toNat → q ≤ i → F41 I I' → (∀ a b, q ≤ a → a < (f 0).toNat → q ≤ b → b < (f 0).toNat → a < i → I' 41 0 0 (7 * a + b) = gi (dpF p q M a b)) →
      gG E 195 7 [(0, .inr (31, 0, 0)), (1, .inl (.int (gi q))), (2, .inl (.int (gi i)))] [] I' J B c w Q X) :
    ∀ (d j : Nat) (I' : gI), j + d = (f 0).toNat → q ≤ j → F41 I I' → (∀ a b, q ≤ a → a < (f 0).toNat → q ≤ b → b < (f 0).toNat → (a < i ∨ (a = i ∧ b < j)) → I' 41 0 0 (7 * a + b) = gi (dpF p q M a b)) →
      gG E 195 19 [(0, .inr (31, 0, 0)), (1, .inl (.int (gi q))), (2, .inl (.int (gi i))), (3, .inl (.int (gi j)))] [] I' J B c w Q X
  | 0, j, I', hj, hqj, hF, hI => by
    refine s_X8_displaces_19 ⟨gvp (by decide) (by decide) (by decide), ?_⟩
    rw [(hF 32 0 0 0 (by decide)).trans hM0, gi_le (by omega) (by omega) (by omega) (by omega), gi_add]
    exact ⟨fun _ => nx (i + 1) I' (by omega) (by omega) hF fun a b h1 h2 h3 h4 h5 => hI a b h1 h2 h3 h4 (by omega), fun h0 => by omega⟩
  | d + 1, j, I', hj, hqj, hF, hI => by
    obtain ⟨a1, a2, a3⟩ := gidx (show i < 7 by omega) (show j < 8 by omega)
    obtain ⟨b1, b2, b3⟩ := gidx7 (show i < 7 by omega) (show j < 7 by omega)
    have hp3 : I' 31 0 0 21 = gi p := (hF 31 0 0 21 (by decide)).trans hp
    have hg : I' 38 0 0 (8 * i + j) = gi (M i j) := by
      have := hG i j hqi (by omega) (by omega)
      rw [cmx_in (by omega)] at this
      exact (hF 38 0 0 _ (by decide)).trans this
    have m1 := hM i j
    refine s_X8_displaces_19 ⟨gvp (by decide) (by decide) (by decide), ?_⟩
    have nx : ∀ x : Int, x = dpF p q M i j → gG E 195 19 [(0, .inr (31, 0, 0)), (1, .inl (.int (gi q))), (2, .inl (.int (gi i))), (3, .inl (.int (gi ((j + 1 : Nat) : Int))))] [] (gUI I' 41 0 0 (7 * i + j) (gi x)) J B c w Q X := fun x hx => by
      refine z_ds_i hn hq hM0 hp1 hp2 hM hp hG h A i hA hqi nx d (j + 1) _ (by omega) (by omega) hF.up fun a b h1 h2 h3 h4 h5 => ?_
      rw [gUI_at]
      by_cases h6 : a = i ∧ b = j
      · rw [h6.1, h6.2, if_pos ⟨rfl, rfl, rfl, rfl⟩, hx]
      · rw [if_neg (fun h => h6 (by omega))]
        exact hI a b h1 h2 h3 h4 (by omega)
    rw [(hF 32 0 0 0 (by decide)).trans hM0, gi_le (by omega) (by omega) (by omega) (by omega), gi_le (by omega) (by omega) (by omega) (by omega), gi_le (by omega) (by omega) (by omega) (by omega), a1, b1, a2, b2, hg]
    have hz : ¬ (q < i ∧ q < j) → (M i j - 0) % p = dpF p q M i j := fun hz => by
      unfold dpF
      rw [if_neg hz, Int.sub_zero, Int.emod_eq_of_lt m1.1 m1.2]
    refine ⟨fun h0 => by omega, fun _ => ⟨fun h0 => ⟨a3, ?_⟩, fun h0 => ⟨fun h1 => ⟨a3, ?_⟩, fun h1 => ?_⟩⟩⟩
    · rw [gi_sub]
      refine z_modi (by omega) (by omega) hp3 hp1 hp2 ⟨b3, ?_⟩
      rw [gi_add]
      exact nx _ (hz (by omega))
    · rw [gi_sub]
      refine z_modi (by omega) (by omega) hp3 hp1 hp2 ⟨b3, ?_⟩
      rw [gi_add]
      exact nx _ (hz (by omega))
    · have m2 := hM (i - 1) (j - 1)
      have hg2 : I' 38 0 0 (8 * (i - 1) + (j - 1)) = gi (M (i - 1) (j - 1)) := by
        have := hG (i - 1) (j - 1) (by omega) (by omega) (by omega)
        rw [cmx_in (by omega)] at this
        exact (hF 38 0 0 _ (by decide)).trans this
      have e9 : (gi ((8 * i + j : Nat) : Int) - gi 9) = gi ((8 * (i - 1) + (j - 1) : Nat) : Int) := by
        rw [gi_sub]
        congr 1
        omega
      rw [e9, gi_c (a := ((8 * (i - 1) + (j - 1) : Nat) : Int)) (by omega) (by omega), gtn, hg2, gi_sub]
      refine ⟨gvp (by omega) (by omega) (by decide), a3, z_modi (by omega) (by omega) hp3 hp1 hp2 ⟨b3, ?_⟩⟩
      rw [gi_add]
      refine nx _ ?_
      unfold dpF
      rw [if_pos (by omega)]
theorem z_ds_l {q : Nat} {M : gMx} (hn : (f 0).toNat ≤ 7) (hq : q ≤ (f 0).toNat) (hM0 : I 32 0 0 0 = gi ((f 0).toNat : Nat)) (hp1 : 1 ≤ p) (hp2 : p ≤ 31) (hM : Rg p M) (hp : I 31 0 0 21 = gi p) (hG : Gm I ((f 0).toNat) q ((f 0).toNat) M)
    (h : ∀ I', F41 I I' → Shi I' q ((f 0).toNat) (dpF p q M) → Q (.inl .null) I' J B) :
    ∀ (A i : Nat) (I' : gI), i + A = (f 0).toNat → q ≤ i → F41 I I' → (∀ a b, q ≤ a → a < (f 0).toNat → q ≤ b → b < (f 0).toNat → a < i → I' 41 0 0 (7 * a + b) = gi (dpF p q M a b)) →
      gG E 195 7 [(0, .inr (31, 0, 0)), (1, .inl (.int (gi q))), (2, .inl (.int (gi i)))] [] I' J B c w Q X
  | 0, i, I', hi, hqi, hF, hI => by
    refine s_X8_displaces_7 ⟨gvp (by decide) (by decide) (by decide), ?_⟩
    rw [(hF 32 0 0 0 (by decide)).trans hM0, gi_le (by omega) (by omega) (by omega) (by omega)]
    exact ⟨fun _ => h I' hF fun a b h1 h2 h3 h4 => hI a b h1 h2 h3 h4 (by omega), fun h0 => by omega⟩
  | A + 1, i, I', hi, hqi, hF, hI => by
    refine s_X8_displaces_7 ⟨gvp (by decide) (by decide) (by decide), ?_⟩
    rw [(hF 32 0 0 0 (by decide)).trans hM0, gi_le (by omega) (by omega) (by omega) (by omega)]
    exact ⟨fun h0 => by omega, fun _ => z_ds_i hn hq hM0 hp1 hp2 hM hp hG h A i (by omega) hqi (z_ds_l hn hq hM0 hp1 hp2 hM hp hG h A) ((f 0).toNat - q) q I' (by omega) (Nat.le_refl q) hF fun a b h1 h2 h3 h4 h5 => hI a b h1 h2 h3 h4 (by omega)⟩
theorem z_ds {q : Nat} (hv : Vf f) (hM : Mrow f I) (hq : q ≤ (f 0).toNat) (hd : detF f (f 1) q ≠ 0) (h : ∀ I', Fpd I I' → I' 31 0 0 21 = gi (f 1) → Shi I' q ((f 0).toNat) (dpF (f 1) q (cpF f q)) → Q (.inl .null) I' J B) : gC E 195 [.inr (31, 0, 0), .inl (.int (gi q))] I J B Q X := by
  have hb := hv.p
  have h0 := hv.1
  refine e_X8_displaces (z_cm hv hM hq hd fun I2 f2 p2 g2 => ?_)
  have hM0 : I2 32 0 0 0 = gi ((f 0).toNat : Nat) := by
    rw [(hM.fpg f2) 0 (by decide), show (((f 0).toNat : Nat) : Int) = f 0 by omega]
  refine z_ds_l (I := I2) (p := f 1) (by omega) hq hM0 (by omega) (by omega) (cp_rg hv) p2 g2 (fun I3 f3 g3 => ?_) ((f 0).toNat - q) q I2 (by omega) (Nat.le_refl q) F41.rf (fun a b h1 _ _ _ h2 => by omega)
  exact h I3 (f2.toD.tr f3.toD) ((f3 31 0 0 21 (by decide)).trans p2) g3
end ZU
