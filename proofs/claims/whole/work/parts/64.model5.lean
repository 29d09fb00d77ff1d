/-! ===== the model reduces ===== -/
def F389 (I I' : gI) : Prop := ∀ a b c d, a ≠ 38 → a ≠ 39 → I' a b c d = I a b c d
theorem F389.rf {I : gI} : F389 I I := fun _ _ _ _ _ _ => rfl
theorem F389.tr {I I' I2 : gI} (h : F389 I I') (h2 : F389 I' I2) : F389 I I2 := fun a b c d h3 h4 => (h2 a b c d h3 h4).trans (h a b c d h3 h4)
theorem F38.to9 {I I' : gI} (h : F38 I I') : F389 I I' := fun a b c d h1 _ => h a b c d h1
/-- where the pivots stand, and the first column without one -/
def Lds (I : gI) (lim k : Nat) (S : gEs) : Prop := (∀ t, t < S.1 → t < S.2.2.1 → I 39 0 0 t = gi t) ∧ ((S.1 = k ∧ S.2.2.1 = lim) ∨ (S.1 < k ∧ S.2.2.1 < k ∧ S.2.2.1 ≤ S.1 ∧ (S.2.2.1 < S.1 → I 39 0 0 S.2.2.1 ≠ gi (S.2.2.1 : Nat))))
section ZW
variable {E : gEn} {Q : gQt} {X : gXt} {I : gI} {J : gJ} {B : gB} {c w : Nat} {p : Int} {f : Nat → Int} {n : Nat} {M0 : gMx}
/-- scaling the pivot's row -/
theorem z_rd_s {mm cc i : Nat} {E0 : gMx} (hn : n ≤ 7) (hm : mm < n) (hc : cc < n) (hp1 : 1 ≤ p) (hp2 : p ≤ 31) (hE : Rg p E0) (hp : I 31 0 0 21 = gi p) (hG : Gm I n 0 n (fun a b => E0 (sw i mm a) b))
    (h : ∀ I', F38 I I' → Gm I' n 0 n (fun a b => if a = mm then (inv p (E0 i cc) * E0 i b) % p else E0 (sw i mm a) b) → gG E 181 119 [(0, .inr (31, 0, 0)), (1, .inl (.int (gi mm))), (2, .inl (.int (gi cc))), (5, .inl (.int (gi 0)))] [] I' J B c w Q X) :
    ∀ (d j : Nat) (I' : gI), j + d = 8 → F38 I I' → (∀ a b, a < 7 → b < 8 → I' 38 0 0 (8 * a + b) = if a = mm ∧ b < j then (I 38 0 0 (8 * mm + b) * gi (inv p (E0 i cc))) - (I 38 0 0 (8 * mm + b) * gi (inv p (E0 i cc))) / gi p * gi p else I 38 0 0 (8 * a + b)) →
      gG E 181 71 [(0, .inr (31, 0, 0)), (1, .inl (.int (gi mm))), (2, .inl (.int (gi cc))), (4, .inl (.int (gi (inv p (E0 i cc))))), (5, .inl (.int (gi j)))] [] I' J B c w Q X
  | 0, j, I', hj, hF, hI => by
    refine s_X8_reduces_71 ?_
    rw [gi_le (by decide) (by decide) (by omega) (by omega)]
    refine ⟨fun _ => h I' hF fun a b h1 h2 h3 => ?_, fun h0 => by omega⟩
    have hcm := cmx_lt (j := b) hn
    rw [hI a _ (by omega) hcm]
    dsimp only
    by_cases ha : a = mm
    · subst ha
      have hg := hG a b h1 h2 h3
      dsimp only at hg
      rw [sw_c] at hg
      have m1 := hE i b
      have m2 := inv_b (p := p) (v := E0 i cc) hp1
      have mu := mulb (x := E0 i b) (y := inv p (E0 i cc)) m1.1 (by omega) m2.1 (by omega)
      rw [if_pos ⟨rfl, by omega⟩, if_pos rfl, hg, gi_mul, gi_rem (by omega) (by omega) (by omega) (by omega), Int.tmod_eq_emod_of_nonneg mu.1, Int.mul_comm]
    · rw [if_neg (fun h => ha h.1), if_neg ha]
      exact hG a b h1 h2 h3
  | d + 1, j, I', hj, hF, hI => by
    obtain ⟨a1, a2, a3⟩ := gidx (show mm < 7 by omega) (show j < 8 by omega)
    refine s_X8_reduces_71 ?_
    rw [gi_le (by decide) (by decide) (by omega) (by omega), a1, a2, hI mm j (by omega) (by omega), if_neg (by omega), (hF 31 0 0 21 (by decide)).trans hp, gi_eq (by omega) (by omega) (by decide) (by decide), gi_add]
    refine ⟨fun h0 => by omega, fun _ => ⟨a3, by omega, a3, z_rd_s hn hm hc hp1 hp2 hE hp hG h d (j + 1) _ (by omega) hF.up fun a b h1 h2 => ?_⟩⟩
    rw [gUI_at]
    by_cases h3 : a = mm ∧ b = j
    · rw [h3.1, h3.2, if_pos ⟨rfl, rfl, rfl, rfl⟩, if_pos ⟨rfl, by omega⟩]
    · rw [if_neg (fun h => h3 (by omega)), hI a b h1 h2]
      by_cases h4 : a = mm ∧ b < j
      · rw [if_pos h4, if_pos ⟨h4.1, by omega⟩]
      · rw [if_neg h4, if_neg (by omega)]
/-- the grid with a scaled row -/
def scF (p : Int) (E0 : gMx) (i mm cc : Nat) : gMx := fun a b => if a = mm then (inv p (E0 i cc) * E0 i b) % p else E0 (sw i mm a) b
theorem sc_ld {E0 : gMx} {i mm cc : Nat} : scF p E0 i mm cc = ldF p E0 i mm cc := by
  funext a b
  unfold scF ldF sw
  by_cases h1 : a = mm
  · rw [if_pos h1, if_pos h1]
  · rw [if_neg h1, if_neg h1]
    by_cases h2 : a = i
    · rw [if_pos h2, if_pos h2, if_neg h1]
    · rw [if_neg h2, if_neg h2, if_neg h1]
theorem z_rd_c {mm cc : Nat} {L : gMx} (hn : n ≤ 7) (hM0 : I 32 0 0 0 = gi n) (hm : mm < n) (hc : cc < n) (hp1 : 1 ≤ p) (hp2 : p ≤ 31) (hL : Rg p L) (hp : I 31 0 0 21 = gi p) (hG : Gm I n 0 n L)
    (h : ∀ I', F389 I I' → Gm I' n 0 n (clF p L mm cc) → (∀ t, I' 39 0 0 t = if t = mm then gi cc else I 39 0 0 t) → gG E 181 4 [(0, .inr (31, 0, 0)), (1, .inl (.int (gi ((mm + 1 : Nat) : Int)))), (2, .inl (.int (gi ((cc + 1 : Nat) : Int))))] [] I' J B c w Q X) :
    ∀ (d r : Nat) (I' : gI), r + d = n → F38 I I' → Gm I' n 0 n (fun a b => if a < r then clF p L mm cc a b else L a b) →
      gG E 181 119 [(0, .inr (31, 0, 0)), (1, .inl (.int (gi mm))), (2, .inl (.int (gi cc))), (5, .inl (.int (gi r)))] [] I' J B c w Q X
  | 0, r, I', hr, hF, hI => by
    refine s_X8_reduces_119 ⟨gvp (by decide) (by decide) (by decide), ?_⟩
    rw [(hF 32 0 0 0 (by decide)).trans hM0, gi_le (by omega) (by omega) (by omega) (by omega), gi_c (by omega) (by omega), gtn, gi_add, gi_add]
    refine ⟨fun _ => ⟨gvp (by omega) (by omega) (by decide), h _ (hF.to9.tr fun a b c d h1 h2 => ?_) (fun a b h1 h2 h3 => ?_) fun t => ?_⟩, fun h0 => by omega⟩
    · rw [gUI_at, if_neg (fun h => h2 h.1)]
    · rw [gUI_at, if_neg (fun h => absurd h.1 (by decide)), hI a b h1 h2 h3]
      dsimp only
      rw [if_pos (by omega)]
    · rw [gUI_at]
      by_cases ht : t = mm
      · rw [if_pos ⟨rfl, rfl, rfl, ht⟩, if_pos ht]
      · rw [if_neg (fun h => ht h.2.2.2), if_neg ht]
        exact hF 39 0 0 t (by decide)
  | d + 1, r, I', hr, hF, hI => by
    have hp3 : I' 31 0 0 21 = gi p := (hF 31 0 0 21 (by decide)).trans hp
    obtain ⟨a1, a2, a3⟩ := gidx (show r < 7 by omega) (show cc < 8 by omega)
    have hg : I' 38 0 0 (8 * r + cc) = gi (L r cc) := by
      have := hI r cc (Nat.zero_le r) (by omega) (by omega)
      rw [cmx_in hc] at this
      dsimp only at this
      rw [if_neg (by omega)] at this
      exact this
    refine s_X8_reduces_119 ⟨gvp (by decide) (by decide) (by decide), ?_⟩
    rw [(hF 32 0 0 0 (by decide)).trans hM0, gi_le (by omega) (by omega) (by omega) (by omega), gi_inj (by omega) (by omega), a1, a2, hg]
    refine ⟨fun h0 => by omega, fun _ => ⟨fun h0 => ?_, fun h0 => ⟨a3, z_tk (by omega) (by omega) h0 hp3 hp1 hp2 fun I2 f2 g2 => ?_⟩⟩⟩
    · rw [gi_add]
      refine z_rd_c hn hM0 hm hc hp1 hp2 hL hp hG h d (r + 1) I' (by omega) hF fun a b h1 h2 h3 => ?_
      rw [hI a b h1 h2 h3]
      dsimp only
      congr 1
      by_cases h4 : a < r
      · rw [if_pos h4, if_pos (by omega)]
      · rw [if_neg h4]
        by_cases h5 : a = r
        · rw [if_pos (by omega), h5, h0]
          exact (clF_0 hL (Or.inl rfl)).symm
        · rw [if_neg (by omega)]
    · rw [gi_add]
      refine z_rd_c hn hM0 hm hc hp1 hp2 hL hp hG h d (r + 1) I2 (by omega) (hF.tr f2) fun a b h1 h2 h3 => ?_
      have hcm := cmx_lt (j := b) hn
      rw [g2 a _ (by omega) hcm]
      by_cases h5 : a = r
      · subst h5
        have m1 := hL a b
        have m2 := hL a cc
        have m3 := hL mm b
        have em : (if mm < a then clF p L mm cc mm b else L mm b) = L mm b := by
          split
          · exact clF_0 hL (Or.inl rfl)
          · rfl
        rw [if_pos rfl, hI a b h1 h2 h3, hI mm b (Nat.zero_le mm) hm h3]
        dsimp only
        rw [if_neg (by omega), em, tk_val (by omega) (by omega) (by omega) (by omega) (by omega) (by omega), if_pos (by omega)]
        unfold clF
        rw [if_neg h0]
      · rw [if_neg h5, hI a b h1 h2 h3]
        dsimp only
        congr 1
        by_cases h4 : a < r
        · rw [if_pos h4, if_pos (by omega)]
        · rw [if_neg h4, if_neg (by omega)]
theorem z_rd_l (hn : n ≤ 7) (hM0 : I 32 0 0 0 = gi n) (hp1 : 1 ≤ p) (hp2 : p ≤ 31) (hp : I 31 0 0 21 = gi p) (hR : Rg p M0)
    (h : ∀ I', F389 I I' → Gm I' n 0 n (elF p n M0 n).2.2.2 → Lds I' n n (elF p n M0 n) → Q (.inl (.int (gi ((elF p n M0 n).1 : Nat)))) I' J B) :
    ∀ (d cc : Nat) (I' : gI), cc + d = n → F389 I I' → Gm I' n 0 n (elF p n M0 cc).2.2.2 → Lds I' n cc (elF p n M0 cc) →
      gG E 181 4 [(0, .inr (31, 0, 0)), (1, .inl (.int (gi ((elF p n M0 cc).1 : Nat)))), (2, .inl (.int (gi cc)))] [] I' J B c w Q X
  | 0, cc, I', hc, hF, hG, hL => by
    refine s_X8_reduces_4 ⟨gvp (by decide) (by decide) (by decide), ?_⟩
    obtain rfl : cc = n := hc
    rw [(hF 32 0 0 0 (by decide) (by decide)).trans hM0, gi_le (by omega) (by omega) (by omega) (by omega)]
    exact ⟨fun _ => h I' hF hG hL, fun h1 => by omega⟩
  | d + 1, cc, I', hc, hF, hG, hL => by
    obtain ⟨b1, b2, b3, b4⟩ := elF_b (lim := n) hp1 hR cc
    have bl := elF_lim (p := p) (lim := n) (M := M0) cc
    have hp3 : I' 31 0 0 21 = gi p := (hF 31 0 0 21 (by decide) (by decide)).trans hp
    have hM3 : I' 32 0 0 0 = gi n := (hF 32 0 0 0 (by decide) (by decide)).trans hM0
    have hk1 : elF p n M0 (cc + 1) = esF p n (elF p n M0 cc) cc := rfl
    refine s_X8_reduces_4 ⟨gvp (by decide) (by decide) (by decide), ?_⟩
    rw [hM3, gi_le (by omega) (by omega) (by omega) (by omega), gi_le (a := (n : Int)) (b := ((elF p n M0 cc).1 : Nat)) (by omega) (by omega) (by omega) (by omega)]
    refine ⟨fun h1 => by omega, fun _ => ⟨gvp (by decide) (by decide) (by decide), fun h1 => by omega, fun _ => ⟨gvp (by decide) (by decide) (by decide), z_mpiv (R := n) (a0 := 0) (by omega) (Nat.le_refl n) (by omega) (by omega) hp2 hG b4 (Nat.zero_le _) bl ?_⟩⟩⟩
    cases hv2 : pvF (elF p n M0 cc).2.2.2 cc (n - (elF p n M0 cc).1) (elF p n M0 cc).1 with
    | none =>
      have e1 := esF_n (p := p) (lim := n) (col := cc) (S := elF p n M0 cc) hv2
      refine ⟨fun h1 => absurd rfl h1, fun _ => ?_⟩
      rw [gi_add]
      have hh := z_rd_l hn hM0 hp1 hp2 hp hR h d (cc + 1) I' (by omega) hF
      rw [hk1, e1] at hh
      refine hh hG ⟨fun t h1 h2 => hL.1 t h1 (by have h2 : t < min (elF p n M0 cc).2.2.1 cc := h2; omega), Or.inr ⟨by show (elF p n M0 cc).1 < cc + 1; omega, by show min _ _ < cc + 1; omega, ?_, ?_⟩⟩
      · show min (elF p n M0 cc).2.2.1 cc ≤ (elF p n M0 cc).1
        rcases hL.2 with ⟨h1, h2⟩ | ⟨h1, h2, h3, h4⟩
        · omega
        · omega
      · show min (elF p n M0 cc).2.2.1 cc < (elF p n M0 cc).1 → I' 39 0 0 (min (elF p n M0 cc).2.2.1 cc) ≠ gi ((min (elF p n M0 cc).2.2.1 cc : Nat) : Int)
        intro h5
        rcases hL.2 with ⟨h1, h2⟩ | ⟨h1, h2, h3, h4⟩
        · omega
        · rw [show min (elF p n M0 cc).2.2.1 cc = (elF p n M0 cc).2.2.1 by omega] at h5 ⊢
          exact h4 h5
    | some i =>
      obtain ⟨s1, s2, s3⟩ := pvF_s hv2
      have e1 := esF_s (p := p) (lim := n) (col := cc) (S := elF p n M0 cc) (i := i) hv2
      rw [show pvI (some i) = (i : Int) from rfl]
      show (¬ gi (i : Int) = gi (-1) → _) ∧ (gi (i : Int) = gi (-1) → _)
      have m1 := b4 i cc
      obtain ⟨a1, a2, a3⟩ := gidx (show (elF p n M0 cc).1 < 7 by omega) (show cc < 8 by omega)
      rw [gi_eq (a := (i : Int)) (by omega) (by omega) (by decide) (by decide)]
      refine ⟨fun _ => ?_, fun h1 => by omega⟩
      refine z_sw (by omega) (by omega) fun I2 f2 g2 => ?_
      have gs := hG.sw (I' := I2) (by omega) (by omega) ⟨Nat.zero_le i, by omega⟩ ⟨Nat.zero_le _, by omega⟩ g2
      have hp4 : I2 31 0 0 21 = gi p := (f2 31 0 0 21 (by decide)).trans hp3
      have hcs : I2 38 0 0 (8 * (elF p n M0 cc).1 + cc) = gi ((elF p n M0 cc).2.2.2 i cc) := by
        have hg := gs (elF p n M0 cc).1 cc (Nat.zero_le _) (by omega) (by omega)
        rw [cmx_in (by omega)] at hg
        rw [hg]
        dsimp only
        rw [sw_c]
      rw [a1, a2, hcs]
      refine ⟨a3, z_minv hp4 hp1 hp2 m1.1 m1.2 ?_⟩
      show gG _ _ _ _ _ _ _ _ _ _ _ _
      refine z_rd_s (I := I2) (i := i) (E0 := (elF p n M0 cc).2.2.2) hn (by omega) (by omega) hp1 hp2 b4 hp4 gs (fun I3 f3 g3 => ?_) 8 0 I2 rfl F38.rf (fun a b h1 h2 => by rw [if_neg (fun h => absurd h.2 (Nat.not_lt_zero b))])
      have g3 : Gm I3 n 0 n (ldF p (elF p n M0 cc).2.2.2 i (elF p n M0 cc).1 cc) := by
        rw [← sc_ld]
        exact g3
      refine z_rd_c (I := I3) hn ((f3 32 0 0 0 (by decide)).trans ((f2 32 0 0 0 (by decide)).trans hM3)) (by omega) (by omega) hp1 hp2 (Rg.ld hp1 b4) ((f3 31 0 0 21 (by decide)).trans hp4) g3 (fun I4 f4 g4 l4 => ?_) n 0 I3 (by omega) F38.rf (fun a b h1 h2 h3 => by
        dsimp only
        rw [if_neg (Nat.not_lt_zero a)]
        exact g3 a b h1 h2 h3)
      have hh := z_rd_l hn hM0 hp1 hp2 hp hR h d (cc + 1) I4 (by omega) (hF.tr (f2.to9.tr (f3.to9.tr f4)))
      rw [hk1, e1] at hh
      have l5 : ∀ t, I4 39 0 0 t = if t = (elF p n M0 cc).1 then gi cc else I' 39 0 0 t := fun t => by
        rw [l4 t, f3 39 0 0 t (by decide), f2 39 0 0 t (by decide)]
      refine hh g4 ⟨fun t h1 h2 => ?_, ?_⟩
      · rw [l5 t]
        have h1 : t < (elF p n M0 cc).1 + 1 := h1
        have h2 : t < (elF p n M0 cc).2.2.1 := h2
        by_cases ht : t = (elF p n M0 cc).1
        · rw [if_pos ht]
          rcases hL.2 with ⟨h5, h6⟩ | ⟨h5, h6, h7, h8⟩
          · rw [ht, h5]
          · omega
        · rw [if_neg ht]
          exact hL.1 t (by omega) h2
      · rcases hL.2 with ⟨h5, h6⟩ | ⟨h5, h6, h7, h8⟩
        · exact Or.inl ⟨by show (elF p n M0 cc).1 + 1 = cc + 1; omega, h6⟩
        · refine Or.inr ⟨by show (elF p n M0 cc).1 + 1 < cc + 1; omega, by show (elF p n M0 cc).2.2.1 < cc + 1; omega, by show (elF p n M0 cc).2.2.1 ≤ (elF p n M0 cc).1 + 1; omega, ?_⟩
          show (elF p n M0 cc).2.2.1 < (elF p n M0 cc).1 + 1 → I4 39 0 0 (elF p n M0 cc).2.2.1 ≠ gi ((elF p n M0 cc).2.2.1 : Nat)
          intro h9
          rw [l5]
          by_cases ht : (elF p n M0 cc).2.2.1 = (elF p n M0 cc).1
          · rw [if_pos ht, Ne, gi_inj (by omega) (by omega)]
            omega
          · rw [if_neg ht]
            exact h8 (by omega)
theorem z_rd (hn : n ≤ 7) (hM0 : I 32 0 0 0 = gi n) (hp1 : 1 ≤ p) (hp2 : p ≤ 31) (hp : I 31 0 0 21 = gi p) (hR : Rg p M0) (hG : Gm I n 0 n M0)
    (h : ∀ I', F389 I I' → Gm I' n 0 n (elF p n M0 n).2.2.2 → Lds I' n n (elF p n M0 n) → Q (.inl (.int (gi ((elF p n M0 n).1 : Nat)))) I' J B) : gC E 181 [.inr (31, 0, 0)] I J B Q X :=
  e_X8_reduces (z_rd_l hn hM0 hp1 hp2 hp hR h n 0 I (by omega) F389.rf hG ⟨fun t h1 => absurd h1 (Nat.not_lt_zero t), Or.inl ⟨rfl, rfl⟩⟩)
end ZW
