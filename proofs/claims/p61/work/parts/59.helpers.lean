/-! ===== what several questions ask ===== -/
def esL (f : Nat → Int) : Nat → List Nat
  | 0 => [0]
  | k + 1 => if detF f (f 1) (k + 1) = 0 then esL f k else esL f k ++ [k + 1]
/-- the regular sizes -/
def ess (f : Nat → Int) : List Nat := esL f ((f 0).toNat)
theorem esL_len {f : Nat → Int} : ∀ k, 1 ≤ (esL f k).length ∧ (esL f k).length ≤ k + 1
  | 0 => ⟨Nat.le_refl 1, Nat.le_refl 1⟩
  | k + 1 => by
    have h := esL_len (f := f) k
    unfold esL
    split
    · omega
    · rw [List.length_append]
      show 1 ≤ _ + 1 ∧ _ + 1 ≤ _
      omega
theorem esL_le {f : Nat → Int} : ∀ k, ∀ x ∈ esL f k, x ≤ k
  | 0, x, h => by
    have : x = 0 := by simpa [esL] using h
    omega
  | k + 1, x, h => by
    unfold esL at h
    split at h
    · have := esL_le k x h
      omega
    · rcases List.mem_append.mp h with h | h
      · have := esL_le k x h
        omega
      · rw [List.mem_singleton.mp h]
        omega
theorem getD_mem {l : List Nat} {j : Nat} (h : j < l.length) : l.getD j 0 ∈ l := by
  rw [List.getD_eq_getElem?_getD, List.getElem?_eq_getElem h]
  exact List.getElem_mem h
/-- the complement behind the first rows -/
def cpF (f : Nat → Int) (q : Nat) : gMx := (elF (f 1) q (mtF f (f 1) ((f 0).toNat)) q).2.2.2
def prs (f : Nat → Int) (q : Nat) : gPs := paF (f 1) q ((f 0).toNat) ((f 0).toNat - q) q (0, dpF (f 1) q (cpF f q), (fun _ _ => 0), fun _ _ => 0)
/-- with one more column -/
def mbF (f : Nat → Int) (p : Int) (n : Nat) (b : Nat → Int) : gMx := fun i j => if j < n then dg f ((i : Int) - (j : Int)) % p else if j = n then b i % p else 0
theorem Rg.mb {f : Nat → Int} {p : Int} {n : Nat} {b : Nat → Int} (hp : 1 ≤ p) : Rg p (mbF f p n b) := fun i j => by
  unfold mbF
  split
  · exact ⟨Int.emod_nonneg _ (by omega), Int.emod_lt_of_pos _ (by omega)⟩
  · split
    · exact ⟨Int.emod_nonneg _ (by omega), Int.emod_lt_of_pos _ (by omega)⟩
    · exact ⟨Int.le_refl 0, by omega⟩
theorem mt_mb {f : Nat → Int} {p : Int} {n : Nat} {b : Nat → Int} : Aq n (mtF f p n) (mbF f p n b) := fun i j hj => by
  unfold mtF mbF
  rw [if_pos hj, if_pos hj]
/-- the reduced grid with the sides -/
def sdF (f : Nat → Int) (b : Nat → Int) : gMx := (elF (f 1) ((f 0).toNat) (mbF f (f 1) ((f 0).toNat) b) ((f 0).toNat)).2.2.2
theorem rk_mb {f : Nat → Int} {b : Nat → Int} : (elF (f 1) ((f 0).toNat) (mbF f (f 1) ((f 0).toNat) b) ((f 0).toNat)).1 = rkF f := (elF_ext mt_mb ((f 0).toNat) (Nat.le_refl _)).1.symm
def FE (I I' : gI) : Prop := ∀ a b c d, ¬ ((a = 17 ∨ a = 19) ∧ b = 0) → a ≠ 30 → I' a b c d = I a b c d
theorem FE.rf {I : gI} : FE I I := fun _ _ _ _ _ _ => rfl
theorem FE.tr {I I' I2 : gI} (h : FE I I') (h2 : FE I' I2) : FE I I2 := fun a b c d h3 h4 => (h2 a b c d h3 h4).trans (h a b c d h3 h4)
theorem Fg.toE {I I' : gI} (h : Fg 0 I I') : FE I I' := fun a b c d h1 _ => h a b c d h1
section ZR
variable {E : gEn} {Q : gQt} {X : gXt} {I : gI} {J : gJ} {B : gB} {c w : Nat} {p : Int} {f : Nat → Int}
theorem Rst.fg {n : Nat} {I' : gI} (h : Rst f I J 0) (hF : Fg n I I') : Rst f I' J 0 := h.to (fun a d h1 h2 => hF a 0 0 d (fun h => by omega)) (fun _ _ _ => rfl)
theorem Rst.fe {I' : gI} (h : Rst f I J 0) (hF : FE I I') : Rst f I' J 0 := h.to (fun a d h1 h2 => hF a 0 0 d (fun h => by omega) (by omega)) (fun _ _ _ => rfl)
theorem z_lm {s : Nat} (hv : Vf f) (hR : Rst f I J 0) (hs : s ≤ (f 0).toNat) (hp : p ∈ primesL) (k : ∀ I', Fg 0 I I' → Q (.inl (.int (gi (detF f p s)))) I' J B) : gC E 122 [.inr (3, 0, 0), .inl (.int (gi s)), .inl (.int (gi p))] I J B Q X := by
  have h0 := hv.1
  have hb := pr_b hp
  refine e_X7_leadingMinor (z_take (size := s) (more := 0) (by omega) (by omega) (by omega) (by omega) (hR.dia hv) fun I2 h1 h2 => ?_)
  refine z_el (by omega) (by omega) (Nat.le_refl _) (by omega) (by omega) (by omega) h2 (Rg.mt (by omega)) fun I3 h3 => ?_
  show gC _ _ _ _ _ _ _ _
  refine e_X1_determinant ?_
  have := k I3 (h1.tr h3.1)
  rw [h3.2.2.1]
  exact this
theorem z_fs_l (hv : Vf f) (k : ∀ I', FE I I' → (∀ j, j < (ess f).length → I' 30 0 0 j = gi ((ess f).getD j 0 : Nat)) → Q (.inl (.int (gi (((ess f).length - 1 : Nat) : Int)))) I' J B) :
    ∀ (d s : Nat) (I' : gI), s + d = (f 0).toNat → FE I I' → Rst f I' J 0 → (∀ j, j < (esL f s).length → I' 30 0 0 j = gi ((esL f s).getD j 0 : Nat)) →
      gG E 123 11 [(0, .inr (3, 0, 0)), (1, .inl (.int (gi (((esL f s).length - 1 : Nat) : Int)))), (2, .inl (.int (gi ((s + 1 : Nat) : Int))))] [] I' J B c w Q X
  | 0, s, I', hs, hF, hR, he => by
    have h0 := hv.1
    have hl := esL_len (f := f) s
    obtain rfl : s = (f 0).toNat := hs
    refine s_X7_findSteps_11 ?_
    rw [hR.1.1, gi_lt (by omega) (by omega) (by omega) (by omega)]
    exact ⟨fun _ => k I' hF he, fun h1 => by omega⟩
  | d + 1, s, I', hs, hF, hR, he => by
    have h0 := hv.1
    have hl := esL_len (f := f) s
    have hp := hv.p
    have hdb : 0 ≤ detF f (f 1) (s + 1) ∧ detF f (f 1) (s + 1) < f 1 := (elF_b (by omega) (Rg.mt (by omega)) _).2.1
    refine s_X7_findSteps_11 ?_
    rw [hR.1.1, hR.1.2.1, gi_lt (by omega) (by omega) (by omega) (by omega), gi_add, gi_le (by decide) (by decide) (by omega) (by omega)]
    refine ⟨fun h1 => by omega, fun _ => ⟨fun h1 => by omega, fun _ => z_lm (s := s + 1) hv hR (by omega) hv.2.1 fun I2 h2 => ?_⟩⟩
    show (gi _ = gi 0 → _) ∧ (¬ gi _ = gi 0 → _)
    rw [gi_eq (by omega) (by omega) (by decide) (by decide), gi_add]
    have hR2 := hR.fg h2
    refine ⟨fun h1 => ?_, fun h1 => ⟨gvp (by omega) (by omega) (by decide), ?_⟩⟩
    · have e : esL f (s + 1) = esL f s := if_pos h1
      have hh := z_fs_l hv k d (s + 1) I2 (by omega) (hF.tr h2.toE) hR2
      rw [e] at hh
      exact hh fun j hj => (h2 30 0 0 j (fun h => by omega)).trans (he j hj)
    · have e : esL f (s + 1) = esL f s ++ [s + 1] := if_neg h1
      have e2 : (((esL f s).length - 1 : Nat) : Int) + 1 = (((esL f s ++ [s + 1]).length - 1 : Nat) : Int) := by
        rw [List.length_append]
        show _ = ((((esL f s).length + 1) - 1 : Nat) : Int)
        omega
      rw [gi_c (by omega) (by omega), e2]
      have hh := z_fs_l hv k d (s + 1) (gUI I2 30 0 0 ((((esL f s ++ [s + 1]).length - 1 : Nat) : Int).toNat) (gi ((s + 1 : Nat) : Int))) (by omega)
      rw [e] at hh
      have e3 : ((((esL f s ++ [s + 1]).length - 1 : Nat) : Int)).toNat = (esL f s).length := by omega
      rw [e3] at hh ⊢
      refine hh (hF.tr (h2.toE.tr fun a b c d g1 g2 => ?_)) (hR2.to (fun a d g1 g2 => ?_) (fun _ _ _ => rfl)) fun j hj => ?_
      · rw [gUI_at, if_neg (fun h => g2 h.1)]
      · rw [gUI_at, if_neg (fun h => by omega)]
      · rw [gUI_at]
        by_cases hjl : j = (esL f s).length
        · rw [if_pos ⟨rfl, rfl, rfl, hjl⟩, hjl, List.getD_eq_getElem?_getD, List.getElem?_append_right (Nat.le_refl _), Nat.sub_self]
          rfl
        · rw [if_neg (fun h => hjl h.2.2.2), h2 30 0 0 j (fun h => by omega), List.getD_eq_getElem?_getD, List.getElem?_append_left (by rw [List.length_append] at hj; have : [s + 1].length = 1 := rfl; omega), ← List.getD_eq_getElem?_getD]
          exact he j (by rw [List.length_append] at hj; have : [s + 1].length = 1 := rfl; omega)
theorem z_fs (hv : Vf f) (hR : Rst f I J 0) (k : ∀ I', FE I I' → (∀ j, j < (ess f).length → I' 30 0 0 j = gi ((ess f).getD j 0 : Nat)) → Q (.inl (.int (gi (((ess f).length - 1 : Nat) : Int)))) I' J B) : gC E 123 [.inr (3, 0, 0)] I J B Q X := by
  refine e_X7_findSteps ⟨gvp (by decide) (by decide) (by decide), z_fs_l hv k ((f 0).toNat) 0 _ (by omega) (fun a b c d g1 g2 => ?_) (hR.to (fun a d g1 g2 => ?_) (fun _ _ _ => rfl)) fun j hj => ?_⟩
  · rw [gUI_at, if_neg (fun h => g2 h.1)]
  · rw [gUI_at, if_neg (fun h => by omega)]
  · have : j = 0 := by
      have : (esL f 0).length = 1 := rfl
      omega
    subst this
    exact if_pos ⟨rfl, rfl, rfl, rfl⟩
/-- the start of a step's complement -/
def stE (f : Nat → Int) (s : Int) : Nat := (ess f).getD s.toNat 0
theorem z_sb {s : Int} (hs1 : -2147483648 ≤ s) (hs2 : s < 2147483648) (hv : Vf f) (hR : Rst f I J 0) (k1 : 0 ≤ s → s < (ess f).length → ∀ I', FE I I' → (∀ j, j < (ess f).length → I' 30 0 0 j = gi ((ess f).getD j 0 : Nat)) → Q (.inl (.int (gi (stE f s : Nat)))) I' J B)
    (k2 : ¬ (0 ≤ s ∧ s < (ess f).length) → ∀ I', FE I I' → X 1 I' J B) : gC E 124 [.inr (3, 0, 0), .inl (.int (gi s))] I J B Q X := by
  have h0 := hv.1
  have hl := esL_len (f := f) ((f 0).toNat)
  have hl2 : (ess f).length = (esL f ((f 0).toNat)).length := rfl
  refine e_X7_startBehind (z_fs hv hR fun I2 h1 h2 => ?_)
  show (gi s < gi 0 → _) ∧ (¬ gi s < gi 0 → (gi s ≤ gi _ → _) ∧ (¬ gi s ≤ gi _ → _))
  rw [gi_lt hs1 hs2 (by decide) (by decide), gi_le hs1 hs2 (by omega) (by omega), gi_c hs1 hs2]
  refine ⟨fun g1 => ⟨by decide, k2 (by omega) I2 h1⟩, fun g1 => ⟨fun g2 => ⟨gvp (by omega) (by omega) (by decide), ?_⟩, fun g2 => ⟨by decide, k2 (by omega) I2 h1⟩⟩⟩
  rw [h2 s.toNat (by omega)]
  exact k1 (by omega) (by omega) I2 h1 h2
theorem stE_le {s : Int} (h1 : 0 ≤ s) (h2 : s < (ess f).length) : stE f s ≤ (f 0).toNat := esL_le _ _ (getD_mem (show s.toNat < (ess f).length by omega))
theorem z_cb {q : Nat} (hv : Vf f) (hR : Rst f I J 0) (hq : q ≤ (f 0).toNat) (k : ∀ I', Fg 0 I I' → Gr I' 0 ((f 0).toNat) ((f 0).toNat) (f 1) (cpF f q) → Q (.inl .null) I' J B) : gC E 125 [.inr (3, 0, 0), .inl (.int (gi q))] I J B Q X := by
  have h0 := hv.1
  have hp := hv.p
  refine e_X7_complementBehind ?_
  rw [hR.1.1, hR.1.2.1, show f 0 = (((f 0).toNat : Nat) : Int) by omega]
  refine z_take (size := (f 0).toNat) (more := 0) (by omega) (by omega) (by omega) (by omega) (hR.dia hv) fun I2 h1 h2 => ?_
  refine z_el (by omega) (by omega) hq (by omega) (by omega) (by omega) h2 (Rg.mt (by omega)) fun I3 h3 => ?_
  exact k I3 (h1.tr h3.1) h3.2.1
theorem cp_rg {q : Nat} (hv : Vf f) : Rg (f 1) (cpF f q) := (elF_b (by have := hv.p; omega) (Rg.mt (by have := hv.p; omega)) _).2.2.2
/-- what the generators' question writes -/
def FQ (I I' : gI) : Prop := ∀ a b c d, ¬ ((a = 17 ∨ a = 19) ∧ b = 0) → a ≠ 22 → a ≠ 24 → a ≠ 30 → I' a b c d = I a b c d
theorem FQ.rf {I : gI} : FQ I I := fun _ _ _ _ _ _ _ _ => rfl
theorem FQ.tr {I I' I2 : gI} (h : FQ I I') (h2 : FQ I' I2) : FQ I I2 := fun a b c d h3 h4 h5 h6 => (h2 a b c d h3 h4 h5 h6).trans (h a b c d h3 h4 h5 h6)
theorem z_pb {q : Nat} (hv : Vf f) (hR : Rst f I J 0) (hq : q ≤ (f 0).toNat) (k : ∀ I', FQ I I' → (∀ d, I' 30 0 0 d = I 30 0 0 d) → Pst I' q ((f 0).toNat) ((f 0).toNat) (f 1) (prs f q) → Q (.inl (.int (gi ((prs f q).1 : Nat)))) I' J B) : gC E 126 [.inr (3, 0, 0), .inl (.int (gi q))] I J B Q X := by
  have h0 := hv.1
  have hp := hv.p
  refine e_X7_pairsBehind (z_cb hv hR hq fun I2 h1 h2 => ?_)
  refine z_dp (by omega) (by omega) (Nat.le_refl _) hq (by omega) (by omega) (by omega) h2 (cp_rg hv) fun I3 h3 h4 => ?_
  refine z_pf (p := f 1) (S0 := (0, dpF (f 1) q (cpF f q), (fun _ _ => 0), fun _ _ => 0)) (by omega) (show (f 0).toNat ≤ 14 by omega) (Nat.le_refl _) hq hv.2.1 rfl (Rg.dp (by omega) (cp_rg hv)) ⟨⟨h4.1, h4.2.1, h4.2.2.1⟩, fun i j g1 g2 g3 g4 => ?_, fun a b g1 => absurd g1 (Nat.not_lt_zero a)⟩ fun I4 h5 h6 => ?_
  · rw [h4.2.2.2 i j g2 g4]
    dsimp only
    rw [if_pos g4]
  · refine k I4 (fun a b c d g1 g2 g3 g4 => ?_) (fun d => ?_) h6
    · rw [h5 a b c d (fun h => g1 ⟨Or.inr h.1, h.2⟩) g2 g3, h3 a b c d (fun h => g1 ⟨Or.inr h.1, h.2⟩)]
      exact h1 a b c d g1
    · rw [h5 30 0 0 d (fun h => by omega) (by decide) (by decide), h3 30 0 0 d (fun h => by omega)]
      exact h1 30 0 0 d (fun h => by omega)
theorem z_ws_l {n0 : Nat} (hv : Vf f) (k : ∀ I', Fg 0 I I' → Gr I' 0 ((f 0).toNat) ((f 0).toNat + 1) (f 1) (sdF f (fun i => f (15 + i))) → I' 17 0 0 5 = gi (((elF (f 1) ((f 0).toNat) (mbF f (f 1) ((f 0).toNat) (fun i => f (15 + i))) ((f 0).toNat)).2.2.1 : Nat) : Int) → Q (.inl (.int (gi (rkF f : Nat)))) I' J B) :
    ∀ (d i : Nat) (I' : gI), i + d = (f 0).toNat → Fg 0 I I' → Rst f I' J 0 → Gr I' 0 ((f 0).toNat) ((f 0).toNat + 1) (f 1) (fun a b => if b < (f 0).toNat then dg f ((a : Int) - (b : Int)) % f 1 else if b = (f 0).toNat ∧ a < i then f (15 + a) % f 1 else 0) →
      gG E 127 30 [(0, .inr (3, 0, 0)), (1, .inl (.int (gi ((f 0).toNat : Nat)))), (2, .inl (.int (gi i)))] [] I' J B c w Q X
  | 0, i, I', hi, hF, hR, hG => by
    have h0 := hv.1
    have hp := hv.p
    refine s_X7_eliminateWithSides_30 ?_
    rw [gi_le (by omega) (by omega) (by omega) (by omega)]
    refine ⟨fun _ => ?_, fun h1 => by omega⟩
    have hG2 : Gr I' 0 ((f 0).toNat) ((f 0).toNat + 1) (f 1) (mbF f (f 1) ((f 0).toNat) (fun i => f (15 + i))) := ⟨hG.1, hG.2.1, hG.2.2.1, fun a b ha hb => by
      rw [hG.2.2.2 a b ha hb]
      unfold mbF
      dsimp only
      congr 1
      split
      · rfl
      · by_cases hb2 : b = (f 0).toNat
        · rw [if_pos ⟨hb2, by omega⟩, if_pos hb2]
        · rw [if_neg (fun h => hb2 h.1), if_neg hb2]⟩
    refine z_el (by omega) (by omega) (Nat.le_refl _) (by omega) (by omega) (by omega) hG2 (Rg.mb (by omega)) fun I3 h3 => ?_
    have hk := k I3 (hF.tr h3.1) h3.2.1 h3.2.2.2
    rw [rk_mb]
    exact hk
  | d + 1, i, I', hi, hF, hR, hG => by
    have h0 := hv.1
    have hp := hv.p
    have hs := hv.2.2.2.1 i (by omega)
    refine s_X7_eliminateWithSides_30 ?_
    rw [gi_le (by omega) (by omega) (by omega) (by omega), gi_c (by omega) (by omega), gtn, hR.1.2.2.2.1 i (by omega), gi_add]
    refine ⟨fun h1 => by omega, fun _ => ⟨gvp (by omega) (by omega) (by decide), z_put (i := i) (j := (f 0).toNat) hG (by omega) (by omega) (by omega) (by omega) (by omega) (by omega) (by omega) (by omega) ?_⟩⟩
    refine z_ws_l (n0 := n0) hv k d (i + 1) _ (by omega) hF.up19 (hR.fg (n := 0) (Fg.rf.up19)) (hG.fc (Fc.up Fc.rf) fun a b ha hb => ?_)
    rw [gU19]
    by_cases h1 : a = i ∧ b = (f 0).toNat
    · rw [if_pos h1, h1.1, h1.2, if_neg (by omega), if_pos ⟨rfl, by omega⟩]
    · rw [if_neg h1, hG.2.2.2 a b ha hb]
      dsimp only
      congr 1
      split
      · rfl
      · by_cases h2 : b = (f 0).toNat ∧ a < i
        · rw [if_pos h2, if_pos ⟨h2.1, by omega⟩]
        · rw [if_neg h2, if_neg (fun h3 => h2 ⟨h3.1, by
            by_cases h4 : a = i
            · exact absurd ⟨h4, h3.1⟩ h1
            · omega⟩)]
theorem z_ws (hv : Vf f) (hR : Rst f I J 0) (k : ∀ I', Fg 0 I I' → Gr I' 0 ((f 0).toNat) ((f 0).toNat + 1) (f 1) (sdF f (fun i => f (15 + i))) → Q (.inl (.int (gi (rkF f : Nat)))) I' J B) : gC E 127 [.inr (3, 0, 0)] I J B Q X := by
  have h0 := hv.1
  have hp := hv.p
  refine e_X7_eliminateWithSides ?_
  rw [hR.1.1, hR.1.2.1, show f 0 = (((f 0).toNat : Nat) : Int) by omega]
  refine z_take (size := (f 0).toNat) (more := 1) (by omega) (by omega) (by omega) (by omega) (hR.dia hv) fun I2 h1 h2 => ?_
  refine z_ws_l (n0 := 0) hv (fun I' g1 g2 _ => k I' (h1.tr g1) g2) ((f 0).toNat) 0 I2 (by omega) Fg.rf (hR.fg h1) ⟨h2.1, h2.2.1, h2.2.2.1, fun a b ha hb => ?_⟩
  rw [h2.2.2.2 a b ha hb]
  unfold mtF
  dsimp only
  congr 1
  split
  · rfl
  · rw [if_neg (fun h => absurd h.2 (Nat.not_lt_zero a))]
/-- a component of T times the probe -/
def pdF (f : Nat → Int) (i : Int) : Nat → Int
  | 0 => 0
  | j + 1 => pdF f i j + dg f (i - (j : Int)) * f (22 + j)
theorem z_tp_l {i : Nat} (hv : Vf f) (hR : Rst f I J 0) (hi : i < (f 0).toNat) (h : Q (.inl (.int (gi (pdF f i ((f 0).toNat))))) I J B) : ∀ d j : Nat, j + d = (f 0).toNat → gG E 128 4 [(0, .inr (3, 0, 0)), (1, .inl (.int (gi i))), (2, .inl (.int (gi (pdF f i j)))), (3, .inl (.int (gi j)))] [] I J B c w Q X
  | 0, j, hj => by
    have h0 := hv.1
    obtain rfl : j = (f 0).toNat := hj
    refine s_X7_timesProbe_4 ?_
    rw [hR.1.1, gi_le (by omega) (by omega) (by omega) (by omega)]
    exact ⟨fun _ => h, fun h1 => by omega⟩
  | d + 1, j, hj => by
    have h0 := hv.1
    refine s_X7_timesProbe_4 ?_
    rw [hR.1.1, gi_le (by omega) (by omega) (by omega) (by omega), gi_sub]
    refine ⟨fun h1 => by omega, fun _ => z_along (hR.dia hv) (by omega) (by omega) ⟨gvp (by omega) (by omega) (by decide), ?_⟩⟩
    rw [gi_c (by omega) (by omega), gtn, hR.1.2.2.2.2.1 j (by omega), gi_mul, gi_add, gi_add]
    exact z_tp_l hv hR hi h d (j + 1) (by omega)
theorem z_tp {i : Nat} (hv : Vf f) (hR : Rst f I J 0) (hi : i < (f 0).toNat) (h : Q (.inl (.int (gi (pdF f i ((f 0).toNat))))) I J B) : gC E 128 [.inr (3, 0, 0), .inl (.int (gi i))] I J B Q X :=
  e_X7_timesProbe (z_tp_l hv hR hi h ((f 0).toNat) 0 (by omega))
/-- an entry of the circulant -/
def arF (f : Nat → Int) (k : Int) : Int := if k % (2 * f 0) = f 0 then 0 else if k % (2 * f 0) < f 0 then dg f (k % (2 * f 0)) else dg f (k % (2 * f 0) - 2 * f 0)
theorem z_ar {k : Int} (h1 : -100 ≤ k) (h2 : k ≤ 100) (hv : Vf f) (hR : Rst f I J 0) (h : Q (.inl (.int (gi (arF f k)))) I J B) : gC E 129 [.inr (3, 0, 0), .inl (.int (gi k))] I J B Q X := by
  have h0 := hv.1
  have m1 := Int.emod_nonneg k (show 2 * f 0 ≠ 0 by omega)
  have m2 := Int.emod_lt_of_pos k (show 0 < 2 * f 0 by omega)
  refine e_X7_aroundCircle ?_
  rw [hR.1.1, gi_mul]
  refine z_red (by omega) (by omega) (by omega) (by omega) ?_
  show (¬ gi _ = gi _ → (gi _ ≤ gi _ → _) ∧ (¬ gi _ ≤ gi _ → _)) ∧ (gi _ = gi _ → _)
  rw [gi_eq (by omega) (by omega) (by omega) (by omega), gi_le (by omega) (by omega) (by omega) (by omega), gi_sub]
  unfold arF at h
  refine ⟨fun g1 => ⟨fun g2 => ?_, fun g2 => ?_⟩, fun g1 => ?_⟩
  · rw [if_neg g1, if_neg (by omega)] at h
    exact z_along (hR.dia hv) (by omega) (by omega) h
  · rw [if_neg g1, if_pos (by omega)] at h
    exact z_along (hR.dia hv) (by omega) (by omega) h
  · rw [if_pos g1] at h
    exact h
end ZR
