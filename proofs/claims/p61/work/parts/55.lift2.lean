section ZN
variable {E : gEn} {Q : gQt} {X : gXt} {I : gI} {J : gJ} {B : gB} {c w : Nat} {n : Nat} {f : Nat → Int} {p : Int}
theorem Iv_b (hv : Vf f) : Rg (f 1) (IvM f) := (elF_b (show 1 ≤ f 1 by have := hv.p; omega) (Rg.mi (by have := hv.p; omega)) _).2.2.2
theorem sm_b (hv : Vf f) {i : Nat} : ∀ k, k ≤ 7 → 0 ≤ smF (IvM f) (fun j => f (29 + j) % f 1) ((f 0).toNat) i k ∧ smF (IvM f) (fun j => f (29 + j) % f 1) ((f 0).toNat) i k ≤ 961 * k
  | 0, _ => ⟨Int.le_refl 0, Int.le_refl 0⟩
  | k + 1, hk => by
    have hp := hv.p
    obtain ⟨h1, h2⟩ := sm_b hv (i := i) k (by omega)
    have hb := Iv_b hv i ((f 0).toNat + k)
    have hm := mulb (x := IvM f i ((f 0).toNat + k)) (y := f (29 + k) % f 1) hb.1 (by omega) (Int.emod_nonneg _ (by omega)) (by have := Int.emod_lt_of_pos (f (29 + k)) (show 0 < f 1 by omega); omega)
    show 0 ≤ smF (IvM f) _ ((f 0).toNat) i k + _ * _ ∧ smF (IvM f) _ ((f 0).toNat) i k + _ * _ ≤ _
    dsimp only
    omega
/-- the fresh digits that stand -/
def Fre (f : Nat → Int) (I : gI) (i : Nat) : Prop := ∀ j, j < i → I 29 0 0 j = gi (frF f j)
theorem z_add_i (hv : Vf f) (hR : Rst f I J n) (hL : Lrd f I) {i : Nat} (hi : i < (f 0).toNat)
    (h : gG E 37 15 [(0, .inr (28, 0, 0)), (1, .inr (6, n, 0)), (2, .inl (.int (gi ((f 0).toNat : Nat)))), (3, .inl (.int (gi ((i + 1 : Nat) : Int))))] [] (gUI I 29 0 0 i (gi (frF f i))) J B c w Q X) :
    ∀ d j : Nat, j + d = (f 0).toNat → gG E 37 26 [(0, .inr (28, 0, 0)), (1, .inr (6, n, 0)), (2, .inl (.int (gi ((f 0).toNat : Nat)))), (3, .inl (.int (gi i))), (4, .inl (.int (gi (smF (IvM f) (fun j => f (29 + j) % f 1) ((f 0).toNat) i j)))), (5, .inl (.int (gi j)))] [] I J B c w Q X
  | 0, j, hj => by
    have h0 := hv.1
    have hp := hv.p
    obtain rfl : j = (f 0).toNat := hj
    obtain ⟨b1, b2⟩ := sm_b hv (i := i) ((f 0).toNat) (by omega)
    refine s_X4_addDigit_26 ?_
    rw [gi_le (by omega) (by omega) (by omega) (by omega), hR.1.2.1]
    refine ⟨fun _ => z_red (by omega) (by omega) (by omega) (by omega) ⟨gvp (by omega) (by omega) (by decide), ?_⟩, fun h1 => by omega⟩
    rw [gi_c (by omega) (by omega), gtn, gi_add]
    exact h
  | d + 1, j, hj => by
    have h0 := hv.1
    have hp := hv.p
    have hr := hv.2.2.2.2.2.1 j (by omega)
    have hb := Iv_b hv i ((f 0).toNat + j)
    refine s_X4_addDigit_26 ?_
    rw [gi_le (by omega) (by omega) (by omega) (by omega)]
    refine ⟨fun h1 => by omega, fun _ => z_ofInv hv hL hi (by omega) ⟨gvp (by omega) (by omega) (by decide), ?_⟩⟩
    rw [gi_c (a := (j : Int)) (by omega) (by omega), gtn, hR.2.2.2.2 j (by omega), hR.1.2.1]
    refine z_red (by omega) (by omega) (by omega) (by omega) ?_
    show gG _ _ _ _ _ _ _ _ _ _ _ _
    rw [gi_mul, gi_add, gi_add]
    exact z_add_i hv hR hL hi h d (j + 1) (by omega)
theorem Rst.fl {I' : gI} (h : Rst f I J n) (hF : ∀ a b c d, a ≠ 29 → I' a b c d = I a b c d) : Rst f I' J n := h.to (fun a d h1 h2 => hF a n 0 d (by omega)) (fun _ _ _ => rfl)
theorem z_add_l1 (hv : Vf f) (hR : Rst f I J n) (hL : Lrd f I)
    (h : ∀ I', (∀ a b c d, a ≠ 29 → I' a b c d = I a b c d) → Fre f I' ((f 0).toNat) → gG E 37 88 [(0, .inr (28, 0, 0)), (1, .inr (6, n, 0)), (2, .inl (.int (gi ((f 0).toNat : Nat)))), (3, .inl (.int (gi 0)))] [] I' J B c w Q X) :
    ∀ (d i : Nat) (I' : gI), i + d = (f 0).toNat → (∀ a b c d, a ≠ 29 → I' a b c d = I a b c d) → Fre f I' i → gG E 37 15 [(0, .inr (28, 0, 0)), (1, .inr (6, n, 0)), (2, .inl (.int (gi ((f 0).toNat : Nat)))), (3, .inl (.int (gi i)))] [] I' J B c w Q X
  | 0, i, I', hi, hF, hf => by
    have h0 := hv.1
    obtain rfl : i = (f 0).toNat := hi
    refine s_X4_addDigit_15 ?_
    rw [gi_le (by omega) (by omega) (by omega) (by omega)]
    exact ⟨fun _ => h I' hF hf, fun h1 => by omega⟩
  | d + 1, i, I', hi, hF, hf => by
    have h0 := hv.1
    refine s_X4_addDigit_15 ?_
    rw [gi_le (by omega) (by omega) (by omega) (by omega)]
    refine ⟨fun h1 => by omega, fun _ => ?_⟩
    have hL2 : Lrd f I' := hL.fr (fun c d => hF 17 1 c d (by decide)) (fun c d => hF 19 1 c d (by decide))
    refine z_add_i hv (hR.fl hF) hL2 (i := i) (by omega) ?_ ((f 0).toNat) 0 (by omega)
    refine z_add_l1 hv hR hL h d (i + 1) _ (by omega) (fun a b c d h1 => ?_) (fun j hj => ?_)
    · rw [gUI_at, if_neg (fun h => h1 h.1)]
      exact hF a b c d h1
    · rw [gUI_at]
      by_cases hji : j = i
      · rw [if_pos ⟨rfl, rfl, rfl, hji⟩, hji]
      · rw [if_neg (fun h => hji h.2.2.2)]
        exact hf j (by omega)
theorem z_next_l {i : Nat} {f0 : Nat → Int} (hv : Vf f) (h0 : I 6 n 0 0 = gi (f 0)) (h1 : I 6 n 0 1 = gi (f 1)) (hd : Dia f I n) (hf : Fre f I ((f 0).toNat)) (hi : i < (f 0).toNat) (h : Q (.inl (.int (gi ((rsS f i ((f 0).toNat)).tdiv (f 1))))) I J B) :
    ∀ d j : Nat, j + d = (f 0).toNat → gG E 38 10 [(0, .inr (28, 0, 0)), (1, .inr (6, n, 0)), (2, .inl (.int (gi i))), (3, .inl (.int (gi (rsS f i j)))), (4, .inl (.int (gi j)))] [] I J B c w Q X
  | 0, j, hj => by
    have h7 := hv.1
    have hp := hv.p
    obtain rfl : j = (f 0).toNat := hj
    have hb := rsS_b2 hv (i := i) (j := (f 0).toNat) (by omega) (by omega)
    refine s_X4_nextRest_10 ?_
    rw [h0, h1, gi_le (by omega) (by omega) (by omega) (by omega), gi_le (by decide) (by decide) (by omega) (by omega), gi_eq (by omega) (by omega) (by decide) (by decide), gi_div (by omega) (by omega) (by omega) (by omega)]
    exact ⟨fun _ => ⟨fun _ => ⟨by omega, h⟩, fun h2 => by omega⟩, fun h2 => by omega⟩
  | d + 1, j, hj => by
    have h7 := hv.1
    have hp := hv.p
    refine s_X4_nextRest_10 ?_
    rw [h0, gi_le (by omega) (by omega) (by omega) (by omega), gi_le (by decide) (by decide) (by omega) (by omega), gi_sub]
    refine ⟨fun h2 => by omega, fun _ => ⟨fun h2 => by omega, fun _ => z_along hd (by omega) (by omega) ⟨gvp (by omega) (by omega) (by decide), ?_⟩⟩⟩
    rw [gi_c (by omega) (by omega), gtn, hf j (by omega), gi_mul, gi_sub, gi_add]
    exact z_next_l (f0 := f0) hv h0 h1 hd hf hi h d (j + 1) (by omega)
theorem z_next {i : Nat} (hv : Vf f) (h0 : I 6 n 0 0 = gi (f 0)) (h1 : I 6 n 0 1 = gi (f 1)) (hd : Dia f I n) (hf : Fre f I ((f 0).toNat)) (hi : i < (f 0).toNat) (hr : I 11 n 0 i = gi (f (29 + i))) (h : Q (.inl (.int (gi ((rsS f i ((f 0).toNat)).tdiv (f 1))))) I J B) :
    gC E 38 [.inr (28, 0, 0), .inr (6, n, 0), .inl (.int (gi i))] I J B Q X := by
  have h7 := hv.1
  refine e_X4_nextRest ?_
  rw [gi_c (by omega) (by omega), gtn, hr]
  exact ⟨gvp (by omega) (by omega) (by decide), z_next_l (f0 := f) hv h0 h1 hd hf hi h ((f 0).toNat) 0 (by omega)⟩
theorem z_add_l2 (hv : Vf f) (k : ∀ I' J', FL n I I' → FJ n J J' → Rst (lfF f) I' J' n → Q (.inl .null) I' J' B) :
    ∀ (d i : Nat) (I' : gI) (J' : gJ), i + d = (f 0).toNat → FL n I I' → FJ n J J' → Rs0 f I' n → I' 6 n 0 5 = gi (f 36) → J' 6 n 6 = gj ((f 1) ^ (f 36).toNat) → Fre f I' ((f 0).toNat) →
      (∀ j, j < (f 0).toNat → J' 10 n j = gj (if j < i then vX f j + frF f j * (f 1) ^ (f 36).toNat else vX f j)) → (∀ j, j < (f 0).toNat → I' 11 n 0 j = gi (if j < i then (rsS f j ((f 0).toNat)).tdiv (f 1) else f (29 + j))) →
      gG E 37 88 [(0, .inr (28, 0, 0)), (1, .inr (6, n, 0)), (2, .inl (.int (gi ((f 0).toNat : Nat)))), (3, .inl (.int (gi i)))] [] I' J' B c w Q X
  | 0, i, I', J', hi, hF, hJ, h0, h5, h6, hf, hs, hr => by
    have h7 := hv.1
    have hp := hv.p
    have hw := hv.pw
    obtain rfl : i = (f 0).toNat := hi
    refine s_X4_addDigit_88 ?_
    rw [gi_le (by omega) (by omega) (by omega) (by omega), h5, h6, h0.2.1, gij (by omega) (by omega), gj_mul, gi_add]
    refine ⟨fun _ => k _ _ ?_ ?_ ?_, fun h1 => by omega⟩
    · intro a b c d h1 h2
      rw [gUI_at, if_neg (fun h => h1 ⟨by omega, by omega, h.2.1⟩)]
      exact hF a b c d h1 h2
    · exact hJ.up (Or.inl rfl)
    · have h39 := pow_lim hp.1 hw.2
      obtain ⟨a1, a2, a3, a4, a5, a6, a7⟩ := h0
      refine ⟨⟨?_, ?_, fun i hi => ?_, fun i hi => ?_, fun i hi => ?_, ?_, fun i hi => ?_⟩, ?_, ?_, fun i hi => ?_, fun i hi => ?_⟩
      · rw [lf_lo (by decide)]
        simp only [gUI_at]
        simpa using a1
      · rw [lf_lo (by decide)]
        simp only [gUI_at]
        simpa using a2
      · rw [lf_lo (by omega)]
        simp only [gUI_at]
        simpa using a3 i hi
      · rw [lf_lo (by omega)]
        simp only [gUI_at]
        simpa using a4 i hi
      · rw [lf_lo (by omega)]
        simp only [gUI_at]
        simpa using a5 i hi
      · rw [lf_hi h39 h7.2 (by decide)]
        simp only [gUI_at]
        simpa using a6
      · rw [lf_hi h39 h7.2 (by decide)] at hi
        rw [lf_hi h39 h7.2 (by omega)]
        simp only [gUI_at]
        simpa using a7 i hi
      · rw [lf_36]
        exact if_pos ⟨rfl, rfl, rfl, rfl⟩
      · rw [lf_36, lf_lo (by decide), show (f 36 + 1).toNat = (f 36).toNat + 1 by omega, Int.pow_succ]
        exact if_pos ⟨rfl, rfl, rfl⟩
      · rw [lf_lo (by decide)] at hi
        rw [gUJ_at, if_neg (fun h => absurd h.1 (by decide)), hs i hi, if_pos hi, lf_vX hw.1 h7.2 hi]
      · rw [lf_lo (by decide)] at hi
        rw [gUI_at, if_neg (fun h => absurd h.1 (by decide)), hr i hi, if_pos hi, lf_res hi h7.2]
  | d + 1, i, I', J', hi, hF, hJ, h0, h5, h6, hf, hs, hr => by
    have h7 := hv.1
    have hp := hv.p
    have hb := frF_b (f := f) (i := i) (by omega)
    have p1 : vp_in (gi (i : Int)) 7 := gvp (by omega) (by omega) (by decide)
    refine s_X4_addDigit_88 ?_
    rw [gi_le (by omega) (by omega) (by omega) (by omega), gi_c (by omega) (by omega), gtn, hs i (by omega), if_neg (by omega), hf i (by omega), gij (by omega) (by omega), h6, gj_mul, gj_add, gi_add]
    have hd : Dia f I' n := fun k hk => ⟨h0.2.2.1 k hk, hv.2.2.1 k hk⟩
    refine ⟨fun h1 => by omega, fun _ => ⟨p1, p1, p1, z_next hv h0.1 h0.2.1 hd hf (by omega) ((hr i (by omega)).trans (by rw [if_neg (by omega)])) ⟨p1, ?_⟩⟩⟩
    refine z_add_l2 hv k d (i + 1) _ _ (by omega) ?_ (hJ.up (Or.inr rfl)) ?_ ?_ ?_ ?_ ?_ ?_
    · intro a b c d h1 h2
      rw [gUI_at, if_neg (fun h => h1 ⟨by omega, by omega, h.2.1⟩)]
      exact hF a b c d h1 h2
    · obtain ⟨a1, a2, a3, a4, a5, a6, a7⟩ := h0
      refine ⟨?_, ?_, fun i hi => ?_, fun i hi => ?_, fun i hi => ?_, ?_, fun i hi => ?_⟩
      · rw [gUI_at, if_neg (fun h => absurd h.1 (by decide))]
        exact a1
      · rw [gUI_at, if_neg (fun h => absurd h.1 (by decide))]
        exact a2
      · rw [gUI_at, if_neg (fun h => absurd h.1 (by decide))]
        exact a3 i hi
      · rw [gUI_at, if_neg (fun h => absurd h.1 (by decide))]
        exact a4 i hi
      · rw [gUI_at, if_neg (fun h => absurd h.1 (by decide))]
        exact a5 i hi
      · rw [gUI_at, if_neg (fun h => absurd h.1 (by decide))]
        exact a6
      · rw [gUI_at, if_neg (fun h => absurd h.1 (by decide))]
        exact a7 i hi
    · rw [gUI_at, if_neg (fun h => absurd h.1 (by decide))]
      exact h5
    · rw [gUJ_at, if_neg (fun h => absurd h.1 (by decide))]
      exact h6
    · intro j hj
      rw [gUI_at, if_neg (fun h => absurd h.1 (by decide))]
      exact hf j hj
    · intro j hj
      rw [gUJ_at]
      by_cases hji : j = i
      · rw [if_pos ⟨rfl, rfl, hji⟩, hji, if_pos (by omega)]
      · rw [if_neg (fun h => hji h.2.2), hs j hj]
        congr 1
        by_cases h9 : j < i
        · rw [if_pos h9, if_pos (by omega)]
        · rw [if_neg h9, if_neg (by omega)]
    · intro j hj
      rw [gUI_at]
      by_cases hji : j = i
      · rw [if_pos ⟨rfl, rfl, rfl, hji⟩, hji, if_pos (by omega)]
      · rw [if_neg (fun h => hji h.2.2.2), hr j hj]
        congr 1
        by_cases h9 : j < i
        · rw [if_pos h9, if_pos (by omega)]
        · rw [if_neg h9, if_neg (by omega)]
theorem z_add (hv : Vf f) (hR : Rst f I J n) (hL : Lrd f I) (k : ∀ I' J', FL n I I' → FJ n J J' → Rst (lfF f) I' J' n → Q (.inl .null) I' J' B) : gC E 37 [.inr (28, 0, 0), .inr (6, n, 0)] I J B Q X := by
  have h7 := hv.1
  refine e_X4_addDigit ?_
  rw [hR.1.1]
  refine z_min (by omega) (by omega) (by decide) (by decide) ?_
  show gG _ _ _ _ _ _ _ _ _ _ _ _
  rw [show min (f 0) 7 = (((f 0).toNat : Nat) : Int) by omega]
  refine z_add_l1 hv hR hL (fun I' hF hf => ?_) ((f 0).toNat) 0 I (by omega) (fun _ _ _ _ _ => rfl) (fun j hj => absurd hj (Nat.not_lt_zero j))
  have hR2 := hR.fl hF
  refine z_add_l2 (I := I) (J := J) hv k ((f 0).toNat) 0 I' J (by omega) (fun a b c d _ h => hF a b c d h) FJ.rf hR2.1 hR2.2.1 hR2.2.2.1 hf (fun j hj => ?_) (fun j hj => ?_)
  · rw [if_neg (Nat.not_lt_zero j)]
    exact hR2.2.2.2.1 j hj
  · rw [if_neg (Nat.not_lt_zero j)]
    exact hR2.2.2.2.2 j hj
/-- a lift with its entry -/
def lbF (f : Nat → Int) : Nat → Int := bkF (lfF f) (bI (exB (lfF f)))
theorem z_lift (hv : Vf f) (hm : (f 36).toNat < md (f 1)) (hR : Rst f I J n) (hL : Lrd f I) (hn : n < 26) (k : ∀ I' J', FL n I I' → (∀ a b d, ¬ ((a = 6 ∨ a = 10) ∧ b = n) → a ≠ 26 → a ≠ 27 → J' a b d = J a b d) → Rst (lbF f) I' J' n → Q (.inl (.int (gi (bI (exB (lfF f)))))) I' J' B) : gC E 39 [.inr (28, 0, 0), .inr (6, n, 0), .inr (25, 0, 0)] I J B Q X := by
  have hv2 := hv.lf hm
  refine e_X4_liftAndEnter (z_add hv hR hL fun I2 J2 h1 h2 h3 => z_solve hv2 h3 fun J3 h4 => ?_)
  have hb : bI (exB (lfF f)) = 0 ∨ bI (exB (lfF f)) = 1 := by
    unfold bI
    split
    · exact Or.inr rfl
    · exact Or.inl rfl
  show gC _ _ _ _ _ _ _ _
  have h5 : Rst (lfF f) I2 J3 n := h3.to (fun _ _ _ _ => rfl) (fun a d ha => h4 a n d (by omega) (by omega))
  refine z_enter hv2 h5 hb fun I3 h6 h7 => ⟨?_, k I3 J3 ?_ ?_ h7⟩
  · rcases hb with h | h
    · exact Or.inl (congrArg gi h)
    · exact Or.inr (congrArg gi h)
  · intro a b c d g1 g2
    rw [h6 a b c d g1]
    exact h1 a b c d g1 g2
  · intro a b d g1 g2 g3
    rw [h4 a b d g2 g3]
    exact h2 a b d g1
end ZN
