/-! ===== the circulant and its products: the law's 'products' ===== -/
section PO
variable {E : gEn} {Q : gQt} {X : gXt} {I : gI} {J : gJ} {B : gB} {c w : Nat} {f : Nat → Int} {I0 : gI} {J0 : gJ}
theorem em_neg {k m : Int} (h1 : -m ≤ k) (h2 : k < 0) : k % m = k + m := by
  have h3 : (k + m) % m = k % m := Int.add_emod_right k m
  rw [← h3, Int.emod_eq_of_lt (by omega) (by omega)]
/-- the way round -/
def wayF (n off : Int) : Int := if n < off then off - 2 * n else if off < -n then off + 2 * n else off
theorem ar_way {off : Int} (h0 : 1 ≤ f 0) (h1 : -(2 * f 0) < off) (h2 : off < 2 * f 0) : arF f off = if ((wayF (f 0) off).natAbs : Int) = f 0 then 0 else dg f (wayF (f 0) off) := by
  unfold arF wayF
  by_cases hn : 0 ≤ off
  · rw [Int.emod_eq_of_lt hn (by omega)]
    by_cases a : f 0 < off
    · rw [if_pos a, if_neg (by omega), if_neg (by omega), if_neg (by omega)]
    · rw [if_neg a, if_neg (show ¬ off < -f 0 by omega)]
      by_cases b : off = f 0
      · rw [if_pos b, if_pos (by omega)]
      · rw [if_neg b, if_pos (by omega), if_neg (by omega)]
  · rw [em_neg (by omega) (by omega), if_neg (show ¬ f 0 < off by omega)]
    by_cases a : off < -f 0
    · rw [if_pos a, if_neg (by omega), if_pos (by omega), if_neg (by omega)]
    · rw [if_neg a]
      by_cases b : off = -f 0
      · rw [if_pos (by omega), if_pos (by omega)]
      · rw [if_neg (by omega), if_neg (by omega), if_neg (by omega)]
        congr 1
        omega
theorem wr_pd {i : Nat} (h0 : 1 ≤ f 0) (hi : i < (f 0).toNat) : ∀ k, k ≤ (f 0).toNat → wrF f i k = pdF f i k
  | 0, _ => rfl
  | k + 1, hk => by
    show wrF f i k + arF f ((i : Int) - (k : Int)) * f (22 + k) = pdF f i k + dg f ((i : Int) - (k : Int)) * f (22 + k)
    rw [wr_pd h0 hi k (by omega), ar_way h0 (by omega) (by omega)]
    unfold wayF
    rw [if_neg (show ¬ f 0 < (i : Int) - (k : Int) by omega), if_neg (show ¬ (i : Int) - (k : Int) < -f 0 by omega), if_neg (by omega)]
theorem z_prod_139 {i j : Nat} {s : Int} (k : gG E 158 20 [(0, .inr (3, 0, 0)), (1, .inr (49, 0, 0)), (2, .inl (.int (gi (2 * f 0)))), (3, .inl (.int (gi (i : Int)))), (4, .inl (.int (gi s))), (5, .inl (.int (gi ((j + 1 : Nat) : Int))))] [] I J B c w Q X) : gG E 158 139 [(0, .inr (3, 0, 0)), (1, .inr (49, 0, 0)), (2, .inl (.int (gi (2 * f 0)))), (3, .inl (.int (gi (i : Int)))), (4, .inl (.int (gi s))), (5, .inl (.int (gi (j : Int))))] [] I J B c w Q X := by
  refine s_L_products_139 ?_
  rw [gi_add]
  exact k
theorem z_prod_20 {i : Nat} (hi : (i : Int) < 2 * f 0) (k : ∀ I J c w, Ru f I J B → QF I0 I → JQ J0 J → c ≤ 34 * i + 34 → w ≤ 204 * i + 204 → gG E 158 9 [(0, .inr (3, 0, 0)), (1, .inr (49, 0, 0)), (2, .inl (.int (gi (2 * f 0)))), (3, .inl (.int (gi ((i + 1 : Nat) : Int))))] [] I J B c w Q X) :
    ∀ (d j : Nat) (I : gI) (J : gJ) (c w : Nat), ((j + d : Nat) : Int) = 2 * f 0 → Ru f I J B → QF I0 I → JQ J0 J → c + 3 * d ≤ 34 * i + 30 → w + 18 * d ≤ 204 * i + 180 → gG E 158 20 [(0, .inr (3, 0, 0)), (1, .inr (49, 0, 0)), (2, .inl (.int (gi (2 * f 0)))), (3, .inl (.int (gi (i : Int)))), (4, .inl (.int (gi (wrF f i (min j (f 0).toNat))))), (5, .inl (.int (gi (j : Int))))] [] I J B c w Q X
  | 0, j, I, J, c, w, hj, hR, hq, hjq, hc, hw => by
    have h0 := hR.1.1.1
    have h5 := hR.1.2
    refine s_L_products_20 ?_
    rw [gi_le (by omega) (by omega) (by omega) (by omega)]
    refine ⟨fun _ => ⟨⟨by omega, by omega⟩, ?_⟩, fun z => by omega⟩
    refine qok (c_wrapped (by omega) (by omega) hR.s) (if_pos (by omega)) fun I1 J1 q1 j1 => ?_
    have hR1 := hR.q q1 j1
    have e1 : gi (rM (some f) fun f => wrF f i ((f 0).toNat)) = gi (wrF f i (min j (f 0).toNat)) := by
      rw [show min j (f 0).toNat = (f 0).toNat by omega]
      rfl
    rw [e1, hR1.2.2.2.2.1, gi_le (by omega) (by omega) (by omega) (by omega), gi_add]
    refine ⟨fun z => absurd rfl z, fun _ => ⟨fun z => ?_, fun z => ⟨⟨by omega, by omega⟩, ?_⟩⟩⟩
    · exact k I1 J1 _ _ hR1 (hq.tr q1) (hjq.tr j1) (by omega) (by omega)
    · refine qok (c_product (by omega) (by omega) hR1.s) (if_pos (by omega)) fun I2 J2 q2 j2 => ?_
      have hR2 := hR1.q q2 j2
      have e2 : gi (rM (some f) fun f => pdF f i ((f 0).toNat)) = gi (wrF f i (min j (f 0).toNat)) := by
        rw [show min j (f 0).toNat = (f 0).toNat by omega, wr_pd (by omega) (by omega) _ (Nat.le_refl _)]
        rfl
      rw [e2]
      refine ⟨fun _ => ?_, fun z => absurd rfl z⟩
      exact k I2 J2 _ _ hR2 (hq.tr (q1.tr q2)) (hjq.tr (j1.tr j2)) (by omega) (by omega)
  | d + 1, j, I, J, c, w, hj, hR, hq, hjq, hc, hw => by
    have h0 := hR.1.1.1
    have h5 := hR.1.2
    have hL := hR.2.2.2.2
    -- behind the way
    have hway := ar_way (f := f) (off := (i : Int) - (j : Int)) (by omega) (by omega) (by omega)
    have body : gG E 158 69 [(0, .inr (3, 0, 0)), (1, .inr (49, 0, 0)), (2, .inl (.int (gi (2 * f 0)))), (3, .inl (.int (gi (i : Int)))), (4, .inl (.int (gi (wrF f i (min j (f 0).toNat))))), (5, .inl (.int (gi (j : Int)))), (7, .inl (.int (gi (wayF (f 0) ((i : Int) - (j : Int))))))] [] I J B c w Q X := by
      have hwb : -f 0 ≤ wayF (f 0) ((i : Int) - (j : Int)) ∧ wayF (f 0) ((i : Int) - (j : Int)) ≤ f 0 := by
        unfold wayF
        split
        · omega
        · split <;> omega
      have tail : gG E 158 97 [(0, .inr (3, 0, 0)), (1, .inr (49, 0, 0)), (2, .inl (.int (gi (2 * f 0)))), (3, .inl (.int (gi (i : Int)))), (4, .inl (.int (gi (wrF f i (min j (f 0).toNat))))), (5, .inl (.int (gi (j : Int)))), (8, .inl (.int (gi (arF f ((i : Int) - (j : Int))))))] [] I J B c w Q X := by
        refine s_L_products_97 ⟨⟨by omega, by omega⟩, ?_⟩
        refine qok (c_circulant (by omega) (by omega) (by omega) (by omega) hR.s) (if_pos ⟨by omega, by omega⟩) fun I1 J1 q1 j1 => ?_
        have hR1 := hR.q q1 j1
        rw [hR1.2.2.2.2.1, gi_le (by omega) (by omega) (by omega) (by omega)]
        refine ⟨fun _ => ⟨fun z => ?_, fun z => ⟨gvp (by omega) (by omega) (by decide), ?_⟩⟩, fun z => absurd rfl z⟩
        · rw [gi_add, Int.add_zero]
          refine z_prod_139 ?_
          have g := z_prod_20 hi k d (j + 1) I1 J1 (c + 3) (w + 18) (by omega) hR1 (hq.tr q1) (hjq.tr j1) (by omega) (by omega)
          rw [show min (j + 1) (f 0).toNat = min j (f 0).toNat by omega] at g
          exact g
        · rw [gi_c (by omega) (by omega), gtn, hR1.2.2.2.2.2.2.2.2 j (by omega), gi_mul, gi_add]
          refine z_prod_139 ?_
          have g := z_prod_20 hi k d (j + 1) I1 J1 (c + 3) (w + 18) (by omega) hR1 (hq.tr q1) (hjq.tr j1) (by omega) (by omega)
          rw [show min (j + 1) (f 0).toNat = j + 1 by omega] at g
          rw [show min j (f 0).toNat = j by omega]
          exact g
      refine s_L_products_69 ?_
      refine z_abs (by omega) (by omega) ?_
      rw [hL.1, gi_add]
      show (¬ gi _ = gi _ → _) ∧ (gi _ = gi _ → _)
      rw [gi_eq (by omega) (by omega) (by omega) (by omega)]
      refine ⟨fun z => ⟨gvp (by omega) (by omega) (by decide), ?_⟩, fun z => ?_⟩
      · rw [if_neg z] at hway
        rw [gi_c (by omega) (by omega), hL.2.2.1 _ (by omega) (by omega), ← hway]
        exact tail
      · rw [if_pos z] at hway
        rw [hway] at tail
        exact tail
    refine s_L_products_20 ?_
    rw [hL.1, gi_sub, gi_sub, gi_add, gi_neg, gi_le (by omega) (by omega) (by omega) (by omega), gi_le (by omega) (by omega) (by omega) (by omega), gi_le (by omega) (by omega) (by omega) (by omega)]
    refine ⟨fun z => by omega, fun _ => ⟨fun z => ⟨fun y => ?_, fun y => ?_⟩, fun z => ?_⟩⟩
    · have e : wayF (f 0) ((i : Int) - (j : Int)) = (i : Int) - (j : Int) := by
        unfold wayF
        rw [if_neg (by omega), if_neg (by omega)]
      rw [e] at body
      exact body
    · have e : wayF (f 0) ((i : Int) - (j : Int)) = (i : Int) - (j : Int) + 2 * f 0 := by
        unfold wayF
        rw [if_neg (by omega), if_pos (by omega)]
      rw [e] at body
      rw [gi_add]
      exact body
    · have e : wayF (f 0) ((i : Int) - (j : Int)) = (i : Int) - (j : Int) - 2 * f 0 := by
        unfold wayF
        rw [if_pos (by omega)]
      rw [e] at body
      exact body
theorem z_prod_9 (k : ∀ I' J', QF I0 I' → JQ J0 J' → Q (.inl (.int (gi 1))) I' J' B) :
    ∀ (d i : Nat) (I : gI) (J : gJ) (c w : Nat), ((i + d : Nat) : Int) = 2 * f 0 → Ru f I J B → QF I0 I → JQ J0 J → c ≤ 34 * i → w ≤ 204 * i → gG E 158 9 [(0, .inr (3, 0, 0)), (1, .inr (49, 0, 0)), (2, .inl (.int (gi (2 * f 0)))), (3, .inl (.int (gi (i : Int))))] [] I J B c w Q X
  | 0, i, I, J, c, w, hi, hR, hq, hjq, hc, hw => by
    have h0 := hR.1.1.1
    have h5 := hR.1.2
    refine s_L_products_9 ?_
    rw [gi_le (by omega) (by omega) (by omega) (by omega)]
    refine ⟨fun _ => ⟨⟨by omega, by omega⟩, ?_⟩, fun z => by omega⟩
    refine z_thr (j := 1) (by decide) (fun Q X k2 => e_L_calls_19 ⟨⟨by decide, by decide⟩, qno (c_circulant (by omega) (by omega) (by decide) (by decide) hR.s) (if_neg (by omega)) k2⟩) fun I1 J1 q1 j1 => ?_
    have hR1 := hR.q q1 j1
    refine ⟨fun z => absurd rfl z, fun _ => ⟨⟨by omega, by omega⟩, ?_⟩⟩
    refine z_thr (j := 1) (by decide) (fun Q X k2 => e_L_calls_20 ⟨⟨by decide, by decide⟩, qno (c_wrapped (by decide) (by decide) hR1.s) (show (if (0 : Int) ≤ -1 ∧ (-1 : Int) < 2 * f 0 then 0 else 2) = 1 + 1 from if_neg (by omega)) k2⟩) fun I2 J2 q2 j2 => ?_
    exact ⟨fun z => absurd rfl z, fun _ => ⟨Or.inr rfl, k I2 J2 (hq.tr (q1.tr q2)) (hjq.tr (j1.tr j2))⟩⟩
  | d + 1, i, I, J, c, w, hi, hR, hq, hjq, hc, hw => by
    have h0 := hR.1.1.1
    have h5 := hR.1.2
    refine s_L_products_9 ?_
    rw [gi_le (by omega) (by omega) (by omega) (by omega)]
    refine ⟨fun z => by omega, fun _ => ?_⟩
    have e0 : gi (wrF f i (min 0 (f 0).toNat)) = gi 0 := by rw [show min 0 (f 0).toNat = 0 by omega]; rfl
    have g := z_prod_20 (I0 := I0) (J0 := J0) (i := i) (by omega) (fun I J c w a1 a2 a3 a4 a5 => z_prod_9 k d (i + 1) I J c w (by omega) a1 a2 a3 (by omega) (by omega)) (2 * (f 0).toNat) 0 I J c w (by omega) hR hq hjq (by omega) (by omega)
    rw [e0] at g
    exact g
theorem z_products (hR : Ru f I J B) (k : ∀ I' J', QF I I' → JQ J J' → Q (.inl (.int (gi 1))) I' J' B) : gC E 158 [.inr (3, 0, 0), .inr (49, 0, 0)] I J B Q X := by
  have h0 := hR.1.1.1
  have h5 := hR.1.2
  refine e_L_products ?_
  rw [hR.2.2.2.2.1, gi_mul]
  exact z_prod_9 (I0 := I) (J0 := J) k (2 * (f 0).toNat) 0 I J 0 0 (by omega) hR QF.rf JQ.rf (by omega) (by omega)
end PO
