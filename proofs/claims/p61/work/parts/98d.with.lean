/-! ===== a column in another's place: the law's 'with' ===== -/
def lB (f : Nat → Int) (x : Nat → Int) : gMx := fun a c => if c < (f 0).toNat then lA f a c else x a
/-- the value of 'with' -/
def wiV (f : Nat → Int) (i : Nat) (x : Nat → Int) : Int := sgn i * clA (fun u => u (f 0).toNat) (fun l => dtm l (rem (f 0).toNat i)) ((List.range (f 0).toNat).map (lB f x))
theorem ml_remr : ∀ n : Nat, n < 6 → ∀ i : Nat, i < n → ml n (mclr (2 ^ n - 1) i) = rem n i ∧ mclr (2 ^ n - 1) i < 2 ^ n := by decide +kernel
theorem sgn_even : ∀ k : Nat, sgn k = if k % 2 = 0 then 1 else -1
  | 0 => rfl
  | k + 1 => by
    show - sgn k = _
    rw [sgn_even k]
    by_cases h : k % 2 = 0
    · rw [if_pos h, if_neg (by omega)]
    · rw [if_neg h, if_pos (by omega)]
      rfl
theorem clA_bd {g : (Nat → Int) → Int} {b K : Nat} : ∀ {us : List (Nat → Int)} {G : List (Nat → Int) → Int}, (∀ u ∈ us, (g u).natAbs ≤ b) → (∀ l, (∀ u ∈ l, u ∈ us) → l.length < us.length → (G l).natAbs ≤ K) → (clA g G us).natAbs ≤ us.length * (b * K)
  | [], _, _, _ => by
    show (0 : Int).natAbs ≤ _
    exact Nat.zero_le _
  | u :: us, G, h, hG => by
    show (g u * G us - clA g (fun l => G (u :: l)) us).natAbs ≤ (us.length + 1) * (b * K)
    have h1 := clA_bd (g := g) (us := us) (G := fun l => G (u :: l)) (fun v hv => h v (List.mem_cons_of_mem _ hv)) (fun l hl hn => hG (u :: l) (fun v hv => by
      rcases List.mem_cons.mp hv with rfl | hv
      · exact List.mem_cons_self
      · exact List.mem_cons_of_mem _ (hl v hv)) (by simp only [List.length_cons]; omega))
    have h2 : (g u * G us).natAbs ≤ b * K := by
      rw [Int.natAbs_mul]
      exact Nat.mul_le_mul (h u List.mem_cons_self) (hG us (fun v hv => List.mem_cons_of_mem _ hv) (by simp only [List.length_cons]; omega))
    have h3 : (g u * G us - clA g (fun l => G (u :: l)) us).natAbs ≤ (g u * G us).natAbs + (clA g (fun l => G (u :: l)) us).natAbs := by omega
    rw [Nat.add_mul, Nat.one_mul]
    omega
theorem lB_bd {f x : Nat → Int} (hv : Vl f) (hx : ∀ a, a < (f 0).toNat → (x a).natAbs ≤ 999) {a : Nat} (ha : a < (f 0).toNat) (c : Nat) : (lB f x a c).natAbs ≤ 999 := by
  unfold lB
  split
  · have := hv.dgb ((a : Int) - (c : Int))
    show (dg f ((a : Int) - (c : Int))).natAbs ≤ 999
    omega
  · exact hx a ha
theorem wiV_bd {f x : Nat → Int} {i : Nat} (hv : Vl f) (hx : ∀ a, a < (f 0).toNat → (x a).natAbs ≤ 999) (hi : i < (f 0).toNat) : (wiV f i x).natAbs ≤ 3200000000000000000 := by
  have h0 := hv.1.1
  have h5 := hv.2
  have hus : ∀ u ∈ (List.range (f 0).toNat).map (lB f x), ∀ c, (u c).natAbs ≤ 999 := fun u hu c => by
    obtain ⟨a, ha, rfl⟩ := List.mem_map.mp hu
    exact lB_bd hv hx (List.mem_range.mp ha) c
  have h1 := clA_bd (g := fun u => u (f 0).toNat) (b := 999) (K := (5 * 999) ^ 4) (us := (List.range (f 0).toNat).map (lB f x)) (G := fun l => dtm l (rem (f 0).toNat i)) (fun u hu => hus u hu _) (fun l hl hn => by
    have h2 := dtm_bd (b := 999) (m := 5) (us := l) (cs := rem (f 0).toNat i) (fun u hu c => hus u (hl u hu) c) (by have := rem_len hi; omega)
    refine Nat.le_trans h2 (Nat.pow_le_pow_right (by decide) ?_)
    rw [List.length_map, List.length_range] at hn
    omega)
  rw [List.length_map, List.length_range] at h1
  unfold wiV
  rw [Int.natAbs_mul]
  have h3 : (sgn i).natAbs = 1 := by
    rw [sgn_even]
    split <;> rfl
  rw [h3, Nat.one_mul]
  refine Nat.le_trans h1 ?_
  have h4 : (f 0).toNat * (999 * (5 * 999) ^ 4) ≤ 5 * (999 * (5 * 999) ^ 4) := Nat.mul_le_mul_right _ (by omega)
  refine Nat.le_trans h4 ?_
  decide
section LW
variable {E : gEn} {Q : gQt} {X : gXt} {I : gI} {J : gJ} {B : gB} {c w : Nat} {f x : Nat → Int}
theorem z_with51_l {i : Nat} {T : Int} (hv : Vl f) (hL : Lb f I) (hi : i < (f 0).toNat) (hx : ∀ a, a < (f 0).toNat → I 51 0 0 a = gi (x a) ∧ (x a).natAbs ≤ 999) (k : Q (.inl (.long (gj T))) I J B) :
    ∀ (d a : Nat) (s : Int), a + d = (f 0).toNat → s + sgn (i + a) * clA (fun u => u (f 0).toNat) (fun l => dtm ((List.range a).map (lB f x) ++ l) (rem (f 0).toNat i)) ((List.range d).map (fun t => lB f x (a + t))) = T →
      gG E 155 5 [(0, .inr (49, 0, 0)), (1, .inl (.int (gi (i : Int)))), (2, .inr (51, 0, 0)), (3, .inl (.long (gj s))), (5, .inl (.int (gi (a : Int))))] [] I J B c w Q X
  | 0, a, s, ha, hT => by
    have h0 := hv.1.1
    have h5 := hv.2
    refine s_L_with_51_5 ?_
    rw [hL.1, gi_le (by omega) (by omega) (by omega) (by omega)]
    refine ⟨fun _ => ?_, fun z => by omega⟩
    have e : clA (fun u => u (f 0).toNat) (fun l => dtm ((List.range a).map (lB f x) ++ l) (rem (f 0).toNat i)) ((List.range 0).map (fun t => lB f x (a + t))) = 0 := rfl
    rw [e, Int.mul_zero, Int.add_zero] at hT
    rw [hT]
    exact k
  | d + 1, a, s, ha, hT => by
    have h0 := hv.1.1
    have h5 := hv.2
    have hp := pow32 (f 0).toNat (by omega)
    have hxa := hx a (by omega)
    obtain ⟨m1, m2⟩ := ml_remr (f 0).toNat (by omega) a (by omega)
    obtain ⟨m3, m4⟩ := ml_remr (f 0).toNat (by omega) i hi
    have hp1 : 0 < 2 ^ (f 0).toNat := Nat.two_pow_pos _
    -- the rows without this one
    have eD : dtm ((List.range a).map (lB f x) ++ (List.range d).map (fun t => lB f x (a + 1 + t))) (rem (f 0).toNat i) = dtm ((rem (f 0).toNat a).map (lA f)) (rem (f 0).toNat i) := by
      have e1 : (List.range a).map (lB f x) ++ (List.range d).map (fun t => lB f x (a + 1 + t)) = (rem (f 0).toNat a).map (lB f x) := by
        unfold rem
        rw [List.map_append, List.map_map, show (f 0).toNat - a - 1 = d by omega]
        rfl
      rw [e1]
      refine dtm_eqv fun r hr q hq => ?_
      have := rem_lt hi q hq
      unfold lB
      rw [if_pos this]
    have eC : (List.range (d + 1)).map (fun t => lB f x (a + t)) = lB f x a :: (List.range d).map (fun t => lB f x (a + 1 + t)) := by
      rw [List.range_succ_eq_map, List.map_cons, List.map_map]
      congr 1
      apply List.map_congr_left
      intro t _
      show lB f x (a + (t + 1)) = lB f x (a + 1 + t)
      congr 1
      omega
    have eN : lB f x a (f 0).toNat = x a := if_neg (Nat.lt_irrefl _)
    have eT : s + sgn (i + a) * (x a * dtm ((rem (f 0).toNat a).map (lA f)) (rem (f 0).toNat i)) + sgn (i + (a + 1)) * clA (fun u => u (f 0).toNat) (fun l => dtm ((List.range (a + 1)).map (lB f x) ++ l) (rem (f 0).toNat i)) ((List.range d).map (fun t => lB f x (a + 1 + t))) = T := by
      rw [← hT, eC]
      show _ = s + sgn (i + a) * (lB f x a (f 0).toNat * dtm ((List.range a).map (lB f x) ++ (List.range d).map (fun t => lB f x (a + 1 + t))) (rem (f 0).toNat i) - clA (fun u => u (f 0).toNat) (fun l => dtm ((List.range a).map (lB f x) ++ lB f x a :: l) (rem (f 0).toNat i)) ((List.range d).map (fun t => lB f x (a + 1 + t))))
      rw [eD, eN, show sgn (i + (a + 1)) = - sgn (i + a) from rfl, show (fun l => dtm ((List.range (a + 1)).map (lB f x) ++ l) (rem (f 0).toNat i)) = fun l => dtm ((List.range a).map (lB f x) ++ lB f x a :: l) (rem (f 0).toNat i) from funext fun l => by
        rw [List.range_succ, List.map_append, List.append_assoc]
        rfl]
      grind
    have go : ∀ g : Int, g = sgn (i + a) → ∀ {I' : gI} {J' : gJ} {B' : gB}, I = I' → J = J' → B = B' → gG E 155 5 [(0, .inr (49, 0, 0)), (1, .inl (.int (gi (i : Int)))), (2, .inr (51, 0, 0)), (3, .inl (.long (gj s + ((gj g * (Int32.toInt64 (I 51 0 0 (Int32.toNatClampNeg (gi (a : Int)))))) * gj (dtm ((rem (f 0).toNat a).map (lA f)) (rem (f 0).toNat i)))))), (5, .inl (.int (gi (a : Int) + gi 1)))] [] I' J' B' c w Q X := by
      intro g hg I' J' B' e1 e2 e3
      subst e1
      subst e2
      subst e3
      rw [gi_c (by omega) (by omega), gtn, hxa.1, gij (by omega) (by omega), gj_mul, gj_mul, gj_add, gi_add]
      refine z_with51_l hv hL hi hx k d (a + 1) _ (by omega) ?_
      rw [← eT, hg, Int.mul_assoc]
    have body : ∀ g : Int, g = sgn (i + a) → gC E 142 [.inr (49, 0, 0), .inl (.int (I 49 0 0 4))] I J B (fun v1 I2 J3 B4 => gvi v1 fun r5 => (gC E 142 [.inr (49, 0, 0), .inl (.int (I2 49 0 0 4))] I2 J3 B4 (fun v6 I7 J8 B9 => gvi v6 fun r10 => (gC E 141 [.inr (49, 0, 0), .inl (.int (r5 &&& (((gi 1) <<< ((gi (a : Int)) &&& 31)) ^^^ (gi (-1))))), .inl (.int (r10 &&& (((gi 1) <<< ((gi (i : Int)) &&& 31)) ^^^ (gi (-1)))))] I7 J8 B9 (fun v11 I12 J13 B14 => gvl v11 fun r15 => (gG E 155 5 [(0, .inr (49, 0, 0)), (1, .inl (.int (gi (i : Int)))), (2, .inr (51, 0, 0)), (3, .inl (.long (gj s + ((gj g * (Int32.toInt64 (I 51 0 0 (Int32.toNatClampNeg (gi (a : Int)))))) * r15)))), (5, .inl (.int (gi (a : Int) + gi 1)))] [] I12 J13 B14 c w Q X)) X)) X)) X := by
      intro g hg
      rw [hL.1, show gi (f 0) = gi (((f 0).toNat : Nat) : Int) by rw [show (((f 0).toNat : Nat) : Int) = f 0 by omega]]
      refine z_lfirst (by omega) ?_
      show gC _ _ _ _ _ _ _ _
      rw [hL.1, show gi (f 0) = gi (((f 0).toNat : Nat) : Int) by rw [show (((f 0).toNat : Nat) : Int) = f 0 by omega]]
      refine z_lfirst (by omega) ?_
      show gC _ _ _ _ _ _ _ _
      rw [(ml_cl (2 ^ (f 0).toNat - 1) (by omega) a (by omega)).1, (ml_cl (2 ^ (f 0).toNat - 1) (by omega) i (by omega)).1]
      refine z_ldet m2 m4 hv hL ?_
      rw [m1, m3]
      exact go g hg rfl rfl rfl
    refine s_L_with_51_5 ?_
    rw [hL.1, gi_le (by omega) (by omega) (by omega) (by omega), gi_add, gi_rem (by omega) (by omega) (by omega) (by omega), Int.tmod_eq_emod_of_nonneg (by omega), gi_eq (a := ((a : Int) + (i : Int)) % 2) (b := 0) (by omega) (by omega) (by decide) (by decide)]
    refine ⟨fun z => by omega, fun _ => ⟨by decide, fun z => ⟨gvp (by omega) (by omega) (by decide), ?_⟩, fun z => ⟨gvp (by omega) (by omega) (by decide), ?_⟩⟩⟩
    · have := body (-1) (by rw [sgn_even, if_neg (by omega)])
      rw [hL.1] at this
      exact this
    · have := body 1 (by rw [sgn_even, if_pos (by omega)])
      rw [hL.1] at this
      exact this
theorem z_with51 {i : Nat} (hv : Vl f) (hL : Lb f I) (hi : i < (f 0).toNat) (hx : ∀ a, a < (f 0).toNat → I 51 0 0 a = gi (x a) ∧ (x a).natAbs ≤ 999) (k : Q (.inl (.long (gj (wiV f i x)))) I J B) : gC E 155 [.inr (49, 0, 0), .inl (.int (gi (i : Int))), .inr (51, 0, 0)] I J B Q X := by
  refine e_L_with_51 (z_with51_l hv hL hi hx k (f 0).toNat 0 0 (by omega) ?_)
  rw [Int.zero_add]
  unfold wiV
  rw [Nat.add_zero, show (fun t => lB f x (0 + t)) = lB f x from funext fun t => by rw [Nat.zero_add]]
  rfl
theorem z_with53_l {m : Nat} {i : Nat} {T : Int} (hv : Vl f) (hL : Lb f I) (hi : i < (f 0).toNat) (hx : ∀ a, a < (f 0).toNat → I 53 m 0 a = gi (x a) ∧ (x a).natAbs ≤ 999) (k : Q (.inl (.long (gj T))) I J B) :
    ∀ (d a : Nat) (s : Int), a + d = (f 0).toNat → s + sgn (i + a) * clA (fun u => u (f 0).toNat) (fun l => dtm ((List.range a).map (lB f x) ++ l) (rem (f 0).toNat i)) ((List.range d).map (fun t => lB f x (a + t))) = T →
      gG E 155 5 [(0, .inr (49, 0, 0)), (1, .inl (.int (gi (i : Int)))), (2, .inr (53, m, 0)), (3, .inl (.long (gj s))), (5, .inl (.int (gi (a : Int))))] [] I J B c w Q X
  | 0, a, s, ha, hT => by
    have h0 := hv.1.1
    have h5 := hv.2
    refine s_L_with_53_5 ?_
    rw [hL.1, gi_le (by omega) (by omega) (by omega) (by omega)]
    refine ⟨fun _ => ?_, fun z => by omega⟩
    have e : clA (fun u => u (f 0).toNat) (fun l => dtm ((List.range a).map (lB f x) ++ l) (rem (f 0).toNat i)) ((List.range 0).map (fun t => lB f x (a + t))) = 0 := rfl
    rw [e, Int.mul_zero, Int.add_zero] at hT
    rw [hT]
    exact k
  | d + 1, a, s, ha, hT => by
    have h0 := hv.1.1
    have h5 := hv.2
    have hp := pow32 (f 0).toNat (by omega)
    have hxa := hx a (by omega)
    obtain ⟨m1, m2⟩ := ml_remr (f 0).toNat (by omega) a (by omega)
    obtain ⟨m3, m4⟩ := ml_remr (f 0).toNat (by omega) i hi
    have hp1 : 0 < 2 ^ (f 0).toNat := Nat.two_pow_pos _
    -- the rows without this one
    have eD : dtm ((List.range a).map (lB f x) ++ (List.range d).map (fun t => lB f x (a + 1 + t))) (rem (f 0).toNat i) = dtm ((rem (f 0).toNat a).map (lA f)) (rem (f 0).toNat i) := by
      have e1 : (List.range a).map (lB f x) ++ (List.range d).map (fun t => lB f x (a + 1 + t)) = (rem (f 0).toNat a).map (lB f x) := by
        unfold rem
        rw [List.map_append, List.map_map, show (f 0).toNat - a - 1 = d by omega]
        rfl
      rw [e1]
      refine dtm_eqv fun r hr q hq => ?_
      have := rem_lt hi q hq
      unfold lB
      rw [if_pos this]
    have eC : (List.range (d + 1)).map (fun t => lB f x (a + t)) = lB f x a :: (List.range d).map (fun t => lB f x (a + 1 + t)) := by
      rw [List.range_succ_eq_map, List.map_cons, List.map_map]
      congr 1
      apply List.map_congr_left
      intro t _
      show lB f x (a + (t + 1)) = lB f x (a + 1 + t)
      congr 1
      omega
    have eN : lB f x a (f 0).toNat = x a := if_neg (Nat.lt_irrefl _)
    have eT : s + sgn (i + a) * (x a * dtm ((rem (f 0).toNat a).map (lA f)) (rem (f 0).toNat i)) + sgn (i + (a + 1)) * clA (fun u => u (f 0).toNat) (fun l => dtm ((List.range (a + 1)).map (lB f x) ++ l) (rem (f 0).toNat i)) ((List.range d).map (fun t => lB f x (a + 1 + t))) = T := by
      rw [← hT, eC]
      show _ = s + sgn (i + a) * (lB f x a (f 0).toNat * dtm ((List.range a).map (lB f x) ++ (List.range d).map (fun t => lB f x (a + 1 + t))) (rem (f 0).toNat i) - clA (fun u => u (f 0).toNat) (fun l => dtm ((List.range a).map (lB f x) ++ lB f x a :: l) (rem (f 0).toNat i)) ((List.range d).map (fun t => lB f x (a + 1 + t))))
      rw [eD, eN, show sgn (i + (a + 1)) = - sgn (i + a) from rfl, show (fun l => dtm ((List.range (a + 1)).map (lB f x) ++ l) (rem (f 0).toNat i)) = fun l => dtm ((List.range a).map (lB f x) ++ lB f x a :: l) (rem (f 0).toNat i) from funext fun l => by
        rw [List.range_succ, List.map_append, List.append_assoc]
        rfl]
      grind
    have go : ∀ g : Int, g = sgn (i + a) → ∀ {I' : gI} {J' : gJ} {B' : gB}, I = I' → J = J' → B = B' → gG E 155 5 [(0, .inr (49, 0, 0)), (1, .inl (.int (gi (i : Int)))), (2, .inr (53, m, 0)), (3, .inl (.long (gj s + ((gj g * (Int32.toInt64 (I 53 m 0 (Int32.toNatClampNeg (gi (a : Int)))))) * gj (dtm ((rem (f 0).toNat a).map (lA f)) (rem (f 0).toNat i)))))), (5, .inl (.int (gi (a : Int) + gi 1)))] [] I' J' B' c w Q X := by
      intro g hg I' J' B' e1 e2 e3
      subst e1
      subst e2
      subst e3
      rw [gi_c (by omega) (by omega), gtn, hxa.1, gij (by omega) (by omega), gj_mul, gj_mul, gj_add, gi_add]
      refine z_with53_l hv hL hi hx k d (a + 1) _ (by omega) ?_
      rw [← eT, hg, Int.mul_assoc]
    have body : ∀ g : Int, g = sgn (i + a) → gC E 142 [.inr (49, 0, 0), .inl (.int (I 49 0 0 4))] I J B (fun v1 I2 J3 B4 => gvi v1 fun r5 => (gC E 142 [.inr (49, 0, 0), .inl (.int (I2 49 0 0 4))] I2 J3 B4 (fun v6 I7 J8 B9 => gvi v6 fun r10 => (gC E 141 [.inr (49, 0, 0), .inl (.int (r5 &&& (((gi 1) <<< ((gi (a : Int)) &&& 31)) ^^^ (gi (-1))))), .inl (.int (r10 &&& (((gi 1) <<< ((gi (i : Int)) &&& 31)) ^^^ (gi (-1)))))] I7 J8 B9 (fun v11 I12 J13 B14 => gvl v11 fun r15 => (gG E 155 5 [(0, .inr (49, 0, 0)), (1, .inl (.int (gi (i : Int)))), (2, .inr (53, m, 0)), (3, .inl (.long (gj s + ((gj g * (Int32.toInt64 (I 53 m 0 (Int32.toNatClampNeg (gi (a : Int)))))) * r15)))), (5, .inl (.int (gi (a : Int) + gi 1)))] [] I12 J13 B14 c w Q X)) X)) X)) X := by
      intro g hg
      rw [hL.1, show gi (f 0) = gi (((f 0).toNat : Nat) : Int) by rw [show (((f 0).toNat : Nat) : Int) = f 0 by omega]]
      refine z_lfirst (by omega) ?_
      show gC _ _ _ _ _ _ _ _
      rw [hL.1, show gi (f 0) = gi (((f 0).toNat : Nat) : Int) by rw [show (((f 0).toNat : Nat) : Int) = f 0 by omega]]
      refine z_lfirst (by omega) ?_
      show gC _ _ _ _ _ _ _ _
      rw [(ml_cl (2 ^ (f 0).toNat - 1) (by omega) a (by omega)).1, (ml_cl (2 ^ (f 0).toNat - 1) (by omega) i (by omega)).1]
      refine z_ldet m2 m4 hv hL ?_
      rw [m1, m3]
      exact go g hg rfl rfl rfl
    refine s_L_with_53_5 ?_
    rw [hL.1, gi_le (by omega) (by omega) (by omega) (by omega), gi_add, gi_rem (by omega) (by omega) (by omega) (by omega), Int.tmod_eq_emod_of_nonneg (by omega), gi_eq (a := ((a : Int) + (i : Int)) % 2) (b := 0) (by omega) (by omega) (by decide) (by decide)]
    refine ⟨fun z => by omega, fun _ => ⟨by decide, fun z => ⟨gvp (by omega) (by omega) (by decide), ?_⟩, fun z => ⟨gvp (by omega) (by omega) (by decide), ?_⟩⟩⟩
    · have := body (-1) (by rw [sgn_even, if_neg (by omega)])
      rw [hL.1] at this
      exact this
    · have := body 1 (by rw [sgn_even, if_pos (by omega)])
      rw [hL.1] at this
      exact this
theorem z_with53 {m : Nat} {i : Nat} (hv : Vl f) (hL : Lb f I) (hi : i < (f 0).toNat) (hx : ∀ a, a < (f 0).toNat → I 53 m 0 a = gi (x a) ∧ (x a).natAbs ≤ 999) (k : Q (.inl (.long (gj (wiV f i x)))) I J B) : gC E 155 [.inr (49, 0, 0), .inl (.int (gi (i : Int))), .inr (53, m, 0)] I J B Q X := by
  refine e_L_with_53 (z_with53_l hv hL hi hx k (f 0).toNat 0 0 (by omega) ?_)
  rw [Int.zero_add]
  unfold wiV
  rw [Nat.add_zero, show (fun t => lB f x (0 + t)) = lB f x from funext fun t => by rw [Nat.zero_add]]
  rfl
end LW
