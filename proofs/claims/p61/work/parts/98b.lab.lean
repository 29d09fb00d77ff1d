/-! ===== the law's system: entries, determinants, numbers modulo the prime ===== -/
def lA (f : Nat → Int) : gMx := fun i j => dg f ((i : Int) - (j : Int))
/-- the law's system is the row f -/
def Lb (f : Nat → Int) (I : gI) : Prop := I 49 0 0 4 = gi (f 0) ∧ I 49 0 0 5 = gi (f 1) ∧ (∀ k : Int, -f 0 < k → k < f 0 → I 50 0 0 (k + 6).toNat = gi (dg f k)) ∧ (∀ i, i < (f 0).toNat → I 51 0 0 i = gi (f (15 + i))) ∧ (∀ i, i < (f 0).toNat → I 52 0 0 i = gi (f (22 + i)))
/-- what the law's system reaches -/
def Vl (f : Nat → Int) : Prop := Vf f ∧ f 0 ≤ 5
theorem exA_bd {u : Nat → Int} {b K : Nat} (hu : ∀ c, (u c).natAbs ≤ b) : ∀ {cs : List Nat} {F : List Nat → Int}, (∀ l, l.length ≤ cs.length → (F l).natAbs ≤ K) → (exA u F cs).natAbs ≤ cs.length * (b * K)
  | [], _, _ => by
    show (0 : Int).natAbs ≤ _
    exact Nat.zero_le _
  | c :: cs, F, h => by
    show (u c * F cs - exA u (fun l => F (c :: l)) cs).natAbs ≤ (cs.length + 1) * (b * K)
    have h1 := exA_bd hu (cs := cs) (F := fun l => F (c :: l)) (fun l hl => h (c :: l) (by simp only [List.length_cons]; omega))
    have h2 : (u c * F cs).natAbs ≤ b * K := by
      rw [Int.natAbs_mul]
      exact Nat.mul_le_mul (hu c) (h cs (by simp only [List.length_cons]; omega))
    have h3 : (u c * F cs - exA u (fun l => F (c :: l)) cs).natAbs ≤ (u c * F cs).natAbs + (exA u (fun l => F (c :: l)) cs).natAbs := by omega
    rw [Nat.add_mul, Nat.one_mul]
    omega
theorem dtm_bd {b m : Nat} : ∀ {us : List (Nat → Int)} {cs : List Nat}, (∀ u ∈ us, ∀ c, (u c).natAbs ≤ b) → cs.length ≤ m → (dtm us cs).natAbs ≤ (m * b) ^ us.length
  | [], _, _, _ => by
    show (1 : Int).natAbs ≤ _
    exact Nat.le_refl 1
  | u :: us, cs, h, hm => by
    have h1 := exA_bd (u := u) (b := b) (K := (m * b) ^ us.length) (h u List.mem_cons_self) (cs := cs) (F := dtm us) (fun l hl => dtm_bd (fun v hv => h v (List.mem_cons_of_mem _ hv)) (by omega))
    show (exA u (dtm us) cs).natAbs ≤ (m * b) ^ (us.length + 1)
    refine Nat.le_trans h1 ?_
    rw [Nat.pow_succ, ← Nat.mul_assoc, Nat.mul_comm ((m * b) ^ us.length)]
    exact Nat.mul_le_mul_right _ (Nat.mul_le_mul_right _ hm)
theorem Vl.dgb {f : Nat → Int} (h : Vl f) (k : Int) : (dg f k).natAbs ≤ 50 := by
  unfold dg
  split
  · rename_i hk
    have h1 := h.1.2.2.1 (k + 6).toNat (by omega)
    rw [show 2 + (k + 6).toNat = (k + 8).toNat by omega] at h1
    omega
  · exact Nat.zero_le _
theorem lA_bd {f : Nat → Int} (h : Vl f) {rs cs : List Nat} (hl : cs.length ≤ 5) (hr : rs.length ≤ 5) : (dtm (rs.map (lA f)) cs).natAbs ≤ 976562500000 := by
  have h1 := dtm_bd (b := 50) (m := 5) (us := rs.map (lA f)) (cs := cs) (fun u hu c => by
    obtain ⟨i, -, rfl⟩ := List.mem_map.mp hu
    exact h.dgb _) hl
  rw [List.length_map] at h1
  refine Nat.le_trans h1 ?_
  have h2 : (5 * 50) ^ rs.length ≤ (5 * 50) ^ 5 := Nat.pow_le_pow_right (by decide) hr
  exact h2
theorem ml_len {n m : Nat} : (ml n m).length ≤ n := by
  have := List.length_filter_le (fun j => m.testBit j) (List.range n)
  rw [List.length_range] at this
  exact this
section LB
variable {E : gEn} {Q : gQt} {X : gXt} {I : gI} {J : gJ} {B : gB} {c w : Nat} {f : Nat → Int}
theorem z_lat {i j : Nat} (hv : Vl f) (hL : Lb f I) (hi : i < (f 0).toNat) (hj : j < (f 0).toNat) (k : Q (.inl (.int (gi (lA f i j)))) I J B) : gC E 132 [.inr (49, 0, 0), .inl (.int (gi i)), .inl (.int (gi j))] I J B Q X := by
  have h0 := hv.1.1
  have h5 := hv.2
  refine e_X9_at ?_
  rw [gi_sub, gi_add, gi_c (by omega) (by omega), hL.2.2.1 ((i : Int) - (j : Int)) (by omega) (by omega)]
  exact ⟨gvp (by omega) (by omega) (by decide), k⟩
theorem z_det0 {n r q : Nat} (hn : n = (f 0).toNat) (hr : r < 2 ^ n) (hv : Vl f) (hl : (ml n r).length ≤ 0) (k : Q (.inl (.long (gj (dtm ((ml n r).map (lA f)) (ml n q))))) I J B) : gC E 136 [.inr (49, 0, 0), .inl (.int (gi (r : Int))), .inl (.int (gi (q : Int)))] I J B Q X := by
  have h0 := hv.1.1
  have h5 := hv.2
  have hr0 : r = 0 := by
    apply Classical.byContradiction
    intro z
    have h1 := (ml_head n (by omega) r hr (by omega)).1
    rw [h1] at hl
    simp at hl
  subst hr0
  rw [ml_zero n (by omega)] at k
  refine e_X9_det0 ⟨fun z => absurd rfl z, fun _ => k⟩
theorem z_det1_l {n r q i : Nat} {T : Int} (hn : n = (f 0).toNat) (hr : r < 2 ^ n) (hq : q < 2 ^ n) (hv : Vl f) (hL : Lb f I) (hi : i < n) (hl : (ml n (r &&& (r - 1))).length ≤ 0) (hr2 : (r &&& (r - 1)) < 2 ^ n) (k : Q (.inl (.long (gj T))) I J B) :
    ∀ (d j : Nat) (s g : Int), j + d = n → s + g * exA (lA f i) (fun l => dtm ((ml n (r &&& (r - 1))).map (lA f)) (mpre q j ++ l)) (mrest q j d) = T → gG E 137 20 [(0, .inr (49, 0, 0)), (1, .inl (.int (gi (r : Int)))), (2, .inl (.int (gi (q : Int)))), (3, .inl (.int (gi (i : Int)))), (4, .inl (.long (gj s))), (6, .inl (.long (gj g))), (8, .inl (.int (gi (j : Int))))] [] I J B c w Q X
  | 0, j, s, g, hj, hT => by
    have h0 := hv.1.1
    have h5 := hv.2
    refine s_X9_det1_20 ?_
    rw [hL.1, gi_le (by omega) (by omega) (by omega) (by omega)]
    refine ⟨fun _ => ?_, fun z => by omega⟩
    have e : exA (lA f i) (fun l => dtm ((ml n (r &&& (r - 1))).map (lA f)) (mpre q j ++ l)) (mrest q j 0) = 0 := rfl
    rw [e, Int.mul_zero, Int.add_zero] at hT
    rw [hT]
    exact k
  | d + 1, j, s, g, hj, hT => by
    have h0 := hv.1.1
    have h5 := hv.2
    have hp := pow32 n (by omega)
    refine s_X9_det1_20 ?_
    rw [hL.1, gi_le (by omega) (by omega) (by omega) (by omega), ml_bit q (by omega) j (by omega), (ml_low r (by omega)).1, (ml_cl q (by omega) j (by omega)).1, gi_add]
    refine ⟨fun z => by omega, fun _ => ⟨fun z => ?_, fun z => ?_⟩⟩
    · have hb : q.testBit j = true := by
        cases h : q.testBit j with
        | true => rfl
        | false => rw [h] at z; exact absurd rfl z
      refine z_lat hv hL (by omega) (by omega) ?_
      obtain ⟨c1, c2⟩ := ml_clr n (by omega) q hq j (by omega) hb
      show gC _ _ _ _ _ _ _ _
      refine z_det0 hn hr2 hv hl ?_
      have hA := hv.dgb ((i : Int) - (j : Int))
      show gG _ _ _ _ _ _ _ _ _ _ _ _
      rw [show Int32.toInt64 (gi (lA f i j)) = gj (lA f i j) from gij (by show -2147483648 ≤ dg f ((i : Int) - (j : Int)); omega) (by show dg f ((i : Int) - (j : Int)) < 2147483648; omega), gj_mul, gj_mul, gj_add, gj_neg]
      refine z_det1_l hn hr hq hv hL hi hl hr2 k d (j + 1) _ _ (by omega) ?_
      rw [← hT, mrest_t hb, c1, mpre_t hb]
      show _ = s + g * (lA f i j * dtm _ (mpre q j ++ mrest q (j + 1) d) - exA (lA f i) (fun l => dtm _ (mpre q j ++ j :: l)) (mrest q (j + 1) d))
      rw [show n - j - 1 = d by omega, show (fun l => dtm ((ml n (r &&& (r - 1))).map (lA f)) (mpre q j ++ [j] ++ l)) = fun l => dtm ((ml n (r &&& (r - 1))).map (lA f)) (mpre q j ++ j :: l) from funext fun l => by rw [List.append_assoc]; rfl]
      grind
    · have hb : q.testBit j = false := by
        cases h : q.testBit j with
        | false => rfl
        | true => rw [h] at z; exact absurd z (by decide)
      refine z_det1_l hn hr hq hv hL hi hl hr2 k d (j + 1) _ _ (by omega) ?_
      rw [← hT, mrest_f hb, mpre_f hb]
theorem z_det1 {n r q : Nat} (hn : n = (f 0).toNat) (hr : r < 2 ^ n) (hq : q < 2 ^ n) (hv : Vl f) (hL : Lb f I) (hl : (ml n r).length ≤ 1) (k : Q (.inl (.long (gj (dtm ((ml n r).map (lA f)) (ml n q))))) I J B) : gC E 137 [.inr (49, 0, 0), .inl (.int (gi (r : Int))), .inl (.int (gi (q : Int)))] I J B Q X := by
  have h0 := hv.1.1
  have h5 := hv.2
  have hp := pow32 n (by omega)
  refine e_X9_det1 ⟨fun z => ?_, fun z => ?_⟩
  · have hr0 : 0 < r := by
      rcases Nat.eq_zero_or_pos r with e | e
      · subst e
        exact absurd rfl z
      · exact e
    obtain ⟨c1, c2, c3⟩ := ml_head n (by omega) r hr hr0
    refine z_tz hr0 (by omega) ?_
    show gG _ _ _ _ _ _ _ _ _ _ _ _
    refine z_det1_l hn hr hq hv hL c3 (by rw [c1] at hl; simp only [List.length_cons] at hl; omega) c2 k n 0 0 1 (by omega) ?_
    rw [c1, Int.zero_add, Int.one_mul, ml_rest]
    rfl
  · have hr0 : r = 0 := by
      rw [show (gi 0 : Int32) = gi ((0 : Nat) : Int) from rfl, gi_eq (by omega) (by omega) (by omega) (by omega)] at z
      omega
    subst hr0
    rw [ml_zero n (by omega)] at k
    exact k
theorem z_det2_l {n r q i : Nat} {T : Int} (hn : n = (f 0).toNat) (hr : r < 2 ^ n) (hq : q < 2 ^ n) (hv : Vl f) (hL : Lb f I) (hi : i < n) (hl : (ml n (r &&& (r - 1))).length ≤ 1) (hr2 : (r &&& (r - 1)) < 2 ^ n) (k : Q (.inl (.long (gj T))) I J B) :
    ∀ (d j : Nat) (s g : Int), j + d = n → s + g * exA (lA f i) (fun l => dtm ((ml n (r &&& (r - 1))).map (lA f)) (mpre q j ++ l)) (mrest q j d) = T → gG E 138 20 [(0, .inr (49, 0, 0)), (1, .inl (.int (gi (r : Int)))), (2, .inl (.int (gi (q : Int)))), (3, .inl (.int (gi (i : Int)))), (4, .inl (.long (gj s))), (6, .inl (.long (gj g))), (8, .inl (.int (gi (j : Int))))] [] I J B c w Q X
  | 0, j, s, g, hj, hT => by
    have h0 := hv.1.1
    have h5 := hv.2
    refine s_X9_det2_20 ?_
    rw [hL.1, gi_le (by omega) (by omega) (by omega) (by omega)]
    refine ⟨fun _ => ?_, fun z => by omega⟩
    have e : exA (lA f i) (fun l => dtm ((ml n (r &&& (r - 1))).map (lA f)) (mpre q j ++ l)) (mrest q j 0) = 0 := rfl
    rw [e, Int.mul_zero, Int.add_zero] at hT
    rw [hT]
    exact k
  | d + 1, j, s, g, hj, hT => by
    have h0 := hv.1.1
    have h5 := hv.2
    have hp := pow32 n (by omega)
    refine s_X9_det2_20 ?_
    rw [hL.1, gi_le (by omega) (by omega) (by omega) (by omega), ml_bit q (by omega) j (by omega), (ml_low r (by omega)).1, (ml_cl q (by omega) j (by omega)).1, gi_add]
    refine ⟨fun z => by omega, fun _ => ⟨fun z => ?_, fun z => ?_⟩⟩
    · have hb : q.testBit j = true := by
        cases h : q.testBit j with
        | true => rfl
        | false => rw [h] at z; exact absurd rfl z
      refine z_lat hv hL (by omega) (by omega) ?_
      obtain ⟨c1, c2⟩ := ml_clr n (by omega) q hq j (by omega) hb
      show gC _ _ _ _ _ _ _ _
      refine z_det1 hn hr2 c2 hv hL hl ?_
      have hA := hv.dgb ((i : Int) - (j : Int))
      show gG _ _ _ _ _ _ _ _ _ _ _ _
      rw [show Int32.toInt64 (gi (lA f i j)) = gj (lA f i j) from gij (by show -2147483648 ≤ dg f ((i : Int) - (j : Int)); omega) (by show dg f ((i : Int) - (j : Int)) < 2147483648; omega), gj_mul, gj_mul, gj_add, gj_neg]
      refine z_det2_l hn hr hq hv hL hi hl hr2 k d (j + 1) _ _ (by omega) ?_
      rw [← hT, mrest_t hb, c1, mpre_t hb]
      show _ = s + g * (lA f i j * dtm _ (mpre q j ++ mrest q (j + 1) d) - exA (lA f i) (fun l => dtm _ (mpre q j ++ j :: l)) (mrest q (j + 1) d))
      rw [show n - j - 1 = d by omega, show (fun l => dtm ((ml n (r &&& (r - 1))).map (lA f)) (mpre q j ++ [j] ++ l)) = fun l => dtm ((ml n (r &&& (r - 1))).map (lA f)) (mpre q j ++ j :: l) from funext fun l => by rw [List.append_assoc]; rfl]
      grind
    · have hb : q.testBit j = false := by
        cases h : q.testBit j with
        | false => rfl
        | true => rw [h] at z; exact absurd z (by decide)
      refine z_det2_l hn hr hq hv hL hi hl hr2 k d (j + 1) _ _ (by omega) ?_
      rw [← hT, mrest_f hb, mpre_f hb]
theorem z_det2 {n r q : Nat} (hn : n = (f 0).toNat) (hr : r < 2 ^ n) (hq : q < 2 ^ n) (hv : Vl f) (hL : Lb f I) (hl : (ml n r).length ≤ 2) (k : Q (.inl (.long (gj (dtm ((ml n r).map (lA f)) (ml n q))))) I J B) : gC E 138 [.inr (49, 0, 0), .inl (.int (gi (r : Int))), .inl (.int (gi (q : Int)))] I J B Q X := by
  have h0 := hv.1.1
  have h5 := hv.2
  have hp := pow32 n (by omega)
  refine e_X9_det2 ⟨fun z => ?_, fun z => ?_⟩
  · have hr0 : 0 < r := by
      rcases Nat.eq_zero_or_pos r with e | e
      · subst e
        exact absurd rfl z
      · exact e
    obtain ⟨c1, c2, c3⟩ := ml_head n (by omega) r hr hr0
    refine z_tz hr0 (by omega) ?_
    show gG _ _ _ _ _ _ _ _ _ _ _ _
    refine z_det2_l hn hr hq hv hL c3 (by rw [c1] at hl; simp only [List.length_cons] at hl; omega) c2 k n 0 0 1 (by omega) ?_
    rw [c1, Int.zero_add, Int.one_mul, ml_rest]
    rfl
  · have hr0 : r = 0 := by
      rw [show (gi 0 : Int32) = gi ((0 : Nat) : Int) from rfl, gi_eq (by omega) (by omega) (by omega) (by omega)] at z
      omega
    subst hr0
    rw [ml_zero n (by omega)] at k
    exact k
theorem z_det3_l {n r q i : Nat} {T : Int} (hn : n = (f 0).toNat) (hr : r < 2 ^ n) (hq : q < 2 ^ n) (hv : Vl f) (hL : Lb f I) (hi : i < n) (hl : (ml n (r &&& (r - 1))).length ≤ 2) (hr2 : (r &&& (r - 1)) < 2 ^ n) (k : Q (.inl (.long (gj T))) I J B) :
    ∀ (d j : Nat) (s g : Int), j + d = n → s + g * exA (lA f i) (fun l => dtm ((ml n (r &&& (r - 1))).map (lA f)) (mpre q j ++ l)) (mrest q j d) = T → gG E 139 20 [(0, .inr (49, 0, 0)), (1, .inl (.int (gi (r : Int)))), (2, .inl (.int (gi (q : Int)))), (3, .inl (.int (gi (i : Int)))), (4, .inl (.long (gj s))), (6, .inl (.long (gj g))), (8, .inl (.int (gi (j : Int))))] [] I J B c w Q X
  | 0, j, s, g, hj, hT => by
    have h0 := hv.1.1
    have h5 := hv.2
    refine s_X9_det3_20 ?_
    rw [hL.1, gi_le (by omega) (by omega) (by omega) (by omega)]
    refine ⟨fun _ => ?_, fun z => by omega⟩
    have e : exA (lA f i) (fun l => dtm ((ml n (r &&& (r - 1))).map (lA f)) (mpre q j ++ l)) (mrest q j 0) = 0 := rfl
    rw [e, Int.mul_zero, Int.add_zero] at hT
    rw [hT]
    exact k
  | d + 1, j, s, g, hj, hT => by
    have h0 := hv.1.1
    have h5 := hv.2
    have hp := pow32 n (by omega)
    refine s_X9_det3_20 ?_
    rw [hL.1, gi_le (by omega) (by omega) (by omega) (by omega), ml_bit q (by omega) j (by omega), (ml_low r (by omega)).1, (ml_cl q (by omega) j (by omega)).1, gi_add]
    refine ⟨fun z => by omega, fun _ => ⟨fun z => ?_, fun z => ?_⟩⟩
    · have hb : q.testBit j = true := by
        cases h : q.testBit j with
        | true => rfl
        | false => rw [h] at z; exact absurd rfl z
      refine z_lat hv hL (by omega) (by omega) ?_
      obtain ⟨c1, c2⟩ := ml_clr n (by omega) q hq j (by omega) hb
      show gC _ _ _ _ _ _ _ _
      refine z_det2 hn hr2 c2 hv hL hl ?_
      have hA := hv.dgb ((i : Int) - (j : Int))
      show gG _ _ _ _ _ _ _ _ _ _ _ _
      rw [show Int32.toInt64 (gi (lA f i j)) = gj (lA f i j) from gij (by show -2147483648 ≤ dg f ((i : Int) - (j : Int)); omega) (by show dg f ((i : Int) - (j : Int)) < 2147483648; omega), gj_mul, gj_mul, gj_add, gj_neg]
      refine z_det3_l hn hr hq hv hL hi hl hr2 k d (j + 1) _ _ (by omega) ?_
      rw [← hT, mrest_t hb, c1, mpre_t hb]
      show _ = s + g * (lA f i j * dtm _ (mpre q j ++ mrest q (j + 1) d) - exA (lA f i) (fun l => dtm _ (mpre q j ++ j :: l)) (mrest q (j + 1) d))
      rw [show n - j - 1 = d by omega, show (fun l => dtm ((ml n (r &&& (r - 1))).map (lA f)) (mpre q j ++ [j] ++ l)) = fun l => dtm ((ml n (r &&& (r - 1))).map (lA f)) (mpre q j ++ j :: l) from funext fun l => by rw [List.append_assoc]; rfl]
      grind
    · have hb : q.testBit j = false := by
        cases h : q.testBit j with
        | false => rfl
        | true => rw [h] at z; exact absurd z (by decide)
      refine z_det3_l hn hr hq hv hL hi hl hr2 k d (j + 1) _ _ (by omega) ?_
      rw [← hT, mrest_f hb, mpre_f hb]
theorem z_det3 {n r q : Nat} (hn : n = (f 0).toNat) (hr : r < 2 ^ n) (hq : q < 2 ^ n) (hv : Vl f) (hL : Lb f I) (hl : (ml n r).length ≤ 3) (k : Q (.inl (.long (gj (dtm ((ml n r).map (lA f)) (ml n q))))) I J B) : gC E 139 [.inr (49, 0, 0), .inl (.int (gi (r : Int))), .inl (.int (gi (q : Int)))] I J B Q X := by
  have h0 := hv.1.1
  have h5 := hv.2
  have hp := pow32 n (by omega)
  refine e_X9_det3 ⟨fun z => ?_, fun z => ?_⟩
  · have hr0 : 0 < r := by
      rcases Nat.eq_zero_or_pos r with e | e
      · subst e
        exact absurd rfl z
      · exact e
    obtain ⟨c1, c2, c3⟩ := ml_head n (by omega) r hr hr0
    refine z_tz hr0 (by omega) ?_
    show gG _ _ _ _ _ _ _ _ _ _ _ _
    refine z_det3_l hn hr hq hv hL c3 (by rw [c1] at hl; simp only [List.length_cons] at hl; omega) c2 k n 0 0 1 (by omega) ?_
    rw [c1, Int.zero_add, Int.one_mul, ml_rest]
    rfl
  · have hr0 : r = 0 := by
      rw [show (gi 0 : Int32) = gi ((0 : Nat) : Int) from rfl, gi_eq (by omega) (by omega) (by omega) (by omega)] at z
      omega
    subst hr0
    rw [ml_zero n (by omega)] at k
    exact k
theorem z_det4_l {n r q i : Nat} {T : Int} (hn : n = (f 0).toNat) (hr : r < 2 ^ n) (hq : q < 2 ^ n) (hv : Vl f) (hL : Lb f I) (hi : i < n) (hl : (ml n (r &&& (r - 1))).length ≤ 3) (hr2 : (r &&& (r - 1)) < 2 ^ n) (k : Q (.inl (.long (gj T))) I J B) :
    ∀ (d j : Nat) (s g : Int), j + d = n → s + g * exA (lA f i) (fun l => dtm ((ml n (r &&& (r - 1))).map (lA f)) (mpre q j ++ l)) (mrest q j d) = T → gG E 140 20 [(0, .inr (49, 0, 0)), (1, .inl (.int (gi (r : Int)))), (2, .inl (.int (gi (q : Int)))), (3, .inl (.int (gi (i : Int)))), (4, .inl (.long (gj s))), (6, .inl (.long (gj g))), (8, .inl (.int (gi (j : Int))))] [] I J B c w Q X
  | 0, j, s, g, hj, hT => by
    have h0 := hv.1.1
    have h5 := hv.2
    refine s_X9_det4_20 ?_
    rw [hL.1, gi_le (by omega) (by omega) (by omega) (by omega)]
    refine ⟨fun _ => ?_, fun z => by omega⟩
    have e : exA (lA f i) (fun l => dtm ((ml n (r &&& (r - 1))).map (lA f)) (mpre q j ++ l)) (mrest q j 0) = 0 := rfl
    rw [e, Int.mul_zero, Int.add_zero] at hT
    rw [hT]
    exact k
  | d + 1, j, s, g, hj, hT => by
    have h0 := hv.1.1
    have h5 := hv.2
    have hp := pow32 n (by omega)
    refine s_X9_det4_20 ?_
    rw [hL.1, gi_le (by omega) (by omega) (by omega) (by omega), ml_bit q (by omega) j (by omega), (ml_low r (by omega)).1, (ml_cl q (by omega) j (by omega)).1, gi_add]
    refine ⟨fun z => by omega, fun _ => ⟨fun z => ?_, fun z => ?_⟩⟩
    · have hb : q.testBit j = true := by
        cases h : q.testBit j with
        | true => rfl
        | false => rw [h] at z; exact absurd rfl z
      refine z_lat hv hL (by omega) (by omega) ?_
      obtain ⟨c1, c2⟩ := ml_clr n (by omega) q hq j (by omega) hb
      show gC _ _ _ _ _ _ _ _
      refine z_det3 hn hr2 c2 hv hL hl ?_
      have hA := hv.dgb ((i : Int) - (j : Int))
      show gG _ _ _ _ _ _ _ _ _ _ _ _
      rw [show Int32.toInt64 (gi (lA f i j)) = gj (lA f i j) from gij (by show -2147483648 ≤ dg f ((i : Int) - (j : Int)); omega) (by show dg f ((i : Int) - (j : Int)) < 2147483648; omega), gj_mul, gj_mul, gj_add, gj_neg]
      refine z_det4_l hn hr hq hv hL hi hl hr2 k d (j + 1) _ _ (by omega) ?_
      rw [← hT, mrest_t hb, c1, mpre_t hb]
      show _ = s + g * (lA f i j * dtm _ (mpre q j ++ mrest q (j + 1) d) - exA (lA f i) (fun l => dtm _ (mpre q j ++ j :: l)) (mrest q (j + 1) d))
      rw [show n - j - 1 = d by omega, show (fun l => dtm ((ml n (r &&& (r - 1))).map (lA f)) (mpre q j ++ [j] ++ l)) = fun l => dtm ((ml n (r &&& (r - 1))).map (lA f)) (mpre q j ++ j :: l) from funext fun l => by rw [List.append_assoc]; rfl]
      grind
    · have hb : q.testBit j = false := by
        cases h : q.testBit j with
        | false => rfl
        | true => rw [h] at z; exact absurd z (by decide)
      refine z_det4_l hn hr hq hv hL hi hl hr2 k d (j + 1) _ _ (by omega) ?_
      rw [← hT, mrest_f hb, mpre_f hb]
theorem z_det4 {n r q : Nat} (hn : n = (f 0).toNat) (hr : r < 2 ^ n) (hq : q < 2 ^ n) (hv : Vl f) (hL : Lb f I) (hl : (ml n r).length ≤ 4) (k : Q (.inl (.long (gj (dtm ((ml n r).map (lA f)) (ml n q))))) I J B) : gC E 140 [.inr (49, 0, 0), .inl (.int (gi (r : Int))), .inl (.int (gi (q : Int)))] I J B Q X := by
  have h0 := hv.1.1
  have h5 := hv.2
  have hp := pow32 n (by omega)
  refine e_X9_det4 ⟨fun z => ?_, fun z => ?_⟩
  · have hr0 : 0 < r := by
      rcases Nat.eq_zero_or_pos r with e | e
      · subst e
        exact absurd rfl z
      · exact e
    obtain ⟨c1, c2, c3⟩ := ml_head n (by omega) r hr hr0
    refine z_tz hr0 (by omega) ?_
    show gG _ _ _ _ _ _ _ _ _ _ _ _
    refine z_det4_l hn hr hq hv hL c3 (by rw [c1] at hl; simp only [List.length_cons] at hl; omega) c2 k n 0 0 1 (by omega) ?_
    rw [c1, Int.zero_add, Int.one_mul, ml_rest]
    rfl
  · have hr0 : r = 0 := by
      rw [show (gi 0 : Int32) = gi ((0 : Nat) : Int) from rfl, gi_eq (by omega) (by omega) (by omega) (by omega)] at z
      omega
    subst hr0
    rw [ml_zero n (by omega)] at k
    exact k
theorem z_det5_l {n r q i : Nat} {T : Int} (hn : n = (f 0).toNat) (hr : r < 2 ^ n) (hq : q < 2 ^ n) (hv : Vl f) (hL : Lb f I) (hi : i < n) (hl : (ml n (r &&& (r - 1))).length ≤ 4) (hr2 : (r &&& (r - 1)) < 2 ^ n) (k : Q (.inl (.long (gj T))) I J B) :
    ∀ (d j : Nat) (s g : Int), j + d = n → s + g * exA (lA f i) (fun l => dtm ((ml n (r &&& (r - 1))).map (lA f)) (mpre q j ++ l)) (mrest q j d) = T → gG E 141 20 [(0, .inr (49, 0, 0)), (1, .inl (.int (gi (r : Int)))), (2, .inl (.int (gi (q : Int)))), (3, .inl (.int (gi (i : Int)))), (4, .inl (.long (gj s))), (6, .inl (.long (gj g))), (8, .inl (.int (gi (j : Int))))] [] I J B c w Q X
  | 0, j, s, g, hj, hT => by
    have h0 := hv.1.1
    have h5 := hv.2
    refine s_X9_det5_20 ?_
    rw [hL.1, gi_le (by omega) (by omega) (by omega) (by omega)]
    refine ⟨fun _ => ?_, fun z => by omega⟩
    have e : exA (lA f i) (fun l => dtm ((ml n (r &&& (r - 1))).map (lA f)) (mpre q j ++ l)) (mrest q j 0) = 0 := rfl
    rw [e, Int.mul_zero, Int.add_zero] at hT
    rw [hT]
    exact k
  | d + 1, j, s, g, hj, hT => by
    have h0 := hv.1.1
    have h5 := hv.2
    have hp := pow32 n (by omega)
    refine s_X9_det5_20 ?_
    rw [hL.1, gi_le (by omega) (by omega) (by omega) (by omega), ml_bit q (by omega) j (by omega), (ml_low r (by omega)).1, (ml_cl q (by omega) j (by omega)).1, gi_add]
    refine ⟨fun z => by omega, fun _ => ⟨fun z => ?_, fun z => ?_⟩⟩
    · have hb : q.testBit j = true := by
        cases h : q.testBit j with
        | true => rfl
        | false => rw [h] at z; exact absurd rfl z
      refine z_lat hv hL (by omega) (by omega) ?_
      obtain ⟨c1, c2⟩ := ml_clr n (by omega) q hq j (by omega) hb
      show gC _ _ _ _ _ _ _ _
      refine z_det4 hn hr2 c2 hv hL hl ?_
      have hA := hv.dgb ((i : Int) - (j : Int))
      show gG _ _ _ _ _ _ _ _ _ _ _ _
      rw [show Int32.toInt64 (gi (lA f i j)) = gj (lA f i j) from gij (by show -2147483648 ≤ dg f ((i : Int) - (j : Int)); omega) (by show dg f ((i : Int) - (j : Int)) < 2147483648; omega), gj_mul, gj_mul, gj_add, gj_neg]
      refine z_det5_l hn hr hq hv hL hi hl hr2 k d (j + 1) _ _ (by omega) ?_
      rw [← hT, mrest_t hb, c1, mpre_t hb]
      show _ = s + g * (lA f i j * dtm _ (mpre q j ++ mrest q (j + 1) d) - exA (lA f i) (fun l => dtm _ (mpre q j ++ j :: l)) (mrest q (j + 1) d))
      rw [show n - j - 1 = d by omega, show (fun l => dtm ((ml n (r &&& (r - 1))).map (lA f)) (mpre q j ++ [j] ++ l)) = fun l => dtm ((ml n (r &&& (r - 1))).map (lA f)) (mpre q j ++ j :: l) from funext fun l => by rw [List.append_assoc]; rfl]
      grind
    · have hb : q.testBit j = false := by
        cases h : q.testBit j with
        | false => rfl
        | true => rw [h] at z; exact absurd z (by decide)
      refine z_det5_l hn hr hq hv hL hi hl hr2 k d (j + 1) _ _ (by omega) ?_
      rw [← hT, mrest_f hb, mpre_f hb]
theorem z_det5 {n r q : Nat} (hn : n = (f 0).toNat) (hr : r < 2 ^ n) (hq : q < 2 ^ n) (hv : Vl f) (hL : Lb f I) (hl : (ml n r).length ≤ 5) (k : Q (.inl (.long (gj (dtm ((ml n r).map (lA f)) (ml n q))))) I J B) : gC E 141 [.inr (49, 0, 0), .inl (.int (gi (r : Int))), .inl (.int (gi (q : Int)))] I J B Q X := by
  have h0 := hv.1.1
  have h5 := hv.2
  have hp := pow32 n (by omega)
  refine e_X9_det5 ⟨fun z => ?_, fun z => ?_⟩
  · have hr0 : 0 < r := by
      rcases Nat.eq_zero_or_pos r with e | e
      · subst e
        exact absurd rfl z
      · exact e
    obtain ⟨c1, c2, c3⟩ := ml_head n (by omega) r hr hr0
    refine z_tz hr0 (by omega) ?_
    show gG _ _ _ _ _ _ _ _ _ _ _ _
    refine z_det5_l hn hr hq hv hL c3 (by rw [c1] at hl; simp only [List.length_cons] at hl; omega) c2 k n 0 0 1 (by omega) ?_
    rw [c1, Int.zero_add, Int.one_mul, ml_rest]
    rfl
  · have hr0 : r = 0 := by
      rw [show (gi 0 : Int32) = gi ((0 : Nat) : Int) from rfl, gi_eq (by omega) (by omega) (by omega) (by omega)] at z
      omega
    subst hr0
    rw [ml_zero n (by omega)] at k
    exact k
/-- a determinant, of any rows and columns -/
theorem z_ldet {r q : Nat} (hr : r < 2 ^ (f 0).toNat) (hq : q < 2 ^ (f 0).toNat) (hv : Vl f) (hL : Lb f I) (k : Q (.inl (.long (gj (dtm ((ml (f 0).toNat r).map (lA f)) (ml (f 0).toNat q))))) I J B) : gC E 141 [.inr (49, 0, 0), .inl (.int (gi (r : Int))), .inl (.int (gi (q : Int)))] I J B Q X :=
  z_det5 rfl hr hq hv hL (by have := ml_len (n := (f 0).toNat) (m := r); have := hv.2; omega) k
theorem z_lmodp {x p : Int} (h1 : -4000000000000000000 ≤ x) (h2 : x ≤ 4000000000000000000) (hp : 2 ≤ p) (hp2 : p ≤ 31) (k : Q (.inl (.int (gi (x % p)))) I J B) : gC E 133 [.inr (49, 0, 0), .inl (.long (gj x)), .inl (.int (gi p))] I J B Q X := by
  have t1 := Int.tmod_lt_of_pos x (show 0 < p by omega)
  have t2 : -p < x.tmod p := by
    have := Int.lt_tmod_of_pos x (show 0 < p by omega)
    omega
  have e1 : (x.tmod p + p).tmod p = x % p := by
    rw [Int.tmod_eq_emod_of_nonneg (by omega)]
    have e2 : (x.tmod p + p) % p = (x.tmod p) % p := by rw [Int.add_emod_right]
    rw [e2]
    have e3 : x.tmod p = x - p * x.tdiv p := by
      have := Int.tdiv_mul_add_tmod x p
      rw [Int.mul_comm] at this
      omega
    rw [e3, Int.sub_mul_emod_self_left]
  refine e_X9_mod ?_
  rw [gij (by omega) (by omega), gj_eq (by omega) (by omega) (by decide) (by decide), gj_rem (by omega) (by omega) (by omega) (by omega), gj_add, gj_rem (by omega) (by omega) (by omega) (by omega), gji, e1]
  exact ⟨by omega, by omega, k⟩
theorem z_lmod {x : Int} (hv : Vl f) (hL : Lb f I) (h1 : -4000000000000000000 ≤ x) (h2 : x ≤ 4000000000000000000) (k : Q (.inl (.int (gi (x % f 1)))) I J B) : gC E 134 [.inr (49, 0, 0), .inl (.long (gj x))] I J B Q X := by
  have hp := pr_b hv.1.2.1
  refine e_X9_mod_ ?_
  rw [hL.2.1]
  exact z_lmodp h1 h2 hp.1 hp.2 k
theorem z_lfirst {k : Nat} (hk : k ≤ 5) (h : Q (.inl (.int (gi ((2 ^ k - 1 : Nat) : Int)))) I J B) : gC E 142 [.inr (49, 0, 0), .inl (.int (gi (k : Int)))] I J B Q X := by
  refine e_X9_first ?_
  rw [(ml_first k (by omega)).1]
  exact h
/-- a leading minor -/
def mnF (f : Nat → Int) (k : Nat) : Int := dtm ((List.range k).map (lA f)) (List.range k)
theorem z_lminor {a : Nat} (ha : a ≤ (f 0).toNat) (hv : Vl f) (hL : Lb f I) (k : Q (.inl (.int (gi (mnF f a % f 1)))) I J B) : gC E 143 [.inr (49, 0, 0), .inl (.int (gi (a : Int)))] I J B Q X := by
  have h0 := hv.1.1
  have h5 := hv.2
  obtain ⟨c1, c2⟩ := ml_all (f 0).toNat (by omega) a ha
  refine e_X9_minor (z_lfirst (by omega) ?_)
  show gC _ _ _ _ _ _ _ _
  refine z_lfirst (by omega) ?_
  show gC _ _ _ _ _ _ _ _
  refine z_ldet c2 c2 hv hL ?_
  rw [c1]
  show gC _ _ _ _ _ _ _ _
  have hb := lA_bd hv (rs := List.range a) (cs := List.range a) (by rw [List.length_range]; omega) (by rw [List.length_range]; omega)
  exact z_lmod hv hL (by omega) (by omega) k
theorem z_lregular (hv : Vl f) (hL : Lb f I) (k : Q (.inl (.int (gi (if mnF f (f 0).toNat % f 1 = 0 then 0 else 1)))) I J B) : gC E 144 [.inr (49, 0, 0)] I J B Q X := by
  have h0 := hv.1.1
  have hp := pr_b hv.1.2.1
  have b1 := Int.emod_nonneg (mnF f (f 0).toNat) (show f 1 ≠ 0 by omega)
  have b2 := Int.emod_lt_of_pos (mnF f (f 0).toNat) (show 0 < f 1 by omega)
  refine e_X9_isRegular ?_
  rw [hL.1, show gi (f 0) = gi (((f 0).toNat : Nat) : Int) by rw [show (((f 0).toNat : Nat) : Int) = f 0 by omega]]
  refine z_lminor (Nat.le_refl _) hv hL ?_
  rw [show (gi 0 : Int32) = gi 0 from rfl]
  show (gi (mnF f (f 0).toNat % f 1) = gi 0 → _) ∧ (¬ gi (mnF f (f 0).toNat % f 1) = gi 0 → _)
  rw [gi_eq (by omega) (by omega) (by decide) (by decide)]
  refine ⟨fun z => ?_, fun z => ?_⟩
  · rw [if_pos z] at k
    exact ⟨Or.inl rfl, k⟩
  · rw [if_neg z] at k
    exact ⟨Or.inr rfl, k⟩
end LB
