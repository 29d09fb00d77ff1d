/-! ===== a singular system: the kernel's vector, solvability: the law's 'kernel' ===== -/
theorem sm_bd {u x : Nat → Int} {b d : Nat} : ∀ {k : Nat}, (∀ c, c < k → (u c).natAbs ≤ b) → (∀ c, c < k → (x c).natAbs ≤ d) → (sm u x k).natAbs ≤ k * (b * d)
  | 0, _, _ => Nat.zero_le _
  | k + 1, h, h2 => by
    show (sm u x k + u k * x k).natAbs ≤ (k + 1) * (b * d)
    have h1 := sm_bd (k := k) (fun c hc => h c (by omega)) (fun c hc => h2 c (by omega))
    have h3 : (u k * x k).natAbs ≤ b * d := by
      rw [Int.natAbs_mul]
      exact Nat.mul_le_mul (h k (by omega)) (h2 k (by omega))
    rw [Nat.add_mul, Nat.one_mul]
    omega
/-- the law's bordered determinant -/
def bdV (f : Nat → Int) (r q : Nat) : Int := sgn (rkF f) * clA (fun u => u (f 0).toNat) (fun l => dtm l (ml (f 0).toNat q)) ((ml (f 0).toNat r).map (lB f (fun i => f (15 + i))))
theorem bdV_bd {f : Nat → Int} {r q : Nat} (hv : Vl f) : (bdV f r q).natAbs ≤ 3200000000000000000 := by
  have h0 := hv.1.1
  have h5 := hv.2
  have hx : ∀ a, a < (f 0).toNat → (f (15 + a)).natAbs ≤ 999 := fun a ha => by
    have := hv.1.2.2.2.1 a (by omega)
    omega
  have hus : ∀ u ∈ (ml (f 0).toNat r).map (lB f (fun i => f (15 + i))), ∀ c, (u c).natAbs ≤ 999 := fun u hu c => by
    obtain ⟨a, ha, rfl⟩ := List.mem_map.mp hu
    exact lB_bd hv hx (ml_lt a ha) c
  have hlr := ml_len (n := (f 0).toNat) (m := r)
  have hlq := ml_len (n := (f 0).toNat) (m := q)
  have h1 := clA_bd (g := fun u => u (f 0).toNat) (b := 999) (K := (5 * 999) ^ 4) (us := (ml (f 0).toNat r).map (lB f (fun i => f (15 + i)))) (G := fun l => dtm l (ml (f 0).toNat q)) (fun u hu => hus u hu _) (fun l hl hn => by
    have h2 := dtm_bd (b := 999) (m := 5) (us := l) (cs := ml (f 0).toNat q) (fun u hu c => hus u (hl u hu) c) (by omega)
    refine Nat.le_trans h2 (Nat.pow_le_pow_right (by decide) ?_)
    rw [List.length_map] at hn
    omega)
  rw [List.length_map] at h1
  unfold bdV
  rw [Int.natAbs_mul]
  have h3 : (sgn (rkF f)).natAbs = 1 := by
    rw [sgn_even]
    split <;> rfl
  rw [h3, Nat.one_mul]
  refine Nat.le_trans h1 ?_
  have h4 : (ml (f 0).toNat r).length * (999 * (5 * 999) ^ 4) ≤ 5 * (999 * (5 * 999) ^ 4) := Nat.mul_le_mul_right _ (by omega)
  refine Nat.le_trans h4 ?_
  decide
theorem svF_ok {f : Nat → Int} : ∀ {d i : Nat}, svF f d i = true ↔ ∀ t, i ≤ t → t < i + d → sdF f (fun i => f (15 + i)) t ((f 0).toNat) = 0
  | 0, i => ⟨fun _ t h1 h2 => by omega, fun _ => rfl⟩
  | d + 1, i => by
    unfold svF
    by_cases h : sdF f (fun i => f (15 + i)) i ((f 0).toNat) = 0
    · rw [if_pos h]
      refine svF_ok.trans ⟨fun g t h1 h2 => ?_, fun g t h1 h2 => g t (by omega) (by omega)⟩
      by_cases e : t = i
      · rw [e]; exact h
      · exact g t (by omega) (by omega)
    · rw [if_neg h]
      exact ⟨fun z => (by cases z), fun g => absurd (g i (by omega) (by omega)) h⟩
theorem Zv.mb {f b : Nat → Int} {p : Int} {cs : List Nat} (hc : ∀ c ∈ cs, c < (f 0).toNat + 1) : Zv p (f 0).toNat (mbF f p (f 0).toNat b) cs ↔ Zv p (f 0).toNat (lB f b) cs := by
  constructor
  · intro h
    exact h.rc (W := (f 0).toNat + 1) (fun i hi => ⟨i, i, 1, 0, hi, hi, fun c hc2 => (mb_lB hc2).sy.tr (Cg.of (by omega))⟩) hc
  · intro h
    exact h.rc (W := (f 0).toNat + 1) (fun i hi => ⟨i, i, 1, 0, hi, hi, fun c hc2 => (mb_lB hc2).tr (Cg.of (by omega))⟩) hc
theorem bdV_eq {f : Nat → Int} {r q : Nat} (h : (ml (f 0).toNat r).length = (ml (f 0).toNat q).length + 1) : bdV f r q = sgn (rkF f) * dtm ((ml (f 0).toNat r).map (lB f (fun i => f (15 + i)))) ((f 0).toNat :: ml (f 0).toNat q) := by
  unfold bdV
  rw [dtm_col (by rw [List.length_map, h])]
theorem sgn_cg {p x : Int} {k : Nat} : Cg p (sgn k * x) 0 ↔ Cg p x 0 := by
  constructor
  · intro h
    have h2 := (Cg.rf (p := p) (x := sgn k)).mul h
    rw [← Int.mul_assoc, sgn_sq, Int.one_mul, Int.mul_zero] at h2
    exact h2
  · intro h
    have h2 := (Cg.rf (p := p) (x := sgn k)).mul h
    rw [Int.mul_zero] at h2
    exact h2
/-- solvable: no bordered minor stands -/
theorem sv_link {f : Nat → Int} (hv : Vf f) : svF f ((f 0).toNat - rkF f) (rkF f) = true ↔ ∀ r q, r < 2 ^ (f 0).toNat → q < 2 ^ (f 0).toNat → (ml (f 0).toNat r).length = rkF f + 1 → (ml (f 0).toNat q).length = rkF f → bdV f r q % f 1 = 0 := by
  have hp := pr_b hv.2.1
  have hM := Rg.mb (f := f) (n := (f 0).toNat) (b := fun i => f (15 + i)) (show 1 ≤ f 1 by omega)
  have hrk := rk_mb (f := f) (b := fun i => f (15 + i))
  have hle : rkF f ≤ (f 0).toNat := by
    rw [← hrk]
    exact elF_lim _
  rw [svF_ok]
  constructor
  · intro h r q hr hq h1 h2
    have hz := el_solv (n := (f 0).toNat) hv.2.1 hM (fun t t1 t2 => h t (by omega) (by omega)) (cs := ml (f 0).toNat q) ml_lt (by rw [hrk]; exact h2)
    have hz2 := (Zv.mb (f := f) (fun c hc => by
      rcases List.mem_cons.mp hc with rfl | hc
      · omega
      · have := ml_lt c hc
        omega)).mp hz
    have hz3 := Zs.iff.mpr hz2 (fun j => r.testBit j) (by
      show (ml (f 0).toNat r).length = _
      rw [List.length_cons]
      omega)
    rw [bdV_eq (by omega)]
    exact Cg.z.mp (sgn_cg.mpr hz3)
  · intro h t t1 t2
    apply Classical.byContradiction
    intro hne
    have hz := el_unsolv (n := (f 0).toNat) hv.2.1 hM (q := t) (by omega) (by omega) hne
    rw [Zv.mb (f := f) (fun c hc => by
      rcases List.mem_cons.mp hc with rfl | hc
      · omega
      · have := pvL_lt c hc
        omega), ← Zs.iff] at hz
    apply hz
    intro P hP
    obtain ⟨r, hr1, hr2⟩ := mask_of P (f 0).toNat
    obtain ⟨q, hq1, hq2⟩ := mask_of (isP (f 1) (f 0).toNat (mbF f (f 1) (f 0).toNat (fun i => f (15 + i)))) (f 0).toNat
    have er := ml_of hr2
    have eq : ml (f 0).toNat q = pvL (f 1) (f 0).toNat (mbF f (f 1) (f 0).toNat (fun i => f (15 + i))) (f 0).toNat := ml_of hq2
    have hlq : (ml (f 0).toNat q).length = rkF f := by
      rw [eq, (Ech.ok (lim := (f 0).toNat) hv.2.1 hM (f 0).toNat).1]
      exact hrk
    have hlr : (ml (f 0).toNat r).length = rkF f + 1 := by
      rw [er, hP, List.length_cons, ← eq, hlq]
    have h3 := h r q hr1 hq1 hlr hlq
    rw [bdV_eq (by omega), er, eq] at h3
    exact sgn_cg.mp (Cg.z.mpr h3)
section KE
variable {E : gEn} {Q : gQt} {X : gXt} {I : gI} {J : gJ} {B : gB} {c w : Nat} {f : Nat → Int}
/-- what is known of a singular system's first free column -/
theorem ke_ok (hv : Vf f) (hr : rgB f = false) : (knS f).2.2.1 < (f 0).toNat ∧ (∀ k, k < (knS f).2.2.1 → Fr f (2 ^ (k + 1) - 1)) ∧ (f 0 ≤ 5 → ¬ Fr f (2 ^ ((knS f).2.2.1 + 1) - 1)) ∧ Sl (f 1) (f 0).toNat (f 0).toNat (fun j => keF f j) (lA f) := by
  have hp := pr_b hv.2.1
  have h0 := hv.1
  have hM := Rg.mt (f := f) (p := f 1) (size := (f 0).toNat) (show 1 ≤ f 1 by omega)
  have h1 : rkF f ≠ (f 0).toNat := of_decide_eq_false hr
  rcases elF_first (p := f 1) (M := mtF f (f 1) (f 0).toNat) (f 0).toNat (Nat.le_refl _) with ⟨-, -, h2⟩ | ⟨a1, a2, a3, a4, -⟩
  · exact absurd h2 h1
  · have b1 : (knS f).2.2.1 < (f 0).toNat := a1
    have mlr : ∀ k, k ≤ (f 0).toNat → k ≤ 5 → f 0 ≤ 5 → ml (f 0).toNat (2 ^ k - 1) = List.range k := fun k hk hk5 h5 => (ml_all (f 0).toNat (by omega) k hk).1
    refine ⟨b1, fun k hk => ?_, fun h5 => ?_, ?_⟩
    · by_cases h5 : f 0 ≤ 5
      · rw [Fr.iff, mlr (k + 1) (by omega) (by omega) h5]
        exact el_free hv.2.1 hM (by omega) (fun c hc => a2 c (by show c < (knS f).2.2.1; omega))
      · rw [Fr.iff]
        have e : ml (f 0).toNat (2 ^ (k + 1) - 1) = List.range (k + 1) := by
          unfold ml
          have : ∀ n, k + 1 ≤ n → n ≤ 7 → (List.range n).filter (fun j => (2 ^ (k + 1) - 1).testBit j) = List.range (k + 1) := by
            intro n hn hn7
            have key : ∀ n : Nat, n < 8 → ∀ k : Nat, k ≤ n → (List.range n).filter (fun j => (2 ^ k - 1).testBit j) = List.range k := by decide +kernel
            exact key n (by omega) (k + 1) hn
          exact this _ (by omega) (by omega)
        rw [e]
        exact el_free hv.2.1 hM (by omega) (fun c hc => a2 c (by show c < (knS f).2.2.1; omega))
    · rw [Fr.iff, mlr _ (by omega) (by omega) h5]
      exact fun z => z (el_dep hv.2.1 hM b1 a2 a3 a4)
    · have h3 := el_ker hv.2.1 hM b1 a2 a3 a4 (x := fun j => keF f j) (fun c hc => by
        show Cg _ (keF f (c : Int)) _
        unfold keF
        rw [if_neg (by omega), if_pos (by omega), gtn]
        exact Cg.md) (by
        show keF f (((knS f).2.2.1 : Nat) : Int) = 1
        unfold keF
        rw [if_pos rfl]) (fun c c1 c2 => by
        show keF f (c : Int) = 0
        have c1 : (knS f).2.2.1 < c := c1
        unfold keF
        rw [if_neg (by omega), if_neg (by omega)])
      intro i hi
      exact (sm_cg (fun c hc => (lA_mt hc).sy) (fun c _ => Cg.rf)).tr (h3 i hi)
theorem ke_bd (hv : Vf f) (j : Int) : 0 ≤ keF f j ∧ keF f j ≤ 31 := by
  have hp := pr_b hv.2.1
  unfold keF
  split
  · exact ⟨by decide, by decide⟩
  · split
    · have b1 := Int.emod_nonneg (-((knS f).2.2.2 j.toNat (knS f).2.2.1)) (show f 1 ≠ 0 by omega)
      have b2 := Int.emod_lt_of_pos (-((knS f).2.2.2 j.toNat (knS f).2.2.1)) (show 0 < f 1 by omega)
      omega
    · exact ⟨by decide, by decide⟩
variable {I0 : gI} {J0 : gJ}
/-- the end: what isSolvable answers -/
theorem z_ker_end {y : Int} (hR : Ru f I J B) (hc : c ≤ 199) (hw : w ≤ 1190) (hy : bI (svF f ((f 0).toNat - rkF f) (rkF f)) = y) (k : ∀ I' J', QF I I' → JQ J J' → Q (.inl (.int (gi 1))) I' J' B) : (c + 1 ≤ 200 ∧ w + 6 ≤ 1200) ∧ gC E 80 [.inr (3, 0, 0)] I J B (fun v21 I22 J23 B24 => gvi v21 fun r25 => ((¬ r25 = gi y → (((gi 0) = gi 0 ∨ (gi 0) = gi 1) ∧ Q (.inl (.int (gi 0))) I22 J23 B24)) ∧ (r25 = gi y → (((gi 1) = gi 0 ∨ (gi 1) = gi 1) ∧ Q (.inl (.int (gi 1))) I22 J23 B24)))) X := by
  subst hy
  refine ⟨⟨by omega, by omega⟩, ?_⟩
  refine qok (c_isSolvable hR.s) rfl fun I1 J1 q1 j1 => ?_
  exact ⟨fun z => absurd rfl z, fun _ => ⟨Or.inr rfl, k I1 J1 q1 j1⟩⟩
theorem sh_n (hv : Vl f) (hL : Lb f I) : (gi 1) <<< ((I 49 0 0 4) &&& 31) = gi ((2 ^ (f 0).toNat : Nat) : Int) := by
  have h0 := hv.1.1
  have h5 := hv.2
  rw [hL.1, show gi (f 0) = gi (((f 0).toNat : Nat) : Int) by rw [show (((f 0).toNat : Nat) : Int) = f 0 by omega]]
  exact (ml_first (f 0).toNat (by omega)).2
/-- from a pair of sets on that doesn't stand: it isn't solvable -/
theorem z_ker_138f {r : Nat} (hR : Ru f I J B) (hr : r ≤ 2 ^ (f 0).toNat) (hc : c ≤ 199) (hw : w ≤ 1190) (hs : svF f ((f 0).toNat - rkF f) (rkF f) = false) (k : ∀ I' J', QF I I' → JQ J J' → Q (.inl (.int (gi 1))) I' J' B) : gG E 157 138 [(0, .inr (3, 0, 0)), (1, .inr (49, 0, 0)), (3, .inl (.int (gi (rkF f : Nat)))), (4, .inl (.int (gi 0))), (5, .inl (.int (gi (r : Int))))] [] I J B c w Q X := by
  refine s_L_kernel_138 ⟨fun _ => ?_, fun _ => ⟨fun _ => ?_, fun z => absurd rfl z⟩⟩
  · exact z_ker_end hR hc hw (by rw [hs]; rfl) k
  · exact z_ker_end hR hc hw (by rw [hs]; rfl) k
theorem z_ker_157f {r q : Nat} (hR : Ru f I J B) (hr : r < 2 ^ (f 0).toNat) (hc : c ≤ 199) (hw : w ≤ 1190) (hs : svF f ((f 0).toNat - rkF f) (rkF f) = false) (k : ∀ I' J', QF I I' → JQ J J' → Q (.inl (.int (gi 1))) I' J' B) : gG E 157 157 [(0, .inr (3, 0, 0)), (1, .inr (49, 0, 0)), (3, .inl (.int (gi (rkF f : Nat)))), (4, .inl (.int (gi 0))), (5, .inl (.int (gi (r : Int)))), (6, .inl (.int (gi (q : Int))))] [] I J B c w Q X := by
  refine s_L_kernel_157 ?_
  rw [gi_add]
  refine ⟨fun _ => ?_, fun _ => ⟨fun _ => ?_, fun z => absurd rfl z⟩⟩
  · exact z_ker_138f (r := r + 1) hR (by omega) hc hw hs k
  · exact z_ker_138f (r := r + 1) hR (by omega) hc hw hs k
/-- the sum over the rows of a set -/
theorem z_ker_217 {r q : Nat} {T : Int} (hv : Vl f) (hL : Lb f I) (hr : r < 2 ^ (f 0).toNat) (hq : q < 2 ^ (f 0).toNat) (hT1 : T.natAbs ≤ 3200000000000000000)
    (k1 : T % f 1 = 0 → gG E 157 298 [(0, .inr (3, 0, 0)), (1, .inr (49, 0, 0)), (3, .inl (.int (gi (rkF f : Nat)))), (4, .inl (.int (gi 1))), (5, .inl (.int (gi (r : Int)))), (6, .inl (.int (gi (q : Int))))] [] I J B c w Q X) (k0 : ¬ T % f 1 = 0 → gG E 157 298 [(0, .inr (3, 0, 0)), (1, .inr (49, 0, 0)), (3, .inl (.int (gi (rkF f : Nat)))), (4, .inl (.int (gi 0))), (5, .inl (.int (gi (r : Int)))), (6, .inl (.int (gi (q : Int))))] [] I J B c w Q X) :
    ∀ (d i : Nat) (s g : Int), i + d = (f 0).toNat → s + g * clA (fun u => u (f 0).toNat) (fun l => dtm ((mpre r i).map (lB f (fun i => f (15 + i))) ++ l) (ml (f 0).toNat q)) ((mrest r i d).map (lB f (fun i => f (15 + i)))) = T →
      gG E 157 217 [(0, .inr (3, 0, 0)), (1, .inr (49, 0, 0)), (3, .inl (.int (gi (rkF f : Nat)))), (5, .inl (.int (gi (r : Int)))), (6, .inl (.int (gi (q : Int)))), (7, .inl (.long (gj s))), (9, .inl (.long (gj g))), (11, .inl (.int (gi (i : Int))))] [] I J B c w Q X
  | 0, i, s, g, hi, hT => by
    have h0 := hv.1.1
    have h5 := hv.2
    have hp := pr_b hv.1.2.1
    have e : clA (fun u => u (f 0).toNat) (fun l => dtm ((mpre r i).map (lB f (fun i => f (15 + i))) ++ l) (ml (f 0).toNat q)) ((mrest r i 0).map (lB f (fun i => f (15 + i)))) = 0 := rfl
    rw [e, Int.mul_zero, Int.add_zero] at hT
    subst hT
    refine s_L_kernel_217 ?_
    rw [hL.1, gi_le (by omega) (by omega) (by omega) (by omega)]
    refine ⟨fun _ => ?_, fun z => by omega⟩
    have b1 := Int.emod_nonneg s (show f 1 ≠ 0 by omega)
    have b2 := Int.emod_lt_of_pos s (show 0 < f 1 by omega)
    refine z_lmod hv hL (by omega) (by omega) ?_
    show (¬ gi _ = gi 0 → _) ∧ (gi _ = gi 0 → _)
    rw [gi_eq (by omega) (by omega) (by decide) (by decide)]
    exact ⟨fun z => k0 z, fun z => k1 z⟩
  | d + 1, i, s, g, hi, hT => by
    have h0 := hv.1.1
    have h5 := hv.2
    have hp2 := pow32 (f 0).toNat (by omega)
    have hside := hv.1.2.2.2.1 i (by omega)
    refine s_L_kernel_217 ?_
    rw [hL.1, gi_le (by omega) (by omega) (by omega) (by omega), ml_bit r (by omega) i (by omega), (ml_cl r (by omega) i (by omega)).1, gi_add, gi_c (by omega) (by omega), gtn, hL.2.2.2.1 i (by omega), gij (by omega) (by omega)]
    refine ⟨fun z => by omega, fun _ => ⟨fun z => ⟨gvp (by omega) (by omega) (by decide), ?_⟩, fun z => ?_⟩⟩
    · have hb : r.testBit i = true := by
        cases h : r.testBit i with
        | true => rfl
        | false => rw [h] at z; exact absurd rfl z
      obtain ⟨c1, c2⟩ := ml_clr (f 0).toNat (by omega) r hr i (by omega) hb
      refine z_ldet c2 hq hv hL ?_
      show gG _ _ _ _ _ _ _ _ _ _ _ _
      rw [gj_mul, gj_mul, gj_add, gj_neg]
      refine z_ker_217 hv hL hr hq hT1 k1 k0 d (i + 1) _ _ (by omega) ?_
      rw [← hT, mrest_t hb, c1, mpre_t hb]
      have eD : dtm ((mpre r i ++ mrest r (i + 1) ((f 0).toNat - i - 1)).map (lA f)) (ml (f 0).toNat q) = dtm ((mpre r i).map (lB f (fun i => f (15 + i))) ++ (mrest r (i + 1) d).map (lB f (fun i => f (15 + i)))) (ml (f 0).toNat q) := by
        rw [show (f 0).toNat - i - 1 = d by omega, ← List.map_append]
        exact dtm_eqv fun a _ c hc => (lB_lt (ml_lt c hc)).symm
      rw [eD]
      show _ = s + g * (lB f (fun i => f (15 + i)) i (f 0).toNat * dtm ((mpre r i).map (lB f (fun i => f (15 + i))) ++ (mrest r (i + 1) d).map (lB f (fun i => f (15 + i)))) (ml (f 0).toNat q) - clA (fun u => u (f 0).toNat) (fun l => dtm ((mpre r i).map (lB f (fun i => f (15 + i))) ++ lB f (fun i => f (15 + i)) i :: l) (ml (f 0).toNat q)) ((mrest r (i + 1) d).map (lB f (fun i => f (15 + i)))))
      rw [lB_n, show (fun l => dtm ((mpre r i ++ [i]).map (lB f (fun i => f (15 + i))) ++ l) (ml (f 0).toNat q)) = fun l => dtm ((mpre r i).map (lB f (fun i => f (15 + i))) ++ lB f (fun i => f (15 + i)) i :: l) (ml (f 0).toNat q) from funext fun l => by
        rw [List.map_append, List.append_assoc]
        rfl]
      grind
    · have hb : r.testBit i = false := by
        cases h : r.testBit i with
        | false => rfl
        | true => rw [h] at z; exact absurd z (by decide)
      refine z_ker_217 hv hL hr hq hT1 k1 k0 d (i + 1) _ _ (by omega) ?_
      rw [← hT, mrest_f hb, mpre_f hb]
/-- all pairs before (r, q) stand -/
def bdG (f : Nat → Int) (r q : Nat) : Prop := (ml (f 0).toNat r).length = rkF f + 1 → (ml (f 0).toNat q).length = rkF f → bdV f r q % f 1 = 0
theorem z_ker_157 {r : Nat} (hR : Ru f I J B) (hr : r < 2 ^ (f 0).toNat) (hc : c ≤ 199) (hw : w ≤ 1190) (hb : ∀ r2 q2, r2 < r → q2 < 2 ^ (f 0).toNat → bdG f r2 q2)
    (kn : (∀ r2 q2, r2 < r + 1 → q2 < 2 ^ (f 0).toNat → bdG f r2 q2) → gG E 157 138 [(0, .inr (3, 0, 0)), (1, .inr (49, 0, 0)), (3, .inl (.int (gi (rkF f : Nat)))), (4, .inl (.int (gi 1))), (5, .inl (.int (gi ((r + 1 : Nat) : Int))))] [] I J B c w Q X) (k : ∀ I' J', QF I I' → JQ J J' → Q (.inl (.int (gi 1))) I' J' B) :
    ∀ (d q : Nat), q + d = 2 ^ (f 0).toNat → (∀ q2, q2 < q → bdG f r q2) → gG E 157 157 [(0, .inr (3, 0, 0)), (1, .inr (49, 0, 0)), (3, .inl (.int (gi (rkF f : Nat)))), (4, .inl (.int (gi 1))), (5, .inl (.int (gi (r : Int)))), (6, .inl (.int (gi (q : Int))))] [] I J B c w Q X
  | 0, q, hq, hbq => by
    have h0 := hR.1.1.1
    have h5 := hR.1.2
    have hp2 := pow32 (f 0).toNat (by omega)
    refine s_L_kernel_157 ?_
    rw [sh_n hR.1 hR.2.2.2.2, gi_le (by omega) (by omega) (by omega) (by omega), gi_add]
    refine ⟨fun _ => ?_, fun z => by omega⟩
    refine kn fun r2 q2 h1 h2 => ?_
    by_cases e : r2 = r
    · rw [e]
      exact hbq q2 (by omega)
    · exact hb r2 q2 (by omega) h2
  | d + 1, q, hq, hbq => by
    have h0 := hR.1.1.1
    have h5 := hR.1.2
    have hp2 := pow32 (f 0).toNat (by omega)
    have hrk : rkF f ≤ (f 0).toNat := elF_lim _
    have next : bdG f r q → gG E 157 298 [(0, .inr (3, 0, 0)), (1, .inr (49, 0, 0)), (3, .inl (.int (gi (rkF f : Nat)))), (4, .inl (.int (gi 1))), (5, .inl (.int (gi (r : Int)))), (6, .inl (.int (gi (q : Int))))] [] I J B c w Q X := by
      intro hg
      refine s_L_kernel_298 ?_
      rw [gi_add]
      refine z_ker_157 hR hr hc hw hb kn k d (q + 1) (by omega) fun q2 h2 => ?_
      by_cases e : q2 = q
      · rw [e]
        exact hg
      · exact hbq q2 (by omega)
    refine s_L_kernel_157 ?_
    rw [sh_n hR.1 hR.2.2.2.2, gi_le (by omega) (by omega) (by omega) (by omega), gi_add]
    refine ⟨fun z => by omega, fun _ => ⟨fun z => absurd z (by decide), fun _ => ?_⟩⟩
    have l1 := ml_len (n := (f 0).toNat) (m := r)
    have l2 := ml_len (n := (f 0).toNat) (m := q)
    refine z_bc (by omega) ?_
    rw [ml_5 (f 0).toNat (by omega) r hr, gi_add]
    show (¬ gi ((ml (f 0).toNat r).length : Nat) = gi _ → _) ∧ (gi ((ml (f 0).toNat r).length : Nat) = gi _ → _)
    rw [gi_eq (by omega) (by omega) (by omega) (by omega)]
    refine ⟨fun z => next fun y => absurd (by omega) z, fun z => ?_⟩
    refine z_bc (by omega) ?_
    rw [ml_5 (f 0).toNat (by omega) q (by omega)]
    show (gi ((ml (f 0).toNat q).length : Nat) = gi (rkF f : Nat) → _) ∧ (¬ gi ((ml (f 0).toNat q).length : Nat) = gi (rkF f : Nat) → _)
    rw [gi_eq (by omega) (by omega) (by omega) (by omega)]
    refine ⟨fun y => ⟨by decide, ?_⟩, fun y => next fun _ x => absurd (by omega) y⟩
    have body : ∀ g : Int, g = sgn (rkF f) → gG E 157 214 [(0, .inr (3, 0, 0)), (1, .inr (49, 0, 0)), (3, .inl (.int (gi (rkF f : Nat)))), (5, .inl (.int (gi (r : Int)))), (6, .inl (.int (gi (q : Int)))), (7, .inl (.long (gj 0))), (9, .inl (.long (gj g)))] [] I J B c w Q X := by
      intro g hg
      subst hg
      refine s_L_kernel_214 (z_ker_217 hR.1 hR.2.2.2.2 hr (by omega) (bdV_bd hR.1) (T := bdV f r q) (fun hT => next fun _ _ => hT) (fun hT => ?_) (f 0).toNat 0 0 (sgn (rkF f)) (by omega) ?_)
      · have hs : svF f ((f 0).toNat - rkF f) (rkF f) = false := by
          cases h : svF f ((f 0).toNat - rkF f) (rkF f) with
          | false => rfl
          | true => exact absurd ((sv_link hR.1.1).mp h r q hr (by omega) (by omega) (by omega)) hT
        refine s_L_kernel_298 ?_
        rw [gi_add]
        exact z_ker_157f (q := q + 1) hR hr hc hw hs k
      · rw [Int.zero_add, ml_rest]
        rfl
    rw [gi_rem (by omega) (by omega) (by decide) (by decide), Int.tmod_eq_emod_of_nonneg (by omega), gi_eq (a := ((rkF f : Nat) : Int) % 2) (b := 0) (by omega) (by omega) (by decide) (by decide)]
    refine ⟨fun x => ?_, fun x => ?_⟩
    · exact body (-1) (by rw [sgn_even, if_neg (by omega)])
    · exact body 1 (by rw [sgn_even, if_pos (by omega)])
theorem z_ker_138 (hR : Ru f I J B) (hc : c ≤ 199) (hw : w ≤ 1190) (k : ∀ I' J', QF I I' → JQ J J' → Q (.inl (.int (gi 1))) I' J' B) :
    ∀ (d r : Nat), r + d = 2 ^ (f 0).toNat → (∀ r2 q2, r2 < r → q2 < 2 ^ (f 0).toNat → bdG f r2 q2) → gG E 157 138 [(0, .inr (3, 0, 0)), (1, .inr (49, 0, 0)), (3, .inl (.int (gi (rkF f : Nat)))), (4, .inl (.int (gi 1))), (5, .inl (.int (gi (r : Int))))] [] I J B c w Q X
  | 0, r, hr, hb => by
    have h0 := hR.1.1.1
    have h5 := hR.1.2
    have hp2 := pow32 (f 0).toNat (by omega)
    refine s_L_kernel_138 ?_
    rw [sh_n hR.1 hR.2.2.2.2, gi_le (by omega) (by omega) (by omega) (by omega)]
    refine ⟨fun _ => ?_, fun z => by omega⟩
    refine z_ker_end hR hc hw ?_ k
    rw [(sv_link hR.1.1).mpr fun r2 q2 h1 h2 h3 h4 => hb r2 q2 (by omega) h2 h3 h4]
    rfl
  | d + 1, r, hr, hb => by
    have h0 := hR.1.1.1
    have h5 := hR.1.2
    have hp2 := pow32 (f 0).toNat (by omega)
    refine s_L_kernel_138 ?_
    rw [sh_n hR.1 hR.2.2.2.2, gi_le (by omega) (by omega) (by omega) (by omega)]
    refine ⟨fun z => by omega, fun _ => ⟨fun z => absurd z (by decide), fun _ => ?_⟩⟩
    exact z_ker_157 hR (by omega) hc hw hb (fun hb2 => z_ker_138 hR hc hw k d (r + 1) (by omega) hb2) k _ 0 (Nat.zero_add _) (fun q2 h => absurd h (Nat.not_lt_zero q2))
/-- the rows, times the kernel's vector -/
theorem z_ker_74 {i : Nat} (hr : rgB f = false) (hi : i < (f 0).toNat) (k : ∀ I J c w, Ru f I J B → QF I0 I → JQ J0 J → c ≤ 30 + 15 * i → w ≤ 180 + 90 * i → gG E 157 60 [(0, .inr (3, 0, 0)), (1, .inr (49, 0, 0)), (3, .inl (.int (gi ((i + 1 : Nat) : Int))))] [] I J B c w Q X) :
    ∀ (d j : Nat) (I : gI) (J : gJ) (c w : Nat), j + d = (f 0).toNat → Ru f I J B → QF I0 I → JQ J0 J → c + 3 * d ≤ 30 + 15 * i → w + 18 * d ≤ 180 + 90 * i → gG E 157 74 [(0, .inr (3, 0, 0)), (1, .inr (49, 0, 0)), (3, .inl (.int (gi (i : Int)))), (4, .inl (.long (gj (sm (lA f i) (fun j => keF f j) j)))), (6, .inl (.int (gi (j : Int))))] [] I J B c w Q X
  | 0, j, I, J, c, w, hj, hR, hq, hjq, hc, hw => by
    have h0 := hR.1.1.1
    have h5 := hR.1.2
    have hb := sm_bd (u := lA f i) (x := fun j => keF f j) (b := 50) (d := 31) (k := j) (fun c _ => hR.1.dgb _) (fun c _ => by have := ke_bd hR.1.1 (c : Int); show (keF f (c : Int)).natAbs ≤ 31; omega)
    have hz := Cg.z.mp ((ke_ok hR.1.1 hr).2.2.2 i hi)
    refine s_L_kernel_74 ?_
    rw [hR.2.2.2.2.1, gi_le (by omega) (by omega) (by omega) (by omega), gi_add]
    refine ⟨fun _ => ?_, fun z => by omega⟩
    refine z_lmod hR.1 hR.2.2.2.2 (by omega) (by omega) ?_
    rw [show j = (f 0).toNat by omega, hz]
    refine ⟨fun _ => ?_, fun z => absurd rfl z⟩
    exact k I J c w hR hq hjq (by omega) (by omega)
  | d + 1, j, I, J, c, w, hj, hR, hq, hjq, hc, hw => by
    have h0 := hR.1.1.1
    have h5 := hR.1.2
    have hk := ke_bd hR.1.1 (j : Int)
    have hd := hR.1.dgb ((i : Int) - (j : Int))
    have ha : (lA f i j).natAbs ≤ 50 := hd
    refine s_L_kernel_74 ?_
    rw [hR.2.2.2.2.1, gi_le (by omega) (by omega) (by omega) (by omega)]
    refine ⟨fun z => by omega, fun _ => ?_⟩
    refine z_lat hR.1 hR.2.2.2.2 hi (by omega) ?_
    refine ⟨⟨by omega, by omega⟩, ?_⟩
    refine qok (c_kernel (by omega) (by omega) hR.s) (by show (if _ then _ else _) = 0; rw [if_pos ⟨by omega, by omega⟩, if_neg (by rw [hr]; decide)]) fun I1 J1 q1 j1 => ?_
    have hR1 := hR.q q1 j1
    show gG _ _ _ _ _ _ _ _ _ _ _ _
    have e0 : Int32.toInt64 (gi (keF f (j : Int))) = gj (keF f (j : Int)) := gij (by omega) (by omega)
    have e1 : Int32.toInt64 (gi (rM (some f) fun f => keF f (j : Int))) = gj (keF f (j : Int)) := e0
    rw [e1, gij (by omega) (by omega), gj_mul, gj_add, gi_add]
    exact z_ker_74 hr hi k d (j + 1) I1 J1 (c + 3) (w + 18) (by omega) hR1 (hq.tr q1) (hjq.tr j1) (by omega) (by omega)
theorem z_ker_60 (hr : rgB f = false) (k : ∀ I' J', QF I0 I' → JQ J0 J' → Q (.inl (.int (gi 1))) I' J' B) :
    ∀ (d i : Nat) (I : gI) (J : gJ) (c w : Nat), i + d = (f 0).toNat → Ru f I J B → QF I0 I → JQ J0 J → c ≤ 15 + 15 * i → w ≤ 90 + 90 * i → gG E 157 60 [(0, .inr (3, 0, 0)), (1, .inr (49, 0, 0)), (3, .inl (.int (gi (i : Int))))] [] I J B c w Q X
  | 0, i, I, J, c, w, hi, hR, hq, hjq, hc, hw => by
    have h0 := hR.1.1.1
    have h5 := hR.1.2
    refine s_L_kernel_60 ?_
    rw [hR.2.2.2.2.1, gi_le (by omega) (by omega) (by omega) (by omega)]
    refine ⟨fun _ => ?_, fun z => by omega⟩
    refine z_lrank hR.1 hR.2.2.2.2 ?_
    show gG _ _ _ _ _ _ _ _ _ _ _ _
    exact z_ker_138 hR (by omega) (by omega) (fun I' J' q j => k I' J' (hq.tr q) (hjq.tr j)) _ 0 (Nat.zero_add _) (fun r2 q2 h => absurd h (Nat.not_lt_zero r2))
  | d + 1, i, I, J, c, w, hi, hR, hq, hjq, hc, hw => by
    have h0 := hR.1.1.1
    have h5 := hR.1.2
    refine s_L_kernel_60 ?_
    rw [hR.2.2.2.2.1, gi_le (by omega) (by omega) (by omega) (by omega)]
    refine ⟨fun z => by omega, fun _ => ?_⟩
    exact z_ker_74 (I0 := I0) (J0 := J0) hr (by omega) (fun I J c w a1 a2 a3 a4 a5 => z_ker_60 hr k d (i + 1) I J c w (by omega) a1 a2 a3 (by omega) (by omega)) (f 0).toNat 0 I J c w (by omega) hR hq hjq (by omega) (by omega)
theorem z_ker_24 (hr : rgB f = false) (k : ∀ I' J', QF I0 I' → JQ J0 J' → Q (.inl (.int (gi 1))) I' J' B) :
    ∀ (d i : Nat) (I : gI) (J : gJ) (c w : Nat), i + d = (f 0).toNat → (knS f).2.2.1 ≤ i → Ru f I J B → QF I0 I → JQ J0 J → c + 3 * d ≤ 15 → w + 18 * d ≤ 90 → gG E 157 24 [(0, .inr (3, 0, 0)), (1, .inr (49, 0, 0)), (2, .inl (.int (gi ((knS f).2.2.1 : Nat)))), (3, .inl (.int (gi (i : Int))))] [] I J B c w Q X
  | 0, i, I, J, c, w, hi, hl, hR, hq, hjq, hc, hw => by
    have h0 := hR.1.1.1
    have h5 := hR.1.2
    refine s_L_kernel_24 ?_
    rw [hR.2.2.2.2.1, gi_le (by omega) (by omega) (by omega) (by omega)]
    refine ⟨fun _ => ?_, fun z => by omega⟩
    exact z_ker_60 (I0 := I0) (J0 := J0) hr k (f 0).toNat 0 I J c w (by omega) hR hq hjq (by omega) (by omega)
  | d + 1, i, I, J, c, w, hi, hl, hR, hq, hjq, hc, hw => by
    have h0 := hR.1.1.1
    have h5 := hR.1.2
    have hk := ke_bd hR.1.1 (i : Int)
    refine s_L_kernel_24 ?_
    rw [hR.2.2.2.2.1, gi_le (by omega) (by omega) (by omega) (by omega)]
    refine ⟨fun z => by omega, fun _ => ⟨⟨by omega, by omega⟩, ?_⟩⟩
    refine qok (c_kernel (by omega) (by omega) hR.s) (by show (if _ then _ else _) = 0; rw [if_pos ⟨by omega, by omega⟩, if_neg (by rw [hr]; decide)]) fun I1 J1 q1 j1 => ?_
    have hR1 := hR.q q1 j1
    have go : gG E 157 52 [(0, .inr (3, 0, 0)), (1, .inr (49, 0, 0)), (2, .inl (.int (gi ((knS f).2.2.1 : Nat)))), (3, .inl (.int (gi (i : Int))))] [] I1 J1 B (c + 3) (w + 18) Q X := by
      refine s_L_kernel_52 ?_
      rw [gi_add]
      exact z_ker_24 hr k d (i + 1) I1 J1 (c + 3) (w + 18) (by omega) (by omega) hR1 (hq.tr q1) (hjq.tr j1) (by omega) (by omega)
    show (¬ gi (i : Int) = gi ((knS f).2.2.1 : Nat) → _) ∧ (gi (i : Int) = gi ((knS f).2.2.1 : Nat) → _)
    rw [gi_eq (by omega) (by omega) (by omega) (by omega)]
    refine ⟨fun z => ⟨fun _ => go, fun y => absurd ?_ y⟩, fun z => ⟨fun _ => go, fun y => absurd ?_ y⟩⟩
    · show gi (keF f (i : Int)) = gi 0
      unfold keF
      rw [if_neg z, if_neg (by omega)]
    · show gi (keF f (i : Int)) = gi 1
      unfold keF
      rw [if_pos z]
theorem z_ker_2 (hr : rgB f = false) (hR : Ru f I J B) (k : ∀ I' J', QF I I' → JQ J J' → Q (.inl (.int (gi 1))) I' J' B) :
    ∀ (d i : Nat), i + d = (knS f).2.2.1 → gG E 157 2 [(0, .inr (3, 0, 0)), (1, .inr (49, 0, 0)), (2, .inl (.int (gi (i : Int))))] [] I J B 0 0 Q X
  | d, i, hi => by
    have h0 := hR.1.1.1
    have h5 := hR.1.2
    obtain ⟨g1, g2, g3, -⟩ := ke_ok hR.1.1 hr
    obtain ⟨c1, c2⟩ := ml_all (f 0).toNat (by omega) (i + 1) (by omega)
    refine s_L_kernel_2 ?_
    rw [gi_add]
    refine z_lfirst (k := i + 1) (by omega) ?_
    show gC _ _ _ _ _ _ _ _
    refine z_lfree hR.1 hR.2.2.2.2 c2 (fun hF => ?_) (fun hF => ?_)
    · refine ⟨fun z => absurd z (by decide), fun _ => ?_⟩
      cases d with
      | zero => exact absurd (by rw [show (knS f).2.2.1 = i by omega]; exact hF) (g3 h5)
      | succ d => exact z_ker_2 hr hR k d (i + 1) (by omega)
    · refine ⟨fun _ => ?_, fun z => absurd rfl z⟩
      cases d with
      | zero =>
        have g := z_ker_24 (I0 := I) (J0 := J) (X := X) (E := E) hr k ((f 0).toNat - i) i I J 0 0 (by omega) (by omega) hR QF.rf JQ.rf (by omega) (by omega)
        rw [show (knS f).2.2.1 = i by omega] at g
        exact g
      | succ d => exact absurd (g2 i (by omega)) hF
theorem z_kernel (hr : rgB f = false) (hR : Ru f I J B) (k : ∀ I' J', QF I I' → JQ J J' → Q (.inl (.int (gi 1))) I' J' B) : gC E 157 [.inr (3, 0, 0), .inr (49, 0, 0)] I J B Q X :=
  e_L_kernel (z_ker_2 hr hR k _ 0 (Nat.zero_add _))
/-- the law's 'solutions' -/
theorem z_solutions {a u : Nat} (hR : Ru f I J B) (hd : I 48 0 0 1 = gi (a : Int)) (hU : Un u B) (hu : 100 ≤ u) (hu2 : u + 25 ≤ 400) (k : ∀ I' J' B', Ru f I' J' B' → I' 48 0 0 1 = gi (a : Int) → Un (u + 25) B' → Q (.inl (.int (gi 1))) I' J' B') : gC E 156 [.inr (3, 0, 0), .inr (49, 0, 0)] I J B Q X := by
  have h0 := hR.1.1.1
  have h5 := hR.1.2
  have hp := pr_b hR.1.1.2.1
  have hdl := det_link (f := f) (k := (f 0).toNat) hR.1.1.2.1
  have hds := det_sm (k := (f 0).toNat) hR.1.1
  have hdb := det_b (f := f) (k := (f 0).toNat) hR.1.1.2.1
  have hreg : rgB f = true ↔ detF f (f 1) (f 0).toNat ≠ 0 := by
    rw [det_reg hR.1.1.2.1]
    exact decide_eq_true_iff
  have hL := hR.2.2.2.2
  refine e_L_solutions (z_lregular hR.1 hL ?_)
  rw [hdl]
  by_cases hz : detF f (f 1) (f 0).toNat = 0
  · have hr : rgB f = false := by
      cases h : rgB f with
      | false => rfl
      | true => exact absurd hz (hreg.mp h)
    rw [if_pos hz]
    refine ⟨fun z => absurd rfl z, fun _ => ⟨⟨by omega, by omega⟩, ?_⟩⟩
    refine z_thr (j := 2) (by decide) (fun Q X k2 => e_L_calls_11 ⟨⟨by decide, by decide⟩, qno (c_solution (by decide) (by decide) hR.s) (by show (if _ then _ else _) = 3; rw [if_pos ⟨by omega, by omega⟩, if_neg (by rw [hr]; decide)]) k2⟩) fun I1 J1 q1 j1 => ?_
    have hR1 := hR.q q1 j1
    refine ⟨fun z => absurd rfl z, fun _ => ⟨⟨by omega, by omega⟩, ?_⟩⟩
    refine z_thr (j := 2) (by decide) (fun Q X k2 => e_L_calls_12 ⟨⟨by decide, by decide⟩, qno (c_inverse (by decide) (by decide) (by decide) (by decide) hR1.s) (by show (if _ then _ else _) = 3; rw [if_pos ⟨⟨by omega, by omega⟩, by omega, by omega⟩, if_neg (by rw [hr]; decide)]) k2⟩) fun I2 J2 q2 j2 => ?_
    have hR2 := hR1.q q2 j2
    obtain ⟨cc, nx, hh, hC2⟩ := hR2.2.2.1
    refine ⟨fun z => absurd rfl z, fun _ => ⟨⟨by omega, by omega⟩, ?_⟩⟩
    refine z_thr (j := 2) (by decide) (fun Q X k2 => e_L_calls_28 ⟨⟨by decide, by decide⟩, c_lift hR2.1.1 hR2.2.1 hC2 hR2.2.2.2.1 (fun y => by rw [hr] at y; cases y) (fun _ I' q => k2 I' J2 q JQ.rf)⟩) fun I3 J3 q3 j3 => ?_
    have hR3 := hR2.q q3 j3
    obtain ⟨cc3, nx3, hh3, hC3⟩ := hR3.2.2.1
    refine ⟨fun z => absurd rfl z, fun _ => ⟨⟨by omega, by omega⟩, ?_⟩⟩
    refine z_thr (j := 2) (by decide) (fun Q X k2 => e_L_calls_29 ⟨⟨by decide, by decide⟩, c_refine (by decide) (by decide) hR3.1.1 hR3.2.1 hC3 hR3.2.2.2.1 (fun _ y => by rw [hr] at y; cases y) (fun _ I' q => k2 I' J3 q JQ.rf)⟩) fun I4 J4 q4 j4 => ?_
    have hR4 := hR3.q q4 j4
    refine ⟨fun z => absurd rfl z, fun _ => ⟨⟨by omega, by omega⟩, ?_⟩⟩
    refine z_kernel hr hR4 fun I5 J5 q5 j5 => ?_
    refine ⟨fun z => absurd z (by decide), fun _ => ⟨Or.inr rfl, ?_⟩⟩
    refine k I5 J5 B (hR4.q q5 j5) ?_ (fun m h1 h2 => hU m (by omega) h2)
    exact (q5 48 0 0 1 (by unfold KQ; omega)).trans ((q4 48 0 0 1 (by unfold KQ; omega)).trans ((q3 48 0 0 1 (by unfold KQ; omega)).trans ((q2 48 0 0 1 (by unfold KQ; omega)).trans ((q1 48 0 0 1 (by unfold KQ; omega)).trans hd))))
  · rw [if_neg hz]
    refine ⟨fun _ => ?_, fun z => absurd z (by decide)⟩
    rw [hL.1, show gi (f 0) = gi (((f 0).toNat : Nat) : Int) by rw [show (((f 0).toNat : Nat) : Int) = f 0 by omega]]
    refine z_lminor (Nat.le_refl _) hR.1 hL ?_
    rw [hdl]
    show gC _ _ _ _ _ _ _ _
    refine z_lundone hR.1 hL (by omega) hdb.2 fun t t1 t2 ht => ?_
    show gG _ _ _ _ _ _ _ _ _ _ _ _
    exact z_sol_88 (hreg.mpr hz) t1 t2 (by rw [hdl]; exact ht) hu hu2 k (f 0).toNat 0 I J B 0 0 (by omega) hR hd (fun m h1 h2 => hU m (by omega) h2) (by omega) (by omega)
end KE
