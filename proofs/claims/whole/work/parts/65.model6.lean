/-! ===== the model's solutions, fractions, lifts ===== -/
section ZX
variable {E : gEn} {Q : gQt} {X : gXt} {I : gI} {J : gJ} {B : gB} {c w : Nat} {p : Int} {f : Nat → Int}
/-- frames of the model's scratch: the grid, where the pivots stand, and p -/
def Fgl (I I' : gI) : Prop := ∀ a b c d, a ≠ 38 → a ≠ 39 → ¬ (a = 31 ∧ d = 21) → I' a b c d = I a b c d
theorem Fgl.rf {I : gI} : Fgl I I := fun _ _ _ _ _ _ _ => rfl
theorem Fgl.tr {I I' I2 : gI} (h : Fgl I I') (h2 : Fgl I' I2) : Fgl I I2 := fun a b c d h3 h4 h5 => (h2 a b c d h3 h4 h5).trans (h a b c d h3 h4 h5)
theorem Fpg.toL {I I' : gI} (h : Fpg I I') : Fgl I I' := fun a b c d h1 _ h2 => h a b c d h1 h2
theorem F389.toL {I I' : gI} (h : F389 I I') : Fgl I I' := fun a b c d h1 h2 _ => h a b c d h1 h2
theorem Mrow.fgl {I' : gI} (h : Mrow f I) (hF : Fgl I I') : Mrow f I' := fun k hk => (hF 32 0 0 k (by decide) (by decide) (fun h => absurd h.1 (by decide))).trans (h k hk)
theorem M0n {I : gI} (hv : Vf f) (hM : Mrow f I) : I 32 0 0 0 = gi ((f 0).toNat : Nat) := by
  have h0 := hv.1
  rw [hM 0 (by decide), show (((f 0).toNat : Nat) : Int) = f 0 by omega]
theorem setp {x : Int32} : Fpg I (gUI I 31 0 0 21 x) := fun a b c d h1 h2 => by
  rw [gUI_at, if_neg (fun h => h2 ⟨h.1, h.2.2.2⟩)]
theorem setp_v {x : Int32} : (gUI I 31 0 0 21 x) 31 0 0 21 = x := if_pos ⟨rfl, rfl, rfl, rfl⟩
/-- the grid with a column -/
theorem Gm.col {I' : gI} {n i : Nat} {M M' : gMx} (hn : n ≤ 7) (hG : Gm I n 0 n M) (hI : ∀ a, I' 38 0 0 a = if a = 8 * i + 7 then gi (M' i n) else I 38 0 0 a) (hM : ∀ a b, a < n → b ≤ n → ¬ (a = i ∧ b = n) → M' a b = M a b) : Gm I' n 0 n M' := fun a b h1 h2 h3 => by
  have hc := cmx_lt (j := b) hn
  rw [hI]
  by_cases h4 : a = i ∧ b = n
  · obtain ⟨rfl, rfl⟩ := h4
    rw [if_pos (by unfold cmx; rw [if_neg (Nat.lt_irrefl _)])]
  · rw [if_neg, hM a b h2 h3 h4]
    · exact hG a b h1 h2 h3
    · intro h5
      have h6 : a = i := by omega
      have h7 : cmx n b = 7 := by omega
      unfold cmx at h7
      split at h7
      · omega
      · exact h4 ⟨h6, by omega⟩
theorem z_rw_l {r0 : Nat} {b : Nat → Int} (hv : Vf f) (hr0 : r0 ≤ 400) (hb : ∀ i, i < (f 0).toNat → b i = f (r0 + i)) (hbb : ∀ i, i < (f 0).toNat → -2147483648 ≤ f (r0 + i) ∧ f (r0 + i) < 2147483648) (hp : I 31 0 0 21 = gi (f 1)) (hM : Mrow f I)
    (h : ∀ I', F389 I I' → Gm I' ((f 0).toNat) 0 ((f 0).toNat) (sdF f b) → Lds I' ((f 0).toNat) ((f 0).toNat) (elF (f 1) ((f 0).toNat) (mbF f (f 1) ((f 0).toNat) b) ((f 0).toNat)) → Q (.inl (.int (gi (rkF f : Nat)))) I' J B) :
    ∀ (d i : Nat) (I' : gI), i + d = (f 0).toNat → F38 I I' → Gm I' ((f 0).toNat) 0 ((f 0).toNat) (fun a x => if x < (f 0).toNat then dg f ((a : Int) - (x : Int)) % f 1 else if x = (f 0).toNat ∧ a < i then b a % f 1 else 0) →
      gG E 204 16 [(0, .inr (31, 0, 0)), (1, .inl (.int (gi r0))), (2, .inl (.int (gi i)))] [] I' J B c w Q X
  | 0, i, I', hi, hF, hG => by
    have h0 := hv.1
    have hp1 := hv.p
    refine s_X8_reducesWith_16 ⟨gvp (by decide) (by decide) (by decide), ?_⟩
    rw [M0n hv (hM.f38 hF), gi_le (by omega) (by omega) (by omega) (by omega)]
    refine ⟨fun _ => ?_, fun h1 => by omega⟩
    refine z_rd (I := I') (n := (f 0).toNat) (M0 := mbF f (f 1) ((f 0).toNat) b) (by omega) (M0n hv (hM.f38 hF)) (by omega) (by omega) ((hF 31 0 0 21 (by decide)).trans hp) (Rg.mb (by omega)) (fun a x h1 h2 h3 => ?_) fun I3 f3 g3 l3 => ?_
    · rw [hG a x h1 h2 h3]
      unfold mbF
      dsimp only
      congr 1
      split
      · rfl
      · by_cases hx : x = (f 0).toNat
        · rw [if_pos ⟨hx, by omega⟩, if_pos hx]
        · rw [if_neg (fun h => hx h.1), if_neg hx]
    · rw [rk_mb]
      exact h I3 (hF.to9.tr f3) g3 l3
  | d + 1, i, I', hi, hF, hG => by
    have h0 := hv.1
    have hp1 := hv.p
    obtain ⟨a1, a2, a3⟩ := gidx (show i < 7 by omega) (show 7 < 8 by decide)
    have a1' : gi 8 * gi (i : Int) + gi 7 = gi ((8 * i + 7 : Nat) : Int) := a1
    have hM2 := hM.f38 hF
    obtain ⟨c1, c2⟩ := hbb i (by omega)
    refine s_X8_reducesWith_16 ⟨gvp (by decide) (by decide) (by decide), ?_⟩
    have e1 : gi (r0 : Int) + gi (i : Int) = gi ((r0 + i : Nat) : Int) := by
      rw [gi_add]
      rfl
    rw [M0n hv hM2, gi_le (by omega) (by omega) (by omega) (by omega), e1, gi_c (a := ((r0 + i : Nat) : Int)) (by omega) (by omega), gtn, hM2 (r0 + i) (by omega), a1', a2, gi_add]
    refine ⟨fun h1 => by omega, fun _ => ⟨gvp (by omega) (by omega) (by decide), z_modi c1 c2 ((hF 31 0 0 21 (by decide)).trans hp) (by omega) (by omega) ⟨a3, ?_⟩⟩⟩
    refine z_rw_l hv hr0 hb hbb hp hM h d (i + 1) _ (by omega) hF.up (hG.col (i := i) (by omega) (fun a => ?_) fun a x h1 h2 h3 => ?_)
    · rw [gUI_at]
      by_cases ha : a = 8 * i + 7
      · rw [if_pos ⟨rfl, rfl, rfl, ha⟩, if_pos ha]
        try dsimp only
        rw [if_neg (Nat.lt_irrefl _), if_pos ⟨rfl, by omega⟩, hb i (by omega)]
      · rw [if_neg (fun h => ha h.2.2.2), if_neg ha]
    · try dsimp only
      split
      · rfl
      · by_cases hx : x = (f 0).toNat ∧ a < i
        · rw [if_pos hx, if_pos ⟨hx.1, by omega⟩]
        · rw [if_neg hx, if_neg (fun h => hx ⟨h.1, by
            by_cases h4 : a = i
            · exact absurd ⟨h4, h.1⟩ h3
            · omega⟩)]
theorem z_rw {r0 : Nat} (hv : Vf f) (hM : Mrow f I) (hr0 : r0 ≤ 400) (hbb : ∀ i, i < (f 0).toNat → -2147483648 ≤ f (r0 + i) ∧ f (r0 + i) < 2147483648) (h : ∀ I', Fgl I I' → Gm I' ((f 0).toNat) 0 ((f 0).toNat) (sdF f (fun i => f (r0 + i))) → Q (.inl (.int (gi (rkF f : Nat)))) I' J B) :
    gC E 204 [.inr (31, 0, 0), .inl (.int (gi r0))] I J B Q X := by
  have h0 := hv.1
  have hp := hv.p
  refine e_X8_reducesWith ⟨gvp (by decide) (by decide) (by decide), ?_⟩
  rw [hM 1 (by decide)]
  refine z_lay (p := f 1) hv (hM.fpg setp) setp_v (by omega) (by omega) fun I2 f2 g2 => ?_
  refine z_rw_l (I := I2) (b := fun i => f (r0 + i)) hv hr0 (fun _ _ => rfl) hbb ((f2 31 0 0 21 (by decide)).trans setp_v) ((hM.fpg setp).f38 f2) (fun I3 f3 g3 _ => h I3 (setp.toL.tr (f2.toG.toL.tr f3.toL)) g3) ((f 0).toNat) 0 I2 (by omega) F38.rf fun a x h1 h2 h3 => ?_
  rw [g2 a x h1 h2 h3]
  unfold mtF
  dsimp only
  congr 1
  split
  · rfl
  · rw [if_neg (fun h => absurd h.2 (Nat.not_lt_zero a))]
theorem z_rk (hv : Vf f) (hM : Mrow f I) (h : ∀ I', Fgl I I' → Gm I' ((f 0).toNat) 0 ((f 0).toNat) (elF (f 1) ((f 0).toNat) (mtF f (f 1) ((f 0).toNat)) ((f 0).toNat)).2.2.2 → Lds I' ((f 0).toNat) ((f 0).toNat) (elF (f 1) ((f 0).toNat) (mtF f (f 1) ((f 0).toNat)) ((f 0).toNat)) → Q (.inl (.int (gi (rkF f : Nat)))) I' J B) : gC E 182 [.inr (31, 0, 0)] I J B Q X := by
  have h0 := hv.1
  have hp := hv.p
  refine e_X8_rankNow ⟨gvp (by decide) (by decide) (by decide), ?_⟩
  rw [hM 1 (by decide)]
  refine z_lay (p := f 1) hv (hM.fpg setp) setp_v (by omega) (by omega) fun I2 f2 g2 => ?_
  exact z_rd (I := I2) (n := (f 0).toNat) (M0 := mtF f (f 1) ((f 0).toNat)) (by omega) (M0n hv ((hM.fpg setp).f38 f2)) (by omega) (by omega) ((f2 31 0 0 21 (by decide)).trans setp_v) (Rg.mt (by omega)) g2 fun I3 f3 g3 l3 => h I3 (setp.toL.tr (f2.toG.toL.tr f3.toL)) g3 l3
theorem z_reg (hv : Vf f) (hM : Mrow f I) (h : ∀ I', Fpg I I' → Q (.inl (.int (gi (bI (rgB f))))) I' J B) : gC E 184 [.inr (31, 0, 0)] I J B Q X := by
  have h0 := hv.1
  have hp := hv.p
  refine e_X8_isRegularNow ⟨gvp (by decide) (by decide) (by decide), ?_⟩
  rw [M0n hv hM]
  refine z_mn hv hM (Nat.le_refl _) fun I2 f2 => ?_
  show (gi _ = gi 0 → _) ∧ (¬ gi _ = gi 0 → _)
  have hdb : 0 ≤ detF f (f 1) ((f 0).toNat) ∧ detF f (f 1) ((f 0).toNat) < f 1 := (elF_b (by omega) (Rg.mt (by omega)) _).2.1
  have hk := h I2 f2
  have hdr : detF f (f 1) (f 0).toNat ≠ 0 ↔ rkF f = (f 0).toNat := det_reg (f := f) (k := (f 0).toNat) hv.2.1
  rw [gi_eq (by omega) (by omega) (by decide) (by decide)]
  unfold rgB at hk
  refine ⟨fun h1 => ⟨Or.inl rfl, ?_⟩, fun h1 => ⟨Or.inr rfl, ?_⟩⟩
  · rw [decide_eq_false (fun h2 => hdr.mpr h2 h1)] at hk
    exact hk
  · rw [decide_eq_true (hdr.mp h1)] at hk
    exact hk
theorem z_md_l (hv : Vf f) (hM : Mrow f I) (h : Q (.inl (.int (gi (md (f 1) : Nat)))) I J B) : ∀ d k : Nat, k + d = 40 → f 1 ^ k ≤ 1000000000000 → mdF (f 1) d k = md (f 1) → gG E 210 4 [(0, .inr (31, 0, 0)), (1, .inl (.int (gi k))), (2, .inl (.long (gj (f 1 ^ k))))] [] I J B c w Q X
  | 0, k, hk, hl, _ => by
    have := pow_lim hv.p.1 hl
    omega
  | d + 1, k, hk, hl, hm => by
    have hb := hv.p
    have e1 := (pow_one hb.1 k).2
    have e2 : f 1 ^ (k + 1) = f 1 ^ k * f 1 := Int.pow_succ (f 1) k
    have e3 := Int.mul_le_mul hl hb.2 (by omega) (by decide)
    have e5 := Int.mul_le_mul e1 hb.1 (by decide) (by omega)
    refine s_X8_mostNow_4 ⟨gvp (by decide) (by decide) (by decide), ?_⟩
    rw [hM 1 (by decide), gij (by omega) (by omega), gj_mul, ← e2, lc_gt (by omega) (by omega) (by decide) (by decide), gi_add]
    unfold mdF at hm
    refine ⟨fun h0 => ?_, fun h0 => ⟨gvp (by decide) (by decide) (by decide), ?_⟩⟩
    · rw [if_neg (by omega)] at hm
      rw [← hm] at h
      exact h
    · rw [if_pos (by omega)] at hm
      exact z_md_l hv hM h d (k + 1) (by omega) (by omega) hm
theorem z_md (hv : Vf f) (hM : Mrow f I) (h : Q (.inl (.int (gi (md (f 1) : Nat)))) I J B) : gC E 210 [.inr (31, 0, 0)] I J B Q X := by
  have hh := z_md_l (E := E) (X := X) (c := 0) (w := 0) hv hM h 40 0 rfl (by rw [Int.pow_zero]; decide) rfl
  rw [Int.pow_zero] at hh
  exact e_X8_mostNow hh
theorem z_mm_l (hv : Vf f) (hM : Mrow f I) (h : Q (.inl (.long (gj (mF f)))) I J B) : ∀ d k : Nat, k + d = (f 36).toNat → gG E 211 4 [(0, .inr (31, 0, 0)), (1, .inl (.long (gj (f 1 ^ k)))), (3, .inl (.int (gi k)))] [] I J B c w Q X
  | 0, k, hk => by
    have hw := hv.pw
    have h39 := pow_lim hv.p.1 hw.2
    obtain rfl : k = (f 36).toNat := hk
    refine s_X8_modulus_4 ⟨gvp (by decide) (by decide) (by decide), ?_⟩
    rw [hM 36 (by decide), gi_le (by omega) (by omega) (by omega) (by omega)]
    exact ⟨fun _ => h, fun h1 => by omega⟩
  | d + 1, k, hk => by
    have hw := hv.pw
    have hp := hv.p
    have h39 := pow_lim hv.p.1 hw.2
    refine s_X8_modulus_4 ⟨gvp (by decide) (by decide) (by decide), ?_⟩
    rw [hM 36 (by decide), hM 1 (by decide), gi_le (by omega) (by omega) (by omega) (by omega), gij (by omega) (by omega), gj_mul, ← Int.pow_succ, gi_add]
    exact ⟨fun h1 => by omega, fun _ => ⟨gvp (by decide) (by decide) (by decide), z_mm_l hv hM h d (k + 1) (by omega)⟩⟩
theorem z_mm (hv : Vf f) (hM : Mrow f I) (h : Q (.inl (.long (gj (mF f)))) I J B) : gC E 211 [.inr (31, 0, 0)] I J B Q X := by
  have hh := z_mm_l (E := E) (X := X) (c := 0) (w := 0) hv hM h (f 36).toNat 0 (by omega)
  rw [Int.pow_zero] at hh
  exact e_X8_modulus hh
theorem z_vo_l {i : Nat} (hv : Vf f) (hM : Mrow f I) (hi : i < (f 0).toNat) (h : Q (.inl (.long (gj (vX f i)))) I J B) : ∀ (k d : Nat), k + d = (f 36).toNat → gG E 212 13 [(0, .inr (31, 0, 0)), (1, .inl (.int (gi i))), (2, .inl (.long (gj (vT f i d k)))), (4, .inl (.int (gi ((k : Int) - 1))))] [] I J B c w Q X
  | 0, d, hk => by
    refine s_X8_valueOf_13 ?_
    rw [gi_lt (by decide) (by decide) (by decide) (by decide)]
    refine ⟨fun _ => ?_, fun h1 => absurd (show (((0 : Nat) : Int) - 1) < 0 by decide) h1⟩
    rw [vX_T] at h
    obtain rfl : d = (f 36).toNat := by omega
    exact h
  | k + 1, d, hk => by
    have h0 := hv.1
    have hw := hv.pw
    have hp := hv.p
    have h39 := pow_lim hv.p.1 hw.2
    have hd := hv.dig (k := k) (i := i) (by omega) hi
    refine s_X8_valueOf_13 ?_
    rw [show (((k + 1 : Nat) : Int) - 1) = (k : Int) by omega, gi_lt (by omega) (by omega) (by decide) (by decide)]
    simp only [gi_mul, gi_add]
    rw [gi_c (by omega) (by omega), show (37 + 7 * (k : Int) + i).toNat = 37 + 7 * k + i by omega, hM 1 (by decide), hM _ (by omega), gij (by omega) (by omega), gij (by omega) (by omega), gj_mul, gj_add]
    refine ⟨fun h1 => by omega, fun _ => ⟨gvp (by decide) (by decide) (by decide), gvp (by omega) (by omega) (by decide), ?_⟩⟩
    have hh := z_vo_l hv hM hi h k (d + 1) (by omega)
    rw [show vT f i (d + 1) k = vT f i d (k + 1) * f 1 + f (37 + 7 * k + i) by show f (37 + 7 * k + i) + f 1 * vT f i d (k + 1) = _; rw [Int.mul_comm]; omega] at hh
    exact hh
theorem z_vo {i : Nat} (hv : Vf f) (hM : Mrow f I) (hi : i < (f 0).toNat) (h : Q (.inl (.long (gj (vX f i)))) I J B) : gC E 212 [.inr (31, 0, 0), .inl (.int (gi i))] I J B Q X := by
  have hw := hv.pw
  refine e_X8_valueOf ⟨gvp (by decide) (by decide) (by decide), ?_⟩
  rw [hM 36 (by decide), gi_sub]
  have hh := z_vo_l (E := E) (X := X) (c := 0) (w := 0) hv hM hi h (f 36).toNat 0 (by omega)
  rw [show (((f 36).toNat : Nat) : Int) = f 36 by omega] at hh
  exact hh
theorem z_wide {v m : Int} (h1 : 0 ≤ v) (h2 : v ≤ 1000000000001) (h3 : 0 ≤ m) (h4 : m ≤ 1000000000000) (h : Q (.inl (.int (gi (if m < 2 * v * v then 1 else 0)))) I J B) : gC E 219 [.inl (.long (gj v)), .inl (.long (gj m))] I J B Q X := by
  refine e_X8_isWide ?_
  rw [lc_le (by omega) (by omega) (by decide) (by decide), gj_eq (by omega) (by omega) (by decide) (by decide), gj_mul, gj_div (by omega) (by omega) (by omega) (by omega), Int.tdiv_eq_ediv_of_nonneg h3]
  by_cases hv0 : v ≤ 0
  · have : v = 0 := by omega
    subst this
    rw [if_neg (by omega)] at h
    exact ⟨fun _ => ⟨Or.inl rfl, h⟩, fun h5 => absurd hv0 h5⟩
  · have q1 : 0 ≤ m / v := Int.ediv_nonneg h3 h1
    have q2 : m / v ≤ m := Int.ediv_le_self _ h3
    have q3 : (2 * v ≤ m / v) ↔ 2 * v * v ≤ m := Int.le_ediv_iff_mul_le (by omega)
    rw [lc_le (by omega) (by omega) (by omega) (by omega), q3]
    refine ⟨fun h5 => absurd h5 hv0, fun _ => ⟨by omega, fun h5 => ⟨Or.inl rfl, ?_⟩, fun h5 => ⟨Or.inr rfl, ?_⟩⟩⟩
    · rw [if_neg (by omega)] at h
      exact h
    · rw [if_pos (by omega)] at h
      exact h
theorem z_com_l : ∀ (d x y : Nat), gOK d x y → x < 9223372036854775808 → y < 9223372036854775808 → Q (.inl (.long (gj ((Nat.gcd x y : Nat) : Int)))) I J B → gG E 220 6 [(4, .inl (.long (gj (x : Int)))), (6, .inl (.long (gj (y : Int))))] [] I J B c w Q X
  | 0, x, y, ho, hx, hy, h => by
    have h0 : y = 0 := ho
    subst h0
    rw [Nat.gcd_zero_right] at h
    refine s_X8_common_6 ⟨fun _ => h, fun h1 => ?_⟩
    exact absurd (lc_eqx.mpr rfl) h1
  | d + 1, x, y, ho, hx, hy, h => by
    refine s_X8_common_6 ?_
    rw [lc_eq (by omega) (by omega) (by decide) (by decide), gj_eq (by omega) (by omega) (by decide) (by decide), gj_rem (by omega) (by omega) (by omega) (by omega)]
    refine ⟨fun h0 => ?_, fun h0 => ⟨h0, ?_⟩⟩
    · have h1 : y = 0 := by omega
      subst h1
      rw [Nat.gcd_zero_right] at h
      exact h
    · rcases ho with ho | ho
      · omega
      · have hm := Nat.mod_lt x (show y > 0 by omega)
        rw [show (x : Int).tmod (y : Int) = ((x % y : Nat) : Int) from rfl]
        exact z_com_l d y (x % y) ho hy (by omega) (by rw [Nat.gcd_comm y, ← Nat.gcd_rec, Nat.gcd_comm]; exact h)
theorem z_com {a b : Int} (h1 : 0 ≤ a) (h2 : a < 9223372036854775808) (h3 : 0 ≤ b) (h4 : b ≤ 1000000000000) (h : Q (.inl (.long (gj ((Int.gcd a b : Nat) : Int)))) I J B) : gC E 220 [.inl (.long (gj a)), .inl (.long (gj b))] I J B Q X := by
  have hh := z_com_l (E := E) (X := X) (c := 0) (w := 0) 100 a.natAbs b.natAbs (gOK_100 (by omega)) (by omega) (by omega) h
  rw [show ((a.natAbs : Nat) : Int) = a by omega, show ((b.natAbs : Nat) : Int) = b by omega] at hh
  exact e_X8_common hh
/-- what stands behind the model's search -/
def frM (f : Nat → Int) (i : Nat) (Q : gQt) (I : gI) (J : gJ) (B : gB) : Prop := match frac f i with
  | none => Q (.inl (.int (gi 0))) I J B
  | some (t, b) => Q (.inl (.int (gi 1))) I (gUJ (gUJ J 31 0 28 (gj t)) 31 0 29 (gj b)) B
theorem z_ff_e {i : Nat} (hv : Vf f) (hM : Mrow f I) (hi : i < (f 0).toNat) (h36 : f 36 ≠ 0) (h : frM f i Q I J B) :
    (lg_cmp (gj (euX f i).2) (gj 0) = gi 0 → ((gi 0) = gi 0 ∨ (gi 0) = gi 1) ∧ Q (.inl (.int (gi 0))) I J B) ∧ (¬ lg_cmp (gj (euX f i).2) (gj 0) = gi 0 → gC E 306 [.inl (.long (gj (euX f i).2))] I J B (fun v16 I17 J18 B19 => gvl v16 fun r20 => (gC E 219 [.inl (.long r20), .inl (.long (gj (mF f)))] I17 J18 B19 (fun v21 I22 J23 B24 => gvi v21 fun r25 => ((¬ r25 = gi 0 → (((gi 0) = gi 0 ∨ (gi 0) = gi 1) ∧ Q (.inl (.int (gi 0))) I22 J23 B24)) ∧ (r25 = gi 0 → (vp_in (gi 1) 408 ∧ ((¬ (Int32.toInt64 (I22 32 0 0 1)) = gj 0) ∧ ((¬ (lg_cmp ((gj (euX f i).2) - (gj (euX f i).2) / (Int32.toInt64 (I22 32 0 0 1)) * (Int32.toInt64 (I22 32 0 0 1))) (gj 0)) = gi 0 → (gC E 306 [.inl (.long (gj (euX f i).2))] I22 J23 B24 (fun v26 I27 J28 B29 => gvl v26 fun r30 => (gC E 220 [.inl (.long r30), .inl (.long (gj (euX f i).1))] I27 J28 B29 (fun v31 I32 J33 B34 => gvl v31 fun r35 => ((gi 0 ≤ (lg_cmp (gj (euX f i).2) (gj 0)) → ((¬ r35 = gj 0) ∧ (gC E 306 [.inl (.long (gj (euX f i).2))] I32 (gUJ J33 31 0 28 ((gj (euX f i).1) / r35)) B34 (fun v36 I37 J38 B39 => gvl v36 fun r40 => ((¬ r35 = gj 0) ∧ (((gi 1) = gi 0 ∨ (gi 1) = gi 1) ∧ Q (.inl (.int (gi 1))) I37 (gUJ J38 31 0 29 (r40 / r35)) B39))) X))) ∧ (¬ gi 0 ≤ (lg_cmp (gj (euX f i).2) (gj 0)) → ((¬ r35 = gj 0) ∧ (gC E 306 [.inl (.long (gj (euX f i).2))] I32 (gUJ J33 31 0 28 ((-(gj (euX f i).1)) / r35)) B34 (fun v41 I42 J43 B44 => gvl v41 fun r45 => ((¬ r35 = gj 0) ∧ (((gi 1) = gi 0 ∨ (gi 1) = gi 1) ∧ Q (.inl (.int (gi 1))) I42 (gUJ J43 31 0 29 (r45 / r35)) B44))) X))))) X)) X)) ∧ ((lg_cmp ((gj (euX f i).2) - (gj (euX f i).2) / (Int32.toInt64 (I22 32 0 0 1)) * (Int32.toInt64 (I22 32 0 0 1))) (gj 0)) = gi 0 → (((gi 0) = gi 0 ∨ (gi 0) = gi 1) ∧ Q (.inl (.int (gi 0))) I22 J23 B24)))))))) X)) X) := by
  obtain ⟨e1, e2, e3, e4⟩ := hv.eu hi
  obtain ⟨m1, m2⟩ := hv.m
  have hp := hv.p
  have h0 := hv.1
  unfold frM frac at h
  rw [if_neg h36] at h
  generalize (euX f i).1 = s at *
  generalize (euX f i).2 = v at *
  rw [lc_eq (by omega) (by omega) (by decide) (by decide)]
  refine ⟨fun hv0 => ⟨Or.inl rfl, ?_⟩, fun hv0 => ?_⟩
  · rw [if_pos (Or.inl hv0)] at h
    exact h
  · have hsq : 2 * ((v.natAbs : Nat) : Int) * ((v.natAbs : Nat) : Int) = 2 * v * v := by
      rw [Int.mul_assoc, Int.mul_assoc, Int.natAbs_mul_self']
    refine z_absl (by omega) (by omega) ?_
    show gC _ _ _ _ _ _ _ _
    refine z_wide (by omega) (by omega) (by omega) m2 ?_
    rw [hsq]
    show (¬ gi _ = gi 0 → _) ∧ (gi _ = gi 0 → _)
    by_cases hw : mF f < 2 * v * v
    · rw [if_pos (Or.inr (Or.inl hw))] at h
      rw [if_pos hw]
      exact ⟨fun _ => ⟨Or.inl rfl, h⟩, fun h2 => absurd h2 (by decide)⟩
    · rw [if_neg hw]
      refine ⟨fun h2 => absurd rfl h2, fun _ => ⟨gvp (by decide) (by decide) (by decide), ?_⟩⟩
      rw [hM 1 (by decide), gij (by omega) (by omega), gj_eq (by omega) (by omega) (by decide) (by decide), gj_rem (by omega) (by omega) (by omega) (by omega)]
      have ht : (v.tmod (f 1) = 0) = (v % f 1 = 0) := propext (by rw [← Int.dvd_iff_tmod_eq_zero, ← Int.dvd_iff_emod_eq_zero])
      have hb1 := Int.tmod_lt_of_pos v (show 0 < f 1 by omega)
      have hb2 := Int.lt_tmod_of_pos v (show 0 < f 1 by omega)
      rw [lc_eq (by omega) (by omega) (by decide) (by decide), ht]
      refine ⟨by omega, fun hr => ?_, fun hr => ⟨Or.inl rfl, ?_⟩⟩
      · rw [if_neg (fun hh => hh.elim hv0 (fun hh => hh.elim hw hr))] at h
        have hg := gcd_pos (a := s) hv0
        have hg2 := gcd_le (a := s) hv0
        have hgc : Int.gcd ((v.natAbs : Nat) : Int) s = Int.gcd s v := by
          rw [Int.gcd_comm]
          show Nat.gcd s.natAbs ((v.natAbs : Nat) : Int).natAbs = _
          rw [Int.natAbs_natCast]
          rfl
        refine z_absl (by omega) (by omega) ?_
        show gC _ _ _ _ _ _ _ _
        refine z_com (by omega) (by omega) e1 (by omega) ?_
        rw [hgc]
        show (gi 0 ≤ lg_cmp _ _ → _) ∧ (¬ gi 0 ≤ lg_cmp _ _ → _)
        rw [lc_ge (by omega) (by omega) (by decide) (by decide), gj_eq (by omega) (by omega) (by decide) (by decide)]
        refine ⟨fun hv1 => ⟨by omega, z_absl (by omega) (by omega) ⟨by omega, Or.inr rfl, ?_⟩⟩, fun hv1 => ⟨by omega, z_absl (by omega) (by omega) ⟨by omega, Or.inr rfl, ?_⟩⟩⟩
        · rw [gj_div (by omega) (by omega) (by omega) (by omega), gj_div (by omega) (by omega) (by omega) (by omega)]
          rw [if_neg (by omega)] at h
          exact h
        · rw [gj_neg, gj_div (by omega) (by omega) (by omega) (by omega), gj_div (by omega) (by omega) (by omega) (by omega)]
          rw [if_pos (by omega)] at h
          exact h
      · rw [if_pos (Or.inr (Or.inr hr))] at h
        exact h
theorem z_ff_l {m : Int} {i : Nat} (hv : Vf f) (hM : Mrow f I) (hi : i < (f 0).toNat) (h36 : f 36 ≠ 0) (h : frM f i Q I J B) : ∀ (d : Nat) (r s u v : Int), EI (mF f) r s u v → euF (mF f) d r s u v = euX f i → ¬ mF f < 2 * (euF (mF f) d r s u v).1 * (euF (mF f) d r s u v).1 →
    gG E 221 33 [(0, .inr (31, 0, 0)), (2, .inl (.long (gj (mF f)))), (4, .inl (.long (gj r))), (6, .inl (.long (gj s))), (8, .inl (.long (gj u))), (10, .inl (.long (gj v)))] [] I J B c w Q X
  | 0, r, s, u, v, hE, he, hn => by
    obtain ⟨m1, m2⟩ := hv.m
    obtain ⟨b1, b2, b3, b4, b5⟩ := hE.b
    have hn : ¬ mF f < 2 * s * s := hn
    refine s_X8_findsFraction_33 (z_wide b3 (by omega) (by omega) m2 ?_)
    show (gi _ = gi 0 → _) ∧ (¬ gi _ = gi 0 → _)
    rw [if_neg hn]
    refine ⟨fun _ => ?_, fun h1 => absurd rfl h1⟩
    have he : (s, v) = euX f i := he
    have hh := z_ff_e (E := E) (X := X) hv hM hi h36 h
    rw [← he] at hh
    exact hh
  | d + 1, r, s, u, v, hE, he, hn => by
    obtain ⟨m1, m2⟩ := hv.m
    obtain ⟨b1, b2, b3, b4, b5⟩ := hE.b
    obtain ⟨c1, c2, c3, c4⟩ := id hE
    refine s_X8_findsFraction_33 (z_wide b3 (by omega) (by omega) m2 ?_)
    show (gi _ = gi 0 → _) ∧ (¬ gi _ = gi 0 → _)
    unfold euF at he hn
    by_cases hw : mF f < 2 * s * s
    · rw [if_pos hw] at he hn
      rw [if_pos hw]
      have hs0 : 0 < s := by
        apply Classical.byContradiction
        intro h9
        have : s = 0 := by omega
        subst this
        omega
      refine ⟨fun h1 => absurd h1 (by decide), fun _ => ?_⟩
      rw [gj_eq (by omega) (by omega) (by decide) (by decide), gj_div (by omega) (by omega) (by omega) (by omega), gj_mul, gj_sub, gj_mul, gj_sub, tdm, Int.tmod_eq_emod_of_nonneg (by omega), Int.tdiv_eq_ediv_of_nonneg (by omega)]
      exact ⟨by omega, z_ff_l (m := m) hv hM hi h36 h d s (r % s) v (u - r / s * v) (hE.nx hs0) he hn⟩
    · rw [if_neg hw] at he hn
      rw [if_neg hw]
      refine ⟨fun _ => ?_, fun h1 => absurd rfl h1⟩
      have he : (s, v) = euX f i := he
      have hh := z_ff_e (E := E) (X := X) hv hM hi h36 h
      rw [← he] at hh
      exact hh
theorem z_ff {i : Nat} (hv : Vf f) (hM : Mrow f I) (hi : i < (f 0).toNat) (h : frM f i Q I J B) : gC E 221 [.inr (31, 0, 0), .inl (.int (gi i))] I J B Q X := by
  have hw := hv.pw
  have h39 := pow_lim hv.p.1 hw.2
  obtain ⟨m1, m2⟩ := hv.m
  obtain ⟨x1, x2⟩ := hv.x hi
  refine e_X8_findsFraction ⟨gvp (by decide) (by decide) (by decide), ?_⟩
  rw [hM 36 (by decide), gi_eq (by omega) (by omega) (by decide) (by decide)]
  refine ⟨fun h36 => z_mm hv hM ?_, fun h36 => ⟨Or.inl rfl, ?_⟩⟩
  · show gC _ _ _ _ _ _ _ _
    refine z_vo hv hM hi ?_
    show gG _ _ _ _ _ _ _ _ _ _ _ _
    exact z_ff_l (m := 0) hv hM hi h36 h 100 (mF f) (vX f i) 0 1 ⟨x1, x2, Int.le_refl _, Or.inl ⟨by decide, by decide, by omega⟩⟩ rfl (euF_wide x1 x2 m2)
  · unfold frM frac at h
    rw [if_pos h36] at h
    exact h
end ZX
