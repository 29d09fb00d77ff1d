/-! ===== the reference's stores ===== -/
def Mst (g : Nat → Int) (I : gI) (b : Nat) : Prop := ∀ q, q < 408 → I 33 0 0 (408 * b + q) = gi (g q)
def F33 (b : Nat) (I I' : gI) : Prop := ∀ a x y d, ¬ (a = 33 ∧ 408 * b ≤ d ∧ d < 408 * b + 408) → I' a x y d = I a x y d
def F32 (I I' : gI) : Prop := ∀ a x y d, a ≠ 32 → I' a x y d = I a x y d
theorem F33.rf {b : Nat} {I : gI} : F33 b I I := fun _ _ _ _ _ => rfl
theorem F32.rf {I : gI} : F32 I I := fun _ _ _ _ _ => rfl
theorem gst {b q : Nat} (hb : b < 11) (hq : q < 408) : vp_in (gi 408 * gi (b : Int) + gi (q : Int)) 4488 ∧ Int32.toNatClampNeg (gi 408 * gi (b : Int) + gi (q : Int)) = 408 * b + q := by
  rw [gi_mul, gi_add, gi_c (by omega) (by omega)]
  exact ⟨gvp (by omega) (by omega) (by decide), by omega⟩
section YJ
variable {E : gEn} {Q : gQt} {X : gXt} {I : gI} {J : gJ} {B : gB} {c w : Nat} {f : Nat → Int} {o : Option (Nat → Int)} {a b d : Int}
theorem z_kp_l {s : Nat} (hs : s < 11) (hM : Mrow f I) (h : ∀ I', F33 s I I' → Mst f I' s → Q (.inl .null) I' J B) : ∀ (d q : Nat) (I' : gI), q + d = 408 → F33 s I I' → (∀ j, j < q → I' 33 0 0 (408 * s + j) = gi (f j)) → gG E 239 2 [(0, .inr (31, 0, 0)), (1, .inl (.int (gi s))), (2, .inl (.int (gi q)))] [] I' J B c w Q X
  | 0, q, I', hq, hF, hI => by
    obtain rfl : q = 408 := hq
    exact s_X8_keeps_2 ⟨fun _ => h I' hF hI, fun z => absurd (Int32.le_refl _) z⟩
  | d + 1, q, I', hq, hF, hI => by
    obtain ⟨g1, g2⟩ := gst (q := q) hs (by omega)
    refine s_X8_keeps_2 ?_
    rw [gi_le (by decide) (by decide) (by omega) (by omega), g2, gi_c (by omega) (by omega), gtn, (hF 32 0 0 q (fun h => absurd h.1 (by decide))).trans (hM q (by omega)), gi_add (q : Int) 1]
    refine ⟨fun z => by omega, fun _ => ⟨gvp (by omega) (by omega) (by decide), g1, z_kp_l hs hM h d (q + 1) _ (by omega) (fun a x y u hu => ?_) fun j hj => ?_⟩⟩
    · rw [gUI_at, if_neg (fun h => hu (by omega))]
      exact hF a x y u hu
    · rw [gUI_at]
      by_cases hjq : j = q
      · rw [if_pos ⟨rfl, rfl, rfl, by omega⟩, hjq]
      · rw [if_neg (fun h => by omega)]
        exact hI j (by omega)
theorem z_kp {s : Nat} (hs : s < 11) (hM : Mrow f I) (h : ∀ I', F33 s I I' → Mst f I' s → Q (.inl .null) I' J B) : gC E 239 [.inr (31, 0, 0), .inl (.int (gi s))] I J B Q X :=
  e_X8_keeps (z_kp_l hs hM h 408 0 I (by omega) F33.rf fun j hj => absurd hj (Nat.not_lt_zero j))
theorem z_ft_l {s : Nat} (hs : s < 11) (hM : Mst f I s) (h : ∀ I', F32 I I' → Mrow f I' → Q (.inl .null) I' J B) : ∀ (d q : Nat) (I' : gI), q + d = 408 → F32 I I' → (∀ j, j < q → I' 32 0 0 j = gi (f j)) → gG E 240 2 [(0, .inr (31, 0, 0)), (1, .inl (.int (gi s))), (2, .inl (.int (gi q)))] [] I' J B c w Q X
  | 0, q, I', hq, hF, hI => by
    obtain rfl : q = 408 := hq
    exact s_X8_fetches_2 ⟨fun _ => h I' hF hI, fun z => absurd (Int32.le_refl _) z⟩
  | d + 1, q, I', hq, hF, hI => by
    obtain ⟨g1, g2⟩ := gst (q := q) hs (by omega)
    refine s_X8_fetches_2 ?_
    rw [gi_le (by decide) (by decide) (by omega) (by omega), g2, gi_c (by omega) (by omega), gtn, (hF 33 0 0 (408 * s + q) (by decide)).trans (hM q (by omega)), gi_add (q : Int) 1]
    refine ⟨fun z => by omega, fun _ => ⟨g1, gvp (by omega) (by omega) (by decide), z_ft_l hs hM h d (q + 1) _ (by omega) (fun a x y u hu => ?_) fun j hj => ?_⟩⟩
    · rw [gUI_at, if_neg (fun h => hu h.1)]
      exact hF a x y u hu
    · rw [gUI_at]
      by_cases hjq : j = q
      · rw [if_pos ⟨rfl, rfl, rfl, hjq⟩, hjq]
      · rw [if_neg (fun h => hjq h.2.2.2)]
        exact hI j (by omega)
theorem z_ft {s : Nat} (hs : s < 11) (hM : Mst f I s) (h : ∀ I', F32 I I' → Mrow f I' → Q (.inl .null) I' J B) : gC E 240 [.inr (31, 0, 0), .inl (.int (gi s))] I J B Q X :=
  e_X8_fetches (z_ft_l hs hM h 408 0 I (by omega) F32.rf fun j hj => absurd hj (Nat.not_lt_zero j))
/-! how many lifts -/
def ltF : Nat → Nat → (Nat → Int) → Int
  | 0, n, f => if exB f then n else -1
  | d + 1, n, f => if exB f then n else ltF d (n + 1) (lfF f)
def ltR (f : Nat → Int) : Int := if rgB f then ltF (md (f 1) - (f 36).toNat) 0 f else if exB f then 0 else -1
theorem lf_1 : lfF f 1 = f 1 := lf_lo (by decide)
theorem lf_0 : lfF f 0 = f 0 := lf_lo (by decide)
theorem lf_rg : rgB (lfF f) = rgB f := by
  unfold rgB rkF
  rw [lf_0, lf_1]
  have : mtF (lfF f) (f 1) ((f 0).toNat) = mtF f (f 1) ((f 0).toNat) := by
    unfold mtF
    rw [lf_dg]
  rw [this]
theorem md_36 (hv : Vf f) : (f 36).toNat ≤ md (f 1) ∧ md (f 1) ≤ 39 := ⟨(md_le hv.p.1).mp hv.pw.2, pow_lim hv.p.1 (md_s hv.p.1).1⟩
theorem Lrd.fl {I' : gI} (h : Lrd f I) (hF : FL 1 I I') : Lrd f I' := Gr.fr h (fun c d => hF 17 1 c d (by omega) (by decide)) (fun c d => hF 19 1 c d (by omega) (by decide))
theorem c_lt_l {D : Nat} {r : Int} (hD : D ≤ 39) (h : ∀ I' J', QF I I' → JQ J J' → Q (.inl (.int (gi r))) I' J' B) : ∀ (d n : Nat) (g : Nat → Int) (I' : gI) (J' : gJ), n + d = D → Vf g → (g 36).toNat + d = md (g 1) → exB g = false → Rst g I' J' 1 → Lrd g I' → QF I I' → JQ J J' → ltF d n g = r → gG E 91 65 [(0, .inr (3, 0, 0)), (1, .inl (.int (gi D))), (2, .inl (.int (gi ((n + 1 : Nat) : Int))))] [] I' J' B c w Q X
  | 0, n, g, I', J', hn, hv, hm, he, hR, hL, q, j, hr => by
    refine s_X7_liftsTo_65 ?_
    rw [gi_lt (by omega) (by omega) (by omega) (by omega)]
    unfold ltF at hr
    rw [he] at hr
    have hr : (-1 : Int) = r := hr
    rw [← hr] at h
    exact ⟨fun _ => h I' J' q j, fun z => by omega⟩
  | d + 1, n, g, I', J', hn, hv, hm, he, hR, hL, q, j, hr => by
    have hw := hv.pw
    refine s_X7_liftsTo_65 ?_
    rw [gi_lt (by omega) (by omega) (by omega) (by omega)]
    refine ⟨fun z => by omega, fun _ => z_add hv hR hL fun I2 J2 fl fj hR2 => ?_⟩
    have hv2 := hv.lf (by omega)
    refine z_solve hv2 hR2 fun J3 ff => ?_
    have q2 := q.tr fl.q
    have j2 := j.tr (fj.q.tr ff.q)
    have hr : (if exB g then (n : Int) else ltF d (n + 1) (lfF g)) = r := hr
    rw [he] at hr
    have hr : ltF d (n + 1) (lfF g) = r := hr
    have hR3 : Rst (lfF g) I2 J3 1 := hR2.to (fun _ _ _ _ => rfl) (fun a d ha => ff a 1 d (by omega) (by omega))
    have hm2 : ((lfF g) 36).toNat + d = md ((lfF g) 1) := by
      rw [lf_36, lf_1]
      omega
    cases hx : exB (lfF g) with
    | false =>
      refine ⟨fun _ => ?_, fun z => absurd rfl z⟩
      rw [gi_add]
      exact c_lt_l hD h d (n + 1) (lfF g) I2 J3 (by omega) hv2 hm2 hx hR3 ((hL.lf).fl fl) q2 j2 hr
    | true =>
      refine ⟨fun z => absurd z (by decide), fun _ => ?_⟩
      have : r = ((n + 1 : Nat) : Int) := by
        rw [← hr]
        cases d with
        | zero => show (if exB (lfF g) then _ else _) = _; rw [hx]; rfl
        | succ d => show (if exB (lfF g) then _ else _) = _; rw [hx]; rfl
      rw [← this]
      exact h I2 J3 q2 j2
theorem c_liftsTo (hS : Sys o I J) : Cl E 91 [.inr (3, 0, 0)] I J B (eM o fun _ => 0) (.inl (.int (gi (rM o fun f => ltR f)))) :=
  Cl.of hS (fun h Q X k => e_X7_liftsTo ⟨⟨by decide, by decide⟩, z_rs0 h k⟩) fun f hv hR Q X k1 k2 => e_X7_liftsTo ⟨⟨by decide, by decide⟩, z_rs hv hR (z_solve hv hR fun J2 ff => by
    have k1 := k1 rfl
    have hm := md_36 hv
    have hw := hv.pw
    have hR2 : Rst f I J2 0 := hR.to (fun _ _ _ _ => rfl) (fun a d ha => ff a 0 d (by omega) (by omega))
    unfold ltR at k1
    cases hx : exB f with
    | true =>
      refine ⟨fun z => absurd z (by decide), fun _ => ?_⟩
      have hz : (if rgB f then ltF (md (f 1) - (f 36).toNat) 0 f else if exB f then 0 else -1) = 0 := by
        rw [hx]
        cases rgB f with
        | false => rfl
        | true =>
          show ltF (md (f 1) - (f 36).toNat) 0 f = 0
          cases md (f 1) - (f 36).toNat with
          | zero => show (if exB f then _ else _) = _; rw [hx]; rfl
          | succ d => show (if exB f then _ else _) = _; rw [hx]; rfl
      rw [hz] at k1
      exact k1 I J2 QF.rf ff.q
    | false =>
      refine ⟨fun _ => z_prep hv hR2 fun I3 fg hL => ?_, fun z => absurd rfl z⟩
      cases hr : rgB f with
      | false =>
        rw [hr, hx] at k1
        exact ⟨fun z => absurd rfl z, fun _ => k1 I3 J2 fg.q ff.q⟩
      | true =>
        rw [hr] at k1
        refine ⟨fun _ => z_become (by decide) fun I4 J4 fs fj hb => ?_, fun z => absurd z (by decide)⟩
        have hR4 := hb f hv (QF.rst fg.q JQ.rf hR2 (by decide))
        have hL4 : Lrd f I4 := Gr.fr hL (fun c d => fs 17 1 c d (by omega)) (fun c d => fs 19 1 c d (by omega))
        refine z_lim hv.2.1 hR4.1.2.1 ?_
        show gG _ _ _ _ _ _ _ _ _ _ _ _
        rw [hR4.2.1, gi_sub, show ((md (f 1) : Nat) : Int) - f 36 = ((md (f 1) - (f 36).toNat : Nat) : Int) by omega]
        exact c_lt_l (I := I) (J := J) (by omega) k1 (md (f 1) - (f 36).toNat) 0 f I4 J4 (by omega) hv (by omega) hx hR4 hL4 (fg.q.tr fs.q) (ff.q.tr fj.q) rfl)⟩
theorem m_lt_e {y1 : Int32} {x : Bool} (hS : Mst f I 0) (h : ∀ I', F32 I I' → Mrow f I' → Q (.inl (.int (if x then y1 else gi (-1)))) I' J B) : gC E 240 [.inr (31, 0, 0), .inl (.int (gi 0))] I J B (fun v I16 J17 B18 => ((gi (bI x) = gi 0 → (Q (.inl (.int (gi (-1)))) I16 J17 B18)) ∧ (¬ gi (bI x) = gi 0 → (Q (.inl (.int y1)) I16 J17 B18)))) X := by
  refine z_ft (s := 0) (by decide) hS fun I' f3 hM => ?_
  have := h I' f3 hM
  cases x with
  | false => exact ⟨fun _ => this, fun z => absurd rfl z⟩
  | true => exact ⟨fun z => absurd z (by decide), fun _ => this⟩
def FLm (I I' : gI) : Prop := ∀ a b c d, a ≠ 32 → a ≠ 38 → a ≠ 39 → ¬ (a = 31 ∧ d = 21) → ¬ (a = 33 ∧ d < 408) → I' a b c d = I a b c d
theorem FLm.tr {I' I2 : gI} (h : FLm I I') (h2 : FLm I' I2) : FLm I I2 := fun a b c d h3 h4 h5 h6 h7 => (h2 a b c d h3 h4 h5 h6 h7).trans (h a b c d h3 h4 h5 h6 h7)
theorem FR.m {I' : gI} (h : FR I I') : FLm I I' := fun a b c d h1 h2 h3 h4 _ => h a b c d h1 h2 h3 h4
theorem F32.m {I' : gI} (h : F32 I I') : FLm I I' := fun a b c d h1 _ _ _ _ => h a b c d h1
theorem FLm.q {I' : gI} (h : FLm I I') (h0 : Mrow f I) (h1 : Mrow f I') : QF I I' := fun a b c d hk => by
  by_cases h3 : a = 32
  · subst h3
    obtain ⟨rfl, rfl, hd⟩ : b = 0 ∧ c = 0 ∧ d < 408 := by unfold KQ at hk; omega
    exact (h1 d hd).trans (h0 d hd).symm
  · exact h a b c d h3 (by unfold KQ at hk; omega) (by unfold KQ at hk; omega) (by unfold KQ at hk; omega) (by unfold KQ at hk; omega)
theorem ltF_t {g : Nat → Int} {d n : Nat} (h : exB g = true) : ltF d n g = n := by
  cases d with
  | zero => show (if exB g then _ else _) = _; rw [h]; rfl
  | succ d => show (if exB g then _ else _) = _; rw [h]; rfl
theorem m_lt_l {r : Int} (hf : Mrow f I) (h : ∀ I' J', FLm I I' → Mrow f I' → JQ J J' → Q (.inl (.int (gi r))) I' J' B) : ∀ (d n : Nat) (g : Nat → Int) (I' : gI) (J' : gJ), n + d ≤ 39 → Vf g → (rgB g = true → (g 36).toNat + d = md (g 1)) → (rgB g = false → d = 0) → Mrow g I' → Mst f I' 0 → FLm I I' → JQ J J' → ltF d n g = r → gG E 230 21 [(0, .inr (31, 0, 0)), (1, .inl (.int (gi n))), (2, .inl (.int (gi (bI (exB g)))))] [] I' J' B c w Q X
  | d, n, g, I', J', hn, hv, hm, hm0, hM, hS, hF, hj, hr => by
    refine s_X8_liftsTo_21 ?_
    cases hx : exB g with
    | true =>
      refine ⟨fun _ => m_lt_e (x := true) hS fun I2 f3 hM2 => ?_, fun z => absurd z (by decide)⟩
      rw [ltF_t hx] at hr
      rw [← hr] at h
      exact h I2 J' (hF.tr f3.m) hM2 hj
    | false =>
      refine ⟨fun z => absurd rfl z, fun _ => z_can hv hM fun I2 fp => ?_⟩
      have hS2 : Mst f I2 0 := fun q hq => (fp 33 0 0 _ (by decide) (fun h => absurd h.1 (by decide))).trans (hS q hq)
      have hF2 : FLm I I2 := hF.tr (fun a b c d h1 h2 h3 h4 _ => fp a b c d h2 h4)
      cases d with
      | zero =>
        have h0 : (if (g 36).toNat < md (g 1) then bI (rgB g) else 0) = 0 := by
          cases hrg : rgB g with
          | true => rw [if_neg (by have := hm hrg; omega)]
          | false => split <;> rfl
        rw [h0]
        refine ⟨fun _ => m_lt_e (x := false) hS2 fun I3 f3 hM3 => ?_, fun z => absurd rfl z⟩
        have hr : (if exB g then (n : Int) else -1) = r := hr
        rw [hx] at hr
        have hr : (-1 : Int) = r := hr
        rw [← hr] at h
        exact h I3 J' (hF2.tr f3.m) hM3 hj
      | succ d =>
        have hrg : rgB g = true := by
          cases hh : rgB g with
          | true => rfl
          | false => exact absurd (hm0 hh) (Nat.succ_ne_zero d)
        have hm := hm hrg
        have h36 := hv.pw.1
        rw [hrg, if_pos (by omega)]
        refine ⟨fun z => absurd z (by decide), fun _ => z_lf hv (hM.fpg fp) fun I3 fr hM3 => ?_⟩
        have hv3 := hv.lf (by omega)
        refine z_ex hv3 hM3 fun J4 fx => ?_
        show gG _ _ _ _ _ _ _ _ _ _ _ _
        rw [gi_add]
        have hr : (if exB g then (n : Int) else ltF d (n + 1) (lfF g)) = r := hr
        rw [hx] at hr
        have hr : ltF d (n + 1) (lfF g) = r := hr
        exact m_lt_l hf h d (n + 1) (lfF g) I3 J4 (by omega) hv3 (fun _ => by rw [lf_36, lf_1]; omega) (fun z => by rw [lf_rg, hrg] at z; cases z) hM3 (fun q hq => (fr 33 0 0 _ (by decide) (by decide) (by decide) (fun h => absurd h.1 (by decide))).trans (hS2 q hq)) (hF2.tr fr.m) (hj.tr fx.q) hr
  termination_by d => d
theorem m_liftsTo (hS : Sys o I J) : Ml E 230 [.inr (31, 0, 0)] I J B (eM o fun _ => 0) (.inl (.int (gi (rM o fun f => ltR f)))) :=
  Ml.of hS (fun h Q X k => e_X8_liftsTo (z_ns0 h fun I' t g => ⟨fun g2 => absurd g2 (by decide), fun _ => k I' t g _⟩)) fun f hv hM hs Q X k => e_X8_liftsTo (z_ns1 hs fun I' t g => ⟨fun _ => z_kp (s := 0) (by decide) (t.mrow hM) fun I2 f3 hS2 => by
    have hM2 : Mrow f I2 := (t.mrow hM).to fun k hk => f3 32 0 0 k (fun h => absurd h.1 (by decide))
    refine z_ex hv hM2 fun J3 fx => ?_
    have hm := md_36 hv
    have fq : QF I' I2 := fun a b c d hk => f3 a b c d (by unfold KQ at hk; omega)
    have fin : ∀ I4 J4, FLm I2 I4 → Mrow f I4 → JQ J3 J4 → Q (.inl (.int (gi (ltR f)))) I4 J4 B := fun I4 J4 fl h4 j4 => Kok k (t.q.tr (fq.tr (fl.q hM2 h4))) (fx.q.tr j4) ((fl 31 0 0 0 (by decide) (by decide) (by decide) (by decide) (by decide)).trans ((f3 31 0 0 0 (fun h => absurd h.1 (by decide))).trans g)) rfl rfl
    cases hr : rgB f with
    | true => exact m_lt_l hM2 fin (md (f 1) - (f 36).toNat) 0 f I2 J3 (by omega) hv (fun _ => by omega) (fun z => by rw [hr] at z; cases z) hM2 hS2 (fun _ _ _ _ _ _ _ _ _ => rfl) JQ.rf (by unfold ltR; rw [hr]; rfl)
    | false => exact m_lt_l hM2 fin 0 0 f I2 J3 (by omega) hv (fun z => by rw [hr] at z; cases z) (fun _ => rfl) hM2 hS2 (fun _ _ _ _ _ _ _ _ _ => rfl) JQ.rf (by
      unfold ltR
      rw [hr]
      show (if exB f then ((0 : Nat) : Int) else -1) = (if exB f then 0 else -1)
      rfl), fun z => absurd rfl z⟩)
end YJ
