/-! ===== append ===== -/
def bW (W : Nat → Int32) (q : Nat) : Int32 := (W (q / 4) >>> (gi (24 - 8 * ((q % 4 : Nat) : Int)) &&& 31)) &&& gi 255
def FA (nb : Nat) (I I' : gI) : Prop := ∀ a b c d, ¬ (a = 4 ∧ d = 1) → ¬ (a = 5 ∧ nb ≤ d) → I' a b c d = I a b c d
def FAm (nb : Nat) (I I' : gI) : Prop := ∀ a b c d, ¬ (a = 31 ∧ (d = 0 ∨ d = 7)) → ¬ (a = 35 ∧ nb ≤ d) → I' a b c d = I a b c d
section YG
variable {E : gEn} {Q : gQt} {X : gXt} {I : gI} {J : gJ} {B : gB} {y5 : Int32} {cc w nb : Nat} {W : Nat → Int32}
theorem Bt_8 {z : Int32} {i : Nat} (hi : i < 8) : Bt (Int8.toInt32 (Int32.toInt8 z)) i = Bt z i := by
  unfold Bt
  rw [Int8.toBitVec_toInt32, Int32.toBitVec_toInt8, BitVec.getLsbD_signExtend, BitVec.getLsbD_signExtend]
  rw [decide_eq_true (show i < 32 by omega), decide_eq_true hi, if_pos hi, if_pos (show i < 32 by omega), Bool.true_and, Bool.true_and]
theorem Bt_255 : ∀ i, i < 32 → Bt (gi 255) i = decide (i < 8) := by decide
theorem byte_ok {z : Int32} : (Int8.toInt32 (Int32.toInt8 (Int8.toInt32 (Int32.toInt8 z)))) &&& gi 255 = z &&& gi 255 := by
  refine Bt_ext fun i hi => ?_
  rw [Bt_and, Bt_and, Bt_255 i hi]
  by_cases h : i < 8
  · rw [Bt_8 h, Bt_8 h]
  · rw [decide_eq_false h, Bool.and_false, Bool.and_false]
theorem FA.rf : FA nb I I := fun _ _ _ _ _ _ => rfl
theorem FA.tr {I' I2 : gI} (h : FA nb I I') (h2 : FA nb I' I2) : FA nb I I2 := fun a b c d h3 h4 => (h2 a b c d h3 h4).trans (h a b c d h3 h4)
theorem z_pwL {wd : Nat} (hp : nb + 4 * wd + 4 ≤ 700) (k : ∀ I', FA nb I I' → I' 4 0 0 1 = gi ((nb + 4 * (wd + 1) : Nat) : Int) → (∀ q, q < 4 * (wd + 1) → I' 5 0 0 (nb + q) &&& gi 255 = bW W q) → Q (.inl .null) I' J B) : ∀ (j i : Nat) (I1 : gI), 4 - i = j → i ≤ 4 → FA nb I I1 → I1 4 0 0 1 = gi ((nb + 4 * wd + i : Nat) : Int) → (∀ q, q < 4 * wd + i → I1 5 0 0 (nb + q) &&& gi 255 = bW W q) → gG E 21 3 [(0, .inr (4, 0, 0)), (1, .inl (.int (W wd))), (2, .inl (.int (gi (24 - 8 * (i : Int)))))] [] I1 J B 0 0 Q X := by
  intro j
  induction j with
  | zero =>
    intro i I1 h1 h2 fr e hq
    have hi : i = 4 := by omega
    subst hi
    exact s_X3_putWord_3 ⟨fun _ => k I1 fr e hq, fun z => absurd (by decide) z⟩
  | succ j ih =>
    intro i I1 h1 h2 fr e hq
    refine s_X3_putWord_3 ⟨fun z => ?_, fun _ => ⟨fun z => ?_, fun _ => ⟨fun z => ?_, fun _ => ⟨?_, ?_⟩⟩⟩⟩
    · rw [gi_lt (by omega) (by omega) (by omega) (by omega)] at z; omega
    · rw [e, gi_lt (by omega) (by omega) (by omega) (by omega)] at z; omega
    · rw [e, gi_le (by omega) (by omega) (by omega) (by omega)] at z; omega
    · rw [e]; exact gvp (by omega) (by omega) (by decide)
    · rw [e, gi_c (by omega) (by omega), gtn, show gi (24 - 8 * (i : Int)) + gi (-8) = gi (24 - 8 * ((i + 1 : Nat) : Int)) by rw [gi_add]; exact congrArg gi (by omega), show gi ((nb + 4 * wd + i : Nat) : Int) + gi 1 = gi ((nb + 4 * wd + (i + 1) : Nat) : Int) from gi_add _ _]
      refine ih (i + 1) _ (by omega) (by omega) (fun a b c d z1 z2 => ?_) gu_s (fun q hq2 => ?_)
      · rw [gUI_at, if_neg (by omega), gUI_at, if_neg (by omega)]
        exact fr a b c d z1 z2
      · rw [gUI_at, if_neg (by omega), gUI_at]
        by_cases z : q = 4 * wd + i
        · rw [if_pos ⟨rfl, rfl, rfl, by omega⟩, byte_ok]
          unfold bW
          rw [show q / 4 = wd by omega, show q % 4 = i by omega]
        · rw [if_neg (by omega)]
          exact hq q (by omega)
theorem z_pw {wd : Nat} (hp : nb + 4 * wd + 4 ≤ 700) (e : I 4 0 0 1 = gi ((nb + 4 * wd : Nat) : Int)) (hq : ∀ q, q < 4 * wd → I 5 0 0 (nb + q) &&& gi 255 = bW W q) (k : ∀ I', FA nb I I' → I' 4 0 0 1 = gi ((nb + 4 * (wd + 1) : Nat) : Int) → (∀ q, q < 4 * (wd + 1) → I' 5 0 0 (nb + q) &&& gi 255 = bW W q) → Q (.inl .null) I' J B) : gC E 21 [.inr (4, 0, 0), .inl (.int (W wd))] I J B Q X :=
  e_X3_putWord (z_pwL hp k 4 0 I rfl (by decide) FA.rf e hq)
theorem c_append (hnb : nb ≤ 700) (e : I 4 0 0 1 = gi nb) (k1 : nb ≤ 680 → ∀ I', FA nb I I' → I' 4 0 0 1 = gi ((nb + 20 : Nat) : Int) → (∀ q, q < 20 → I' 5 0 0 (nb + q) &&& gi 255 = bW W q) → Q (.inl (.int (gi ((nb + 20 : Nat) : Int)))) I' J B) (k0 : ¬ nb ≤ 680 → Q (.inl (.int (gi (-1)))) I J B) : gC E 52 [.inr (3, 0, 0), .inl (.int (W 0)), .inl (.int (W 1)), .inl (.int (W 2)), .inl (.int (W 3)), .inl (.int (W 4))] I J B Q X := by
  refine e_X7_append ⟨fun z => ?_, fun z => k0 ?_⟩
  · rw [e, gi_le (by omega) (by omega) (by omega) (by omega)] at z
    refine z_pw (nb := nb) (W := W) (wd := 0) (by omega) e (fun q hq => absurd hq (Nat.not_lt_zero q)) fun I1 f1 e1 q1 => ?_
    show gC _ _ _ _ _ _ _ _
    refine z_pw (nb := nb) (W := W) (wd := 1) (by omega) e1 q1 fun I2 f2 e2 q2 => ?_
    show gC _ _ _ _ _ _ _ _
    refine z_pw (nb := nb) (W := W) (wd := 2) (by omega) e2 q2 fun I3 f3 e3 q3 => ?_
    show gC _ _ _ _ _ _ _ _
    refine z_pw (nb := nb) (W := W) (wd := 3) (by omega) e3 q3 fun I4 f4 e4 q4 => ?_
    show gC _ _ _ _ _ _ _ _
    refine z_pw (nb := nb) (W := W) (wd := 4) (by omega) e4 q4 fun I5 f5 e5 q5 => ?_
    show Q (.inl (.int (I5 4 0 0 1))) I5 J B
    rw [e5]
    exact k1 (by omega) I5 ((((f1.tr f2).tr f3).tr f4).tr f5) e5 q5
  · rw [e, gi_le (by omega) (by omega) (by omega) (by omega)] at z
    omega
theorem m_apL (hnb : nb ≤ 680) {I0 : gI} (k : ∀ I', FAm nb I0 I' → I' 31 0 0 0 = gi 0 → I' 31 0 0 7 = gi ((nb + 20 : Nat) : Int) → (∀ q, q < 20 → I' 35 0 0 (nb + q) = bW W q) → Q (.inl (.int (gi ((nb + 20 : Nat) : Int)))) I' J B) : ∀ (j i : Nat) (I1 : gI), 20 - i = j → i ≤ 20 → FAm nb I0 I1 → I1 31 0 0 0 = gi 0 → I1 31 0 0 7 = gi nb → (∀ q, q < i → I1 35 0 0 (nb + q) = bW W q) → gG E 136 23 [(0, .inr (31, 0, 0)), (1, .inl (.int (W 0))), (2, .inl (.int (W 1))), (3, .inl (.int (W 2))), (4, .inl (.int (W 3))), (5, .inl (.int (W 4))), (6, .inl (.int (gi i)))] [] I1 J B 0 0 Q X := by
  intro j
  induction j with
  | zero =>
    intro i I1 h1 h2 fr e0 e hq
    have hi : i = 20 := by omega
    subst hi
    refine s_X8_append_23 ⟨fun _ => ?_, fun z => absurd (by rw [gi_le (by omega) (by omega) (by omega) (by omega)]; omega) z⟩
    rw [e, show gi (nb : Int) + gi 20 = gi ((nb + 20 : Nat) : Int) from gi_add _ _]
    refine k _ (fun a b c d z1 z2 => ?_) ((gu_o (by decide)).trans e0) gu_s (fun q hq2 => ?_)
    · rw [gUI_at, if_neg (by omega)]; exact fr a b c d z1 z2
    · rw [gUI_at, if_neg (by omega)]; exact hq q hq2
  | succ j ih =>
    intro i I1 h1 h2 fr e0 e hq
    have key : ∀ v : Int32, v = W (i / 4) → (¬ (gi 4 : Int32) = gi 0) ∧ (vp_in ((I1 31 0 0 7) + gi i) 700 ∧ (gG E 136 23 [(0, .inr (31, 0, 0)), (1, .inl (.int (W 0))), (2, .inl (.int (W 1))), (3, .inl (.int (W 2))), (4, .inl (.int (W 3))), (5, .inl (.int (W 4))), (6, .inl (.int (gi i + gi 1)))] [] (gUI I1 35 0 0 (Int32.toNatClampNeg ((I1 31 0 0 7) + gi i)) ((v >>> (((gi 24) - ((gi 8) * (gi i - gi i / (gi 4) * (gi 4)))) &&& 31)) &&& (gi 255))) J B 0 0 Q X)) := fun v hv => by
      rw [e, show gi (nb : Int) + gi (i : Int) = gi ((nb + i : Nat) : Int) from gi_add _ _, gi_c (by omega) (by omega), gtn, gi_rem (by omega) (by omega) (by omega) (by omega), gi_mul, gi_sub, show gi (i : Int) + gi 1 = gi ((i + 1 : Nat) : Int) from gi_add _ _]
      refine ⟨by decide, gvp (by omega) (by omega) (by decide), ih (i + 1) _ (by omega) (by omega) (fun a b c d z1 z2 => ?_) ?_ ?_ (fun q hq2 => ?_)⟩
      · rw [gUI_at, if_neg (by omega)]; exact fr a b c d z1 z2
      · rw [gUI_at, if_neg (by omega)]; exact e0
      · rw [gUI_at, if_neg (by omega)]; exact e
      · rw [gUI_at]
        by_cases z : q = i
        · rw [if_pos ⟨rfl, rfl, rfl, by omega⟩, z, hv]
          unfold bW
          rw [show ((i : Int)).tmod 4 = ((i % 4 : Nat) : Int) from rfl]
        · rw [if_neg (by omega)]
          exact hq q (by omega)
    refine s_X8_append_23 ⟨fun z => ?_, fun _ => ⟨fun z4 => ⟨fun z8 => ⟨fun z12 => ⟨fun z16 => key _ ?_, fun z16 => key _ ?_⟩, fun z12 => key _ ?_⟩, fun z8 => key _ ?_⟩, fun z4 => key _ ?_⟩⟩
    · rw [gi_le (by omega) (by omega) (by omega) (by omega)] at z; omega
    · rw [gi_le (by omega) (by omega) (by omega) (by omega)] at z16
      exact congrArg W (by omega)
    · rw [gi_le (by omega) (by omega) (by omega) (by omega)] at z12 z16
      exact congrArg W (by omega)
    · rw [gi_le (by omega) (by omega) (by omega) (by omega)] at z8 z12
      exact congrArg W (by omega)
    · rw [gi_le (by omega) (by omega) (by omega) (by omega)] at z4 z8
      exact congrArg W (by omega)
    · rw [gi_le (by omega) (by omega) (by omega) (by omega)] at z4
      exact congrArg W (by omega)
theorem m_append (hnb : nb ≤ 700) (e : I 31 0 0 7 = gi nb) (k1 : nb ≤ 680 → ∀ I', FAm nb I I' → I' 31 0 0 7 = gi ((nb + 20 : Nat) : Int) → (∀ q, q < 20 → I' 35 0 0 (nb + q) = bW W q) → Q (.inl (.int (gi ((nb + 20 : Nat) : Int)))) I' J B) (k0 : ¬ nb ≤ 680 → ∀ I', T0 I I' → Q (.inl (.int (gi (-1)))) I' J B) : gC E 136 [.inr (31, 0, 0), .inl (.int (W 0)), .inl (.int (W 1)), .inl (.int (W 2)), .inl (.int (W 3)), .inl (.int (W 4))] I J B Q X := by
  refine e_X8_append ⟨fun z => ?_, fun z => k0 ?_ _ T0.rf.up⟩
  · rw [e, gi_add, gi_le (by omega) (by omega) (by omega) (by omega)] at z
    exact m_apL (W := W) (I0 := I) (by omega) (fun I' f _ e7 q => k1 (by omega) I' f e7 q) 20 0 _ rfl (by decide) (fun a b c d z1 z2 => if_neg (by omega)) gu_s ((gu_o (by decide)).trans e) (fun q hq => absurd hq (Nat.not_lt_zero q))
  · rw [e, gi_add, gi_le (by omega) (by omega) (by omega) (by omega)] at z
    omega
theorem Rl.app {I' : gI} (hR : Rl I J B) (fb : ∀ a b c d, a ≠ 4 → a ≠ 5 → ¬ (a = 31 ∧ (d = 0 ∨ d = 7)) → a ≠ 35 → I' a b c d = I a b c d) (hB : Buf I') : Rl I' J B := by
  obtain ⟨o, c, nx, h, hS, hC, hD, hz, hBk, hF, hT⟩ := id hR.1
  refine ⟨⟨o, c, nx, h, ?_, hC.to (fun d => fb 13 0 0 d (by omega) (by omega) (by omega) (by omega)) (fun a b d z1 z2 z3 z4 => fb a b 0 d (by omega) (by omega) (by omega) (by omega)) (fun a b d z1 z2 z3 => rfl), hD.to hC.2.2.1 (fb 31 0 0 4 (by omega) (by omega) (by omega) (by omega)) (fun i z1 _ => fb 33 0 0 i (by omega) (by omega) (by omega) (by omega)), hz, hBk, hB, fun s hs => (hT s hs).to hs (fb 16 0 0 s (by omega) (by omega) (by omega) (by omega)) (fb 34 0 0 s (by omega) (by omega) (by omega) (by omega)) (fun a d z1 z2 => fb a (11 + s) 0 d (by omega) (by omega) (by omega) (by omega)) (fun a d z1 => rfl) (fun i z1 _ => fb 33 0 0 i (by omega) (by omega) (by omega) (by omega)) (fun _ z => z)⟩, fun z s hs => (fb 34 0 0 s (by omega) (by omega) (by omega) (by omega)).trans (hR.2 ((fb 31 0 0 1 (by omega) (by omega) (by omega) (by omega)).symm.trans z) s hs)⟩
  cases o with
  | none =>
    obtain ⟨g1, g2, g3, g4, g5⟩ := hS
    exact ⟨(fb 31 0 0 1 (by omega) (by omega) (by omega) (by omega)).trans g1, (fb 6 0 0 0 (by omega) (by omega) (by omega) (by omega)).trans g2, (fb 6 0 0 1 (by omega) (by omega) (by omega) (by omega)).trans g3, (fb 6 0 0 9 (by omega) (by omega) (by omega) (by omega)).trans g4, (fb 32 0 0 0 (by omega) (by omega) (by omega) (by omega)).trans g5⟩
  | some f =>
    obtain ⟨g1, g2, g3, g4⟩ := hS
    exact ⟨(fb 31 0 0 1 (by omega) (by omega) (by omega) (by omega)).trans g1, g2, g3.to (fun a d z1 z2 => fb a 0 0 d (by omega) (by omega) (by omega) (by omega)) (fun a d z => rfl), g4.to fun q hq => fb 32 0 0 q (by omega) (by omega) (by omega) (by omega)⟩
theorem k_append (hR : Rl I J B) (y : Ly E y5) (k : Kx E Q X y5 cc w) : gG E 313 292 (lls y5) [] I J B cc w Q X := by
  obtain ⟨y1, y2, y3, y4, y6⟩ := y
  obtain ⟨o, c2, nx, hh, hS, hC, hD, hz, hB, hF, hT⟩ := id hR.1
  obtain ⟨nb, b1, b2, b3, b4, b5, b6⟩ := id hF
  have g := s_L_law_292 (E := E) (Q := Q) (X := X) (y5 := y5) (I := I) (J := J) (B := B) (c := cc) (w := w)
  refine g ⟨y1, y2, y3, y4, y6, ?_⟩
  refine c_append (W := fun i => gXs E (Int32.toNatClampNeg (y5 + gi ((i + 1 : Nat) : Int)))) b1 b2 (fun hn I1 f1 e1 q1 => ?_) (fun hn => ?_)
  · refine And.intro y1 (And.intro y2 (And.intro y3 (And.intro y4 (And.intro y6 ?_))))
    refine m_append (nb := nb) (W := fun i => gXs E (Int32.toNatClampNeg (y5 + gi ((i + 1 : Nat) : Int)))) b1 ((f1 31 0 0 7 (by omega) (by omega)).trans b3) (fun _ I2 f2 e2 q2 => And.intro (fun _ => k _ _ _ ?_ _ _ (by omega) (by omega)) (fun z => absurd rfl z)) (fun z => absurd hn z)
    have fr : ∀ a b c d, a ≠ 4 → a ≠ 5 → ¬ (a = 31 ∧ (d = 0 ∨ d = 7)) → a ≠ 35 → I2 a b c d = I a b c d := fun a b c d z1 z2 z3 z4 => (f2 a b c d z3 (by omega)).trans (f1 a b c d (by omega) (by omega))
    have bufs : Buf I2 := by
      refine ⟨nb + 20, by omega, (f2 4 0 0 1 (by omega) (by omega)).trans e1, e2, fun q hq => ?_, ?_, ?_⟩
      · by_cases z : q < nb
        · rw [f2 35 0 0 q (by omega) (by omega), f1 35 0 0 q (by omega) (by omega), f2 5 0 0 q (by omega) (by omega), f1 5 0 0 q (by omega) (by omega)]
          exact b4 q z
        · obtain ⟨r, rfl⟩ : ∃ r, q = nb + r := ⟨q - nb, by omega⟩
          rw [q2 r (by omega), f2 5 0 0 _ (by omega) (by omega), q1 r (by omega)]
      · rw [f2 31 0 0 8 (by omega) (by omega), f1 31 0 0 8 (by omega) (by omega), f2 4 0 0 3 (by omega) (by omega), f1 4 0 0 3 (by omega) (by omega)]; exact b5
      · rw [f2 31 0 0 9 (by omega) (by omega), f1 31 0 0 9 (by omega) (by omega), f2 4 0 0 3 (by omega) (by omega), f1 4 0 0 3 (by omega) (by omega), f2 4 0 0 4 (by omega) (by omega), f1 4 0 0 4 (by omega) (by omega)]; exact b6
    exact hR.app fr bufs
  · refine And.intro y1 (And.intro y2 (And.intro y3 (And.intro y4 (And.intro y6 ?_))))
    exact m_append (nb := nb) (W := fun i => gXs E (Int32.toNatClampNeg (y5 + gi ((i + 1 : Nat) : Int)))) b1 b3 (fun z => absurd z hn) (fun _ I2 t2 => And.intro (fun _ => k _ _ _ (hR.q t2.q (fun _ _ _ _ _ => rfl)) _ _ (by omega) (by omega)) (fun z => absurd rfl z))
end YG
