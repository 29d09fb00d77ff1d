/-! ===== append ===== -/
def bW (W : Nat → Int32) (q : Nat) : Int32 := (W (q / 4) >>> (gi (24 - 8 * ((q % 4 : Nat) : Int)) &&& 31)) &&& gi 255
def FA (nb : Nat) (I I' : gI) : Prop := ∀ a b c d, ¬ (a = 4 ∧ d = 1) → ¬ (a = 5 ∧ nb ≤ d) → I' a b c d = I a b c d
def FAm (nb : Nat) (I I' : gI) : Prop := ∀ a b c d, ¬ (a = 31 ∧ (d = 0 ∨ d = 7)) → ¬ (a = 35 ∧ nb ≤ d) → I' a b c d = I a b c d
section YG
variable {E : gEn} {Q : gQt} {X : gXt} {I : gI} {J : gJ} {B : gB} {y5 : Int32} {cc w nb : Nat} {W : Nat → Int32}
theorem Bt_8 {z : Int32} {i : Nat} (hi : i < 8) : Bt (Int8.toInt32 (Int32.toInt8 z)) i = Bt z i := by
  unfold Bt
  rw [Int8.toBitVec_toInt32, Int32.toBitVec_toInt8, BitVec.getLsbD_signExtend, BitVec.getLsbD_signExtend]
  rw [decide_eq_true (show i < 32 by omega), decide_eq_true hi, if_pos hi, if_pos (show i < 32 by omega), Bool.true_and, Bool.true_and]
theorem Bt_255 : ∀ i, i < 32 → Bt (gi 255) i = decide (i < 8) := by decide
theorem byte_ok {z : Int32} : (Int8.toInt32 (Int32.toInt8 (Int8.toInt32 (Int32.toInt8 z)))) &&& gi 255 = z &&& gi 255 := by
  refine Bt_ext fun i hi => ?_
  rw [Bt_and, Bt_and, Bt_255 i hi]
  by_cases h : i < 8
  · rw [Bt_8 h, Bt_8 h]
  · rw [decide_eq_false h, Bool.and_false, Bool.and_false]
theorem FA.rf : FA nb I I := fun _ _ _ _ _ _ => rfl
theorem FA.tr {I' I2 : gI} (h : FA nb I I') (h2 : FA nb I' I2) : FA nb I I2 := fun a b c d h3 h4 => (h2 a b c d h3 h4).trans (h a b c d h3 h4)
theorem z_pwL {wd : Nat} (hp : nb + 4 * wd + 4 ≤ 700) (k : ∀ I', FA nb I I' → I' 4 0 0 1 = gi ((nb + 4 * (wd + 1) : Nat) : Int) → (∀ q, q < 4 * (wd + 1) → I' 5 0 0 (nb + q) &&& gi 255 = bW W q) → Q (.inl .null) I' J B) : ∀ (j i : Nat) (I1 : gI), 4 - i = j → i ≤ 4 → FA nb I I1 → I1 4 0 0 1 = gi ((nb + 4 * wd + i : Nat) : Int) → (∀ q, q < 4 * wd + i → I1 5 0 0 (nb + q) &&& gi 255 = bW W q) → gG E 21 3 [(0, .inr (4, 0, 0)), (1, .inl (.int (W wd))), (2, .inl (.int (gi (24 - 8 * (i : Int)))))] [] I1 J B 0 0 Q X := by
  intro j
  induction j with
  | zero =>
    intro i I1 h1 h2 fr e hq
    have hi : i = 4 := by omega
    subst hi
    exact s_X3_putWord_3 ⟨fun _ => k I1 fr e hq, fun z => absurd (by decide) z⟩
  | succ j ih =>
    intro i I1 h1 h2 fr e hq
    refine s_X3_putWord_3 ⟨fun z => ?_, fun _ => ⟨fun z => ?_, fun _ => ⟨fun z => ?_, fun _ => ⟨?_, ?_⟩⟩⟩⟩
    · rw [gi_lt (by omega) (by omega) (by omega) (by omega)] at z; omega
    · rw [e, gi_lt (by omega) (by omega) (by omega) (by omega)] at z; omega
    · rw [e, gi_le (by omega) (by omega) (by omega) (by omega)] at z; omega
    · rw [e]; exact gvp (by omega) (by omega) (by decide)
    · rw [e, gi_c (by omega) (by omega), gtn, show gi (24 - 8 * (i : Int)) + gi (-8) = gi (24 - 8 * ((i + 1 : Nat) : Int)) by rw [gi_add]; exact congrArg gi (by omega), show gi ((nb + 4 * wd + i : Nat) : Int) + gi 1 = gi ((nb + 4 * wd + (i + 1) : Nat) : Int) from gi_add _ _]
      refine ih (i + 1) _ (by omega) (by omega) (fun a b c d z1 z2 => ?_) gu_s (fun q hq2 => ?_)
      · rw [gUI_at, if_neg (by omega), gUI_at, if_neg (by omega)]
        exact fr a b c d z1 z2
      · rw [gUI_at, if_neg (by omega), gUI_at]
        by_cases z : q = 4 * wd + i
        · rw [if_pos ⟨rfl, rfl, rfl, by omega⟩, byte_ok]
          unfold bW
          rw [show q / 4 = wd by omega, show q % 4 = i by omega]
        · rw [if_neg (by omega)]
          exact hq q (by omega)
theorem z_pw {wd : Nat} (hp : nb + 4 * wd + 4 ≤ 700) (e : I 4 0 0 1 = gi ((nb + 4 * wd : Nat) : Int)) (hq : ∀ q, q < 4 * wd → I 5 0 0 (nb + q) &&& gi 255 = bW W q) (k : ∀ I', FA nb I I' → I' 4 0 0 1 = gi ((nb + 4 * (wd + 1) : Nat) : Int) → (∀ q, q < 4 * (wd + 1) → I' 5 0 0 (nb + q) &&& gi 255 = bW W q) → Q (.inl .null) I' J B) : gC E 21 [.inr (4, 0, 0), .inl (.int (W wd))] I J B Q X :=
  e_X3_putWord (z_pwL hp k 4 0 I rfl (by decide) FA.rf e hq)
theorem c_append (hnb : nb ≤ 700) (e : I 4 0 0 1 = gi nb) (k1 : nb ≤ 680 → ∀ I', FA nb I I' → I' 4 0 0 1 = gi ((nb + 20 : Nat) : Int) → (∀ q, q < 20 → I' 5 0 0 (nb + q) &&& gi 255 = bW W q) → Q (.inl (.int (gi ((nb + 20 : Nat) : Int)))) I' J B) (k0 : ¬ nb ≤ 680 → Q (.inl (.int (gi (-1)))) I J B) : gC E 52 [.inr (3, 0, 0), .inl (.int (W 0)), .inl (.int (W 1)), .inl (.int (W 2)), .inl (.int (W 3)), .inl (.int (W 4))] I J B Q X := by
  refine e_X7_append ⟨fun z => ?_, fun z => k0 ?_⟩
  · rw [e, gi_le (by omega) (by omega) (by omega) (by omega)] at z
    refine z_pw (nb := nb) (W := W) (wd := 0) (by omega) e (fun q hq => absurd hq (Nat.not_lt_zero q)) fun I1 f1 e1 q1 => ?_
    show gC _ _ _ _ _ _ _ _
    refine z_pw (nb := nb) (W := W) (wd := 1) (by omega) e1 q1 fun I2 f2 e2 q2 => ?_
    show gC _ _ _ _ _ _ _ _
    refine z_pw (nb := nb) (W := W) (wd := 2) (by omega) e2 q2 fun I3 f3 e3 q3 => ?_
    show gC _ _ _ _ _ _ _ _
    refine z_pw (nb := nb) (W := W) (wd := 3) (by omega) e3 q3 fun I4 f4 e4 q4 => ?_
    show gC _ _ _ _ _ _ _ _
    refine z_pw (nb := nb) (W := W) (wd := 4) (by omega) e4 q4 fun I5 f5 e5 q5 => ?_
    show Q (.inl (.int (I5 4 0 0 1))) I5 J B
    rw [e5]
    exact k1 (by omega) I5 ((((f1.tr f2).tr f3).tr f4).tr f5) e5 q5
  · rw [e, gi_le (by omega) (by omega) (by omega) (by omega)] at z
    omega
end YG
