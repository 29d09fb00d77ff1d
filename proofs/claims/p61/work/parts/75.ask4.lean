section YG
variable {E : gEn} {Q : gQt} {X : gXt} {I : gI} {J : gJ} {B : gB} {c w : Nat} {f : Nat → Int} {o : Option (Nat → Int)} {a b d : Int}
/-! questions of the refinement -/
theorem Cl.ofl {y : Nat} {args : List gV} {ge : (Nat → Int) → Nat} {gr : (Nat → Int) → Int} (hS : Sys o I J) (hno : I 6 0 0 0 = gi 0 → ∀ Q X, X 0 I J B → gC E y args I J B Q X) (hyes : ∀ f, Vf f → Rst f I J 0 → Cl E y args I J B (ge f) (.inl (.long (gj (gr f))))) : Cl E y args I J B (eM o ge) (.inl (.long (gj (rM o gr)))) := by
  cases o with
  | none => exact fun Q X _ k => hno hS.1 Q X (k 0 rfl I J QF.rf JQ.rf)
  | some f => exact hyes f hS.1 hS.2
def dM (o : Option (Nat → Int)) (g : (Nat → Int) → UInt64) : UInt64 := match o with
  | none => 0
  | some f => g f
theorem Cl.ofd {y : Nat} {args : List gV} {ge : (Nat → Int) → Nat} {gr : (Nat → Int) → UInt64} (hS : Sys o I J) (hno : I 6 0 0 0 = gi 0 → ∀ Q X, X 0 I J B → gC E y args I J B Q X) (hyes : ∀ f, Vf f → Rst f I J 0 → Cl E y args I J B (ge f) (.inl (.double (gr f)))) : Cl E y args I J B (eM o ge) (.inl (.double (dM o gr))) := by
  cases o with
  | none => exact fun Q X _ k => hno hS.1 Q X (k 0 rfl I J QF.rf JQ.rf)
  | some f => exact hyes f hS.1 hS.2
theorem JQ.up {J' : gJ} {k n j : Nat} {x : Int64} (h : JQ J J') (hk : k ≠ 6 ∧ k ≠ 10 ∧ k ≠ 46 ∧ k ≠ 47) : JQ J (gUJ J' k n j x) := fun a b d h1 h2 => by
  rw [gUJ_at, if_neg (fun h => by omega)]
  exact h a b d h1 h2
theorem c_digits (hS : Sys o I J) : Cl E 81 [.inr (3, 0, 0)] I J B (eM o fun _ => 0) (.inl (.int (gi (rM o fun f => f 36)))) :=
  Cl.of hS (fun h Q X k => e_X7_digits ⟨⟨by decide, by decide⟩, z_rs0 h k⟩) fun f hv hR Q X k1 k2 => e_X7_digits ⟨⟨by decide, by decide⟩, z_rs hv hR (by
    show Q (.inl (.int (I 6 0 0 5))) I J B
    rw [hR.2.1]
    exact k1 rfl I J QF.rf JQ.rf)⟩
theorem c_digit (h1 : -2147483648 ≤ a) (h2 : a < 2147483648) (h3 : -2147483648 ≤ b) (h4 : b < 2147483648) (hS : Sys o I J) : Cl E 83 [.inr (3, 0, 0), .inl (.int (gi a)), .inl (.int (gi b))] I J B (eM o fun f => if (0 ≤ a ∧ a < f 36) ∧ (0 ≤ b ∧ b < f 0) then 0 else 2) (.inl (.int (gi (rM o fun f => f (37 + 7 * a.toNat + b.toNat))))) :=
  Cl.of hS (fun h Q X k => e_X7_digit ⟨⟨by decide, by decide⟩, z_rs0 h k⟩) fun f hv hR Q X k1 k2 => e_X7_digit ⟨⟨by decide, by decide⟩, z_rs hv hR ⟨⟨by decide, by decide⟩, z_rr h3 h4 hv hR
    (fun g1 g2 => by
      have h0 := hv.1
      have hw := hv.pw
      have h39 := pow_lim hv.p.1 hw.2
      show (gi a < gi 0 → _) ∧ (¬ gi a < gi 0 → (gi a < I 6 0 0 5 → _) ∧ (¬ gi a < I 6 0 0 5 → _))
      rw [hR.2.1, gi_lt h1 h2 (by decide) (by decide), gi_lt h1 h2 (by omega) (by omega)]
      refine ⟨fun z => ⟨⟨by decide, by decide⟩, k2 1 (if_neg (by omega)) I J QF.rf JQ.rf⟩, fun z => ⟨fun z2 => ?_, fun z2 => ⟨⟨by decide, by decide⟩, k2 1 (if_neg (by omega)) I J QF.rf JQ.rf⟩⟩⟩
      obtain ⟨s, rfl⟩ : ∃ s : Nat, a = s := ⟨a.toNat, by omega⟩
      obtain ⟨s2, rfl⟩ : ∃ s : Nat, b = s := ⟨b.toNat, by omega⟩
      exact z_digitOf hv hR (by omega) (by omega) (k1 (if_pos ⟨⟨by omega, z2⟩, ⟨g1, g2⟩⟩) I J QF.rf JQ.rf)) (fun g => k2 1 (if_neg (fun z => g z.2)) I J QF.rf JQ.rf)⟩⟩
theorem c_value (h1 : -2147483648 ≤ a) (h2 : a < 2147483648) (hS : Sys o I J) : Cl E 85 [.inr (3, 0, 0), .inl (.int (gi a))] I J B (eM o fun f => if 0 ≤ a ∧ a < f 0 then 0 else 2) (.inl (.long (gj (rM o fun f => vX f a.toNat)))) :=
  Cl.ofl hS (fun h Q X k => e_X7_value ⟨⟨by decide, by decide⟩, z_rs0 h k⟩) fun f hv hR Q X k1 k2 => e_X7_value ⟨⟨by decide, by decide⟩, z_rs hv hR ⟨⟨by decide, by decide⟩, z_rr h1 h2 hv hR
    (fun g1 g2 => by
      have h0 := hv.1
      show vp_in _ 7 ∧ Q (.inl (.long (J 10 0 _))) I J B
      rw [gi_c h1 h2, hR.2.2.2.1 _ (by omega)]
      exact ⟨gvp g1 (by omega) (by decide), k1 (if_pos ⟨g1, g2⟩) I J QF.rf JQ.rf⟩) (fun g => k2 1 (if_neg g) I J QF.rf JQ.rf)⟩⟩
def cnF (f : Nat → Int) (i : Nat) : Int := if 2 * vX f i ≤ mF f then vX f i else vX f i - mF f
/-! fractions asked for -/
theorem z_rfr {i : Nat} (hv : Vf f) (hR : Rst f I J 0) (hi : i < (f 0).toNat) (k1 : ∀ t b, frac f i = some (t, b) → Q (.inl .null) I (gUJ (gUJ J 26 0 i (gj t)) 27 0 i (gj b)) B) (k2 : frac f i = none → X 2 I J B) : gC E 118 [.inr (3, 0, 0), .inl (.int (gi i))] I J B Q X := by
  refine e_X7_requireFraction (z_find hv hR hi ?_)
  unfold frP
  cases hf : frac f i with
  | none => exact ⟨fun z => absurd rfl z, fun _ => ⟨⟨by decide, by decide⟩, k2 hf⟩⟩
  | some z =>
    obtain ⟨t, b⟩ := z
    exact ⟨fun _ => k1 t b hf, fun z => absurd z (by decide)⟩
def fre (f : Nat → Int) (i : Nat) : Nat := match frac f i with
  | none => 3
  | some _ => 0
theorem fre_n {i : Nat} (h : frac f i = none) : fre f i = 3 := by
  unfold fre
  rw [h]
theorem fre_s {i : Nat} {t b : Int} (h : frac f i = some (t, b)) : fre f i = 0 ∧ ft f i = t ∧ fb f i = b := by
  unfold fre ft fb
  rw [h]
  exact ⟨rfl, rfl, rfl⟩
theorem c_numerator (h1 : -2147483648 ≤ a) (h2 : a < 2147483648) (hS : Sys o I J) : Cl E 87 [.inr (3, 0, 0), .inl (.int (gi a))] I J B (eM o fun f => if 0 ≤ a ∧ a < f 0 then fre f a.toNat else 2) (.inl (.int (gi (rM o fun f => ft f a.toNat)))) :=
  Cl.of hS (fun h Q X k => e_X7_numerator ⟨⟨by decide, by decide⟩, z_rs0 h k⟩) fun f hv hR Q X k1 k2 => e_X7_numerator ⟨⟨by decide, by decide⟩, z_rs hv hR ⟨⟨by decide, by decide⟩, z_rr h1 h2 hv hR
    (fun g1 g2 => by
      obtain ⟨s, rfl⟩ : ∃ s : Nat, a = s := ⟨a.toNat, by omega⟩
      have h0 := hv.1
      refine ⟨⟨by decide, by decide⟩, z_rfr hv hR (by omega) (fun t b hf => ?_) (fun hf => k2 2 ((if_pos ⟨g1, g2⟩).trans (fre_n hf)) I J QF.rf JQ.rf)⟩
      obtain ⟨e1, e2, e3⟩ := fre_s hf
      rw [gi_c h1 h2, gtn, show (gUJ (gUJ J 26 0 s (gj t)) 27 0 s (gj b)) 26 0 s = gj t from (if_neg (fun h => absurd h.1 (by decide))).trans (if_pos ⟨rfl, rfl, rfl⟩), gji, ← e2]
      exact ⟨gvp g1 (by omega) (by decide), k1 ((if_pos ⟨g1, g2⟩).trans e1) I _ QF.rf ((JQ.rf.up (by decide)).up (by decide))⟩) (fun g => k2 1 (if_neg g) I J QF.rf JQ.rf)⟩⟩
def fb0 (f : Nat → Int) (i : Nat) : Int := match frac f i with
  | none => 0
  | some (_, b) => b
def quF (f : Nat → Int) (i : Nat) : UInt64 := FP.ddiv (FP.l2d (gj (ft f i))) (FP.l2d (gj (fb f i)))
theorem c_accountOf (h1 : -2147483648 ≤ a) (h2 : a < 2147483648) (h3 : -2147483648 ≤ b) (h4 : b < 2147483648) (hS : Sys o I J) : Cl E 97 [.inr (3, 0, 0), .inl (.int (gi a)), .inl (.int (gi b))] I J B (eM o fun f => if 0 ≤ a ∧ a < f 317 then (if 0 ≤ b ∧ b < 3 then 0 else 3) else 2) (.inl (.int (gi (rM o fun f => f (318 + 3 * a.toNat + b.toNat))))) :=
  Cl.of hS (fun h Q X k => e_X7_accountOf ⟨⟨by decide, by decide⟩, z_rs0 h k⟩) fun f hv hR Q X k1 k2 => e_X7_accountOf ⟨⟨by decide, by decide⟩, z_rs hv hR (by
    have h9 := hv.2.2.2.2.2.2.2.2
    rw [hR.1.2.2.2.2.2.1, gi_lt h1 h2 (by decide) (by decide), gi_lt h1 h2 (by omega) (by omega), gi_lt h3 h4 (by decide) (by decide), gi_lt h3 h4 (by decide) (by decide)]
    refine ⟨fun z => ⟨⟨by decide, by decide⟩, k2 1 (if_neg (by omega)) I J QF.rf JQ.rf⟩, fun z => ⟨fun z2 => ⟨fun z3 => ⟨⟨by decide, by decide⟩, k2 2 ((if_pos ⟨by omega, z2⟩).trans (if_neg (by omega))) I J QF.rf JQ.rf⟩, fun z3 => ⟨fun z4 => ?_, fun z4 => ⟨⟨by decide, by decide⟩, k2 2 ((if_pos ⟨by omega, z2⟩).trans (if_neg (by omega))) I J QF.rf JQ.rf⟩⟩⟩, fun z2 => ⟨⟨by decide, by decide⟩, k2 1 (if_neg (by omega)) I J QF.rf JQ.rf⟩⟩⟩
    have k1 := k1 ((if_pos ⟨by omega, z2⟩).trans (if_pos ⟨by omega, z4⟩)) I J QF.rf JQ.rf
    rw [gi_mul, gi_add, gi_c (by omega) (by omega), hR.1.2.2.2.2.2.2 _ (by omega), show 318 + (3 * a + b).toNat = 318 + 3 * a.toNat + b.toNat by omega]
    exact ⟨gvp (by omega) (by omega) (by decide), k1⟩)⟩
end YG
