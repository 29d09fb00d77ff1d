section YG
variable {E : gEn} {Q : gQt} {X : gXt} {I : gI} {J : gJ} {B : gB} {c w : Nat} {f : Nat → Int} {o : Option (Nat → Int)} {a b d : Int}
/-! questions of the refinement -/
def MlL (E : gEn) (y : Nat) (args : List gV) (I : gI) (J : gJ) (B : gB) (e : Nat) (v : Int64) : Prop := ∀ (Q : gQt) (X : gXt), (∀ I' J', QF I I' → JQ J J' → I' 31 0 0 0 = gi e → ∀ r : Int64, (e = 0 → v = r) → Q (.inl (.long r)) I' J' B) → gC E y args I J B Q X
def MlD (E : gEn) (y : Nat) (args : List gV) (I : gI) (J : gJ) (B : gB) (e : Nat) (v : UInt64) : Prop := ∀ (Q : gQt) (X : gXt), (∀ I' J', QF I I' → JQ J J' → I' 31 0 0 0 = gi e → ∀ r : UInt64, (e = 0 → v = r) → Q (.inl (.double r)) I' J' B) → gC E y args I J B Q X
theorem Cl.ofl {y : Nat} {args : List gV} {ge : (Nat → Int) → Nat} {gr : (Nat → Int) → Int} (hS : Sys o I J) (hno : I 6 0 0 0 = gi 0 → ∀ Q X, X 0 I J B → gC E y args I J B Q X) (hyes : ∀ f, Vf f → Rst f I J 0 → Cl E y args I J B (ge f) (.inl (.long (gj (gr f))))) : Cl E y args I J B (eM o ge) (.inl (.long (gj (rM o gr)))) := by
  cases o with
  | none => exact fun Q X _ k => hno hS.2.1 Q X (k 0 rfl I J QF.rf JQ.rf)
  | some f => exact hyes f hS.2.1 hS.2.2.1
theorem MlL.of {y : Nat} {args : List gV} {ge : (Nat → Int) → Nat} {gr : (Nat → Int) → Int} (hS : Sys o I J) (hno : I 31 0 0 1 = gi 0 → ∀ Q X, (∀ I', T0 I I' → I' 31 0 0 0 = gi 1 → ∀ r : Int64, Q (.inl (.long r)) I' J B) → gC E y args I J B Q X) (hyes : ∀ f, Vf f → Mrow f I → I 31 0 0 1 = gi 1 → MlL E y args I J B (ge f) (gj (gr f))) : MlL E y args I J B (eM o ge) (gj (rM o gr)) := by
  cases o with
  | none => exact fun Q X k => hno hS.1 Q X fun I' t h r => k I' J t.q JQ.rf h r (fun h => absurd h (show ¬ (1 = 0) by decide))
  | some f => exact hyes f hS.2.1 hS.2.2.2 hS.1
def dM (o : Option (Nat → Int)) (g : (Nat → Int) → UInt64) : UInt64 := match o with
  | none => 0
  | some f => g f
theorem Cl.ofd {y : Nat} {args : List gV} {ge : (Nat → Int) → Nat} {gr : (Nat → Int) → UInt64} (hS : Sys o I J) (hno : I 6 0 0 0 = gi 0 → ∀ Q X, X 0 I J B → gC E y args I J B Q X) (hyes : ∀ f, Vf f → Rst f I J 0 → Cl E y args I J B (ge f) (.inl (.double (gr f)))) : Cl E y args I J B (eM o ge) (.inl (.double (dM o gr))) := by
  cases o with
  | none => exact fun Q X _ k => hno hS.2.1 Q X (k 0 rfl I J QF.rf JQ.rf)
  | some f => exact hyes f hS.2.1 hS.2.2.1
theorem MlD.of {y : Nat} {args : List gV} {ge : (Nat → Int) → Nat} {gr : (Nat → Int) → UInt64} (hS : Sys o I J) (hno : I 31 0 0 1 = gi 0 → ∀ Q X, (∀ I', T0 I I' → I' 31 0 0 0 = gi 1 → ∀ r : UInt64, Q (.inl (.double r)) I' J B) → gC E y args I J B Q X) (hyes : ∀ f, Vf f → Mrow f I → I 31 0 0 1 = gi 1 → MlD E y args I J B (ge f) (gr f)) : MlD E y args I J B (eM o ge) (dM o gr) := by
  cases o with
  | none => exact fun Q X k => hno hS.1 Q X fun I' t h r => k I' J t.q JQ.rf h r (fun h => absurd h (show ¬ (1 = 0) by decide))
  | some f => exact hyes f hS.2.1 hS.2.2.2 hS.1
theorem KokL {e : Nat} {x r : Int64} (k : ∀ I' J', QF I I' → JQ J J' → I' 31 0 0 0 = gi e → ∀ r : Int64, (e = 0 → x = r) → Q (.inl (.long r)) I' J' B) {I' : gI} {J' : gJ} (q : QF I I') (j : JQ J J') (h : I' 31 0 0 0 = gi 0) (he : e = 0) (hr : x = r) : Q (.inl (.long r)) I' J' B :=
  k I' J' q j (by rw [he]; exact h) r fun _ => hr
theorem KnoL {e : Nat} {v : Int64} {r : Int64} (k : ∀ I' J', QF I I' → JQ J J' → I' 31 0 0 0 = gi e → ∀ r : Int64, (e = 0 → v = r) → Q (.inl (.long r)) I' J' B) {I' : gI} {J' : gJ} (q : QF I I') (j : JQ J J') (n : Nat) (h : I' 31 0 0 0 = gi ((n + 1 : Nat) : Int)) (he : e = n + 1) : Q (.inl (.long r)) I' J' B :=
  k I' J' q j (by rw [he]; exact h) r fun z => by rw [he] at z; exact absurd z (Nat.succ_ne_zero n)
theorem KokD {e : Nat} {x r : UInt64} (k : ∀ I' J', QF I I' → JQ J J' → I' 31 0 0 0 = gi e → ∀ r : UInt64, (e = 0 → x = r) → Q (.inl (.double r)) I' J' B) {I' : gI} {J' : gJ} (q : QF I I') (j : JQ J J') (h : I' 31 0 0 0 = gi 0) (he : e = 0) (hr : x = r) : Q (.inl (.double r)) I' J' B :=
  k I' J' q j (by rw [he]; exact h) r fun _ => hr
theorem KnoD {e : Nat} {v : UInt64} {r : UInt64} (k : ∀ I' J', QF I I' → JQ J J' → I' 31 0 0 0 = gi e → ∀ r : UInt64, (e = 0 → v = r) → Q (.inl (.double r)) I' J' B) {I' : gI} {J' : gJ} (q : QF I I') (j : JQ J J') (n : Nat) (h : I' 31 0 0 0 = gi ((n + 1 : Nat) : Int)) (he : e = n + 1) : Q (.inl (.double r)) I' J' B :=
  k I' J' q j (by rw [he]; exact h) r fun z => by rw [he] at z; exact absurd z (Nat.succ_ne_zero n)
theorem JQ.up {J' : gJ} {k n j : Nat} {x : Int64} (h : JQ J J') (hk : k ≠ 6 ∧ k ≠ 10 ∧ k ≠ 46 ∧ k ≠ 47) : JQ J (gUJ J' k n j x) := fun a b d h1 h2 => by
  rw [gUJ_at, if_neg (fun h => by omega)]
  exact h a b d h1 h2
theorem c_digits (hS : Sys o I J) : Cl E 81 [.inr (3, 0, 0)] I J B (eM o fun _ => 0) (.inl (.int (gi (rM o fun f => f 36)))) :=
  Cl.of hS (fun h Q X k => e_X7_digits ⟨⟨by decide, by decide⟩, z_rs0 h k⟩) fun f hv hR Q X k1 k2 => e_X7_digits ⟨⟨by decide, by decide⟩, z_rs hv hR (by
    show Q (.inl (.int (I 6 0 0 5))) I J B
    rw [hR.2.1]
    exact k1 rfl I J QF.rf JQ.rf)⟩
theorem m_digits (hS : Sys o I J) : Ml E 213 [.inr (31, 0, 0)] I J B (eM o fun _ => 0) (.inl (.int (gi (rM o fun f => f 36)))) :=
  Ml.of hS (fun h Q X k => e_X8_digits (z_ns0 h fun I' t g => ⟨fun g2 => absurd g2 (by decide), fun _ => k I' t g _⟩)) fun f hv hM hs Q X k => e_X8_digits (z_ns1 hs fun I' t g => ⟨fun _ => ⟨gvp (by decide) (by decide) (by decide), Kok k t.q JQ.rf g rfl ((t.mrow hM) 36 (by decide)).symm⟩, fun z => absurd rfl z⟩)
theorem c_mostDigits (hS : Sys o I J) : Cl E 82 [.inr (3, 0, 0)] I J B (eM o fun _ => 0) (.inl (.int (gi (rM o fun f => (md (f 1) : Nat))))) :=
  Cl.of hS (fun h Q X k => e_X7_mostDigits ⟨⟨by decide, by decide⟩, z_rs0 h k⟩) fun f hv hR Q X k1 k2 => e_X7_mostDigits ⟨⟨by decide, by decide⟩, z_rs hv hR (z_lim hv.2.1 hR.1.2.1 (k1 rfl I J QF.rf JQ.rf))⟩
theorem m_mostDigits (hS : Sys o I J) : Ml E 214 [.inr (31, 0, 0)] I J B (eM o fun _ => 0) (.inl (.int (gi (rM o fun f => (md (f 1) : Nat))))) :=
  Ml.of hS (fun h Q X k => e_X8_mostDigits (z_ns0 h fun I' t g => ⟨fun g2 => absurd g2 (by decide), fun _ => k I' t g _⟩)) fun f hv hM hs Q X k => e_X8_mostDigits (z_ns1 hs fun I' t g => ⟨fun _ => z_md hv (t.mrow hM) (Kok k t.q JQ.rf g rfl rfl), fun z => absurd rfl z⟩)
theorem c_digit (h1 : -2147483648 ≤ a) (h2 : a < 2147483648) (h3 : -2147483648 ≤ b) (h4 : b < 2147483648) (hS : Sys o I J) : Cl E 83 [.inr (3, 0, 0), .inl (.int (gi a)), .inl (.int (gi b))] I J B (eM o fun f => if (0 ≤ a ∧ a < f 36) ∧ (0 ≤ b ∧ b < f 0) then 0 else 2) (.inl (.int (gi (rM o fun f => f (37 + 7 * a.toNat + b.toNat))))) :=
  Cl.of hS (fun h Q X k => e_X7_digit ⟨⟨by decide, by decide⟩, z_rs0 h k⟩) fun f hv hR Q X k1 k2 => e_X7_digit ⟨⟨by decide, by decide⟩, z_rs hv hR ⟨⟨by decide, by decide⟩, z_rr h3 h4 hv hR
    (fun g1 g2 => by
      have h0 := hv.1
      have hw := hv.pw
      have h39 := pow_lim hv.p.1 hw.2
      show (gi a < gi 0 → _) ∧ (¬ gi a < gi 0 → (gi a < I 6 0 0 5 → _) ∧ (¬ gi a < I 6 0 0 5 → _))
      rw [hR.2.1, gi_lt h1 h2 (by decide) (by decide), gi_lt h1 h2 (by omega) (by omega)]
      refine ⟨fun z => ⟨⟨by decide, by decide⟩, k2 1 (if_neg (by omega)) I J QF.rf JQ.rf⟩, fun z => ⟨fun z2 => ?_, fun z2 => ⟨⟨by decide, by decide⟩, k2 1 (if_neg (by omega)) I J QF.rf JQ.rf⟩⟩⟩
      obtain ⟨s, rfl⟩ : ∃ s : Nat, a = s := ⟨a.toNat, by omega⟩
      obtain ⟨s2, rfl⟩ : ∃ s : Nat, b = s := ⟨b.toNat, by omega⟩
      exact z_digitOf hv hR (by omega) (by omega) (k1 (if_pos ⟨⟨by omega, z2⟩, ⟨g1, g2⟩⟩) I J QF.rf JQ.rf)) (fun g => k2 1 (if_neg (fun z => g z.2)) I J QF.rf JQ.rf)⟩⟩
theorem m_digit (h1 : -2147483648 ≤ a) (h2 : a < 2147483648) (h3 : -2147483648 ≤ b) (h4 : b < 2147483648) (hS : Sys o I J) : Ml E 215 [.inr (31, 0, 0), .inl (.int (gi a)), .inl (.int (gi b))] I J B (eM o fun f => if (0 ≤ a ∧ a < f 36) ∧ (0 ≤ b ∧ b < f 0) then 0 else 2) (.inl (.int (gi (rM o fun f => f (37 + 7 * a.toNat + b.toNat))))) :=
  Ml.of hS (fun h Q X k => e_X8_digit (z_ns0 h fun I' t g => ⟨fun _ => k I' t g _, fun g2 => absurd g2 (by decide)⟩)) fun f hv hM hs Q X k => e_X8_digit (z_ns1 hs fun I' t g => ⟨fun z => absurd rfl z, fun _ => ⟨gvp (by decide) (by decide) (by decide), by
    have h0 := hv.1
    have hw := hv.pw
    have h39 := pow_lim hv.p.1 hw.2
    have hM1 := t.mrow hM
    rw [hM1 36 (by decide), gi_sub]
    refine z_in h1 h2 (by decide) (by decide) (by omega) (by omega) (fun g1 g2 => ⟨fun z => absurd z (by decide), fun _ => ?_⟩) (fun g1 => ⟨fun _ => z_rf1 g (by decide) ⟨fun z => absurd z (by decide), fun _ => Kno k t.up.q JQ.rf 1 th_up (if_neg (fun z => g1 ⟨z.1.1, by omega⟩))⟩, fun z => absurd rfl z⟩)
    refine z_isRow h3 h4 hv hM1 (fun g3 g4 => ⟨fun _ => z_rf0 g ⟨fun _ => ?_, fun z => absurd rfl z⟩, fun z => absurd z (by decide)⟩) (fun g3 => ⟨fun z => absurd rfl z, fun _ => z_rf1 g (by decide) ⟨fun z => absurd z (by decide), fun _ => Kno k t.up.q JQ.rf 1 th_up (if_neg (fun z => g3 z.2))⟩⟩)
    rw [gi_mul, gi_add, gi_add, gi_c (by omega) (by omega), hM1 _ (by omega)]
    exact ⟨gvp (by omega) (by omega) (by decide), Kok k t.q JQ.rf g (if_pos ⟨⟨g1, by omega⟩, ⟨g3, g4⟩⟩) (by
      show gi (f (37 + 7 * a.toNat + b.toNat)) = _
      rw [show (37 + 7 * a + b).toNat = 37 + 7 * a.toNat + b.toNat by omega])⟩⟩⟩)
theorem c_value (h1 : -2147483648 ≤ a) (h2 : a < 2147483648) (hS : Sys o I J) : Cl E 85 [.inr (3, 0, 0), .inl (.int (gi a))] I J B (eM o fun f => if 0 ≤ a ∧ a < f 0 then 0 else 2) (.inl (.long (gj (rM o fun f => vX f a.toNat)))) :=
  Cl.ofl hS (fun h Q X k => e_X7_value ⟨⟨by decide, by decide⟩, z_rs0 h k⟩) fun f hv hR Q X k1 k2 => e_X7_value ⟨⟨by decide, by decide⟩, z_rs hv hR ⟨⟨by decide, by decide⟩, z_rr h1 h2 hv hR
    (fun g1 g2 => by
      have h0 := hv.1
      show vp_in _ 7 ∧ Q (.inl (.long (J 10 0 _))) I J B
      rw [gi_c h1 h2, hR.2.2.2.1 _ (by omega)]
      exact ⟨gvp g1 (by omega) (by decide), k1 (if_pos ⟨g1, g2⟩) I J QF.rf JQ.rf⟩) (fun g => k2 1 (if_neg g) I J QF.rf JQ.rf)⟩⟩
theorem m_value (h1 : -2147483648 ≤ a) (h2 : a < 2147483648) (hS : Sys o I J) : MlL E 217 [.inr (31, 0, 0), .inl (.int (gi a))] I J B (eM o fun f => if 0 ≤ a ∧ a < f 0 then 0 else 2) (gj (rM o fun f => vX f a.toNat)) :=
  MlL.of hS (fun h Q X k => e_X8_value (z_nr0 h fun I' t g => ⟨fun g2 => absurd g2 (by decide), fun _ => k I' t g _⟩)) fun f hv hM hs Q X k => e_X8_value (z_nr1 hs h1 h2 hv hM
    (fun g1 g2 I' t g => ⟨fun _ => by
      obtain ⟨s, rfl⟩ : ∃ s : Nat, a = s := ⟨a.toNat, by omega⟩
      exact z_vo hv (t.mrow hM) (by omega) (KokL k t.q JQ.rf g (if_pos ⟨g1, g2⟩) rfl), fun z => absurd rfl z⟩)
    (fun g1 I' t g => ⟨fun z => absurd z (by decide), fun _ => KnoL k t.q JQ.rf 1 g (if_neg g1)⟩))
def cnF (f : Nat → Int) (i : Nat) : Int := if 2 * vX f i ≤ mF f then vX f i else vX f i - mF f
theorem c_centred (h1 : -2147483648 ≤ a) (h2 : a < 2147483648) (hS : Sys o I J) : Cl E 86 [.inr (3, 0, 0), .inl (.int (gi a))] I J B (eM o fun f => if 0 ≤ a ∧ a < f 0 then 0 else 2) (.inl (.long (gj (rM o fun f => cnF f a.toNat)))) :=
  Cl.ofl hS (fun h Q X k => e_X7_centred ⟨⟨by decide, by decide⟩, z_rs0 h k⟩) fun f hv hR Q X k1 k2 => e_X7_centred ⟨⟨by decide, by decide⟩, z_rs hv hR ⟨⟨by decide, by decide⟩, z_rr h1 h2 hv hR
    (fun g1 g2 => by
      have h0 := hv.1
      have hx := hv.x (i := a.toNat) (by omega)
      have hm := hv.m
      have k1 := k1 (if_pos ⟨g1, g2⟩) I J QF.rf JQ.rf
      show vp_in _ 7 ∧ (lg_cmp (gj 2 * J 10 0 _) (J 6 0 6) ≤ gi 0 → Q (.inl (.long (J 10 0 _))) I J B) ∧ (¬ lg_cmp (gj 2 * J 10 0 _) (J 6 0 6) ≤ gi 0 → Q (.inl (.long (J 10 0 _ - J 6 0 6))) I J B)
      rw [gi_c h1 h2, hR.2.2.2.1 _ (by omega), show J 6 0 6 = gj (mF f) from hR.2.2.1, gj_mul, gj_sub, lc_le (by omega) (by omega) (by omega) (by omega)]
      unfold cnF at k1
      refine ⟨gvp g1 (by omega) (by decide), fun z => ?_, fun z => ?_⟩
      · rw [if_pos z] at k1
        exact k1
      · rw [if_neg z] at k1
        exact k1) (fun g => k2 1 (if_neg g) I J QF.rf JQ.rf)⟩⟩
theorem m_centred (h1 : -2147483648 ≤ a) (h2 : a < 2147483648) (hS : Sys o I J) : MlL E 218 [.inr (31, 0, 0), .inl (.int (gi a))] I J B (eM o fun f => if 0 ≤ a ∧ a < f 0 then 0 else 2) (gj (rM o fun f => cnF f a.toNat)) :=
  MlL.of hS (fun h Q X k => e_X8_centred (z_nr0 h fun I' t g => ⟨fun g2 => absurd g2 (by decide), fun _ => k I' t g _⟩)) fun f hv hM hs Q X k => e_X8_centred (z_nr1 hs h1 h2 hv hM
    (fun g1 g2 I' t g => ⟨fun _ => by
      obtain ⟨s, rfl⟩ : ∃ s : Nat, a = s := ⟨a.toNat, by omega⟩
      have h0 := hv.1
      have hx := hv.x (i := s) (by omega)
      have hm := hv.m
      refine z_vo hv (t.mrow hM) (by omega) ?_
      show gC _ _ _ _ _ _ _ _
      refine z_mm hv (t.mrow hM) ?_
      show (lg_cmp (gj 2 * gj _) (gj _) ≤ gi 0 → _) ∧ (¬ lg_cmp (gj 2 * gj _) (gj _) ≤ gi 0 → _)
      rw [gj_mul, lc_le (by omega) (by omega) (by omega) (by omega)]
      refine ⟨fun z => KokL k t.q JQ.rf g (if_pos ⟨g1, g2⟩) (congrArg gj (if_pos z)), fun z => z_mm hv (t.mrow hM) ?_⟩
      show Q (.inl (.long (gj _ - gj _))) I' J B
      rw [gj_sub]
      exact KokL k t.q JQ.rf g (if_pos ⟨g1, g2⟩) (congrArg gj (if_neg z)), fun z => absurd rfl z⟩)
    (fun g1 I' t g => ⟨fun z => absurd z (by decide), fun _ => KnoL k t.q JQ.rf 1 g (if_neg g1)⟩))
/-! fractions asked for -/
theorem z_rfr {i : Nat} (hv : Vf f) (hR : Rst f I J 0) (hi : i < (f 0).toNat) (k1 : ∀ t b, frac f i = some (t, b) → Q (.inl .null) I (gUJ (gUJ J 26 0 i (gj t)) 27 0 i (gj b)) B) (k2 : frac f i = none → X 2 I J B) : gC E 118 [.inr (3, 0, 0), .inl (.int (gi i))] I J B Q X := by
  refine e_X7_requireFraction (z_find hv hR hi ?_)
  unfold frP
  cases hf : frac f i with
  | none => exact ⟨fun z => absurd rfl z, fun _ => ⟨⟨by decide, by decide⟩, k2 hf⟩⟩
  | some z =>
    obtain ⟨t, b⟩ := z
    exact ⟨fun _ => k1 t b hf, fun z => absurd z (by decide)⟩
def fre (f : Nat → Int) (i : Nat) : Nat := match frac f i with
  | none => 3
  | some _ => 0
theorem fre_n {i : Nat} (h : frac f i = none) : fre f i = 3 := by
  unfold fre
  rw [h]
theorem fre_s {i : Nat} {t b : Int} (h : frac f i = some (t, b)) : fre f i = 0 ∧ ft f i = t ∧ fb f i = b := by
  unfold fre ft fb
  rw [h]
  exact ⟨rfl, rfl, rfl⟩
theorem c_numerator (h1 : -2147483648 ≤ a) (h2 : a < 2147483648) (hS : Sys o I J) : Cl E 87 [.inr (3, 0, 0), .inl (.int (gi a))] I J B (eM o fun f => if 0 ≤ a ∧ a < f 0 then fre f a.toNat else 2) (.inl (.int (gi (rM o fun f => ft f a.toNat)))) :=
  Cl.of hS (fun h Q X k => e_X7_numerator ⟨⟨by decide, by decide⟩, z_rs0 h k⟩) fun f hv hR Q X k1 k2 => e_X7_numerator ⟨⟨by decide, by decide⟩, z_rs hv hR ⟨⟨by decide, by decide⟩, z_rr h1 h2 hv hR
    (fun g1 g2 => by
      obtain ⟨s, rfl⟩ : ∃ s : Nat, a = s := ⟨a.toNat, by omega⟩
      have h0 := hv.1
      refine ⟨⟨by decide, by decide⟩, z_rfr hv hR (by omega) (fun t b hf => ?_) (fun hf => k2 2 ((if_pos ⟨g1, g2⟩).trans (fre_n hf)) I J QF.rf JQ.rf)⟩
      obtain ⟨e1, e2, e3⟩ := fre_s hf
      rw [gi_c h1 h2, gtn, show (gUJ (gUJ J 26 0 s (gj t)) 27 0 s (gj b)) 26 0 s = gj t from (if_neg (fun h => absurd h.1 (by decide))).trans (if_pos ⟨rfl, rfl, rfl⟩), gji, ← e2]
      exact ⟨gvp g1 (by omega) (by decide), k1 ((if_pos ⟨g1, g2⟩).trans e1) I _ QF.rf ((JQ.rf.up (by decide)).up (by decide))⟩) (fun g => k2 1 (if_neg g) I J QF.rf JQ.rf)⟩⟩
theorem m_fr {i : Nat} {K : gQt} (hv : Vf f) (hM : Mrow f I) (hi : i < (f 0).toNat) (g : I 31 0 0 0 = gi 0) (k1 : ∀ t b, frac f i = some (t, b) → K (.inl (.int (gi 0))) I (gUJ (gUJ J 31 0 28 (gj t)) 31 0 29 (gj b)) B) (k2 : frac f i = none → K (.inl (.int (gi 1))) (gUI I 31 0 0 0 (gi 3)) J B) :
    gC E 221 [.inr (31, 0, 0), .inl (.int (gi i))] I J B (fun v I2 J2 B2 => gvi v fun r => ((¬ r = gi 0 → gC E 132 [.inr (31, 0, 0), .inl (.int (gi 0)), .inl (.int (gi 3))] I2 J2 B2 K X) ∧ (r = gi 0 → gC E 132 [.inr (31, 0, 0), .inl (.int (gi 1)), .inl (.int (gi 3))] I2 J2 B2 K X))) X := by
  refine z_ff hv hM hi ?_
  unfold frM
  cases hf : frac f i with
  | none => exact ⟨fun z => absurd rfl z, fun _ => z_rf1 g (by decide) (k2 hf)⟩
  | some z =>
    obtain ⟨t, b⟩ := z
    exact ⟨fun _ => z_rf0 g (k1 t b hf), fun z => absurd z (by decide)⟩
theorem m_numerator (h1 : -2147483648 ≤ a) (h2 : a < 2147483648) (hS : Sys o I J) : Ml E 222 [.inr (31, 0, 0), .inl (.int (gi a))] I J B (eM o fun f => if 0 ≤ a ∧ a < f 0 then fre f a.toNat else 2) (.inl (.int (gi (rM o fun f => ft f a.toNat)))) :=
  Ml.of hS (fun h Q X k => e_X8_numerator (z_nr0 h fun I' t g => ⟨fun _ => k I' t g _, fun g2 => absurd g2 (by decide)⟩)) fun f hv hM hs Q X k => e_X8_numerator (z_nr1 hs h1 h2 hv hM
    (fun g1 g2 I' t g => ⟨fun z => absurd rfl z, fun _ => by
      obtain ⟨s, rfl⟩ : ∃ s : Nat, a = s := ⟨a.toNat, by omega⟩
      refine m_fr hv (t.mrow hM) (by omega) g (fun u b hf => ⟨fun _ => ?_, fun z => absurd rfl z⟩) (fun hf => ⟨fun z => absurd z (by decide), fun _ => Kno k t.up.q JQ.rf 2 th_up ((if_pos ⟨g1, g2⟩).trans (fre_n hf))⟩)
      obtain ⟨e1, e2, e3⟩ := fre_s hf
      rw [show (gUJ (gUJ J 31 0 28 (gj u)) 31 0 29 (gj b)) 31 0 28 = gj u from (if_neg (fun h => absurd h.2.2 (by decide))).trans (if_pos ⟨rfl, rfl, rfl⟩), gji]
      exact Kok k t.q ((JQ.rf.up (by decide)).up (by decide)) g ((if_pos ⟨g1, g2⟩).trans e1) (by rw [← e2]; rfl)⟩)
    (fun g1 I' t g => ⟨fun _ => Kno k t.q JQ.rf 1 g (if_neg g1), fun z => absurd z (by decide)⟩))
def fb0 (f : Nat → Int) (i : Nat) : Int := match frac f i with
  | none => 0
  | some (_, b) => b
theorem c_denominator (h1 : -2147483648 ≤ a) (h2 : a < 2147483648) (hS : Sys o I J) : Cl E 88 [.inr (3, 0, 0), .inl (.int (gi a))] I J B (eM o fun f => if 0 ≤ a ∧ a < f 0 then 0 else 2) (.inl (.int (gi (rM o fun f => fb0 f a.toNat)))) :=
  Cl.of hS (fun h Q X k => e_X7_denominator ⟨⟨by decide, by decide⟩, z_rs0 h k⟩) fun f hv hR Q X k1 k2 => e_X7_denominator ⟨⟨by decide, by decide⟩, z_rs hv hR ⟨⟨by decide, by decide⟩, z_rr h1 h2 hv hR
    (fun g1 g2 => by
      obtain ⟨s, rfl⟩ : ∃ s : Nat, a = s := ⟨a.toNat, by omega⟩
      have h0 := hv.1
      have k1 := k1 (if_pos ⟨g1, g2⟩)
      refine z_find hv hR (by omega) ?_
      unfold frP
      unfold fb0 at k1
      rw [gtn] at k1
      cases hf : frac f s with
      | none =>
        rw [hf] at k1
        exact ⟨fun _ => k1 I J QF.rf JQ.rf, fun z => absurd rfl z⟩
      | some z =>
        obtain ⟨t, b⟩ := z
        rw [hf] at k1
        refine ⟨fun z => absurd z (by decide), fun _ => ⟨gvp g1 (by omega) (by decide), ?_⟩⟩
        rw [gi_c h1 h2, gtn, show (gUJ (gUJ J 26 0 s (gj t)) 27 0 s (gj b)) 27 0 s = gj b from if_pos ⟨rfl, rfl, rfl⟩, gji]
        exact k1 I _ QF.rf ((JQ.rf.up (by decide)).up (by decide))) (fun g => k2 1 (if_neg g) I J QF.rf JQ.rf)⟩⟩
theorem m_denominator (h1 : -2147483648 ≤ a) (h2 : a < 2147483648) (hS : Sys o I J) : Ml E 223 [.inr (31, 0, 0), .inl (.int (gi a))] I J B (eM o fun f => if 0 ≤ a ∧ a < f 0 then 0 else 2) (.inl (.int (gi (rM o fun f => fb0 f a.toNat)))) :=
  Ml.of hS (fun h Q X k => e_X8_denominator (z_nr0 h fun I' t g => ⟨fun _ => k I' t g _, fun g2 => absurd g2 (by decide)⟩)) fun f hv hM hs Q X k => e_X8_denominator (z_nr1 hs h1 h2 hv hM
    (fun g1 g2 I' t g => ⟨fun z => absurd rfl z, fun _ => by
      obtain ⟨s, rfl⟩ : ∃ s : Nat, a = s := ⟨a.toNat, by omega⟩
      refine z_ff hv (t.mrow hM) (by omega) ?_
      unfold frM
      cases hf : frac f s with
      | none => exact ⟨fun z => absurd rfl z, fun _ => Kok k t.q JQ.rf g (if_pos ⟨g1, g2⟩) (by
          show gi (fb0 f s) = gi 0
          unfold fb0
          rw [hf])⟩
      | some z =>
        obtain ⟨u, b⟩ := z
        refine ⟨fun _ => ?_, fun z => absurd z (by decide)⟩
        rw [show (gUJ (gUJ J 31 0 28 (gj u)) 31 0 29 (gj b)) 31 0 29 = gj b from if_pos ⟨rfl, rfl, rfl⟩, gji]
        exact Kok k t.q ((JQ.rf.up (by decide)).up (by decide)) g (if_pos ⟨g1, g2⟩) (by
          show gi (fb0 f s) = gi b
          unfold fb0
          rw [hf])⟩)
    (fun g1 I' t g => ⟨fun _ => Kno k t.q JQ.rf 1 g (if_neg g1), fun z => absurd z (by decide)⟩))
def quF (f : Nat → Int) (i : Nat) : UInt64 := FP.ddiv (FP.l2d (gj (ft f i))) (FP.l2d (gj (fb f i)))
theorem c_quotient (h1 : -2147483648 ≤ a) (h2 : a < 2147483648) (hS : Sys o I J) : Cl E 89 [.inr (3, 0, 0), .inl (.int (gi a))] I J B (eM o fun f => if 0 ≤ a ∧ a < f 0 then fre f a.toNat else 2) (.inl (.double (dM o fun f => quF f a.toNat))) :=
  Cl.ofd hS (fun h Q X k => e_X7_quotient ⟨⟨by decide, by decide⟩, z_rs0 h k⟩) fun f hv hR Q X k1 k2 => e_X7_quotient ⟨⟨by decide, by decide⟩, z_rs hv hR ⟨⟨by decide, by decide⟩, z_rr h1 h2 hv hR
    (fun g1 g2 => by
      obtain ⟨s, rfl⟩ : ∃ s : Nat, a = s := ⟨a.toNat, by omega⟩
      have h0 := hv.1
      refine ⟨⟨by decide, by decide⟩, z_rfr hv hR (by omega) (fun t b hf => ?_) (fun hf => k2 2 ((if_pos ⟨g1, g2⟩).trans (fre_n hf)) I J QF.rf JQ.rf)⟩
      obtain ⟨e1, e2, e3⟩ := fre_s hf
      obtain ⟨-, -, b1, b2⟩ := frac_b hv (by omega) hf
      rw [gi_c h1 h2, gtn, show (gUJ (gUJ J 26 0 s (gj t)) 27 0 s (gj b)) 26 0 s = gj t from (if_neg (fun h => absurd h.1 (by decide))).trans (if_pos ⟨rfl, rfl, rfl⟩), show (gUJ (gUJ J 26 0 s (gj t)) 27 0 s (gj b)) 27 0 s = gj b from if_pos ⟨rfl, rfl, rfl⟩]
      have k3 := k1 ((if_pos ⟨g1, g2⟩).trans e1) I (gUJ (gUJ J 26 0 s (gj t)) 27 0 s (gj b)) QF.rf ((JQ.rf.up (by decide)).up (by decide))
      unfold quF at k3
      rw [gtn, e2, e3] at k3
      exact ⟨gvp g1 (by omega) (by decide), gvp g1 (by omega) (by decide), z_quo b1 b2, k3⟩) (fun g => k2 1 (if_neg g) I J QF.rf JQ.rf)⟩⟩
theorem m_quotient (h1 : -2147483648 ≤ a) (h2 : a < 2147483648) (hS : Sys o I J) : MlD E 224 [.inr (31, 0, 0), .inl (.int (gi a))] I J B (eM o fun f => if 0 ≤ a ∧ a < f 0 then fre f a.toNat else 2) (dM o fun f => quF f a.toNat) :=
  MlD.of hS (fun h Q X k => e_X8_quotient (z_nr0 h fun I' t g => ⟨fun _ => k I' t g _, fun g2 => absurd g2 (by decide)⟩)) fun f hv hM hs Q X k => e_X8_quotient (z_nr1 hs h1 h2 hv hM
    (fun g1 g2 I' t g => ⟨fun z => absurd rfl z, fun _ => by
      obtain ⟨s, rfl⟩ : ∃ s : Nat, a = s := ⟨a.toNat, by omega⟩
      refine m_fr hv (t.mrow hM) (by omega) g (fun u b hf => ⟨fun _ => ?_, fun z => absurd rfl z⟩) (fun hf => ⟨fun z => absurd z (by decide), fun _ => KnoD k t.up.q JQ.rf 2 th_up ((if_pos ⟨g1, g2⟩).trans (fre_n hf))⟩)
      obtain ⟨e1, e2, e3⟩ := fre_s hf
      obtain ⟨-, -, b1, b2⟩ := frac_b hv (by omega) hf
      rw [show (gUJ (gUJ J 31 0 28 (gj u)) 31 0 29 (gj b)) 31 0 28 = gj u from (if_neg (fun h => absurd h.2.2 (by decide))).trans (if_pos ⟨rfl, rfl, rfl⟩), show (gUJ (gUJ J 31 0 28 (gj u)) 31 0 29 (gj b)) 31 0 29 = gj b from if_pos ⟨rfl, rfl, rfl⟩]
      exact ⟨z_quo b1 b2, KokD k t.q ((JQ.rf.up (by decide)).up (by decide)) g ((if_pos ⟨g1, g2⟩).trans e1) (by
        show quF f s = _
        unfold quF
        rw [e2, e3])⟩⟩)
    (fun g1 I' t g => ⟨fun _ => KnoD k t.q JQ.rf 1 g (if_neg g1), fun z => absurd z (by decide)⟩))
theorem c_isExact (hS : Sys o I J) : Cl E 90 [.inr (3, 0, 0)] I J B (eM o fun _ => 0) (.inl (.int (gi (rM o fun f => bI (exB f))))) :=
  Cl.of hS (fun h Q X k => e_X7_isExact ⟨⟨by decide, by decide⟩, z_rs0 h k⟩) fun f hv hR Q X k1 k2 => e_X7_isExact ⟨⟨by decide, by decide⟩, z_rs hv hR (z_solve hv hR fun J' ff => ⟨by cases exB f <;> first | exact Or.inl rfl | exact Or.inr rfl, k1 rfl I J' QF.rf ff.q⟩)⟩
theorem m_isExact (hS : Sys o I J) : Ml E 226 [.inr (31, 0, 0)] I J B (eM o fun _ => 0) (.inl (.int (gi (rM o fun f => bI (exB f))))) :=
  Ml.of hS (fun h Q X k => e_X8_isExact (z_ns0 h fun I' t g => ⟨fun _ => ⟨Or.inl rfl, k I' t g _⟩, fun g2 => absurd g2 (by decide)⟩)) fun f hv hM hs Q X k => e_X8_isExact (z_ns1 hs fun I' t g => ⟨fun z => absurd rfl z, fun _ => z_ex hv (t.mrow hM) fun J' fx => by
    cases hr : exB f with
    | false => exact ⟨fun _ => ⟨Or.inl rfl, Kok k t.q fx.q g rfl (by rw [hr]; rfl)⟩, fun z => absurd rfl z⟩
    | true => exact ⟨fun z => absurd z (by decide), fun _ => ⟨Or.inr rfl, Kok k t.q fx.q g rfl (by rw [hr]; rfl)⟩⟩⟩)
theorem c_accountOf (h1 : -2147483648 ≤ a) (h2 : a < 2147483648) (h3 : -2147483648 ≤ b) (h4 : b < 2147483648) (hS : Sys o I J) : Cl E 97 [.inr (3, 0, 0), .inl (.int (gi a)), .inl (.int (gi b))] I J B (eM o fun f => if 0 ≤ a ∧ a < f 317 then (if 0 ≤ b ∧ b < 3 then 0 else 3) else 2) (.inl (.int (gi (rM o fun f => f (318 + 3 * a.toNat + b.toNat))))) :=
  Cl.of hS (fun h Q X k => e_X7_accountOf ⟨⟨by decide, by decide⟩, z_rs0 h k⟩) fun f hv hR Q X k1 k2 => e_X7_accountOf ⟨⟨by decide, by decide⟩, z_rs hv hR (by
    have h9 := hv.2.2.2.2.2.2.2.2
    rw [hR.1.2.2.2.2.2.1, gi_lt h1 h2 (by decide) (by decide), gi_lt h1 h2 (by omega) (by omega), gi_lt h3 h4 (by decide) (by decide), gi_lt h3 h4 (by decide) (by decide)]
    refine ⟨fun z => ⟨⟨by decide, by decide⟩, k2 1 (if_neg (by omega)) I J QF.rf JQ.rf⟩, fun z => ⟨fun z2 => ⟨fun z3 => ⟨⟨by decide, by decide⟩, k2 2 ((if_pos ⟨by omega, z2⟩).trans (if_neg (by omega))) I J QF.rf JQ.rf⟩, fun z3 => ⟨fun z4 => ?_, fun z4 => ⟨⟨by decide, by decide⟩, k2 2 ((if_pos ⟨by omega, z2⟩).trans (if_neg (by omega))) I J QF.rf JQ.rf⟩⟩⟩, fun z2 => ⟨⟨by decide, by decide⟩, k2 1 (if_neg (by omega)) I J QF.rf JQ.rf⟩⟩⟩
    have k1 := k1 ((if_pos ⟨by omega, z2⟩).trans (if_pos ⟨by omega, z4⟩)) I J QF.rf JQ.rf
    rw [gi_mul, gi_add, gi_c (by omega) (by omega), hR.1.2.2.2.2.2.2 _ (by omega), show 318 + (3 * a + b).toNat = 318 + 3 * a.toNat + b.toNat by omega]
    exact ⟨gvp (by omega) (by omega) (by decide), k1⟩)⟩
theorem m_accountOf (h1 : -2147483648 ≤ a) (h2 : a < 2147483648) (h3 : -2147483648 ≤ b) (h4 : b < 2147483648) (hS : Sys o I J) : Ml E 238 [.inr (31, 0, 0), .inl (.int (gi a)), .inl (.int (gi b))] I J B (eM o fun f => if 0 ≤ a ∧ a < f 317 then (if 0 ≤ b ∧ b < 3 then 0 else 3) else 2) (.inl (.int (gi (rM o fun f => f (318 + 3 * a.toNat + b.toNat))))) :=
  Ml.of hS (fun h Q X k => e_X8_accountOf (z_ns0 h fun I' t g => ⟨fun _ => k I' t g _, fun g2 => absurd g2 (by decide)⟩)) fun f hv hM hs Q X k => e_X8_accountOf (z_ns1 hs fun I' t g => ⟨fun z => absurd rfl z, fun _ => ⟨gvp (by decide) (by decide) (by decide), by
    have h9 := hv.2.2.2.2.2.2.2.2
    have hM1 := t.mrow hM
    rw [hM1 317 (by decide), gi_sub]
    refine z_inr g (by decide) h1 h2 (by decide) (by decide) (by omega) (by omega) (fun g1 g2 => ⟨fun z => absurd rfl z, fun _ => ?_⟩) (fun g1 => ⟨fun _ => Kno k t.up.q JQ.rf 1 th_up (if_neg (fun z => g1 ⟨z.1, by omega⟩)), fun z => absurd z (by decide)⟩)
    refine z_inr g (by decide) h3 h4 (by decide) (by decide) (by decide) (by decide) (fun g3 g4 => ⟨fun _ => ?_, fun z => absurd rfl z⟩) (fun g3 => ⟨fun z => absurd z (by decide), fun _ => Kno k t.up.q JQ.rf 2 th_up ((if_pos ⟨g1, by omega⟩).trans (if_neg (by omega)))⟩)
    rw [gi_mul, gi_add, gi_add, gi_c (by omega) (by omega), hM1 _ (by omega)]
    exact ⟨gvp (by omega) (by omega) (by decide), Kok k t.q JQ.rf g ((if_pos ⟨g1, by omega⟩).trans (if_pos ⟨g3, by omega⟩)) (by
      show gi (f (318 + 3 * a.toNat + b.toNat)) = _
      rw [show (318 + 3 * a + b).toNat = 318 + 3 * a.toNat + b.toNat by omega])⟩⟩⟩)
end YG
