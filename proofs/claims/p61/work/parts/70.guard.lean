/-! ===== questions: what stays, the refusals ===== -/
def KQ (a b c d : Nat) : Prop := a = 4 ∨ a = 5 ∨ (6 ≤ a ∧ a ≤ 12 ∧ b ≠ 1) ∨ a = 13 ∨ a = 16 ∨ (a = 31 ∧ d ≠ 0 ∧ d ≠ 21 ∧ d ≠ 24) ∨ (a = 32 ∧ b = 0 ∧ c = 0 ∧ d < 408) ∨ (a = 33 ∧ 408 ≤ d) ∨ a = 34 ∨ a = 35 ∨ 48 ≤ a
def QF (I I' : gI) : Prop := ∀ a b c d, KQ a b c d → I' a b c d = I a b c d
def JQ (J J' : gJ) : Prop := ∀ a b d, a = 6 ∨ a = 10 ∨ a = 46 ∨ a = 47 → b ≠ 1 ∨ 46 ≤ a → J' a b d = J a b d
theorem QF.rf {I : gI} : QF I I := fun _ _ _ _ _ => rfl
theorem JQ.rf {J : gJ} : JQ J J := fun _ _ _ _ _ => rfl
theorem QF.tr {I I' I2 : gI} (h : QF I I') (h2 : QF I' I2) : QF I I2 := fun a b c d h3 => (h2 a b c d h3).trans (h a b c d h3)
theorem JQ.tr {J J' J2 : gJ} (h : JQ J J') (h2 : JQ J' J2) : JQ J J2 := fun a b d h3 h4 => (h2 a b d h3 h4).trans (h a b d h3 h4)
def T0 (I I' : gI) : Prop := ∀ a b c d, ¬ (a = 31 ∧ d = 0) → I' a b c d = I a b c d
theorem T0.rf {I : gI} : T0 I I := fun _ _ _ _ _ => rfl
theorem T0.tr {I I' I2 : gI} (h : T0 I I') (h2 : T0 I' I2) : T0 I I2 := fun a b c d h3 => (h2 a b c d h3).trans (h a b c d h3)
theorem T0.up {I I' : gI} {x : Int32} (h : T0 I I') : T0 I (gUI I' 31 0 0 0 x) := fun a b c d h3 => by
  rw [gUI_at, if_neg (fun h4 => h3 ⟨h4.1, h4.2.2.2⟩)]
  exact h a b c d h3
theorem T0.q {I I' : gI} (h : T0 I I') : QF I I' := fun a b c d h3 => h a b c d (by unfold KQ at h3; omega)
theorem Fg.q {n : Nat} {I I' : gI} (h : Fg n I I') : QF I I' := fun a b c d h3 => h a b c d (by unfold KQ at h3; omega)
theorem FE.q {I I' : gI} (h : FE I I') : QF I I' := fun a b c d h3 => h a b c d (by unfold KQ at h3; omega) (by unfold KQ at h3; omega)
theorem FQ.q {I I' : gI} (h : FQ I I') : QF I I' := fun a b c d h3 => h a b c d (by unfold KQ at h3; omega) (by unfold KQ at h3; omega) (by unfold KQ at h3; omega) (by unfold KQ at h3; omega)
theorem FL.q {I I' : gI} (h : FL 1 I I') : QF I I' := fun a b c d h3 => h a b c d (by unfold KQ at h3; omega) (by unfold KQ at h3; omega)
theorem FS.q {I I' : gI} (h : FS 1 I I') : QF I I' := fun a b c d h3 => h a b c d (by unfold KQ at h3; omega)
theorem Fpg.q {I I' : gI} (h : Fpg I I') : QF I I' := fun a b c d h3 => h a b c d (by unfold KQ at h3; omega) (by unfold KQ at h3; omega)
theorem Fme.q {I I' : gI} (h : Fme I I') : QF I I' := fun a b c d h3 => h a b c d (by unfold KQ at h3; omega) (by unfold KQ at h3; omega) (by unfold KQ at h3; omega)
theorem Fpd.q {I I' : gI} (h : Fpd I I') : QF I I' := fun a b c d h3 => h a b c d (by unfold KQ at h3; omega) (by unfold KQ at h3; omega) (by unfold KQ at h3; omega) (by unfold KQ at h3; omega) (by unfold KQ at h3; omega)
theorem Fgl.q {I I' : gI} (h : Fgl I I') : QF I I' := fun a b c d h3 => h a b c d (by unfold KQ at h3; omega) (by unfold KQ at h3; omega) (by unfold KQ at h3; omega)
theorem FF.q {J J' : gJ} (h : FF J J') : JQ J J' := fun a b d h3 _ => h a b d (by omega) (by omega)
theorem FX.q {J J' : gJ} (h : FX J J') : JQ J J' := fun a b d h3 _ => h a b d (by omega) (by omega) (by omega)
theorem FJ.q {J J' : gJ} (h : FJ 1 J J') : JQ J J' := fun a b d h3 h4 => h a b d (by omega)
theorem T0.g {I I' : gI} (h : T0 I I') (a b c d : Nat) (h2 : a ≠ 31 ∨ d ≠ 0) : I' a b c d = I a b c d := h a b c d (by omega)
theorem QF.rst {f : Nat → Int} {n : Nat} {I I' : gI} {J J' : gJ} (hq : QF I I') (hj : JQ J J') (h : Rst f I J n) (hn : n ≠ 1) : Rst f I' J' n := h.to (fun a d h1 h2 => hq a n 0 d (by unfold KQ; omega)) (fun a d h1 => hj a n d (by omega) (Or.inl hn))
def Sys (o : Option (Nat → Int)) (I : gI) (J : gJ) : Prop := match o with
  | none => I 6 0 0 0 = gi 0 ∧ I 6 0 0 1 = gi 0 ∧ I 6 0 0 9 = gi 0
  | some f => Vf f ∧ Rst f I J 0
theorem QF.sys {o : Option (Nat → Int)} {I I' : gI} {J J' : gJ} (hq : QF I I') (hj : JQ J J') (h : Sys o I J) : Sys o I' J' := by
  cases o with
  | none =>
    obtain ⟨h1, h2, h3⟩ := h
    exact ⟨(hq _ _ _ _ (by unfold KQ; omega)).trans h1, (hq _ _ _ _ (by unfold KQ; omega)).trans h2, (hq _ _ _ _ (by unfold KQ; omega)).trans h3⟩
  | some f => exact ⟨h.1, hq.rst hj h.2 (by decide)⟩
def eM (o : Option (Nat → Int)) (g : (Nat → Int) → Nat) : Nat := match o with
  | none => 1
  | some f => g f
def rM (o : Option (Nat → Int)) (g : (Nat → Int) → Int) : Int := match o with
  | none => 0
  | some f => g f
def Cl (E : gEn) (y : Nat) (args : List gV) (I : gI) (J : gJ) (B : gB) (e : Nat) (v : gV) : Prop := ∀ (Q : gQt) (X : gXt), (e = 0 → ∀ I' J', QF I I' → JQ J J' → Q v I' J' B) → (∀ k, e = k + 1 → ∀ I' J', QF I I' → JQ J J' → X k I' J' B) → gC E y args I J B Q X
section YC
variable {E : gEn} {Q : gQt} {X : gXt} {I : gI} {J : gJ} {B : gB} {c w : Nat} {f : Nat → Int} {o : Option (Nat → Int)}
theorem th_up {x : Int32} : (gUI I 31 0 0 0 x) 31 0 0 0 = x := if_pos ⟨rfl, rfl, rfl, rfl⟩
theorem z_rs (hv : Vf f) (hR : Rst f I J 0) (k : Q (.inl .null) I J B) : gC E 110 [.inr (3, 0, 0)] I J B Q X := by
  have h0 := hv.1
  refine e_X7_requireSystem ?_
  rw [hR.1.1, gi_eq (by omega) (by omega) (by decide) (by decide)]
  exact ⟨fun _ => k, fun h => by omega⟩
theorem z_rs0 (h : I 6 0 0 0 = gi 0) (k : X 0 I J B) : gC E 110 [.inr (3, 0, 0)] I J B Q X :=
  e_X7_requireSystem ⟨fun h0 => absurd h h0, fun _ => ⟨⟨by decide, by decide⟩, k⟩⟩
theorem z_rr {a : Int} (h1 : -2147483648 ≤ a) (h2 : a < 2147483648) (hv : Vf f) (hR : Rst f I J 0) (k1 : 0 ≤ a → a < f 0 → Q (.inl .null) I J B) (k2 : ¬ (0 ≤ a ∧ a < f 0) → X 1 I J B) : gC E 111 [.inr (3, 0, 0), .inl (.int (gi a))] I J B Q X := by
  have h0 := hv.1
  refine e_X7_requireRow ?_
  rw [hR.1.1, gi_lt h1 h2 (by decide) (by decide), gi_lt h1 h2 (by omega) (by omega)]
  exact ⟨fun h => ⟨⟨by decide, by decide⟩, k2 (by omega)⟩, fun h => ⟨fun h3 => k1 (by omega) h3, fun h3 => ⟨⟨by decide, by decide⟩, k2 (by omega)⟩⟩⟩
theorem z_rb {q : Nat} {a : Int} (h1 : -2147483648 ≤ a) (h2 : a < 2147483648) (hv : Vf f) (hR : Rst f I J 0) (hq : q ≤ 7) (k1 : (q : Int) ≤ a → a < f 0 → Q (.inl .null) I J B) (k2 : ¬ ((q : Int) ≤ a ∧ a < f 0) → X 1 I J B) : gC E 112 [.inr (3, 0, 0), .inl (.int (gi q)), .inl (.int (gi a))] I J B Q X := by
  have h0 := hv.1
  refine e_X7_requireBehind ?_
  rw [hR.1.1, gi_lt h1 h2 (by omega) (by omega), gi_lt h1 h2 (by omega) (by omega)]
  exact ⟨fun h => ⟨⟨by decide, by decide⟩, k2 (by omega)⟩, fun h => ⟨fun h3 => k1 (by omega) h3, fun h3 => ⟨⟨by decide, by decide⟩, k2 (by omega)⟩⟩⟩
theorem z_rw2 {a : Int} (h1 : -2147483648 ≤ a) (h2 : a < 2147483648) (hv : Vf f) (hR : Rst f I J 0) (k1 : 0 ≤ a → a < 2 * f 0 → Q (.inl .null) I J B) (k2 : ¬ (0 ≤ a ∧ a < 2 * f 0) → X 1 I J B) : gC E 113 [.inr (3, 0, 0), .inl (.int (gi a))] I J B Q X := by
  have h0 := hv.1
  refine e_X7_requireWrappedRow ?_
  rw [hR.1.1, gi_mul, gi_lt h1 h2 (by decide) (by decide), gi_lt h1 h2 (by omega) (by omega)]
  exact ⟨fun h => ⟨⟨by decide, by decide⟩, k2 (by omega)⟩, fun h => ⟨fun h3 => k1 (by omega) h3, fun h3 => ⟨⟨by decide, by decide⟩, k2 (by omega)⟩⟩⟩
theorem z_rd2 {a : Int} (h1 : -2147483648 ≤ a) (h2 : a < 2147483648) (hv : Vf f) (hR : Rst f I J 0) (k1 : -f 0 < a → a < f 0 → Q (.inl .null) I J B) (k2 : ¬ (-f 0 < a ∧ a < f 0) → X 1 I J B) : gC E 114 [.inr (3, 0, 0), .inl (.int (gi a))] I J B Q X := by
  have h0 := hv.1
  refine e_X7_requireDiagonal ?_
  rw [hR.1.1, gi_neg, gi_le h1 h2 (by omega) (by omega), gi_lt h1 h2 (by omega) (by omega)]
  exact ⟨fun h => ⟨⟨by decide, by decide⟩, k2 (by omega)⟩, fun h => ⟨fun h3 => k1 (by omega) h3, fun h3 => ⟨⟨by decide, by decide⟩, k2 (by omega)⟩⟩⟩
theorem z_rz {a : Int} (h1 : -2147483648 ≤ a) (h2 : a < 2147483648) (hv : Vf f) (hR : Rst f I J 0) (k1 : 0 ≤ a → a ≤ f 0 → Q (.inl .null) I J B) (k2 : ¬ (0 ≤ a ∧ a ≤ f 0) → X 1 I J B) : gC E 115 [.inr (3, 0, 0), .inl (.int (gi a))] I J B Q X := by
  have h0 := hv.1
  refine e_X7_requireSize ?_
  rw [hR.1.1, gi_lt h1 h2 (by decide) (by decide), gi_le h1 h2 (by omega) (by omega)]
  exact ⟨fun h => ⟨⟨by decide, by decide⟩, k2 (by omega)⟩, fun h => ⟨fun h3 => k1 (by omega) h3, fun h3 => ⟨⟨by decide, by decide⟩, k2 (by omega)⟩⟩⟩
theorem z_ro {a : Int} (h1 : -2147483648 ≤ a) (h2 : a < 2147483648) (k1 : 0 ≤ a → a < 2 → Q (.inl .null) I J B) (k2 : ¬ (0 ≤ a ∧ a < 2) → X 1 I J B) : gC E 116 [.inl (.int (gi a))] I J B Q X := by
  refine e_X7_requireSlot ?_
  rw [gi_lt h1 h2 (by decide) (by decide), gi_lt h1 h2 (by decide) (by decide)]
  exact ⟨fun h => ⟨⟨by decide, by decide⟩, k2 (by omega)⟩, fun h => ⟨fun h3 => k1 (by omega) h3, fun h3 => ⟨⟨by decide, by decide⟩, k2 (by omega)⟩⟩⟩
theorem z_ri {a m : Int} (h1 : -2147483648 ≤ a) (h2 : a < 2147483648) (h3 : 0 ≤ m) (h4 : m ≤ 1000) (k1 : -m ≤ a → a ≤ m → Q (.inl .null) I J B) (k2 : ¬ (-m ≤ a ∧ a ≤ m) → X 2 I J B) : gC E 117 [.inl (.int (gi a)), .inl (.int (gi m))] I J B Q X := by
  refine e_X7_requireWithin ?_
  rw [gi_neg, gi_lt h1 h2 (by omega) (by omega), gi_le h1 h2 (by omega) (by omega)]
  exact ⟨fun h => ⟨⟨by decide, by decide⟩, k2 (by omega)⟩, fun h => ⟨fun h3 => k1 (by omega) h3, fun h3 => ⟨⟨by decide, by decide⟩, k2 (by omega)⟩⟩⟩
theorem Cl.of {y : Nat} {args : List gV} {ge : (Nat → Int) → Nat} {gr : (Nat → Int) → Int} (hS : Sys o I J) (hno : I 6 0 0 0 = gi 0 → ∀ Q X, X 0 I J B → gC E y args I J B Q X) (hyes : ∀ f, Vf f → Rst f I J 0 → Cl E y args I J B (ge f) (.inl (.int (gi (gr f))))) : Cl E y args I J B (eM o ge) (.inl (.int (gi (rM o gr)))) := by
  cases o with
  | none => exact fun Q X _ k => hno hS.1 Q X (k 0 rfl I J QF.rf JQ.rf)
  | some f => exact hyes f hS.1 hS.2
end YC
