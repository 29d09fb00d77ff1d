/-! ===== the changes ===== -/
def CF (I I' : gI) : Prop := ∀ a b c d, (a = 4 ∨ a = 5 ∨ a = 16 ∨ (6 ≤ a ∧ a ≤ 12 ∧ (b = 11 ∨ b = 12)) ∨ 31 ≤ a) → I' a b c d = I a b c d
def CJ (J J' : gJ) : Prop := ∀ a b d, (a = 6 ∨ a = 10) → (b = 11 ∨ b = 12) → J' a b d = J a b d
def MF (I I' : gI) : Prop := ∀ a b c d, (a ≤ 30 ∨ (a = 31 ∧ d ≠ 0 ∧ d ≠ 4 ∧ d ≠ 21 ∧ d ≠ 24) ∨ (a = 33 ∧ 3672 ≤ d) ∨ a = 34 ∨ a = 35) → I' a b c d = I a b c d
theorem CF.rf {I : gI} : CF I I := fun _ _ _ _ _ => rfl
theorem CJ.rf {J : gJ} : CJ J J := fun _ _ _ _ _ => rfl
theorem MF.rf {I : gI} : MF I I := fun _ _ _ _ _ => rfl
theorem CF.tr {I I' I2 : gI} (h : CF I I') (h2 : CF I' I2) : CF I I2 := fun a b c d h3 => (h2 a b c d h3).trans (h a b c d h3)
theorem CJ.tr {J J' J2 : gJ} (h : CJ J J') (h2 : CJ J' J2) : CJ J J2 := fun a b d h3 h4 => (h2 a b d h3 h4).trans (h a b d h3 h4)
theorem MF.tr {I I' I2 : gI} (h : MF I I') (h2 : MF I' I2) : MF I I2 := fun a b c d h3 => (h2 a b c d h3).trans (h a b c d h3)
theorem CR.c {I I' : gI} (h : CR I I') : CF I I' := fun a b c d h1 => h a b c d (by omega) (by omega)
theorem JR.c {J J' : gJ} (h : JR J J') : CJ J J' := fun a b d h1 h2 => h a b d (by omega)
theorem FS.c {I I' : gI} (h : FS 0 I I') : CF I I' := fun a b c d h1 => h a b c d (by omega)
theorem FJ.c {J J' : gJ} (h : FJ 0 J J') : CJ J J' := fun a b d h1 h2 => h a b d (by omega)
theorem FL.c {I I' : gI} (h : FL 0 I I') : CF I I' := fun a b c d h1 => h a b c d (by omega) (by omega)
theorem Fg.c {I I' : gI} (h : Fg 1 I I') : CF I I' := fun a b c d h1 => h a b c d (by omega)
theorem FF.c {J J' : gJ} (h : FF J J') : CJ J J' := fun a b d h1 h2 => h a b d (by omega) (by omega)
theorem CF.up {I I' : gI} {k a b : Nat} {x : Int32} (h : CF I I') (hk : 6 ≤ k ∧ k ≤ 13) : CF I (gUI I' k 0 a b x) := fun a2 b2 c d h1 => by
  rw [gUI_at, if_neg (fun z => by omega)]
  exact h a2 b2 c d h1
theorem T0.m {I I' : gI} (h : T0 I I') : MF I I' := fun a b c d h1 => h a b c d (by omega)
theorem FK.m {I I' : gI} (h : FK I I') : MF I I' := fun a b c d h1 => h a b c d (by omega) (by omega)
theorem FR.mf {I I' : gI} (h : FR I I') : MF I I' := fun a b c d h1 => h a b c d (by omega) (by omega) (by omega) (by omega)
theorem Fpg.m {I I' : gI} (h : Fpg I I') : MF I I' := fun a b c d h1 => h a b c d (by omega) (by omega)
theorem F32.mf {I I' : gI} (h : F32 I I') : MF I I' := fun a b c d h1 => h a b c d (by omega)
theorem MF.up32 {I I' : gI} {k : Nat} {x : Int32} (h : MF I I') : MF I (gUI I' 32 0 0 k x) := fun a b c d h1 => by
  rw [gUI_at, if_neg (fun z => by omega)]
  exact h a b c d h1
theorem Vf.bg {f : Nat → Int} (hv : Vf f) : Vf (bgF f) := by
  obtain ⟨v1, v2, v3, v4, v5, v6, v7, v8, v9⟩ := hv
  have e : ∀ j, j < 29 ∨ 36 < j → bgF f j = f j := fun j hj => bgF_ne v1.2 hj
  refine ⟨?_, ?_, fun j hj => ?_, fun j hj => ?_, fun j hj => ?_, fun j hj => ?_, ?_, fun j i hj hi => ?_, ?_⟩
  · rw [e _ (by omega)]; exact v1
  · rw [e _ (by omega)]; exact v2
  · rw [e _ (by omega)]; exact v3 j hj
  · rw [e _ (by omega)]; exact v4 j hj
  · rw [e _ (by omega)]; exact v5 j hj
  · unfold bgF
    rw [if_neg (by omega)]
    split
    · rw [show 29 + j - 14 = 15 + j by omega]
      exact v4 j hj
    · exact v6 j hj
  · rw [show bgF f 36 = 0 from if_pos rfl]
    exact ⟨Int.le_refl 0, by rw [show (0 : Int).toNat = 0 from rfl, Int.pow_zero]; decide⟩
  · rw [show bgF f 36 = 0 from if_pos rfl] at hj
    exact absurd hj (Nat.not_lt_zero j)
  · rw [e _ (by omega)]; exact v9
section YL
variable {E : gEn} {Q : gQt} {X : gXt} {I : gI} {J : gJ} {B : gB} {cc w : Nat} {f : Nat → Int} {c nx : Nat} {h : Nat → Nat → Int} {a b d : Int}
def St (f' : Nat → Int) (c nx : Nat) (h : Nat → Nat → Int) (f : Nat → Int) (I : gI) (J : gJ) (B : gB) : Prop := Rst f' I J 0 ∧ Clh I J B (min (c + 1) 8) ((nx + 1) % 8) (nwH c h f) ∧ Bk B ∧ Vf f'
theorem Clh.to {I' : gI} {J' : gJ} (hC : Clh I J B c nx h) (h1 : ∀ d, I' 13 0 0 d = I 13 0 0 d) (h2 : ∀ a b d, 6 ≤ a → a ≤ 12 → 3 ≤ b → b ≤ 10 → I' a b 0 d = I a b 0 d) (h3 : ∀ a b d, (a = 6 ∨ a = 10) → 3 ≤ b → b ≤ 10 → J' a b d = J a b d) : Clh I' J' B c nx h := by
  obtain ⟨g1, g2, g3, g4, g5⟩ := hC
  refine ⟨(h1 2).trans g1, (h1 1).trans g2, g3, g4, fun j hj => ?_⟩
  obtain ⟨k1, k2, k3⟩ := g5 j hj
  exact ⟨k1, k2.to (fun a d z1 z2 => h2 a _ d z1 z2 (by omega) (by omega)) (fun a d z1 => h3 a _ d z1 (by omega) (by omega)), k3⟩
theorem Clh.fs {I' : gI} {J' : gJ} (hC : Clh I J B c nx h) (h1 : FS 0 I I') (h2 : FJ 0 J J') : Clh I' J' B c nx h := hC.to (fun d => h1 13 0 0 d (by omega)) (fun a b d z1 z2 z3 z4 => h1 a b 0 d (by omega)) (fun a b d z1 z2 z3 => h2 a b d (by omega))
theorem z_chg {g : Nat → Int} {I1 : gI} {J1 : gJ} {B1 : gB} (hC : Clh I1 J1 B1 c nx h) (hB : Bk B1) (hv : Vf g) (h0 : Rs0 g I1 0) (h1 : CF I I1) (h2 : CJ J J1) (k : ∀ I' J', CF I I' → CJ J J' → Rst (bgF g) I' J' 0 → Clh I' J' B1 c nx h → Q (.inl .null) I' J' B1) : gC E 48 [.inr (6, 0, 0)] I1 J1 B1 Q X :=
  z_begin hv.1.2 h0 fun I' J' fs fj hR => k I' J' (h1.tr fs.c) (h2.tr fj.c) hR (hC.fs fs fj)
theorem CR.rst0 {I' : gI} {J' : gJ} (h1 : CR I I') (h2 : JR J J') (hR : Rst f I J 0) : Rst f I' J' 0 := hR.to (fun a d _ _ => h1 a 0 0 d (by omega) (by omega)) (fun a d _ => h2 a 0 d (by omega))
theorem Rs0.dia {k : Nat} {v : Int} (h : Rs0 f I 0) (hk : k < 13) : Rs0 (upF f (2 + k) v) (gUI I 7 0 0 k (gi v)) 0 := by
  obtain ⟨r1, r2, r3, r4, r5, r6, r7⟩ := h
  have e : ∀ j, j ≠ 2 + k → upF f (2 + k) v j = f j := fun j hj => upF_ne hj
  refine ⟨?_, ?_, fun j hj => ?_, fun j hj => ?_, fun j hj => ?_, ?_, fun j hj => ?_⟩
  · rw [gUI_at, if_neg (by omega), e _ (by omega)]; exact r1
  · rw [gUI_at, if_neg (by omega), e _ (by omega)]; exact r2
  · rw [gUI_at]
    by_cases hjk : j = k
    · rw [if_pos ⟨rfl, rfl, rfl, hjk⟩, hjk]
      exact congrArg gi (if_pos rfl).symm
    · rw [if_neg (by omega), e _ (by omega)]; exact r3 j hj
  · rw [gUI_at, if_neg (by omega), e _ (by omega)]; exact r4 j hj
  · rw [gUI_at, if_neg (by omega), e _ (by omega)]; exact r5 j hj
  · rw [gUI_at, if_neg (by omega), e _ (by omega)]; exact r6
  · rw [e _ (by omega)] at hj
    rw [gUI_at, if_neg (by omega), e _ (by omega)]; exact r7 j hj
theorem Rs0.sid {k : Nat} {v : Int} (h : Rs0 f I 0) (hk : k < 7) : Rs0 (upF f (15 + k) v) (gUI I 8 0 0 k (gi v)) 0 := by
  obtain ⟨r1, r2, r3, r4, r5, r6, r7⟩ := h
  have e : ∀ j, j ≠ 15 + k → upF f (15 + k) v j = f j := fun j hj => upF_ne hj
  refine ⟨?_, ?_, fun j hj => ?_, fun j hj => ?_, fun j hj => ?_, ?_, fun j hj => ?_⟩
  · rw [gUI_at, if_neg (by omega), e _ (by omega)]; exact r1
  · rw [gUI_at, if_neg (by omega), e _ (by omega)]; exact r2
  · rw [gUI_at, if_neg (by omega), e _ (by omega)]; exact r3 j hj
  · rw [gUI_at]
    by_cases hjk : j = k
    · rw [if_pos ⟨rfl, rfl, rfl, hjk⟩, hjk]
      exact congrArg gi (if_pos rfl).symm
    · rw [if_neg (by omega), e _ (by omega)]; exact r4 j hj
  · rw [gUI_at, if_neg (by omega), e _ (by omega)]; exact r5 j hj
  · rw [gUI_at, if_neg (by omega), e _ (by omega)]; exact r6
  · rw [e _ (by omega)] at hj
    rw [gUI_at, if_neg (by omega), e _ (by omega)]; exact r7 j hj
theorem Rs0.prb {k : Nat} {v : Int} (h : Rs0 f I 0) (hk : k < 7) : Rs0 (upF f (22 + k) v) (gUI I 9 0 0 k (gi v)) 0 := by
  obtain ⟨r1, r2, r3, r4, r5, r6, r7⟩ := h
  have e : ∀ j, j ≠ 22 + k → upF f (22 + k) v j = f j := fun j hj => upF_ne hj
  refine ⟨?_, ?_, fun j hj => ?_, fun j hj => ?_, fun j hj => ?_, ?_, fun j hj => ?_⟩
  · rw [gUI_at, if_neg (by omega), e _ (by omega)]; exact r1
  · rw [gUI_at, if_neg (by omega), e _ (by omega)]; exact r2
  · rw [gUI_at, if_neg (by omega), e _ (by omega)]; exact r3 j hj
  · rw [gUI_at, if_neg (by omega), e _ (by omega)]; exact r4 j hj
  · rw [gUI_at]
    by_cases hjk : j = k
    · rw [if_pos ⟨rfl, rfl, rfl, hjk⟩, hjk]
      exact congrArg gi (if_pos rfl).symm
    · rw [if_neg (by omega), e _ (by omega)]; exact r5 j hj
  · rw [gUI_at, if_neg (by omega), e _ (by omega)]; exact r6
  · rw [e _ (by omega)] at hj
    rw [gUI_at, if_neg (by omega), e _ (by omega)]; exact r7 j hj
theorem Rs0.hd {k : Nat} {v : Int} (h : Rs0 f I 0) (hk : k < 2) : Rs0 (upF f k v) (gUI I 6 0 0 k (gi v)) 0 := by
  obtain ⟨r1, r2, r3, r4, r5, r6, r7⟩ := h
  have e : ∀ j, j ≠ k → upF f k v j = f j := fun j hj => upF_ne hj
  refine ⟨?_, ?_, fun j hj => ?_, fun j hj => ?_, fun j hj => ?_, ?_, fun j hj => ?_⟩
  · rw [gUI_at]
    by_cases hjk : 0 = k
    · rw [if_pos ⟨rfl, rfl, rfl, hjk⟩]
      exact congrArg gi (if_pos hjk).symm
    · rw [if_neg (by omega), e _ (by omega)]; exact r1
  · rw [gUI_at]
    by_cases hjk : 1 = k
    · rw [if_pos ⟨rfl, rfl, rfl, hjk⟩]
      exact congrArg gi (if_pos hjk).symm
    · rw [if_neg (by omega), e _ (by omega)]; exact r2
  · rw [gUI_at, if_neg (by omega), e _ (by omega)]; exact r3 j hj
  · rw [gUI_at, if_neg (by omega), e _ (by omega)]; exact r4 j hj
  · rw [gUI_at, if_neg (by omega), e _ (by omega)]; exact r5 j hj
  · rw [gUI_at, if_neg (by omega), e _ (by omega)]; exact r6
  · rw [e _ (by omega)] at hj
    rw [gUI_at, if_neg (by omega), e _ (by omega)]; exact r7 j hj
theorem Vf.sid {k : Nat} {v : Int} (hv : Vf f) (hk : k < 7) (h1 : -999 ≤ v) (h2 : v ≤ 999) : Vf (upF f (15 + k) v) := by
  obtain ⟨v1, v2, v3, v4, v5, v6, v7, v8, v9⟩ := hv
  have e : ∀ j, j ≠ 15 + k → upF f (15 + k) v j = f j := fun j hj => upF_ne hj
  refine ⟨?_, ?_, fun j hj => ?_, fun j hj => ?_, fun j hj => ?_, fun j hj => ?_, ?_, fun j i hj hi => ?_, ?_⟩
  · rw [e _ (by omega)]; exact v1
  · rw [e _ (by omega)]; exact v2
  · rw [e _ (by omega)]; exact v3 j hj
  · by_cases hh : j = k
    · rw [hh, show upF f (15 + k) v (15 + k) = v from if_pos rfl]
      exact ⟨h1, h2⟩
    · rw [e _ (by omega)]; exact v4 j hj
  · rw [e _ (by omega)]; exact v5 j hj
  · rw [e _ (by omega)]; exact v6 j hj
  · rw [e _ (by omega), e _ (by omega)]; exact v7
  · rw [e _ (by omega)] at hj
    rw [e _ (by omega)] at hi
    rw [e _ (by omega), e _ (by omega)]; exact v8 j i hj hi
  · rw [e _ (by omega)]; exact v9
theorem Vf.prb {k : Nat} {v : Int} (hv : Vf f) (hk : k < 7) (h1 : -999 ≤ v) (h2 : v ≤ 999) : Vf (upF f (22 + k) v) := by
  obtain ⟨v1, v2, v3, v4, v5, v6, v7, v8, v9⟩ := hv
  have e : ∀ j, j ≠ 22 + k → upF f (22 + k) v j = f j := fun j hj => upF_ne hj
  refine ⟨?_, ?_, fun j hj => ?_, fun j hj => ?_, fun j hj => ?_, fun j hj => ?_, ?_, fun j i hj hi => ?_, ?_⟩
  · rw [e _ (by omega)]; exact v1
  · rw [e _ (by omega)]; exact v2
  · rw [e _ (by omega)]; exact v3 j hj
  · rw [e _ (by omega)]; exact v4 j hj
  · by_cases hh : j = k
    · rw [hh, show upF f (22 + k) v (22 + k) = v from if_pos rfl]
      exact ⟨h1, h2⟩
    · rw [e _ (by omega)]; exact v5 j hj
  · rw [e _ (by omega)]; exact v6 j hj
  · rw [e _ (by omega), e _ (by omega)]; exact v7
  · rw [e _ (by omega)] at hj
    rw [e _ (by omega)] at hi
    rw [e _ (by omega), e _ (by omega)]; exact v8 j i hj hi
  · rw [e _ (by omega)]; exact v9
theorem Vf.mk0 {g : Nat → Int} (v1 : 1 ≤ g 0 ∧ g 0 ≤ 7) (v2 : g 1 ∈ primesL) (v3 : ∀ k, k < 13 → -50 ≤ g (2 + k) ∧ g (2 + k) ≤ 50) (v4 : ∀ i, i < 7 → -999 ≤ g (15 + i) ∧ g (15 + i) ≤ 999) (v5 : ∀ i, i < 7 → -999 ≤ g (22 + i) ∧ g (22 + i) ≤ 999) (v6 : ∀ i, i < 7 → -999 ≤ g (29 + i) ∧ g (29 + i) ≤ 999) (v9 : 0 ≤ g 317 ∧ g 317 ≤ 30) : Vf (bgF g) := by
  have e : ∀ j, j < 29 ∨ 36 < j → bgF g j = g j := fun j hj => bgF_ne v1.2 hj
  refine ⟨?_, ?_, fun j hj => ?_, fun j hj => ?_, fun j hj => ?_, fun j hj => ?_, ?_, fun j i hj hi => ?_, ?_⟩
  · rw [e _ (by omega)]; exact v1
  · rw [e _ (by omega)]; exact v2
  · rw [e _ (by omega)]; exact v3 j hj
  · rw [e _ (by omega)]; exact v4 j hj
  · rw [e _ (by omega)]; exact v5 j hj
  · unfold bgF
    rw [if_neg (by omega)]
    split
    · rw [show 29 + j - 14 = 15 + j by omega]
      exact v4 j hj
    · exact v6 j hj
  · rw [show bgF g 36 = 0 from if_pos rfl]
    exact ⟨Int.le_refl 0, by rw [show (0 : Int).toNat = 0 from rfl, Int.pow_zero]; decide⟩
  · rw [show bgF g 36 = 0 from if_pos rfl] at hj
    exact absurd hj (Nat.not_lt_zero j)
  · rw [e _ (by omega)]; exact v9
theorem c_setDiagonal (h1 : -2147483648 ≤ a) (h2 : a < 2147483648) (h3 : -2147483648 ≤ b) (h4 : b < 2147483648) (hv : Vf f) (hR : Rst f I J 0) (hC : Clh I J B c nx h) (hB : Bk B)
    (k1 : (-f 0 < a ∧ a < f 0) → (-50 ≤ b ∧ b ≤ 50) → ∀ I' J' B', CF I I' → CJ J J' → gBl B B' → St (bgF (upF f (2 + (a + 6).toNat) b)) c nx h f I' J' B' → Q (.inl (.int (gi (f (2 + (a + 6).toNat))))) I' J' B') (k2 : ¬ (-f 0 < a ∧ a < f 0) → X 1 I J B) (k3 : (-f 0 < a ∧ a < f 0) → ¬ (-50 ≤ b ∧ b ≤ 50) → X 2 I J B) : gC E 98 [.inr (3, 0, 0), .inl (.int (gi a)), .inl (.int (gi b))] I J B Q X := by
  have h0 := hv.1
  refine e_X7_setDiagonal ⟨⟨by decide, by decide⟩, z_rs hv hR ⟨⟨by decide, by decide⟩, z_rd2 h1 h2 hv hR (fun g1 g2 => ⟨⟨by decide, by decide⟩, z_ri h3 h4 (by decide) (by decide) (fun g3 g4 => z_along (hR.dia hv) (by omega) (by omega) ⟨⟨by decide, by decide⟩, z_rem hv hR hC hB fun I2 J2 B2 cr jr hC2 hB2 hBl => z_putAlong (by omega) (by omega) ?_⟩) (fun g => k3 ⟨g1, g2⟩ g)⟩) k2⟩⟩
  have hv2 := hv.dia (k := (a + 6).toNat) (v := b) (by omega) g3 g4
  have hR2 := cr.rst0 jr hR
  refine z_chg (hC2.to (fun d => by rw [gUI_at, if_neg (by omega)]) (fun a b d _ _ _ _ => by rw [gUI_at, if_neg (by omega)]) (fun _ _ _ _ _ _ => rfl)) hB2 hv2 (hR2.1.dia (by omega)) (cr.c.up (by decide)) jr.c fun I' J' f1 f2 hR3 hC3 => ?_
  have := k1 ⟨g1, g2⟩ ⟨g3, g4⟩ I' J' B2 f1 f2 hBl ⟨hR3, hC3, hB2, hv2.bg⟩
  rw [dg_in (by omega) (by omega), show (a + 8).toNat = 2 + (a + 6).toNat by omega]
  exact this
theorem c_setSide (h1 : -2147483648 ≤ a) (h2 : a < 2147483648) (h3 : -2147483648 ≤ b) (h4 : b < 2147483648) (hv : Vf f) (hR : Rst f I J 0) (hC : Clh I J B c nx h) (hB : Bk B)
    (k1 : (0 ≤ a ∧ a < f 0) → (-999 ≤ b ∧ b ≤ 999) → ∀ I' J' B', CF I I' → CJ J J' → gBl B B' → St (bgF (upF f (15 + a.toNat) b)) c nx h f I' J' B' → Q (.inl (.int (gi (f (15 + a.toNat))))) I' J' B') (k2 : ¬ (0 ≤ a ∧ a < f 0) → X 1 I J B) (k3 : (0 ≤ a ∧ a < f 0) → ¬ (-999 ≤ b ∧ b ≤ 999) → X 2 I J B) : gC E 99 [.inr (3, 0, 0), .inl (.int (gi a)), .inl (.int (gi b))] I J B Q X := by
  have h0 := hv.1
  refine e_X7_setSide ⟨⟨by decide, by decide⟩, z_rs hv hR ⟨⟨by decide, by decide⟩, z_rr h1 h2 hv hR (fun g1 g2 => ⟨⟨by decide, by decide⟩, z_ri h3 h4 (by decide) (by decide) (fun g3 g4 => ⟨gvp g1 (by omega) (by decide), ⟨by decide, by decide⟩, z_rem hv hR hC hB fun I2 J2 B2 cr jr hC2 hB2 hBl => ⟨gvp g1 (by omega) (by decide), ?_⟩⟩) (fun g => k3 ⟨g1, g2⟩ g)⟩) k2⟩⟩
  have hv2 := hv.sid (k := a.toNat) (v := b) (by omega) g3 g4
  have hR2 := cr.rst0 jr hR
  rw [gi_c h1 h2, hR.1.2.2.2.1 _ (by omega)]
  refine z_chg (hC2.to (fun d => by rw [gUI_at, if_neg (by omega)]) (fun a b d _ _ _ _ => by rw [gUI_at, if_neg (by omega)]) (fun _ _ _ _ _ _ => rfl)) hB2 hv2 (hR2.1.sid (by omega)) (cr.c.up (by decide)) jr.c fun I' J' f1 f2 hR3 hC3 => ?_
  exact k1 ⟨g1, g2⟩ ⟨g3, g4⟩ I' J' B2 f1 f2 hBl ⟨hR3, hC3, hB2, hv2.bg⟩
theorem c_setProbe (h1 : -2147483648 ≤ a) (h2 : a < 2147483648) (h3 : -2147483648 ≤ b) (h4 : b < 2147483648) (hv : Vf f) (hR : Rst f I J 0) (hC : Clh I J B c nx h) (hB : Bk B)
    (k1 : (0 ≤ a ∧ a < f 0) → (-999 ≤ b ∧ b ≤ 999) → ∀ I' J' B', CF I I' → CJ J J' → gBl B B' → St (upF f (22 + a.toNat) b) c nx h f I' J' B' → Q (.inl (.int (gi (f (22 + a.toNat))))) I' J' B') (k2 : ¬ (0 ≤ a ∧ a < f 0) → X 1 I J B) (k3 : (0 ≤ a ∧ a < f 0) → ¬ (-999 ≤ b ∧ b ≤ 999) → X 2 I J B) : gC E 100 [.inr (3, 0, 0), .inl (.int (gi a)), .inl (.int (gi b))] I J B Q X := by
  have h0 := hv.1
  refine e_X7_setProbe ⟨⟨by decide, by decide⟩, z_rs hv hR ⟨⟨by decide, by decide⟩, z_rr h1 h2 hv hR (fun g1 g2 => ⟨⟨by decide, by decide⟩, z_ri h3 h4 (by decide) (by decide) (fun g3 g4 => ⟨gvp g1 (by omega) (by decide), ⟨by decide, by decide⟩, z_rem hv hR hC hB fun I2 J2 B2 cr jr hC2 hB2 hBl => ⟨gvp g1 (by omega) (by decide), ?_⟩⟩) (fun g => k3 ⟨g1, g2⟩ g)⟩) k2⟩⟩
  have hv2 := hv.prb (k := a.toNat) (v := b) (by omega) g3 g4
  have hR2 := cr.rst0 jr hR
  have h36 := pow_lim hv.p.1 hv.pw.2
  rw [gi_c h1 h2, hR.1.2.2.2.2.1 _ (by omega)]
  have e : ∀ j, j ≠ 22 + a.toNat → upF f (22 + a.toNat) b j = f j := fun j hj => upF_ne hj
  have eX : ∀ i, i < 7 → vX (upF f (22 + a.toNat) b) i = vX f i := fun i hi => by
    have key : ∀ k, k ≤ (f 36).toNat → vXs (upF f (22 + a.toNat) b) i k = vXs f i k := by
      intro k
      induction k with
      | zero => intro _; rfl
      | succ k ih =>
        intro hk
        show vXs (upF f (22 + a.toNat) b) i k + (upF f (22 + a.toNat) b) (37 + 7 * k + i) * ((upF f (22 + a.toNat) b) 1) ^ k = vXs f i k + f (37 + 7 * k + i) * (f 1) ^ k
        rw [ih (by omega), e _ (by omega), e _ (by omega)]
    unfold vX
    rw [e 36 (by omega)]
    exact key _ (Nat.le_refl _)
  refine k1 ⟨g1, g2⟩ ⟨g3, g4⟩ _ J2 B2 (cr.c.up (by decide)) jr.c hBl ⟨⟨hR2.1.prb (by omega), ?_⟩, hC2.to (fun d => by rw [gUI_at, if_neg (by omega)]) (fun a b d _ _ _ _ => by rw [gUI_at, if_neg (by omega)]) (fun _ _ _ _ _ _ => rfl), hB2, hv2⟩
  obtain ⟨r1, r2, r3, r4⟩ := hR2.2
  refine ⟨?_, ?_, fun i hi => ?_, fun i hi => ?_⟩
  · rw [gUI_at, if_neg (by omega), e _ (by omega)]; exact r1
  · rw [e _ (by omega), e _ (by omega)]; exact r2
  · rw [e _ (by omega)] at hi
    rw [eX i (by omega)]; exact r3 i hi
  · rw [e _ (by omega)] at hi
    rw [gUI_at, if_neg (by omega), e _ (by omega)]; exact r4 i hi
end YL
