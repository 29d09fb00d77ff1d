/-! ===== the reference's reading: head and all ===== -/
def FRD (I I' : gI) : Prop := ∀ a b c d, ¬ (a = 31 ∧ (10 ≤ d ∧ d ≤ 16 ∨ d = 19)) → a ≠ 36 → a ≠ 37 → I' a b c d = I a b c d
section YQ
variable {E : gEn} {Q : gQt} {X : gXt} {I : gI} {J : gJ} {B : gB} {c w n e p st m bb : Nat} {t : Nat → Int} {lo hi x v : Int} {k : Tok} {f : Nat → Int} {tD : Nat → Bool} {s s' : PS}
theorem FRD.rf : FRD I I := fun _ _ _ _ _ _ _ => rfl
theorem FRD.tr {I' I2 : gI} (h : FRD I I') (h2 : FRD I' I2) : FRD I I2 := fun a b c d h3 h4 h5 => (h2 a b c d h3 h4 h5).trans (h a b c d h3 h4 h5)
theorem FR2.d {I' : gI} (h : FR2 I I') : FRD I I' := fun a b c d z h4 h5 => h a b c d (by omega) h4 h5
theorem FRD.up31 {I' : gI} {d : Nat} {x : Int32} (h : FRD I I') (hd : 10 ≤ d ∧ d ≤ 16 ∨ d = 19) : FRD I (gUI I' 31 0 0 d x) := fun a b c d2 z h4 h5 => by
  rw [gUI_at, if_neg (fun q => z ⟨q.1, by omega⟩)]
  exact h a b c d2 z h4 h5
theorem FRD.up {I' : gI} {a0 d : Nat} {x : Int32} (h : FRD I I') (hd : a0 = 36 ∨ a0 = 37) : FRD I (gUI I' a0 0 0 d x) := fun a b c d2 z h4 h5 => by
  rw [gUI_at, if_neg (by omega)]
  exact h a b c d2 z h4 h5
theorem vq0 : vp_in (gi 0) 408 := gvp (by decide) (by decide) (by decide)
theorem vq1 : vp_in (gi 1) 408 := gvp (by decide) (by decide) (by decide)
/-! what is left behind an error -/
theorem RB.row {r : Nat} (h : RB t n f tD bb I) : RB t n (upF f r v) tD bb (gUI I 36 0 0 r (gi v)) := by
  obtain ⟨g1, g2, g3, g4, g5⟩ := h
  refine ⟨⟨(if_neg (by omega)).trans g1.1, fun q hq => (if_neg (by omega)).trans (g1.2 q hq)⟩, fun q hq => ?_, fun j hj => (if_neg (by omega)).trans (g3 j hj), (if_neg (by omega)).trans g4, (if_neg (by omega)).trans g5⟩
  rw [gUI_at]
  unfold upF
  by_cases z : q = r
  · rw [if_pos ⟨rfl, rfl, rfl, z⟩, if_pos z]
  · rw [if_neg (fun y => z y.2.2.2), if_neg z]
    exact g2 q hq
theorem Mt.row {r : Nat} {y : Int32} (h : Mt k I) : Mt k (gUI I 36 0 0 r y) := by
  obtain ⟨g1, g2, g3, g4⟩ := h
  exact ⟨(if_neg (by omega)).trans g1, (if_neg (by omega)).trans g2, (if_neg (by omega)).trans g3, fun z => (if_neg (by omega)).trans (g4 z)⟩
theorem PE.wr {er pos r : Nat} {y : Int32} (h1 : 1 ≤ er) (h2 : er ≤ 4) (h : I 31 0 0 12 = gi pos) : PE (.inl (er, pos)) (gUI (WR I er) 36 0 0 r y) := ⟨h1, h2, (if_neg (by omega)).trans wr15, (if_neg (by omega)).trans (wr16.trans h)⟩
theorem f0P_0 {N p : Int} : f0P N p 0 = N := by
  unfold f0P upF
  rw [if_neg (by decide), if_pos rfl]
theorem f0P_1 {N p : Int} : f0P N p 1 = p := by
  unfold f0P upF
  rw [if_pos rfl]
theorem f0P_n {N p : Int} {m : Nat} (h : 2 ≤ m) : f0P N p m = 0 := by
  unfold f0P upF
  rw [if_neg (by omega), if_neg (by omega)]
theorem f0P_V {N p : Int} (h1 : 1 ≤ N) (h2 : N ≤ 7) (hp : p ∈ primesL) {tD : Nat → Bool} : Vp (k, f0P N p, tD, 0) := by
  refine ⟨?_, ?_, fun i hi => ?_, fun i hi => ?_, fun i hi => ?_, fun i hi => ?_, ?_, Nat.zero_le _⟩
  · show 1 ≤ f0P N p 0 ∧ f0P N p 0 ≤ 7
    rw [f0P_0]; exact ⟨h1, h2⟩
  · show f0P N p 1 ∈ primesL
    rw [f0P_1]; exact hp
  · show -50 ≤ f0P N p (2 + i) ∧ f0P N p (2 + i) ≤ 50
    rw [f0P_n (by omega)]; decide
  · show -999 ≤ f0P N p (15 + i) ∧ f0P N p (15 + i) ≤ 999
    rw [f0P_n (by omega)]; decide
  · show -999 ≤ f0P N p (22 + i) ∧ f0P N p (22 + i) ≤ 999
    rw [f0P_n (by omega)]; decide
  · exact f0P_n (by omega)
  · exact f0P_n (N := N) (p := p) (m := 317) (by decide)
def S0 (n : Nat) (I : gI) : Prop := I 31 0 0 10 = gi n ∧ I 31 0 0 11 = gi 0 ∧ I 31 0 0 15 = gi 0 ∧ I 31 0 0 19 = gi 0
theorem S0.up {a0 d : Nat} {x : Int32} (h : S0 n I) (ha : a0 = 36 ∨ a0 = 37) : S0 n (gUI I a0 0 0 d x) :=
  ⟨(if_neg (by omega)).trans h.1, (if_neg (by omega)).trans h.2.1, (if_neg (by omega)).trans h.2.2.1, (if_neg (by omega)).trans h.2.2.2⟩
theorem nar0 : vp_nar .boolean (gi 0) = gi 0 := by decide
end YQ
