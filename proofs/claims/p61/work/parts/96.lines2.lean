/-! ===== the reference's lines, on ===== -/
section YX2
variable {E : gEn} {Q : gQt} {X : gXt} {I : gI} {J : gJ} {B : gB} {c w n e p st m bb : Nat} {t : Nat → Int} {lo hi x v : Int} {k : Tok} {f : Nat → Int} {tD : Nat → Bool} {s : PS}
/-! a band -/
theorem WR_36 {er q : Nat} : (WR I er) 36 0 0 q = I 36 0 0 q := by
  unfold WR
  rw [gUI_at, if_neg (by omega), gUI_at, if_neg (by omega)]
theorem RB.eqB {tD' : Nat → Bool} {f' : Nat → Int} (h : RB t n f tD bb I) (h1 : ∀ j, tD' j = tD j) (h2 : ∀ j, f' j = f j) : RB t n f' tD' bb I := by
  rw [show tD' = tD from funext h1, show f' = f from funext h2]
  exact h
theorem RB.bnd (h : RB t n f tD bb I) (hb8 : bb < 8) : RB t n f tD (bb + 1) (gUI I 31 0 0 19 (I 31 0 0 19 + gi 1)) := by
  obtain ⟨g1, g2, g3, g4, g5⟩ := h
  refine ⟨⟨(if_neg (by omega)).trans g1.1, fun q hq => (if_neg (by omega)).trans (g1.2 q hq)⟩, fun q hq => (if_neg (by omega)).trans (g2 q hq), fun j hj => (if_neg (by omega)).trans (g3 j hj), ?_, (if_neg (by omega)).trans g5⟩
  rw [gu_s, g4, gi_add]
  rfl
theorem Mt.bnd {y : Int32} (h : Mt k I) : Mt k (gUI I 31 0 0 19 y) := by
  obtain ⟨g1, g2, g3, g4⟩ := h
  exact ⟨(if_neg (by omega)).trans g1, (if_neg (by omega)).trans g2, (if_neg (by omega)).trans g3, fun z => (if_neg (by omega)).trans (g4 z)⟩
end YX2
