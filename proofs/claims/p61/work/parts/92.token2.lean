/-! ===== the reference's tokens ===== -/
def sn (t : Nat → Int) (n p : Nat) : Int := if p < n then t p else -1
section YU
variable {E : gEn} {Q : gQt} {X : gXt} {I : gI} {J : gJ} {B : gB} {c w n e p st : Nat} {t : Nat → Int} {lo hi x : Int} {k : Tok}
theorem sn_b (hb : Tb t n) : -1 ≤ sn t n p ∧ sn t n p < 256 := by
  unfold sn
  split
  · have := hb.2 p ‹_›; omega
  · omega
theorem FM.rf : FM I I := fun _ _ _ _ _ => rfl
theorem FM.up {I' : gI} {d : Nat} {x : Int32} (h : FM I I') (hd : d = 11 ∨ d = 12 ∨ d = 13 ∨ d = 14) : FM I (gUI I' 31 0 0 d x) := fun a b c d2 h1 => by
  rw [gUI_at, if_neg (fun z => h1 ⟨z.1, by omega⟩)]
  exact h a b c d2 h1
theorem FM.tr {I' I2 : gI} (h : FM I I') (h2 : FM I' I2) : FM I I2 := fun a b c d h3 => (h2 a b c d h3).trans (h a b c d h3)
theorem Tm.fm {I' : gI} (h : Tm t n I) (f : FM I I') : Tm t n I' := ⟨(f 31 0 0 10 (by omega)).trans h.1, fun k hk => (f 35 0 0 k (by omega)).trans (h.2 k hk)⟩
theorem g10 : ¬ (gi 1 : Int32) = gi 0 := by decide
theorem sn_in (hlo : 0 ≤ lo) : (lo ≤ sn t n p ∧ sn t n p ≤ hi) ↔ (p < n ∧ lo ≤ t p ∧ t p ≤ hi) := by
  unfold sn
  split
  · exact ⟨fun h => ⟨‹_›, h⟩, fun h => h.2⟩
  · exact ⟨fun h => by omega, fun h => absurd h.1 ‹_›⟩
end YU
