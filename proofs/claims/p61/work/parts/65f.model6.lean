/-! ===== the model's solutions, fractions, lifts ===== -/
section ZX
variable {E : gEn} {Q : gQt} {X : gXt} {I : gI} {J : gJ} {B : gB} {c w : Nat} {p : Int} {f : Nat → Int}
def Fgl (I I' : gI) : Prop := ∀ a b c d, a ≠ 38 → a ≠ 39 → ¬ (a = 31 ∧ d = 21) → I' a b c d = I a b c d
theorem Fgl.rf {I : gI} : Fgl I I := fun _ _ _ _ _ _ _ => rfl
theorem Fgl.tr {I I' I2 : gI} (h : Fgl I I') (h2 : Fgl I' I2) : Fgl I I2 := fun a b c d h3 h4 h5 => (h2 a b c d h3 h4 h5).trans (h a b c d h3 h4 h5)
theorem Fpg.toL {I I' : gI} (h : Fpg I I') : Fgl I I' := fun a b c d h1 _ h2 => h a b c d h1 h2
theorem F389.toL {I I' : gI} (h : F389 I I') : Fgl I I' := fun a b c d h1 h2 _ => h a b c d h1 h2
theorem Mrow.fgl {I' : gI} (h : Mrow f I) (hF : Fgl I I') : Mrow f I' := fun k hk => (hF 32 0 0 k (by decide) (by decide) (fun h => absurd h.1 (by decide))).trans (h k hk)
theorem M0n {I : gI} (hv : Vf f) (hM : Mrow f I) : I 32 0 0 0 = gi ((f 0).toNat : Nat) := by
  have h0 := hv.1
  rw [hM 0 (by decide), show (((f 0).toNat : Nat) : Int) = f 0 by omega]
theorem setp {x : Int32} : Fpg I (gUI I 31 0 0 21 x) := fun a b c d h1 h2 => by
  rw [gUI_at, if_neg (fun h => h2 ⟨h.1, h.2.2.2⟩)]
theorem setp_v {x : Int32} : (gUI I 31 0 0 21 x) 31 0 0 21 = x := if_pos ⟨rfl, rfl, rfl, rfl⟩
theorem Gm.col {I' : gI} {n i : Nat} {M M' : gMx} (hn : n ≤ 7) (hG : Gm I n 0 n M) (hI : ∀ a, I' 38 0 0 a = if a = 8 * i + 7 then gi (M' i n) else I 38 0 0 a) (hM : ∀ a b, a < n → b ≤ n → ¬ (a = i ∧ b = n) → M' a b = M a b) : Gm I' n 0 n M' := fun a b h1 h2 h3 => by
  have hc := cmx_lt (j := b) hn
  rw [hI]
  by_cases h4 : a = i ∧ b = n
  · obtain ⟨rfl, rfl⟩ := h4
    rw [if_pos (by unfold cmx; rw [if_neg (Nat.lt_irrefl _)])]
  · rw [if_neg, hM a b h2 h3 h4]
    · exact hG a b h1 h2 h3
    · intro h5
      have h6 : a = i := by omega
      have h7 : cmx n b = 7 := by omega
      unfold cmx at h7
      split at h7
      · omega
      · exact h4 ⟨h6, by omega⟩
def frM (f : Nat → Int) (i : Nat) (Q : gQt) (I : gI) (J : gJ) (B : gB) : Prop := match frac f i with
  | none => Q (.inl (.int (gi 0))) I J B
  | some (t, b) => Q (.inl (.int (gi 1))) I (gUJ (gUJ J 31 0 28 (gj t)) 31 0 29 (gj b)) B
end ZX
