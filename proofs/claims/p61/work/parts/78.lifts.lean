/-! ===== the reference's stores ===== -/
def F33 (b : Nat) (I I' : gI) : Prop := ∀ a x y d, ¬ (a = 33 ∧ 408 * b ≤ d ∧ d < 408 * b + 408) → I' a x y d = I a x y d
def F32 (I I' : gI) : Prop := ∀ a x y d, a ≠ 32 → I' a x y d = I a x y d
theorem F33.rf {b : Nat} {I : gI} : F33 b I I := fun _ _ _ _ _ => rfl
theorem F32.rf {I : gI} : F32 I I := fun _ _ _ _ _ => rfl
theorem gst {b q : Nat} (hb : b < 11) (hq : q < 408) : vp_in (gi 408 * gi (b : Int) + gi (q : Int)) 4488 ∧ Int32.toNatClampNeg (gi 408 * gi (b : Int) + gi (q : Int)) = 408 * b + q := by
  rw [gi_mul, gi_add, gi_c (by omega) (by omega)]
  exact ⟨gvp (by omega) (by omega) (by decide), by omega⟩
section YJ
variable {E : gEn} {Q : gQt} {X : gXt} {I : gI} {J : gJ} {B : gB} {c w : Nat} {f : Nat → Int} {o : Option (Nat → Int)} {a b d : Int}
/-! how many lifts -/
def ltF : Nat → Nat → (Nat → Int) → Int
  | 0, n, f => if exB f then n else -1
  | d + 1, n, f => if exB f then n else ltF d (n + 1) (lfF f)
def ltR (f : Nat → Int) : Int := if rgB f then ltF (md (f 1) - (f 36).toNat) 0 f else if exB f then 0 else -1
theorem lf_1 : lfF f 1 = f 1 := lf_lo (by decide)
theorem lf_0 : lfF f 0 = f 0 := lf_lo (by decide)
theorem lf_rg : rgB (lfF f) = rgB f := by
  unfold rgB rkF
  rw [lf_0, lf_1]
  have : mtF (lfF f) (f 1) ((f 0).toNat) = mtF f (f 1) ((f 0).toNat) := by
    unfold mtF
    rw [lf_dg]
  rw [this]
theorem md_36 (hv : Vf f) : (f 36).toNat ≤ md (f 1) ∧ md (f 1) ≤ 39 := ⟨(md_le hv.p.1).mp hv.pw.2, pow_lim hv.p.1 (md_s hv.p.1).1⟩
theorem Lrd.fl {I' : gI} (h : Lrd f I) (hF : FL 1 I I') : Lrd f I' := Gr.fr h (fun c d => hF 17 1 c d (by omega) (by decide)) (fun c d => hF 19 1 c d (by omega) (by decide))
def FLm (I I' : gI) : Prop := ∀ a b c d, a ≠ 32 → a ≠ 38 → a ≠ 39 → ¬ (a = 31 ∧ d = 21) → ¬ (a = 33 ∧ d < 408) → I' a b c d = I a b c d
theorem FLm.tr {I' I2 : gI} (h : FLm I I') (h2 : FLm I' I2) : FLm I I2 := fun a b c d h3 h4 h5 h6 h7 => (h2 a b c d h3 h4 h5 h6 h7).trans (h a b c d h3 h4 h5 h6 h7)
theorem FR.m {I' : gI} (h : FR I I') : FLm I I' := fun a b c d h1 h2 h3 h4 _ => h a b c d h1 h2 h3 h4
theorem F32.m {I' : gI} (h : F32 I I') : FLm I I' := fun a b c d h1 _ _ _ _ => h a b c d h1
theorem FLm.q {I' : gI} (h : FLm I I') (h0 : Mrow f I) (h1 : Mrow f I') : QF I I' := fun a b c d hk => by
  by_cases h3 : a = 32
  · subst h3
    obtain ⟨rfl, rfl, hd⟩ : b = 0 ∧ c = 0 ∧ d < 408 := by unfold KQ at hk; omega
    exact (h1 d hd).trans (h0 d hd).symm
  · exact h a b c d h3 (by unfold KQ at hk; omega) (by unfold KQ at hk; omega) (by unfold KQ at hk; omega) (by unfold KQ at hk; omega)
theorem ltF_t {g : Nat → Int} {d n : Nat} (h : exB g = true) : ltF d n g = n := by
  cases d with
  | zero => show (if exB g then _ else _) = _; rw [h]; rfl
  | succ d => show (if exB g then _ else _) = _; rw [h]; rfl
end YJ
