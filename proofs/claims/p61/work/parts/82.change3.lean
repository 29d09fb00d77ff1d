section YN
variable {E : gEn} {Q : gQt} {X : gXt} {I : gI} {J : gJ} {B : gB} {cc w : Nat} {f : Nat → Int} {c nx : Nat} {h : Nat → Nat → Int} {a b d : Int}
theorem mc8 : min (c + 1) 8 ≤ 8 := by omega
theorem lb_rg {f : Nat → Int} (hv : Vf f) : rgB (lbF f) = rgB f := by
  have e : rgB (lbF f) = rgB (lfF f) := by
    unfold rgB rkF
    rw [show lbF f 0 = lfF f 0 from bkF_lo (by decide), show lbF f 1 = lfF f 1 from bkF_lo (by decide)]
    have : mtF (lbF f) (lfF f 1) ((lfF f 0).toNat) = mtF (lfF f) (lfF f 1) ((lfF f 0).toNat) := by
      unfold mtF
      rw [show dg (lbF f) = dg (lfF f) from Lo.bk.edg]
    rw [this]
  exact e.trans lf_rg
end YN
