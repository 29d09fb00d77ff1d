/-! ===== rows alike up to the account ===== -/
def Lo (f f' : Nat → Int) : Prop := ∀ j, j < 317 → f' j = f j
theorem Lo.evX {f f' : Nat → Int} (h : Lo f f') (h36 : (f 36).toNat ≤ 39) {i : Nat} (hi : i < 7) : vX f' i = vX f i := by
  have key : ∀ k, k ≤ (f 36).toNat → vXs f' i k = vXs f i k := by
    intro k
    induction k with
    | zero => intro _; rfl
    | succ k ih =>
      intro hk
      show vXs f' i k + f' (37 + 7 * k + i) * (f' 1) ^ k = vXs f i k + f (37 + 7 * k + i) * (f 1) ^ k
      rw [ih (by omega), h (37 + 7 * k + i) (by omega), h 1 (by decide)]
  unfold vX
  rw [h 36 (by decide)]
  exact key _ (Nat.le_refl _)
theorem Lo.emF {f f' : Nat → Int} (h : Lo f f') : mF f' = mF f := by
  unfold mF
  rw [h 1 (by decide), h 36 (by decide)]
theorem Lo.efrac {f f' : Nat → Int} (h : Lo f f') (h36 : (f 36).toNat ≤ 39) {i : Nat} (hi : i < 7) : frac f' i = frac f i := by
  have e : euX f' i = euX f i := by
    unfold euX
    rw [h.emF, h.evX h36 hi]
  unfold frac
  rw [e, h.emF, h 36 (by decide), h 1 (by decide)]
theorem Lo.edg {f f' : Nat → Int} (h : Lo f f') : dg f' = dg f := dg_eq fun k hk => h (2 + k) (by omega)
theorem Lo.elcG {f f' : Nat → Int} (h : Lo f f') (h36 : (f 36).toNat ≤ 39) : ∀ d i a, i + d ≤ 7 → lcG f' d i a = lcG f d i a
  | 0, _, _, _ => rfl
  | d + 1, i, a, hi => by
    have e := h.efrac h36 (i := i) (by omega)
    cases hf : frac f i with
    | none => rw [lcG_n hf, lcG_n (e.trans hf)]
    | some z =>
      obtain ⟨t, b⟩ := z
      rw [lcG_y hf, lcG_y (e.trans hf), h.elcG h36 d (i + 1) _ (by omega)]
theorem Lo.ersF {f f' : Nat → Int} (h : Lo f f') (h36 : (f 36).toNat ≤ 39) {a : Int} {i : Nat} : ∀ j, j ≤ 7 → rsF f' a i j = rsF f a i j
  | 0, _ => rfl
  | j + 1, hj => by
    show rsF f' a i j + dg f' ((i : Int) - (j : Int)) * a.tdiv (fb f' j) * ft f' j = rsF f a i j + dg f ((i : Int) - (j : Int)) * a.tdiv (fb f j) * ft f j
    unfold fb ft
    rw [h.ersF h36 j (by omega), h.edg, h.efrac h36 (i := j) (by omega)]
theorem Lo.erwB {f f' : Nat → Int} (h : Lo f f') (h36 : (f 36).toNat ≤ 39) (h0 : (f 0).toNat ≤ 7) {a : Int} : ∀ d i, i + d ≤ 7 → rwB f' a d i = rwB f a d i
  | 0, _, _ => rfl
  | d + 1, i, hi => by
    rw [rwB_s, rwB_s, h 0 (by decide), h.ersF h36 _ h0, h (15 + i) (by omega), h.erwB h36 h0 d (i + 1) (by omega)]
theorem Lo.eexB {f f' : Nat → Int} (h : Lo f f') (h36 : (f 36).toNat ≤ 39) (h0 : (f 0).toNat ≤ 7) : exB f' = exB f := by
  unfold exB
  rw [h 0 (by decide), h.elcG h36 _ 0 1 (by omega)]
  cases lcG f (f 0).toNat 0 1 with
  | none => rfl
  | some a => exact h.erwB h36 h0 _ 0 (by omega)
theorem Lo.eVf {f f' : Nat → Int} (h : Lo f f') (hv : Vf f) (hb : 0 ≤ f' 317 ∧ f' 317 ≤ 30) : Vf f' := by
  have h36 := pow_lim hv.p.1 hv.pw.2
  obtain ⟨v1, v2, v3, v4, v5, v6, v7, v8, v9⟩ := hv
  refine ⟨?_, ?_, fun k hk => ?_, fun k hk => ?_, fun k hk => ?_, fun k hk => ?_, ?_, fun k i hk hi => ?_, hb⟩
  · rw [h 0 (by decide)]; exact v1
  · rw [h 1 (by decide)]; exact v2
  · rw [h _ (by omega)]; exact v3 k hk
  · rw [h _ (by omega)]; exact v4 k hk
  · rw [h _ (by omega)]; exact v5 k hk
  · rw [h _ (by omega)]; exact v6 k hk
  · rw [h 36 (by decide), h 1 (by decide)]; exact v7
  · rw [h 36 (by decide)] at hk
    rw [h 0 (by decide)] at hi
    rw [h _ (by omega), h 1 (by decide)]; exact v8 k i hk hi
theorem Lo.bk {f : Nat → Int} {x : Int} : Lo f (bkF f x) := fun j hj => bkF_lo hj
theorem bk_317 {f : Nat → Int} {x : Int} : bkF f x 317 = if f 317 < 30 then f 317 + 1 else f 317 := by
  unfold bkF
  split
  · exact if_pos rfl
  · rfl
theorem Vf.bk {f : Nat → Int} {x : Int} (hv : Vf f) : Vf (bkF f x) := Lo.bk.eVf hv (by
  have := hv.2.2.2.2.2.2.2.2
  rw [bk_317]
  split <;> omega)
theorem Vf.lb {f : Nat → Int} (hv : Vf f) (hm : (f 36).toNat < md (f 1)) : Vf (lbF f) := (hv.lf hm).bk
theorem lb_lo {f : Nat → Int} {j : Nat} (h : j < 29) : lbF f j = f j := (bkF_lo (by omega)).trans (lf_lo h)
section YB
variable {E : gEn} {Q : gQt} {X : gXt} {I : gI} {J : gJ} {B : gB} {c w : Nat} {p : Int} {f : Nat → Int}
theorem bg_0 (h0 : f 0 ≤ 7) : (fun k => if 29 ≤ k ∧ k < 29 + (f 0).toNat then f (k - 14) else upF f 36 0 k) = bgF f := by
  funext k
  unfold bgF upF
  by_cases h1 : k = 36
  · rw [if_neg (by omega), if_pos h1, if_pos h1]
  · rw [if_neg h1, if_neg h1]
end YB
