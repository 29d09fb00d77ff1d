/-! ===== rows alike up to the account ===== -/
def Lo (f f' : Nat → Int) : Prop := ∀ j, j < 317 → f' j = f j
theorem Lo.evX {f f' : Nat → Int} (h : Lo f f') (h36 : (f 36).toNat ≤ 39) {i : Nat} (hi : i < 7) : vX f' i = vX f i := by
  have key : ∀ k, k ≤ (f 36).toNat → vXs f' i k = vXs f i k := by
    intro k
    induction k with
    | zero => intro _; rfl
    | succ k ih =>
      intro hk
      show vXs f' i k + f' (37 + 7 * k + i) * (f' 1) ^ k = vXs f i k + f (37 + 7 * k + i) * (f 1) ^ k
      rw [ih (by omega), h (37 + 7 * k + i) (by omega), h 1 (by decide)]
  unfold vX
  rw [h 36 (by decide)]
  exact key _ (Nat.le_refl _)
theorem Lo.emF {f f' : Nat → Int} (h : Lo f f') : mF f' = mF f := by
  unfold mF
  rw [h 1 (by decide), h 36 (by decide)]
theorem Lo.efrac {f f' : Nat → Int} (h : Lo f f') (h36 : (f 36).toNat ≤ 39) {i : Nat} (hi : i < 7) : frac f' i = frac f i := by
  have e : euX f' i = euX f i := by
    unfold euX
    rw [h.emF, h.evX h36 hi]
  unfold frac
  rw [e, h.emF, h 36 (by decide), h 1 (by decide)]
theorem Lo.edg {f f' : Nat → Int} (h : Lo f f') : dg f' = dg f := dg_eq fun k hk => h (2 + k) (by omega)
theorem Lo.elcG {f f' : Nat → Int} (h : Lo f f') (h36 : (f 36).toNat ≤ 39) : ∀ d i a, i + d ≤ 7 → lcG f' d i a = lcG f d i a
  | 0, _, _, _ => rfl
  | d + 1, i, a, hi => by
    have e := h.efrac h36 (i := i) (by omega)
    cases hf : frac f i with
    | none => rw [lcG_n hf, lcG_n (e.trans hf)]
    | some z =>
      obtain ⟨t, b⟩ := z
      rw [lcG_y hf, lcG_y (e.trans hf), h.elcG h36 d (i + 1) _ (by omega)]
theorem Lo.ersF {f f' : Nat → Int} (h : Lo f f') (h36 : (f 36).toNat ≤ 39) {a : Int} {i : Nat} : ∀ j, j ≤ 7 → rsF f' a i j = rsF f a i j
  | 0, _ => rfl
  | j + 1, hj => by
    show rsF f' a i j + dg f' ((i : Int) - (j : Int)) * a.tdiv (fb f' j) * ft f' j = rsF f a i j + dg f ((i : Int) - (j : Int)) * a.tdiv (fb f j) * ft f j
    unfold fb ft
    rw [h.ersF h36 j (by omega), h.edg, h.efrac h36 (i := j) (by omega)]
theorem Lo.erwB {f f' : Nat → Int} (h : Lo f f') (h36 : (f 36).toNat ≤ 39) (h0 : (f 0).toNat ≤ 7) {a : Int} : ∀ d i, i + d ≤ 7 → rwB f' a d i = rwB f a d i
  | 0, _, _ => rfl
  | d + 1, i, hi => by
    rw [rwB_s, rwB_s, h 0 (by decide), h.ersF h36 _ h0, h (15 + i) (by omega), h.erwB h36 h0 d (i + 1) (by omega)]
theorem Lo.eexB {f f' : Nat → Int} (h : Lo f f') (h36 : (f 36).toNat ≤ 39) (h0 : (f 0).toNat ≤ 7) : exB f' = exB f := by
  unfold exB
  rw [h 0 (by decide), h.elcG h36 _ 0 1 (by omega)]
  cases lcG f (f 0).toNat 0 1 with
  | none => rfl
  | some a => exact h.erwB h36 h0 _ 0 (by omega)
theorem Lo.eVf {f f' : Nat → Int} (h : Lo f f') (hv : Vf f) (hb : 0 ≤ f' 317 ∧ f' 317 ≤ 30) : Vf f' := by
  have h36 := pow_lim hv.p.1 hv.pw.2
  obtain ⟨v1, v2, v3, v4, v5, v6, v7, v8, v9⟩ := hv
  refine ⟨?_, ?_, fun k hk => ?_, fun k hk => ?_, fun k hk => ?_, fun k hk => ?_, ?_, fun k i hk hi => ?_, hb⟩
  · rw [h 0 (by decide)]; exact v1
  · rw [h 1 (by decide)]; exact v2
  · rw [h _ (by omega)]; exact v3 k hk
  · rw [h _ (by omega)]; exact v4 k hk
  · rw [h _ (by omega)]; exact v5 k hk
  · rw [h _ (by omega)]; exact v6 k hk
  · rw [h 36 (by decide), h 1 (by decide)]; exact v7
  · rw [h 36 (by decide)] at hk
    rw [h 0 (by decide)] at hi
    rw [h _ (by omega), h 1 (by decide)]; exact v8 k i hk hi
theorem Lo.bk {f : Nat → Int} {x : Int} : Lo f (bkF f x) := fun j hj => bkF_lo hj
theorem bk_317 {f : Nat → Int} {x : Int} : bkF f x 317 = if f 317 < 30 then f 317 + 1 else f 317 := by
  unfold bkF
  split
  · exact if_pos rfl
  · rfl
theorem Vf.bk {f : Nat → Int} {x : Int} (hv : Vf f) : Vf (bkF f x) := Lo.bk.eVf hv (by
  have := hv.2.2.2.2.2.2.2.2
  rw [bk_317]
  split <;> omega)
theorem Vf.lb {f : Nat → Int} (hv : Vf f) (hm : (f 36).toNat < md (f 1)) : Vf (lbF f) := (hv.lf hm).bk
theorem lb_lo {f : Nat → Int} {j : Nat} (h : j < 29) : lbF f j = f j := (bkF_lo (by omega)).trans (lf_lo h)
section YB
variable {E : gEn} {Q : gQt} {X : gXt} {I : gI} {J : gJ} {B : gB} {c w : Nat} {p : Int} {f : Nat → Int}
theorem z_bk_l (hv : Vf f) (hM : Mrow f I) (h317 : f 317 < 30) (k : ∀ I' J', FR I I' → FX J J' → Mrow (bkF f (bI (exB f))) I' → Q (.inl .null) I' J' B) : ∀ d i : Nat, i + d = (f 0).toNat → gG E 229 18 [(0, .inr (31, 0, 0)), (1, .inl (.int (gi (mxF f i)))), (2, .inl (.int (gi i)))] [] I J B c w Q X
  | 0, i, hi => by
    have hn := hv.1
    have h9 := hv.2.2.2.2.2.2.2.2
    have h36 := pow_lim hv.p.1 hv.pw.2
    obtain rfl : i = (f 0).toNat := hi
    have hat : (gi 318 + gi 3 * gi (f 317)) = gi ((318 + 3 * (f 317).toNat : Nat) : Int) := by
      rw [gi_mul, gi_add]
      congr 1
      omega
    refine s_X8_books_18 ⟨gvp (by decide) (by decide) (by decide), ?_⟩
    rw [hM 0 (by decide), hM 317 (by decide), hM 36 (by decide), gi_le (by omega) (by omega) (by omega) (by omega), hat, gi_add, gi_add, gi_c (by omega) (by omega), gi_c (by omega) (by omega), gi_c (by omega) (by omega)]
    refine ⟨fun _ => ⟨gvp (by decide) (by decide) (by decide), gvp (by decide) (by decide) (by decide), gvp (by omega) (by omega) (by decide), gvp (by omega) (by omega) (by decide), ?_⟩, fun h => by omega⟩
    rw [show (((318 + 3 * (f 317).toNat : Nat) : Int) + 1).toNat = 319 + 3 * (f 317).toNat by omega, show (((318 + 3 * (f 317).toNat : Nat) : Int) + 2).toNat = 320 + 3 * (f 317).toNat by omega, gtn]
    have hM2 := (hM.up (k := 318 + 3 * (f 317).toNat) (v := f 36)).up (k := 319 + 3 * (f 317).toNat) (v := mxF f (f 0).toNat)
    have hL : Lo f (upF (upF f (318 + 3 * (f 317).toNat) (f 36)) (319 + 3 * (f 317).toNat) (mxF f (f 0).toNat)) := fun j hj => (upF_ne (by omega)).trans (upF_ne (by omega))
    have hv2 := hL.eVf hv (by
      rw [upF_ne (by omega), upF_ne (by omega)]
      exact h9)
    refine z_ex hv2 hM2 fun J' fx => ?_
    rw [hL.eexB h36 (by omega)]
    have p317 : vp_in (gi 317) 408 := gvp (by decide) (by decide) (by decide)
    have pat : vp_in (gi (((318 + 3 * (f 317).toNat : Nat) : Int) + 2)) 408 := gvp (by omega) (by omega) (by decide)
    have key : ∀ x : Int, Mrow (bkF f x) (gUI (gUI (gUI (gUI I 32 0 0 (318 + 3 * (f 317).toNat) (gi (f 36))) 32 0 0 (319 + 3 * (f 317).toNat) (gi (mxF f (f 0).toNat))) 32 0 0 (320 + 3 * (f 317).toNat) (gi x)) 32 0 0 317 ((gUI (gUI (gUI I 32 0 0 (318 + 3 * (f 317).toNat) (gi (f 36))) 32 0 0 (319 + 3 * (f 317).toNat) (gi (mxF f (f 0).toNat))) 32 0 0 (320 + 3 * (f 317).toNat) (gi x)) 32 0 0 317 + gi 1)) := fun x => by
      have h3 := hM2.up (k := 320 + 3 * (f 317).toNat) (v := x)
      rw [h3 317 (by decide), upF_ne (by omega), upF_ne (by omega), upF_ne (by omega), gi_add]
      have h4 := h3.up (k := 317) (v := f 317 + 1)
      unfold bkF
      rw [if_pos h317]
      exact h4
    cases hx : exB f with
    | false =>
      rw [hx] at k
      exact ⟨fun _ => ⟨pat, p317, p317, k _ _ (((FR.rf.up).up.up).up) fx (key _)⟩, fun h => absurd rfl h⟩
    | true =>
      rw [hx] at k
      exact ⟨fun h => absurd h (by decide), fun _ => ⟨pat, p317, p317, k _ _ (((FR.rf.up).up.up).up) fx (key _)⟩⟩
  | d + 1, i, hi => by
    have hn := hv.1
    obtain ⟨g1, g2⟩ := gsi (r0 := 29) (i := i) (by omega)
    have hr := hv.2.2.2.2.2.1 i (by omega)
    have hb := mxF_b hv.2.2.2.2.2.1 i (by omega)
    refine s_X8_books_18 ⟨gvp (by decide) (by decide) (by decide), ?_⟩
    rw [hM 0 (by decide), gi_le (by omega) (by omega) (by omega) (by omega)]
    refine ⟨fun h => by omega, fun _ => ⟨g1, ?_⟩⟩
    rw [show (gi 29 + gi (i : Int)) = (gi ((29 : Nat) : Int) + gi (i : Int)) from rfl, g2, hM _ (by omega)]
    refine z_abs (by omega) (by omega) ?_
    show gC _ _ _ _ _ _ _ _
    refine z_max (by omega) (by omega) (by omega) (by omega) ?_
    show gG _ _ _ _ _ _ _ _ _ _ _ _
    rw [gi_add]
    exact z_bk_l hv hM h317 k d (i + 1) (by omega)
theorem z_bk (hv : Vf f) (hM : Mrow f I) (k : ∀ I' J', FR I I' → FX J J' → Mrow (bkF f (bI (exB f))) I' → Q (.inl .null) I' J' B) : gC E 229 [.inr (31, 0, 0)] I J B Q X := by
  have h9 := hv.2.2.2.2.2.2.2.2
  refine e_X8_books ⟨gvp (by decide) (by decide) (by decide), ?_⟩
  rw [hM 317 (by decide), gi_eq (by omega) (by omega) (by decide) (by decide)]
  refine ⟨fun h => z_bk_l hv hM (by omega) k (f 0).toNat 0 (by omega), fun h => k I J FR.rf FX.rf ?_⟩
  unfold bkF
  rw [if_neg (by omega)]
  exact hM
theorem bg_0 (h0 : f 0 ≤ 7) : (fun k => if 29 ≤ k ∧ k < 29 + (f 0).toNat then f (k - 14) else upF f 36 0 k) = bgF f := by
  funext k
  unfold bgF upF
  by_cases h1 : k = 36
  · rw [if_neg (by omega), if_pos h1, if_pos h1]
  · rw [if_neg h1, if_neg h1]
theorem z_bg_l {I0 : gI} (h0 : 0 ≤ f 0 ∧ f 0 ≤ 7) (k : ∀ I', FR I0 I' → Mrow (bgF f) I' → Q (.inl .null) I' J B) : ∀ (d i : Nat) (I : gI), i + d = (f 0).toNat → FR I0 I → Mrow (fun k => if 29 ≤ k ∧ k < 29 + i then f (k - 14) else upF f 36 0 k) I → gG E 157 10 [(0, .inr (31, 0, 0)), (1, .inl (.int (gi i)))] [] I J B c w Q X
  | 0, i, I, hi, hF, hM => by
    obtain rfl : i = (f 0).toNat := hi
    refine s_X8_begins_10 ⟨gvp (by decide) (by decide) (by decide), ?_⟩
    have e0 := hM 0 (by decide)
    dsimp only at e0
    rw [if_neg (by omega), upF_ne (by decide)] at e0
    rw [e0, gi_le (by omega) (by omega) (by omega) (by omega)]
    refine ⟨fun _ => k I hF ?_, fun h => by omega⟩
    rw [← bg_0 h0.2]
    exact hM
  | d + 1, i, I, hi, hF, hM => by
    obtain ⟨g1, g2⟩ := gsi (r0 := 29) (i := i) (by omega)
    obtain ⟨g3, g4⟩ := gsi (r0 := 15) (i := i) (by omega)
    refine s_X8_begins_10 ⟨gvp (by decide) (by decide) (by decide), ?_⟩
    have e0 := hM 0 (by decide)
    have e1 := hM (15 + i) (by omega)
    dsimp only at e0 e1
    rw [if_neg (by omega), upF_ne (by decide)] at e0
    rw [if_neg (by omega), upF_ne (by omega)] at e1
    rw [e0, gi_le (by omega) (by omega) (by omega) (by omega)]
    refine ⟨fun h => by omega, fun _ => ⟨g3, g1, ?_⟩⟩
    rw [show (gi 29 + gi (i : Int)) = (gi ((29 : Nat) : Int) + gi (i : Int)) from rfl, show (gi 15 + gi (i : Int)) = (gi ((15 : Nat) : Int) + gi (i : Int)) from rfl, g2, g4, e1, gi_add]
    refine z_bg_l h0 k d (i + 1) _ (by omega) hF.up ?_
    have hu := hM.up (k := 29 + i) (v := f (15 + i))
    refine hu.eq fun j hj => ?_
    unfold upF
    by_cases h1 : j = 29 + i
    · subst h1
      rw [if_pos ⟨by omega, by omega⟩, if_pos rfl, show 29 + i - 14 = 15 + i by omega]
    · rw [if_neg h1]
      by_cases h2 : 29 ≤ j ∧ j < 29 + i
      · rw [if_pos ⟨h2.1, by omega⟩]
        exact (if_pos h2).symm
      · rw [if_neg (fun h3 => h2 ⟨h3.1, by omega⟩)]
        exact (if_neg h2).symm
theorem z_bg (h0 : 0 ≤ f 0 ∧ f 0 ≤ 7) (hM : Mrow f I) (k : ∀ I', FR I I' → Mrow (bgF f) I' → Q (.inl .null) I' J B) : gC E 157 [.inr (31, 0, 0)] I J B Q X := by
  refine e_X8_begins ⟨gvp (by decide) (by decide) (by decide), ?_⟩
  refine z_bg_l h0 k (f 0).toNat 0 _ (by omega) FR.rf.up ?_
  refine (hM.up (k := 36) (v := 0)).eq fun j hj => ?_
  rw [if_neg (by omega)]
theorem z_can (hv : Vf f) (hM : Mrow f I) (k : ∀ I', Fpg I I' → Q (.inl (.int (gi (if (f 36).toNat < md (f 1) then bI (rgB f) else 0)))) I' J B) : gC E 227 [.inr (31, 0, 0)] I J B Q X := by
  have h36 := pow_lim hv.p.1 hv.pw.2
  have h36' := hv.pw.1
  have hm := pow_lim hv.p.1 (md_s hv.p.1).1
  refine e_X8_canLift ⟨gvp (by decide) (by decide) (by decide), z_md hv hM ?_⟩
  show (gi _ ≤ _ → _) ∧ (¬ gi _ ≤ _ → _)
  rw [hM 36 (by decide), gi_le (by omega) (by omega) (by omega) (by omega)]
  refine ⟨fun h => ⟨Or.inl rfl, ?_⟩, fun h => z_reg hv hM fun I' fp => ?_⟩
  · have := k I Fpg.rf
    rw [if_neg (by omega)] at this
    exact this
  · have := k I' fp
    rw [if_pos (by omega)] at this
    cases hr : rgB f with
    | false =>
      rw [hr] at this
      exact ⟨fun _ => ⟨Or.inl rfl, this⟩, fun h => absurd rfl h⟩
    | true =>
      rw [hr] at this
      exact ⟨fun h => absurd h (by decide), fun _ => ⟨Or.inr rfl, this⟩⟩
theorem z_po_l {i : Nat} (hv : Vf f) (hM : Mrow f I) (hi : i < (f 0).toNat) (h : Q (.inl (.int (gi (pdF f i ((f 0).toNat))))) I J B) : ∀ d j : Nat, j + d = (f 0).toNat → gG E 231 4 [(0, .inr (31, 0, 0)), (1, .inl (.int (gi i))), (2, .inl (.int (gi (pdF f i j)))), (3, .inl (.int (gi j)))] [] I J B c w Q X
  | 0, j, hj => by
    have h0 := hv.1
    obtain rfl : j = (f 0).toNat := hj
    refine s_X8_productOf_4 ⟨gvp (by decide) (by decide) (by decide), ?_⟩
    rw [hM 0 (by decide), gi_le (by omega) (by omega) (by omega) (by omega)]
    exact ⟨fun _ => h, fun h1 => by omega⟩
  | d + 1, j, hj => by
    have h0 := hv.1
    obtain ⟨g1, g2⟩ := gsi (r0 := 22) (i := j) (by omega)
    refine s_X8_productOf_4 ⟨gvp (by decide) (by decide) (by decide), ?_⟩
    rw [hM 0 (by decide), gi_le (by omega) (by omega) (by omega) (by omega)]
    refine ⟨fun h1 => by omega, fun _ => z_ent hM (by omega) (by omega) ⟨g1, ?_⟩⟩
    rw [show (gi 22 + gi (j : Int)) = (gi ((22 : Nat) : Int) + gi (j : Int)) from rfl, g2, hM _ (by omega), gi_mul, gi_add, gi_add]
    exact z_po_l hv hM hi h d (j + 1) (by omega)
theorem z_po {i : Nat} (hv : Vf f) (hM : Mrow f I) (hi : i < (f 0).toNat) (h : Q (.inl (.int (gi (pdF f i ((f 0).toNat))))) I J B) : gC E 231 [.inr (31, 0, 0), .inl (.int (gi i))] I J B Q X :=
  e_X8_productOf (z_po_l hv hM hi h (f 0).toNat 0 (by omega))
theorem z_ci {i j : Int} (h1 : 0 ≤ i ∧ i < 2 * f 0) (h2 : 0 ≤ j ∧ j < 2 * f 0) (hv : Vf f) (hM : Mrow f I) (h : Q (.inl (.int (gi (arF f (i - j))))) I J B) : gC E 233 [.inr (31, 0, 0), .inl (.int (gi i)), .inl (.int (gi j))] I J B Q X := by
  have h0 := hv.1
  have m1 := Int.emod_nonneg (i - j) (show 2 * f 0 ≠ 0 by omega)
  have m2 := Int.emod_lt_of_pos (i - j) (show 0 < 2 * f 0 by omega)
  have e1 : (i - j + 2 * f 0).tmod (2 * f 0) = (i - j) % (2 * f 0) := by
    rw [Int.tmod_eq_emod_of_nonneg (by omega), Int.add_emod_right]
  refine e_X8_circulantOf ⟨gvp (by decide) (by decide) (by decide), ?_⟩
  rw [hM 0 (by decide), gi_sub, gi_mul, gi_add, gi_rem (by omega) (by omega) (by omega) (by omega), e1, gi_eq (by omega) (by omega) (by decide) (by decide), gi_eq (by omega) (by omega) (by omega) (by omega), gi_le (by omega) (by omega) (by omega) (by omega), gi_add, gi_sub, gi_c (by omega) (by omega), gi_c (by omega) (by omega)]
  unfold arF at h
  have p0 : vp_in (gi 0) 408 := gvp (by decide) (by decide) (by decide)
  generalize (i - j) % (2 * f 0) = k at *
  refine ⟨by omega, p0, fun g1 => ⟨p0, fun g2 => ⟨gvp (by omega) (by omega) (by decide), ?_⟩, fun g2 => ?_⟩, fun g1 => ⟨gvp (by omega) (by omega) (by decide), ?_⟩⟩
  · rw [if_neg g2, if_neg (by omega), dg_in (by omega) (by omega)] at h
    rw [hM _ (by omega), show (8 + k - 2 * f 0).toNat = (k - 2 * f 0 + 8).toNat by omega]
    exact h
  · rw [if_pos g2] at h
    exact h
  · rw [if_neg (by omega), if_pos (by omega), dg_in (by omega) (by omega)] at h
    rw [hM _ (by omega), show (8 + k).toNat = (k + 8).toNat by omega]
    exact h
end YB
