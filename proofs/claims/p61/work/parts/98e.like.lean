/-! ===== the class and the law's system go together ===== -/
def Ru (f : Nat → Int) (I : gI) (J : gJ) (B : gB) : Prop := Vl f ∧ Rst f I J 0 ∧ (∃ c nx h, Clh I J B c nx h) ∧ Bk B ∧ Lb f I
theorem Lb.to {f : Nat → Int} {I I' : gI} (h : Lb f I) (q : ∀ a c d, 49 ≤ a → a ≤ 52 → I' a 0 c d = I a 0 c d) : Lb f I' := by
  obtain ⟨h1, h2, h3, h4, h5⟩ := h
  exact ⟨(q 49 0 4 (by decide) (by decide)).trans h1, (q 49 0 5 (by decide) (by decide)).trans h2, fun k a b => (q 50 0 _ (by decide) (by decide)).trans (h3 k a b), fun i a => (q 51 0 _ (by decide) (by decide)).trans (h4 i a), fun i a => (q 52 0 _ (by decide) (by decide)).trans (h5 i a)⟩
theorem Ru.q {f : Nat → Int} {I I' : gI} {J J' : gJ} {B : gB} (h : Ru f I J B) (q : QF I I') (j : JQ J J') : Ru f I' J' B := by
  obtain ⟨h1, h2, ⟨c, nx, hh, h3⟩, h4, h5⟩ := h
  exact ⟨h1, q.rst j h2 (by decide), ⟨c, nx, hh, h3.to (fun d => q 13 0 0 d (by unfold KQ; omega)) (fun a b d z1 z2 z3 z4 => q a b 0 d (by unfold KQ; omega)) (fun a b d z1 z2 z3 => j a b d (by omega) (by omega))⟩, h4, h5.to fun a c d z1 _ => q a 0 c d (by unfold KQ; omega)⟩
theorem Ru.s {f : Nat → Int} {I : gI} {J : gJ} {B : gB} (h : Ru f I J B) : Sys (some f) I J := ⟨h.1.1, h.2.1⟩
section RU
variable {E : gEn} {Q : gQt} {X : gXt} {I : gI} {J : gJ} {B : gB} {c w : Nat} {f : Nat → Int}
theorem qok {y : Nat} {args : List gV} {e : Nat} {v : gV} (hC : Cl E y args I J B e v) (he : e = 0) (k : ∀ I' J', QF I I' → JQ J J' → Q v I' J' B) : gC E y args I J B Q X :=
  hC Q X (fun _ => k) (fun j hj => by omega)
theorem qno {y j : Nat} {args : List gV} {e : Nat} {v : gV} (hC : Cl E y args I J B e v) (he : e = j + 1) (k : ∀ I' J', QF I I' → JQ J J' → X j I' J' B) : gC E y args I J B Q X :=
  hC Q X (fun h => by omega) (fun j2 hj => by
    have : j2 = j := by omega
    subst this
    exact k)
/-- a call that throws, and which -/
theorem z_thr {x1 x2 x3 x4 : Int32} {j : Nat} (hj : j < 3) (h : ∀ (Q : gQt) (X : gXt), (∀ I' J', QF I I' → JQ J J' → X j I' J' B) → gC E 150 [.inr (3, 0, 0), .inl (.int x1), .inl (.int x2), .inl (.int x3), .inl (.int x4)] I J B Q X) (k : ∀ I' J', QF I I' → JQ J J' → Q (.inl (.int (gi ((j + 1 : Nat) : Int)))) I' J' B) : gC E 151 [.inr (3, 0, 0), .inl (.int x1), .inl (.int x2), .inl (.int x3), .inl (.int x4)] I J B Q X := by
  refine e_L_thrown ⟨⟨by decide, by decide⟩, h _ _ fun I' J' q jq => ?_⟩
  have kk := k I' J' q jq
  rcases (show j = 0 ∨ j = 1 ∨ j = 2 by omega) with rfl | rfl | rfl
  · exact kk
  · exact kk
  · exact kk
/-! isLike -/
variable {I0 : gI} {J0 : gJ}
theorem psF_ok : ∀ {d i : Nat}, psF f d i = true ↔ ∀ t, i ≤ t → t < i + d → gi (pdF f t ((f 0).toNat)) = gi (f (15 + t))
  | 0, i => ⟨fun _ t h1 h2 => by omega, fun _ => rfl⟩
  | d + 1, i => by
    unfold psF
    by_cases h : gi (pdF f i ((f 0).toNat)) = gi (f (15 + i))
    · rw [if_pos h]
      refine psF_ok.trans ⟨fun g t h1 h2 => ?_, fun g t h1 h2 => g t (by omega) (by omega)⟩
      by_cases e : t = i
      · rw [e]; exact h
      · exact g t (by omega) (by omega)
    · rw [if_neg h]
      exact ⟨fun z => (by cases z), fun g => absurd (g i (by omega) (by omega)) h⟩
/-- the flag of the rows before i -/
def psU (f : Nat → Int) : Nat → Bool
  | 0 => true
  | i + 1 => psU f i && decide (gi (pdF f i ((f 0).toNat)) = gi (f (15 + i)))
theorem psU_ok : ∀ {i : Nat}, psU f i = true ↔ ∀ t, t < i → gi (pdF f t ((f 0).toNat)) = gi (f (15 + t))
  | 0 => ⟨fun _ t h => by omega, fun _ => rfl⟩
  | i + 1 => by
    unfold psU
    rw [Bool.and_eq_true, psU_ok, decide_eq_true_iff]
    refine ⟨fun g t h => ?_, fun g => ⟨fun t h => g t (by omega), g i (by omega)⟩⟩
    by_cases e : t = i
    · rw [e]; exact g.2
    · exact g.1 t (by omega)
theorem psU_ps : psU f (f 0).toNat = psF f (f 0).toNat 0 := by
  rw [Bool.eq_iff_iff, psU_ok, psF_ok]
  exact ⟨fun g t _ h => g t (by omega), fun g t h => g t (by omega) (by omega)⟩
theorem z_like_144 {i : Nat} {y : Int32} (hi : i < (f 0).toNat) (k : ∀ I J c w, Ru f I J B → QF I0 I → JQ J0 J → c ≤ 21 * i + 39 → w ≤ 126 * i + 234 → gG E 152 68 [(0, .inr (3, 0, 0)), (1, .inr (49, 0, 0)), (2, .inl (.int y)), (3, .inl (.int (gi ((i + 1 : Nat) : Int))))] [] I J B c w Q X) :
    ∀ (d j : Nat) (I : gI) (J : gJ) (c w : Nat), j + d = (f 0).toNat → Ru f I J B → QF I0 I → JQ J0 J → c + 3 * d ≤ 21 * i + 39 → w + 18 * d ≤ 126 * i + 234 → gG E 152 144 [(0, .inr (3, 0, 0)), (1, .inr (49, 0, 0)), (2, .inl (.int y)), (3, .inl (.int (gi (i : Int)))), (4, .inl (.int (gi (j : Int))))] [] I J B c w Q X
  | 0, j, I, J, c, w, hj, hR, hq, hjq, hc, hw => by
    have h0 := hR.1.1.1
    have h5 := hR.1.2
    refine s_L_isLike_144 ?_
    rw [hR.2.2.2.2.1, gi_le (by omega) (by omega) (by omega) (by omega), gi_add]
    refine ⟨fun _ => ?_, fun z => by omega⟩
    exact k I J c w hR hq hjq (by omega) (by omega)
  | d + 1, j, I, J, c, w, hj, hR, hq, hjq, hc, hw => by
    have h0 := hR.1.1.1
    have h5 := hR.1.2
    refine s_L_isLike_144 ?_
    rw [hR.2.2.2.2.1, gi_le (by omega) (by omega) (by omega) (by omega), gi_add, gi_add]
    refine ⟨fun z => by omega, fun _ => ⟨by omega, ?_⟩⟩
    refine qok (c_entry (by omega) (by omega) (by omega) (by omega) hR.s) (if_pos (by omega)) fun I1 J1 q1 j1 => ?_
    have hR1 := hR.q q1 j1
    show gC _ _ _ _ _ _ _ _
    refine z_lat hR1.1 hR1.2.2.2.2 (by omega) (by omega) ?_
    refine ⟨fun _ => ?_, fun z => absurd rfl z⟩
    exact z_like_144 hi k d (j + 1) I1 J1 (c + 3) (w + 18) (by omega) hR1 (hq.tr q1) (hjq.tr j1) (by omega) (by omega)
theorem z_like_68 (k : ∀ I' J', QF I0 I' → JQ J0 J' → Q (.inl (.int (gi 1))) I' J' B) :
    ∀ (d i : Nat) (I : gI) (J : gJ) (c w : Nat), i + d = (f 0).toNat → Ru f I J B → QF I0 I → JQ J0 J → c ≤ 21 * i + 18 → w ≤ 126 * i + 108 → gG E 152 68 [(0, .inr (3, 0, 0)), (1, .inr (49, 0, 0)), (2, .inl (.int (gi (bI (psU f i))))), (3, .inl (.int (gi (i : Int))))] [] I J B c w Q X
  | 0, i, I, J, c, w, hi, hR, hq, hjq, hc, hw => by
    have h0 := hR.1.1.1
    have h5 := hR.1.2
    refine s_L_isLike_68 ?_
    rw [hR.2.2.2.2.1, gi_le (by omega) (by omega) (by omega) (by omega)]
    refine ⟨fun _ => ⟨by omega, ?_⟩, fun z => by omega⟩
    refine qok (c_probeSolves hR.s) rfl fun I1 J1 q1 j1 => ?_
    have e : gi (bI (psU f i)) = gi (bI (psF f ((f 0).toNat) 0)) := by rw [show i = (f 0).toNat by omega, psU_ps]
    rw [e]
    exact ⟨fun z => absurd rfl z, fun _ => ⟨Or.inr rfl, k I1 J1 (hq.tr q1) (hjq.tr j1)⟩⟩
  | d + 1, i, I, J, c, w, hi, hR, hq, hjq, hc, hw => by
    have h0 := hR.1.1.1
    have h5 := hR.1.2
    have hL := hR.2.2.2.2
    refine s_L_isLike_68 ?_
    rw [hL.1, gi_le (by omega) (by omega) (by omega) (by omega)]
    refine ⟨fun z => by omega, fun _ => ?_⟩
    have tail : gG E 152 98 [(0, .inr (3, 0, 0)), (1, .inr (49, 0, 0)), (2, .inl (.int (gi (bI (psU f (i + 1)))))), (3, .inl (.int (gi (i : Int))))] [] I J B c w Q X := by
      refine s_L_isLike_98 ⟨by omega, ?_⟩
      refine qok (c_side (by omega) (by omega) hR.s) (if_pos (by omega)) fun I1 J1 q1 j1 => ?_
      have hR1 := hR.q q1 j1
      refine ⟨gvp (by omega) (by omega) (by decide), ?_⟩
      rw [gi_c (by omega) (by omega), gtn, hR1.2.2.2.2.2.2.2.1 i (by omega)]
      refine ⟨fun z => absurd rfl z, fun _ => ⟨by omega, ?_⟩⟩
      refine qok (c_probe (by omega) (by omega) hR1.s) (if_pos (by omega)) fun I2 J2 q2 j2 => ?_
      have hR2 := hR1.q q2 j2
      refine ⟨gvp (by omega) (by omega) (by decide), ?_⟩
      rw [hR2.2.2.2.2.2.2.2.2 i (by omega)]
      refine ⟨fun z => absurd rfl z, fun _ => ⟨by omega, ?_⟩⟩
      refine qok (c_product (by omega) (by omega) hR2.s) (if_pos (by omega)) fun I3 J3 q3 j3 => ?_
      have hR3 := hR2.q q3 j3
      show gC _ _ _ _ _ _ _ _
      refine z_lproduct hR3.1 hR3.2.2.2.2 (by omega) ?_
      refine ⟨fun _ => ?_, fun z => absurd rfl z⟩
      refine z_like_144 (I0 := I0) (J0 := J0) (by omega) (fun I J c w a1 a2 a3 a4 a5 => ?_) (f 0).toNat 0 I3 J3 _ _ (by omega) hR3 (hq.tr (q1.tr (q2.tr q3))) (hjq.tr (j1.tr (j2.tr j3))) (by omega) (by omega)
      exact z_like_68 k d (i + 1) I J c w (by omega) a1 a2 a3 (by omega) (by omega)
    refine z_lproduct hR.1 hL (by omega) ?_
    refine ⟨gvp (by omega) (by omega) (by decide), ?_⟩
    rw [gi_c (by omega) (by omega), gtn, hL.2.2.2.1 i (by omega)]
    refine ⟨fun z => ?_, fun z => ?_⟩
    · have e : gi (bI (psU f i)) &&& gi 0 = gi (bI (psU f (i + 1))) := by
        have e2 : psU f (i + 1) = false := by
          show (psU f i && decide _) = _
          rw [decide_eq_false z, Bool.and_false]
        rw [e2]
        cases psU f i <;> decide
      rw [e]
      exact tail
    · have e : gi (bI (psU f i)) &&& gi 1 = gi (bI (psU f (i + 1))) := by
        have e2 : psU f (i + 1) = psU f i := by
          show (psU f i && decide _) = _
          rw [decide_eq_true z, Bool.and_true]
        rw [e2]
        cases psU f i <;> decide
      rw [e]
      exact tail
theorem z_like_31 (k : ∀ I' J', QF I0 I' → JQ J0 J' → Q (.inl (.int (gi 1))) I' J' B) :
    ∀ (d : Nat) (t : Int) (I : gI) (J : gJ) (c w : Nat), t + d = f 0 → -f 0 < t → Ru f I J B → QF I0 I → JQ J0 J → c + 2 * d ≤ 18 → w + 12 * d ≤ 108 → gG E 152 31 [(0, .inr (3, 0, 0)), (1, .inr (49, 0, 0)), (2, .inl (.int (gi t)))] [] I J B c w Q X
  | 0, t, I, J, c, w, ht, ht2, hR, hq, hjq, hc, hw => by
    have h0 := hR.1.1.1
    have h5 := hR.1.2
    refine s_L_isLike_31 ?_
    rw [hR.2.2.2.2.1, gi_le (by omega) (by omega) (by omega) (by omega)]
    refine ⟨fun _ => ?_, fun z => by omega⟩
    exact z_like_68 (I0 := I0) (J0 := J0) k (f 0).toNat 0 I J c w (by omega) hR hq hjq (by omega) (by omega)
  | d + 1, t, I, J, c, w, ht, ht2, hR, hq, hjq, hc, hw => by
    have h0 := hR.1.1.1
    have h5 := hR.1.2
    refine s_L_isLike_31 ?_
    rw [hR.2.2.2.2.1, gi_le (by omega) (by omega) (by omega) (by omega), gi_add, gi_add]
    refine ⟨fun z => by omega, fun _ => ⟨by omega, ?_⟩⟩
    refine qok (c_diagonal (by omega) (by omega) hR.s) (if_pos (by omega)) fun I1 J1 q1 j1 => ?_
    have hR1 := hR.q q1 j1
    refine ⟨gvp (by omega) (by omega) (by decide), ?_⟩
    rw [gi_c (by omega) (by omega), hR1.2.2.2.2.2.2.1 t (by omega) (by omega)]
    refine ⟨fun _ => ?_, fun z => absurd rfl z⟩
    exact z_like_31 k d (t + 1) I1 J1 (c + 2) (w + 12) (by omega) (by omega) hR1 (hq.tr q1) (hjq.tr j1) (by omega) (by omega)
theorem z_like (hR : Ru f I J B) (k : ∀ I' J', QF I I' → JQ J J' → Q (.inl (.int (gi 1))) I' J' B) : gC E 152 [.inr (3, 0, 0), .inr (49, 0, 0)] I J B Q X := by
  have h0 := hR.1.1.1
  have h5 := hR.1.2
  refine e_L_isLike (e_X7_size ?_)
  rw [hR.2.1.1.1, hR.2.2.2.2.1]
  refine ⟨fun z => absurd rfl z, fun _ => e_X7_prime ?_⟩
  rw [hR.2.1.1.2.1, hR.2.2.2.2.2.1]
  refine ⟨fun _ => ?_, fun z => absurd rfl z⟩
  rw [hR.2.2.2.2.1, gi_sub]
  exact z_like_31 (I0 := I) (J0 := J) k (2 * (f 0).toNat - 1) (1 - f 0) I J 0 0 (by omega) (by omega) hR QF.rf JQ.rf (by omega) (by omega)
end RU
