/-! ===== a change of both: the law's 'act' ===== -/
theorem Lb.lo {f g : Nat → Int} {I : gI} (h : Lb f I) (e : ∀ j, j < 29 → g j = f j) (h7 : f 0 ≤ 7) : Lb g I := by
  obtain ⟨g1, g2, g3, g4, g5⟩ := h
  have e0 : g 0 = f 0 := e 0 (by decide)
  have ed : dg g = dg f := dg_eq fun k hk => e (2 + k) (by omega)
  refine ⟨by rw [e0]; exact g1, by rw [e 1 (by decide)]; exact g2, fun k k1 k2 => ?_, fun i hi => ?_, fun i hi => ?_⟩
  · rw [e0] at k1 k2
    rw [ed]
    exact g3 k k1 k2
  · rw [e0] at hi
    rw [e (15 + i) (by omega)]
    exact g4 i hi
  · rw [e0] at hi
    rw [e (22 + i) (by omega)]
    exact g5 i hi
theorem Lb.bg {f : Nat → Int} {I : gI} (h : Lb f I) (h7 : f 0 ≤ 7) : Lb (bgF f) I := h.lo (fun j hj => bgF_ne h7 (Or.inl hj)) h7
theorem Lb.dia {f : Nat → Int} {I : gI} {j : Nat} {v : Int} (h : Lb f I) (h7 : f 0 ≤ 7) (hj : j < 13) : Lb (upF f (2 + j) v) (gUI I 50 0 0 j (gi v)) := by
  have f0 : (upF f (2 + j) v) 0 = f 0 := upF_ne (by omega)
  have f1 : (upF f (2 + j) v) 1 = f 1 := upF_ne (by omega)
  obtain ⟨g1, g2, g3, g4, g5⟩ := h
  refine ⟨?_, ?_, fun k k1 k2 => ?_, fun i hi => ?_, fun i hi => ?_⟩
  · rw [f0]
    exact (if_neg (fun y => by omega)).trans g1
  · rw [f1]
    exact (if_neg (fun y => by omega)).trans g2
  · rw [f0] at k1 k2
    rw [dg_in (by omega) (by omega)]
    by_cases e : (k + 6).toNat = j
    · rw [e, show (gUI I 50 0 0 j (gi v)) 50 0 0 j = gi v from if_pos ⟨rfl, rfl, rfl, rfl⟩, show (k + 8).toNat = 2 + j by omega, show upF f (2 + j) v (2 + j) = v from if_pos rfl]
    · rw [show (gUI I 50 0 0 j (gi v)) 50 0 0 (k + 6).toNat = I 50 0 0 (k + 6).toNat from if_neg (fun y => e y.2.2.2), g3 k k1 k2, dg_in (by omega) (by omega), upF_ne (by omega)]
  · rw [f0] at hi
    rw [upF_ne (by omega)]
    exact (if_neg (fun y => by omega)).trans (g4 i hi)
  · rw [f0] at hi
    rw [upF_ne (by omega)]
    exact (if_neg (fun y => by omega)).trans (g5 i hi)
theorem Lb.sid {f : Nat → Int} {I : gI} {j : Nat} {v : Int} (h : Lb f I) (h7 : f 0 ≤ 7) (hj : j < 7) : Lb (upF f (15 + j) v) (gUI I 51 0 0 j (gi v)) := by
  have f0 : (upF f (15 + j) v) 0 = f 0 := upF_ne (by omega)
  have f1 : (upF f (15 + j) v) 1 = f 1 := upF_ne (by omega)
  obtain ⟨g1, g2, g3, g4, g5⟩ := h
  refine ⟨?_, ?_, fun k k1 k2 => ?_, fun i hi => ?_, fun i hi => ?_⟩
  · rw [f0]
    exact (if_neg (fun y => by omega)).trans g1
  · rw [f1]
    exact (if_neg (fun y => by omega)).trans g2
  · rw [f0] at k1 k2
    rw [show (gUI I 51 0 0 j (gi v)) 50 0 0 (k + 6).toNat = I 50 0 0 (k + 6).toNat from if_neg (fun y => by omega), g3 k k1 k2, dg_in (by omega) (by omega), dg_in (by omega) (by omega), upF_ne (by omega)]
  · rw [f0] at hi
    by_cases e : i = j
    · rw [e, show upF f (15 + j) v (15 + j) = v from if_pos rfl]
      exact if_pos ⟨rfl, rfl, rfl, rfl⟩
    · rw [upF_ne (by omega)]
      exact (if_neg (fun y => e y.2.2.2)).trans (g4 i hi)
  · rw [f0] at hi
    rw [upF_ne (by omega)]
    exact (if_neg (fun y => by omega)).trans (g5 i hi)
theorem Lb.prb {f : Nat → Int} {I : gI} {j : Nat} {v : Int} (h : Lb f I) (h7 : f 0 ≤ 7) (hj : j < 7) : Lb (upF f (22 + j) v) (gUI I 52 0 0 j (gi v)) := by
  have f0 : (upF f (22 + j) v) 0 = f 0 := upF_ne (by omega)
  have f1 : (upF f (22 + j) v) 1 = f 1 := upF_ne (by omega)
  obtain ⟨g1, g2, g3, g4, g5⟩ := h
  refine ⟨?_, ?_, fun k k1 k2 => ?_, fun i hi => ?_, fun i hi => ?_⟩
  · rw [f0]
    exact (if_neg (fun y => by omega)).trans g1
  · rw [f1]
    exact (if_neg (fun y => by omega)).trans g2
  · rw [f0] at k1 k2
    rw [show (gUI I 52 0 0 j (gi v)) 50 0 0 (k + 6).toNat = I 50 0 0 (k + 6).toNat from if_neg (fun y => by omega), g3 k k1 k2, dg_in (by omega) (by omega), dg_in (by omega) (by omega), upF_ne (by omega)]
  · rw [f0] at hi
    rw [upF_ne (by omega)]
    exact (if_neg (fun y => by omega)).trans (g4 i hi)
  · rw [f0] at hi
    by_cases e : i = j
    · rw [e, show upF f (22 + j) v (22 + j) = v from if_pos rfl]
      exact if_pos ⟨rfl, rfl, rfl, rfl⟩
    · rw [upF_ne (by omega)]
      exact (if_neg (fun y => e y.2.2.2)).trans (g5 i hi)
theorem Lb.prm {f : Nat → Int} {I : gI} {v : Int} (h : Lb f I) (h7 : f 0 ≤ 7) : Lb (upF f 1 v) (gUI I 49 0 0 5 (gi v)) := by
  have f0 : (upF f 1 v) 0 = f 0 := upF_ne (by omega)
  obtain ⟨g1, g2, g3, g4, g5⟩ := h
  refine ⟨?_, ?_, fun k k1 k2 => ?_, fun i hi => ?_, fun i hi => ?_⟩
  · rw [f0]
    exact (if_neg (fun y => by omega)).trans g1
  · exact if_pos ⟨rfl, rfl, rfl, rfl⟩
  · rw [f0] at k1 k2
    rw [show (gUI I 49 0 0 5 (gi v)) 50 0 0 (k + 6).toNat = I 50 0 0 (k + 6).toNat from if_neg (fun y => by omega), g3 k k1 k2, dg_in (by omega) (by omega), dg_in (by omega) (by omega), upF_ne (by omega)]
  · rw [f0] at hi
    rw [upF_ne (by omega)]
    exact (if_neg (fun y => by omega)).trans (g4 i hi)
  · rw [f0] at hi
    rw [upF_ne (by omega)]
    exact (if_neg (fun y => by omega)).trans (g5 i hi)
theorem Lb.shr {f : Nat → Int} {I : gI} (h : Lb f I) (h7 : f 0 ≤ 7) : Lb (upF f 0 (f 0 - 1)) (gUI I 49 0 0 4 (gi (f 0 - 1))) := by
  have f0 : (upF f 0 (f 0 - 1)) 0 = f 0 - 1 := if_pos rfl
  obtain ⟨g1, g2, g3, g4, g5⟩ := h
  refine ⟨?_, ?_, fun k k1 k2 => ?_, fun i hi => ?_, fun i hi => ?_⟩
  · rw [f0]
    exact if_pos ⟨rfl, rfl, rfl, rfl⟩
  · rw [upF_ne (by omega)]
    exact (if_neg (fun y => by omega)).trans g2
  · rw [f0] at k1 k2
    rw [show (gUI I 49 0 0 4 (gi (f 0 - 1))) 50 0 0 (k + 6).toNat = I 50 0 0 (k + 6).toNat from if_neg (fun y => by omega), g3 k (by omega) (by omega), dg_in (by omega) (by omega), dg_in (by omega) (by omega), upF_ne (by omega)]
  · rw [f0] at hi
    rw [upF_ne (by omega)]
    exact (if_neg (fun y => by omega)).trans (g4 i (by omega))
  · rw [f0] at hi
    rw [upF_ne (by omega)]
    exact (if_neg (fun y => by omega)).trans (g5 i (by omega))
theorem Lb.gro {f : Nat → Int} {I : gI} {x y z : Int} {n : Nat} (h : Lb f I) (hv : Vf f) (h6 : f 0 ≤ 6) (hn : f 0 = n) : Lb (gwF f x y z) (gUI (gUI (gUI (gUI (gUI I 50 0 0 (6 + n) (gi x)) 50 0 0 (6 - n) (gi y)) 51 0 0 n (gi z)) 52 0 0 n (gi 0)) 49 0 0 4 (gi (f 0 + 1))) := by
  have h0 := hv.1
  have hn2 : (f 0).toNat = n := by omega
  have f0 := gw_0 (x := x) (y := y) (z := z) hv h6
  obtain ⟨g1, g2, g3, g4, g5⟩ := h
  refine ⟨?_, ?_, fun k k1 k2 => ?_, fun i hi => ?_, fun i hi => ?_⟩
  · rw [f0]
    exact if_pos ⟨rfl, rfl, rfl, rfl⟩
  · rw [gw_ne hv h6 (by omega) (by omega) (by omega) (by omega) (by omega), gUI_at, if_neg (by omega), gUI_at, if_neg (by omega), gUI_at, if_neg (by omega), gUI_at, if_neg (by omega), gUI_at, if_neg (by omega)]
    exact g2
  · rw [f0] at k1 k2
    rw [dg_in (by omega) (by omega), gUI_at, if_neg (by omega), gUI_at, if_neg (by omega), gUI_at, if_neg (by omega)]
    by_cases e1 : k = f 0
    · rw [gUI_at, if_neg (by omega), gUI_at, if_pos ⟨rfl, rfl, rfl, by omega⟩]
      unfold gwF
      rw [upF_ne (by omega), upF_ne (by omega), upF_ne (by omega), show (k + 8).toNat = 2 + (6 + (f 0).toNat) by omega]
      exact congrArg gi (if_pos rfl).symm
    · by_cases e2 : k = -f 0
      · rw [gUI_at, if_pos ⟨rfl, rfl, rfl, by omega⟩]
        unfold gwF
        rw [upF_ne (by omega), upF_ne (by omega), show (k + 8).toNat = 2 + (6 - (f 0).toNat) by omega]
        exact congrArg gi (if_pos rfl).symm
      · rw [gUI_at, if_neg (by omega), gUI_at, if_neg (by omega), gw_ne hv h6 (by omega) (by omega) (by omega) (by omega) (by omega), g3 k (by omega) (by omega), dg_in (by omega) (by omega)]
  · rw [f0] at hi
    rw [gUI_at, if_neg (by omega), gUI_at, if_neg (by omega)]
    by_cases e : i = n
    · rw [gUI_at, if_pos ⟨rfl, rfl, rfl, e⟩]
      unfold gwF
      rw [upF_ne (by omega), show 15 + i = 15 + (f 0).toNat by omega]
      exact congrArg gi (if_pos rfl).symm
    · rw [gUI_at, if_neg (by omega), gUI_at, if_neg (by omega), gUI_at, if_neg (by omega), gw_ne hv h6 (by omega) (by omega) (by omega) (by omega) (by omega)]
      exact g4 i (by omega)
  · rw [f0] at hi
    rw [gUI_at, if_neg (by omega)]
    by_cases e : i = n
    · rw [gUI_at, if_pos ⟨rfl, rfl, rfl, e⟩]
      unfold gwF
      rw [show 22 + i = 22 + (f 0).toNat by omega]
      exact congrArg gi (if_pos rfl).symm
    · rw [gUI_at, if_neg (by omega), gUI_at, if_neg (by omega), gUI_at, if_neg (by omega), gUI_at, if_neg (by omega), gw_ne hv h6 (by omega) (by omega) (by omega) (by omega) (by omega)]
      exact g5 i (by omega)
/-- the class's part of both, whatever the law's part holds -/
theorem Ru.cl {f : Nat → Int} {I I' : gI} {J : gJ} {B : gB} (h : Ru f I J B) (q : ∀ a b c d, a < 48 → I' a b c d = I a b c d) : ∃ c nx hh, Rst f I' J 0 ∧ Clh I' J B c nx hh := by
  obtain ⟨h1, h2, ⟨c, nx, hh, h3⟩, h4, h5⟩ := h
  exact ⟨c, nx, hh, h2.to (fun a d z1 z2 => q a 0 0 d (by omega)) (fun _ _ _ => rfl), h3.to (fun d => q 13 0 0 d (by decide)) (fun a b d z1 z2 z3 z4 => q a b 0 d (by omega)) (fun _ _ _ _ _ _ => rfl)⟩
theorem Ru.of {g : Nat → Int} {f : Nat → Int} {c nx : Nat} {hh : Nat → Nat → Int} {I I' : gI} {J' : gJ} {B' : gB} (h5 : g 0 ≤ 5) (hS : St g c nx hh f I' J' B') (hL : Lb g I) (hq : CF I I') : Ru g I' J' B' :=
  ⟨⟨hS.2.2.2, h5⟩, hS.1, ⟨_, _, _, hS.2.1⟩, hS.2.2.1, hL.to fun a c d z1 z2 => hq a 0 c d (by omega)⟩
section AC
variable {E : gEn} {Q : gQt} {X : gXt} {I : gI} {J : gJ} {B : gB} {c w : Nat} {f : Nat → Int} {k v : Int}
theorem a_dia (hR : Ru f I J B) (h1 : -f 0 < k) (h2 : k < f 0) (h3 : -50 ≤ v) (h4 : v ≤ 50) (k1 : ∀ g I' J' B', Ru g I' J' B' → g 36 = 0 → I' 48 0 0 1 = I 48 0 0 1 → gBl B B' → Q (.inl (.int (gi (f (2 + (k + 6).toNat))))) I' J' B') : gC E 98 [.inr (3, 0, 0), .inl (.int (gi k)), .inl (.int (gi v))] (gUI I 50 0 0 (k + 6).toNat (gi v)) J B Q X := by
  have h0 := hR.1.1.1
  have h5 := hR.1.2
  obtain ⟨c, nx, hh, r1, r2⟩ := hR.cl (I' := gUI I 50 0 0 (k + 6).toNat (gi v)) fun a b c d h => if_neg (fun y => by omega)
  have e0 : (upF f (2 + (k + 6).toNat) v) 0 = f 0 := upF_ne (by omega)
  refine c_setDiagonal (by omega) (by omega) (by omega) (by omega) hR.1.1 r1 r2 hR.2.2.2.1 (fun _ _ I' J' B' cf _ bl hS => ?_) (fun y => absurd ⟨h1, h2⟩ y) (fun _ y => absurd ⟨h3, h4⟩ y)
  refine k1 _ I' J' B' (Ru.of (by rw [bgF_ne (by omega) (by omega)]; omega) hS ((hR.2.2.2.2.dia (by omega) (by omega)).bg (by omega)) cf) (if_pos rfl) ?_ bl
  exact (cf 48 0 0 1 (by omega)).trans (if_neg (fun y => by omega))
theorem a_sid {i : Nat} (hR : Ru f I J B) (h1 : i < (f 0).toNat) (h3 : -999 ≤ v) (h4 : v ≤ 999) (k1 : ∀ g I' J' B', Ru g I' J' B' → g 36 = 0 → g 0 = f 0 → g (29 + i) = v → I' 48 0 0 1 = I 48 0 0 1 → gBl B B' → Q (.inl (.int (gi (f (15 + i))))) I' J' B') : gC E 99 [.inr (3, 0, 0), .inl (.int (gi (i : Int))), .inl (.int (gi v))] (gUI I 51 0 0 i (gi v)) J B Q X := by
  have h0 := hR.1.1.1
  have h5 := hR.1.2
  obtain ⟨c, nx, hh, r1, r2⟩ := hR.cl (I' := gUI I 51 0 0 i (gi v)) fun a b c d h => if_neg (fun y => by omega)
  have e0 : (upF f (15 + i) v) 0 = f 0 := upF_ne (by omega)
  refine c_setSide (by omega) (by omega) (by omega) (by omega) hR.1.1 r1 r2 hR.2.2.2.1 (fun _ _ I' J' B' cf _ bl hS => ?_) (fun y => by omega) (fun _ y => absurd ⟨h3, h4⟩ y)
  rw [gtn] at hS
  refine k1 _ I' J' B' (Ru.of (by rw [bgF_ne (by omega) (by omega)]; omega) hS ((hR.2.2.2.2.sid (by omega) (by omega)).bg (by omega)) cf) (if_pos rfl) ?_ ?_ ?_ bl
  · rw [bgF_ne (by omega) (by omega)]
    exact e0
  · unfold bgF
    rw [if_neg (by omega), if_pos (by omega), show 29 + i - 14 = 15 + i by omega]
    exact if_pos rfl
  · exact (cf 48 0 0 1 (by omega)).trans (if_neg (fun y => by omega))
theorem a_prb {i : Nat} (hR : Ru f I J B) (h1 : i < (f 0).toNat) (h3 : -999 ≤ v) (h4 : v ≤ 999) (k1 : ∀ g I' J' B', Ru g I' J' B' → g 36 = f 36 → I' 48 0 0 1 = I 48 0 0 1 → gBl B B' → Q (.inl (.int (gi (f (22 + i))))) I' J' B') : gC E 100 [.inr (3, 0, 0), .inl (.int (gi (i : Int))), .inl (.int (gi v))] (gUI I 52 0 0 i (gi v)) J B Q X := by
  have h0 := hR.1.1.1
  have h5 := hR.1.2
  obtain ⟨c, nx, hh, r1, r2⟩ := hR.cl (I' := gUI I 52 0 0 i (gi v)) fun a b c d h => if_neg (fun y => by omega)
  have e0 : (upF f (22 + i) v) 0 = f 0 := upF_ne (by omega)
  refine c_setProbe (by omega) (by omega) (by omega) (by omega) hR.1.1 r1 r2 hR.2.2.2.1 (fun _ _ I' J' B' cf _ bl hS => ?_) (fun y => by omega) (fun _ y => absurd ⟨h3, h4⟩ y)
  rw [gtn] at hS
  refine k1 _ I' J' B' (Ru.of (by omega) hS (hR.2.2.2.2.prb (by omega) (by omega)) cf) (upF_ne (by omega)) ?_ bl
  exact (cf 48 0 0 1 (by omega)).trans (if_neg (fun y => by omega))
theorem a_prm (hR : Ru f I J B) (hm : v ∈ primesL) (k1 : ∀ g I' J' B', Ru g I' J' B' → I' 48 0 0 1 = I 48 0 0 1 → gBl B B' → Q (.inl (.int (gi (f 1)))) I' J' B') : gC E 101 [.inr (3, 0, 0), .inl (.int (gi v))] (gUI I 49 0 0 5 (gi v)) J B Q X := by
  have h0 := hR.1.1.1
  have h5 := hR.1.2
  have hp := pr_b hm
  obtain ⟨c, nx, hh, r1, r2⟩ := hR.cl (I' := gUI I 49 0 0 5 (gi v)) fun a b c d h => if_neg (fun y => by omega)
  have e0 : (upF f 1 v) 0 = f 0 := upF_ne (by omega)
  refine c_setPrime (by omega) (by omega) hR.1.1 r1 r2 hR.2.2.2.1 (fun _ I' J' B' cf _ bl hS => ?_) (fun y => absurd hm y)
  refine k1 _ I' J' B' (Ru.of (by rw [bgF_ne (by omega) (by omega)]; omega) hS ((hR.2.2.2.2.prm (by omega)).bg (by omega)) cf) ?_ bl
  exact (cf 48 0 0 1 (by omega)).trans (if_neg (fun y => by omega))
theorem a_shr (hR : Ru f I J B) (h1 : f 0 ≠ 1) (k1 : ∀ g I' J' B', Ru g I' J' B' → g 0 = f 0 - 1 → I' 48 0 0 1 = I 48 0 0 1 → gBl B B' → Q (.inl (.int (gi (f 0 - 1)))) I' J' B') : gC E 103 [.inr (3, 0, 0)] (gUI I 49 0 0 4 (gi (f 0 - 1))) J B Q X := by
  have h0 := hR.1.1.1
  have h5 := hR.1.2
  obtain ⟨c, nx, hh, r1, r2⟩ := hR.cl (I' := gUI I 49 0 0 4 (gi (f 0 - 1))) fun a b c d h => if_neg (fun y => by omega)
  have e0 : (upF f 0 (f 0 - 1)) 0 = f 0 - 1 := if_pos rfl
  have e1 : bgF (upF f 0 (f 0 - 1)) 0 = f 0 - 1 := by rw [bgF_ne (by omega) (by omega)]; exact e0
  refine c_shrink hR.1.1 r1 r2 hR.2.2.2.1 (fun _ I' J' B' cf _ bl hS => ?_) (fun y => absurd y h1)
  refine k1 _ I' J' B' (Ru.of (by omega) hS ((hR.2.2.2.2.shr (by omega)).bg (by omega)) cf) e1 ?_ bl
  exact (cf 48 0 0 1 (by omega)).trans (if_neg (fun y => by omega))
theorem a_gro {x y z : Int} {n : Nat} (hR : Ru f I J B) (h1 : f 0 ≤ 4) (hn : f 0 = n) (h2 : -50 ≤ x ∧ x ≤ 50) (h3 : -50 ≤ y ∧ y ≤ 50) (h4 : -999 ≤ z ∧ z ≤ 999) (k1 : ∀ g I' J' B', Ru g I' J' B' → g 0 = f 0 + 1 → I' 48 0 0 1 = I 48 0 0 1 → gBl B B' → Q (.inl (.int (gi (f 0 + 1)))) I' J' B') : gC E 102 [.inr (3, 0, 0), .inl (.int (gi x)), .inl (.int (gi y)), .inl (.int (gi z))] (gUI (gUI (gUI (gUI (gUI I 50 0 0 (6 + n) (gi x)) 50 0 0 (6 - n) (gi y)) 51 0 0 n (gi z)) 52 0 0 n (gi 0)) 49 0 0 4 (gi (f 0 + 1))) J B Q X := by
  have h0 := hR.1.1.1
  have hL := hR.2.2.2.2.gro (x := x) (y := y) (z := z) (n := n) hR.1.1 (by omega) hn
  have hI : ∀ a b c d, a < 49 → (gUI (gUI (gUI (gUI (gUI I 50 0 0 (6 + n) (gi x)) 50 0 0 (6 - n) (gi y)) 51 0 0 n (gi z)) 52 0 0 n (gi 0)) 49 0 0 4 (gi (f 0 + 1))) a b c d = I a b c d := fun a b c d h => by
    rw [gUI_at, if_neg (by omega), gUI_at, if_neg (by omega), gUI_at, if_neg (by omega), gUI_at, if_neg (by omega), gUI_at, if_neg (by omega)]
  obtain ⟨c, nx, hh, r1, r2⟩ := hR.cl fun a b c d h => hI a b c d (by omega)
  have e0 := gw_0 (x := x) (y := y) (z := z) hR.1.1 (show f 0 ≤ 6 by omega)
  have e1 : bgF (gwF f x y z) 0 = f 0 + 1 := by rw [bgF_ne (by omega) (by omega)]; exact e0
  refine c_grow (by omega) (by omega) (by omega) (by omega) (by omega) (by omega) hR.1.1 r1 r2 hR.2.2.2.1 (fun _ I' J' B' cf _ bl hS => ?_) (fun g => absurd ⟨by omega, h2, h3, h4⟩ g)
  refine k1 _ I' J' B' (Ru.of (by omega) hS (hL.bg (by omega)) cf) e1 ?_ bl
  exact (cf 48 0 0 1 (by omega)).trans (hI 48 0 0 1 (by decide))
theorem z_act {a : Nat} (hR : Ru f I J B) (hgl : gL E ≤ 100000) (hd : I 48 0 0 1 = gi (a : Int)) (ha : a ≤ 1000) (k : ∀ g I' J' B' b, Ru g I' J' B' → I' 48 0 0 1 = gi ((b : Nat) : Int) → b ≤ a + 6 → gBl B B' → Q (.inl (.int (gi 1))) I' J' B') : gC E 153 [.inr (3, 0, 0), .inr (49, 0, 0), .inr (48, 0, 0)] I J B Q X := by
  have h0 := hR.1.1.1
  have h5 := hR.1.2
  have dw : ∀ {I : gI} {x : Int32}, (gUI I 48 0 0 1 x) 48 0 0 1 = x := if_pos ⟨rfl, rfl, rfl, rfl⟩
  have bl0 : gBl B B := ⟨fun _ z => z, fun _ _ => rfl⟩
  refine e_L_act ?_
  refine z_draw hd (by omega) (by omega) (by omega) (by omega) hgl fun t t1 t2 => ?_
  have hR1 := hR.dw (x := gi ((a + 1 : Nat) : Int))
  have e1 : (gUI I 48 0 0 1 (gi ((a + 1 : Nat) : Int))) 48 0 0 1 = gi ((a + 1 : Nat) : Int) := dw
  generalize gUI I 48 0 0 1 (gi ((a + 1 : Nat) : Int)) = I1 at hR1 e1 ⊢
  show gC _ _ _ _ _ _ _ _
  rw [hR1.2.2.2.2.1, gi_sub, gi_sub]
  refine z_draw e1 (by omega) (by omega) (by omega) (by omega) hgl fun k0 k1 k2 => ?_
  have hR2 := hR1.dw (x := gi ((a + 1 + 1 : Nat) : Int))
  have e2 : (gUI I1 48 0 0 1 (gi ((a + 1 + 1 : Nat) : Int))) 48 0 0 1 = gi ((a + 2 : Nat) : Int) := dw
  generalize gUI I1 48 0 0 1 (gi ((a + 1 + 1 : Nat) : Int)) = I2 at hR2 e2 ⊢
  show gC _ _ _ _ _ _ _ _
  rw [hR2.2.2.2.2.1, gi_sub]
  refine z_draw e2 (by omega) (by omega) (by omega) (by omega) hgl fun i i1 i2 => ?_
  have hR3 := hR2.dw (x := gi ((a + 2 + 1 : Nat) : Int))
  have e3 : (gUI I2 48 0 0 1 (gi ((a + 2 + 1 : Nat) : Int))) 48 0 0 1 = gi ((a + 3 : Nat) : Int) := dw
  generalize gUI I2 48 0 0 1 (gi ((a + 2 + 1 : Nat) : Int)) = I3 at hR3 e3 ⊢
  show gC _ _ _ _ _ _ _ _
  refine z_draw e3 (by omega) (by omega) (by omega) (by omega) hgl fun v v1 v2 => ?_
  have hR4 := hR3.dw (x := gi ((a + 3 + 1 : Nat) : Int))
  have e4 : (gUI I3 48 0 0 1 (gi ((a + 3 + 1 : Nat) : Int))) 48 0 0 1 = gi ((a + 4 : Nat) : Int) := dw
  generalize gUI I3 48 0 0 1 (gi ((a + 3 + 1 : Nat) : Int)) = I4 at hR4 e4 ⊢
  show gC _ _ _ _ _ _ _ _
  refine z_draw e4 (by omega) (by omega) (by omega) (by omega) hgl fun x x1 x2 => ?_
  have hR5 := hR4.dw (x := gi ((a + 4 + 1 : Nat) : Int))
  have e5 : (gUI I4 48 0 0 1 (gi ((a + 4 + 1 : Nat) : Int))) 48 0 0 1 = gi ((a + 5 : Nat) : Int) := dw
  generalize gUI I4 48 0 0 1 (gi ((a + 4 + 1 : Nat) : Int)) = I5 at hR5 e5 ⊢
  obtain ⟨m, rfl⟩ : ∃ m : Nat, i = m := ⟨i.toNat, by omega⟩
  have hL5 := hR5.2.2.2.2
  have pm : vp_in (gi (m : Int)) 7 := gvp (by omega) (by omega) (by decide)
  show (gi 2 ≤ gi t → _) ∧ (¬ gi 2 ≤ gi t → _)
  rw [gi_le (by omega) (by omega) (by omega) (by omega)]
  refine ⟨fun z2 => ⟨fun z3 => ⟨fun z4 => ⟨fun z5 => ⟨fun z6 => ?_, fun z6 => ?_⟩, fun z5 => ?_⟩, fun z4 => ?_⟩, fun z3 => ?_⟩, fun z2 => ?_⟩
  · rw [hL5.1, gi_eq (a := f 0) (b := 1) (by omega) (by omega) (by omega) (by omega), gi_sub]
    refine ⟨fun y => ⟨⟨by decide, by decide⟩, a_shr hR5 y fun g I' J' B' hg g0 ed bl => ?_⟩, fun y => ⟨⟨by decide, by decide⟩, ?_⟩⟩
    · rw [hg.2.2.2.2.1, g0]
      exact ⟨fun z => absurd rfl z, fun _ => ⟨Or.inr rfl, k g I' J' B' (a + 5) hg (ed.trans e5) (by omega) bl⟩⟩
    · obtain ⟨c, nx, hh, hC5⟩ := hR5.2.2.1
      refine z_thr (j := 2) (by decide) (fun Q X k2 => e_L_calls_27 ⟨⟨by decide, by decide⟩, c_shrink hR5.1.1 hR5.2.1 hC5 hR5.2.2.2.1 (fun y2 => absurd y y2) (fun _ => k2 I5 J QF.rf JQ.rf)⟩) fun I6 J6 q6 j6 => ?_
      exact ⟨fun z => absurd rfl z, fun _ => ⟨Or.inr rfl, k f I6 J6 B (a + 5) (hR5.q q6 j6) ((q6 48 0 0 1 (by unfold KQ; omega)).trans e5) (by omega) bl0⟩⟩
  · obtain ⟨n, hn⟩ : ∃ n : Nat, f 0 = n := ⟨(f 0).toNat, by omega⟩
    rw [hL5.1, gi_eq (a := f 0) (b := 5) (by omega) (by omega) (by omega) (by omega), gi_eq (a := f 0) (b := 7) (by omega) (by omega) (by omega) (by omega), gi_add (a := 6) (b := f 0), gi_sub (a := 6) (b := f 0), gi_add (a := f 0) (b := 1)]
    refine ⟨fun y => ⟨gvp (by omega) (by omega) (by decide), gvp (by omega) (by omega) (by decide), gvp (by omega) (by omega) (by decide), gvp (by omega) (by omega) (by decide), ⟨by decide, by decide⟩, ?_⟩, fun y => ⟨fun y7 => by omega, fun _ => ⟨⟨by decide, by decide⟩, ?_⟩⟩⟩
    · rw [gi_c (a := 6 + f 0) (by omega) (by omega), gi_c (a := 6 - f 0) (by omega) (by omega), gi_c (a := f 0) (by omega) (by omega), show (6 + f 0).toNat = 6 + n by omega, show (6 - f 0).toNat = 6 - n by omega, show (f 0).toNat = n by omega]
      refine a_gro hR5 (by omega) hn ⟨by omega, by omega⟩ ⟨by omega, by omega⟩ ⟨by omega, by omega⟩ fun g I' J' B' hg g0 ed bl => ?_
      rw [hg.2.2.2.2.1, g0]
      exact ⟨fun z => absurd rfl z, fun _ => ⟨Or.inr rfl, k g I' J' B' (a + 5) hg (ed.trans e5) (by omega) bl⟩⟩
    · obtain ⟨c, nx, hh, hC5⟩ := hR5.2.2.1
      refine z_thr (j := 2) (by decide) (fun Q X k2 => e_L_calls_26 ⟨⟨by decide, by decide⟩, c_grow (by decide) (by decide) (by decide) (by decide) (by decide) (by decide) hR5.1.1 hR5.2.1 hC5 hR5.2.2.2.1 (fun y2 => by omega) (fun _ => k2 I5 J QF.rf JQ.rf)⟩) fun I6 J6 q6 j6 => ?_
      exact ⟨fun z => absurd rfl z, fun _ => ⟨Or.inr rfl, k f I6 J6 B (a + 5) (hR5.q q6 j6) ((q6 48 0 0 1 (by unfold KQ; omega)).trans e5) (by omega) bl0⟩⟩
  · refine z_draw e5 (by omega) (by omega) (by omega) (by omega) hgl fun j j1 j2 => ?_
    have hR6 := hR5.dw (x := gi ((a + 5 + 1 : Nat) : Int))
    have e6 : (gUI I5 48 0 0 1 (gi ((a + 5 + 1 : Nat) : Int))) 48 0 0 1 = gi ((a + 6 : Nat) : Int) := dw
    generalize gUI I5 48 0 0 1 (gi ((a + 5 + 1 : Nat) : Int)) = I6 at hR6 e6 ⊢
    obtain ⟨p1, p2⟩ := gprime_pr j.toNat (by omega)
    refine ⟨gvp (by omega) (by omega) (by decide), ⟨by decide, by decide⟩, ?_⟩
    rw [gi_c (a := j) (by omega) (by omega), p1]
    refine a_prm hR6 p2 fun g I' J' B' hg ed bl => ?_
    rw [hL5.2.1]
    exact ⟨fun z => absurd rfl z, fun _ => ⟨Or.inr rfl, k g I' J' B' (a + 6) hg (ed.trans e6) (by omega) bl⟩⟩
  · refine ⟨pm, ⟨by decide, by decide⟩, ?_⟩
    refine qok (c_digits hR5.s) rfl fun I6 J6 q6 j6 => ?_
    have hR6 := hR5.q q6 j6
    refine ⟨pm, ⟨by decide, by decide⟩, ?_⟩
    rw [gi_c (a := (m : Int)) (by omega) (by omega), gtn, hL5.2.2.2.2 m (by omega)]
    refine a_prb hR6 (by omega) (by omega) (by omega) fun g I' J' B' hg g36 ed bl => ?_
    refine ⟨fun z => absurd rfl z, fun _ => ⟨⟨by decide, by decide⟩, ?_⟩⟩
    refine qok (c_digits hg.s) rfl fun I7 J7 q7 j7 => ?_
    have e : gi (rM (some g) fun f => f 36) = gi (rM (some f) fun f => f 36) := congrArg gi g36
    rw [e]
    exact ⟨fun z => absurd rfl z, fun _ => ⟨Or.inr rfl, k g I7 J7 B' (a + 5) (hg.q q7 j7) ((q7 48 0 0 1 (by unfold KQ; omega)).trans (ed.trans ((q6 48 0 0 1 (by unfold KQ; omega)).trans e5))) (by omega) bl⟩⟩
  · refine ⟨pm, pm, ⟨by decide, by decide⟩, ?_⟩
    rw [gi_c (a := (m : Int)) (by omega) (by omega), gtn, hL5.2.2.2.1 m (by omega)]
    refine a_sid hR5 (by omega) (by omega) (by omega) fun g I' J' B' hg g36 g0 gr ed bl => ?_
    refine ⟨fun z => absurd rfl z, fun _ => ⟨⟨by decide, by decide⟩, ?_⟩⟩
    refine qok (c_digits hg.s) rfl fun I6 J6 q6 j6 => ?_
    have hg6 := hg.q q6 j6
    have e : gi (rM (some g) fun f => f 36) = gi 0 := congrArg gi g36
    rw [e]
    refine ⟨fun z => absurd rfl z, fun _ => ⟨⟨by decide, by decide⟩, ?_⟩⟩
    refine qok (c_residual (by omega) (by omega) hg6.s) (if_pos (by omega)) fun I7 J7 q7 j7 => ?_
    have e : gi (rM (some g) fun f => f (29 + ((m : Int)).toNat)) = gi v := congrArg gi gr
    rw [e]
    exact ⟨fun z => absurd rfl z, fun _ => ⟨Or.inr rfl, k g I7 J7 B' (a + 5) (hg6.q q7 j7) ((q7 48 0 0 1 (by unfold KQ; omega)).trans ((q6 48 0 0 1 (by unfold KQ; omega)).trans (ed.trans e5))) (by omega) bl⟩⟩
  · rw [gi_add (a := k0) (b := 6), gi_c (a := k0 + 6) (by omega) (by omega), hL5.2.2.1 k0 (by omega) (by omega), dg_in (by omega) (by omega), show (k0 + 8).toNat = 2 + (k0 + 6).toNat by omega]
    have pk : vp_in (gi (k0 + 6)) 13 := gvp (by omega) (by omega) (by decide)
    refine ⟨pk, pk, ⟨by decide, by decide⟩, ?_⟩
    refine a_dia hR5 (by omega) (by omega) (by omega) (by omega) fun g I' J' B' hg g36 ed bl => ?_
    refine ⟨fun z => absurd rfl z, fun _ => ⟨⟨by decide, by decide⟩, ?_⟩⟩
    refine qok (c_digits hg.s) rfl fun I6 J6 q6 j6 => ?_
    have e : gi (rM (some g) fun f => f 36) = gi 0 := congrArg gi g36
    rw [e]
    exact ⟨fun z => absurd rfl z, fun _ => ⟨Or.inr rfl, k g I6 J6 B' (a + 5) (hg.q q6 j6) ((q6 48 0 0 1 (by unfold KQ; omega)).trans (ed.trans e5)) (by omega) bl⟩⟩
end AC
