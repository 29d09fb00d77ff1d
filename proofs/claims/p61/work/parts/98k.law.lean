/-! ===== the law's loop and its end ===== -/
section LW
variable {E : gEn} {Q : gQt} {X : gXt} {I : gI} {J : gJ} {B : gB} {c w : Nat} {f : Nat → Int}
theorem z_law_end (hR : Ru f I J B) (hc : c ≤ 100000) (hw : w ≤ 1000000) (k : ∀ I' J' B', Q (.inl (.int (gi 1))) I' J' B') : gG E 313 146 [(1, .inr (48, 0, 0)), (2, .inr (49, 0, 0)), (3, .inr (3, 0, 0)), (4, .inl (.int (gi 0)))] [] I J B c w Q X := by
  have h0 := hR.1.1.1
  have h5 := hR.1.2
  refine s_L_law_146 ⟨fun _ => ⟨⟨by omega, by omega⟩, ?_⟩, fun z => absurd (Int32.le_refl _) z⟩
  rw [hR.2.2.2.2.1]
  refine z_thr (j := 1) (by decide) (fun Q X k2 => e_L_calls_0 ⟨⟨by decide, by decide⟩, qno (c_diagonal (by omega) (by omega) hR.s) (if_neg (by omega)) k2⟩) fun I1 J1 q1 j1 => ?_
  have hR1 := hR.q q1 j1
  refine ⟨fun z => absurd rfl z, fun _ => ⟨⟨by omega, by omega⟩, ?_⟩⟩
  rw [hR1.2.2.2.2.1]
  refine z_thr (j := 1) (by decide) (fun Q X k2 => e_L_calls_1 ⟨⟨by decide, by decide⟩, qno (c_entry (by decide) (by decide) (by omega) (by omega) hR1.s) (if_neg (by omega)) k2⟩) fun I2 J2 q2 j2 => ?_
  have hR2 := hR1.q q2 j2
  refine ⟨fun z => absurd rfl z, fun _ => ⟨⟨by omega, by omega⟩, ?_⟩⟩
  refine z_thr (j := 1) (by decide) (fun Q X k2 => e_L_calls_2 ⟨⟨by decide, by decide⟩, qno (c_side (by decide) (by decide) hR2.s) (show (if (0 : Int) ≤ -1 ∧ (-1 : Int) < f 0 then 0 else 2) = 1 + 1 from if_neg (by omega)) k2⟩) fun I3 J3 q3 j3 => ?_
  have hR3 := hR2.q q3 j3
  refine ⟨fun z => absurd rfl z, fun _ => ⟨⟨by omega, by omega⟩, ?_⟩⟩
  rw [hR3.2.2.2.2.1]
  refine z_thr (j := 1) (by decide) (fun Q X k2 => e_L_calls_3 ⟨⟨by decide, by decide⟩, qno (c_probe (by omega) (by omega) hR3.s) (if_neg (by omega)) k2⟩) fun I4 J4 q4 j4 => ?_
  have hR4 := hR3.q q4 j4
  refine ⟨fun z => absurd rfl z, fun _ => ⟨⟨by omega, by omega⟩, ?_⟩⟩
  obtain ⟨c4, n4, g4, hC4⟩ := hR4.2.2.1
  refine z_thr (j := 2) (by decide) (fun Q X k2 => e_L_calls_22 ⟨⟨by decide, by decide⟩, c_setDiagonal (by decide) (by decide) (by decide) (by decide) hR4.1.1 hR4.2.1 hC4 hR4.2.2.2.1 (fun _ y => by omega) (fun y => by omega) (fun _ _ => k2 I4 J4 QF.rf JQ.rf)⟩) fun I5 J5 q5 j5 => ?_
  have hR5 := hR4.q q5 j5
  refine ⟨fun z => absurd rfl z, fun _ => ⟨⟨by omega, by omega⟩, ?_⟩⟩
  obtain ⟨c5, n5, g5, hC5⟩ := hR5.2.2.1
  refine z_thr (j := 2) (by decide) (fun Q X k2 => e_L_calls_23 ⟨⟨by decide, by decide⟩, c_setSide (by decide) (by decide) (by decide) (by decide) hR5.1.1 hR5.2.1 hC5 hR5.2.2.2.1 (fun _ y => by omega) (fun y => by omega) (fun _ _ => k2 I5 J5 QF.rf JQ.rf)⟩) fun I6 J6 q6 j6 => ?_
  have hR6 := hR5.q q6 j6
  refine ⟨fun z => absurd rfl z, fun _ => ⟨⟨by omega, by omega⟩, ?_⟩⟩
  obtain ⟨c6, n6, g6, hC6⟩ := hR6.2.2.1
  refine z_thr (j := 2) (by decide) (fun Q X k2 => e_L_calls_24 ⟨⟨by decide, by decide⟩, c_setProbe (by decide) (by decide) (by decide) (by decide) hR6.1.1 hR6.2.1 hC6 hR6.2.2.2.1 (fun _ y => by omega) (fun y => by omega) (fun _ _ => k2 I6 J6 QF.rf JQ.rf)⟩) fun I7 J7 q7 j7 => ?_
  have hR7 := hR6.q q7 j7
  refine ⟨fun _ => ⟨⟨by omega, by omega⟩, ?_⟩, fun z => absurd rfl z⟩
  obtain ⟨c7, n7, g7, hC7⟩ := hR7.2.2.1
  refine z_thr (j := 2) (by decide) (fun Q X k2 => e_L_calls_25 ⟨⟨by decide, by decide⟩, c_setPrime (by decide) (by decide) hR7.1.1 hR7.2.1 hC7 hR7.2.2.2.1 (fun y => absurd y (by decide)) (fun _ => k2 I7 J7 QF.rf JQ.rf)⟩) fun I8 J8 q8 j8 => ?_
  have hR8 := hR7.q q8 j8
  refine ⟨fun z => absurd rfl z, fun _ => ⟨⟨by omega, by omega⟩, ?_⟩⟩
  obtain ⟨c8, n8, g8, hC8⟩ := hR8.2.2.1
  refine z_thr (j := 2) (by decide) (fun Q X k2 => e_L_calls_25 ⟨⟨by decide, by decide⟩, c_setPrime (by decide) (by decide) hR8.1.1 hR8.2.1 hC8 hR8.2.2.2.1 (fun y => absurd y (by decide)) (fun _ => k2 I8 J8 QF.rf JQ.rf)⟩) fun I9 J9 q9 j9 => ?_
  have hR9 := hR8.q q9 j9
  refine ⟨fun z => absurd rfl z, fun _ => ⟨⟨by omega, by omega⟩, ?_⟩⟩
  obtain ⟨c9, n9, g9, hC9⟩ := hR9.2.2.1
  refine z_thr (j := 2) (by decide) (fun Q X k2 => e_L_calls_29 ⟨⟨by decide, by decide⟩, c_refine (by decide) (by decide) hR9.1.1 hR9.2.1 hC9 hR9.2.2.2.1 (fun y => by omega) (fun _ I' q => k2 I' J9 q JQ.rf)⟩) fun Ia Ja qa ja => ?_
  have hRa := hR9.q qa ja
  refine ⟨fun z => absurd rfl z, fun _ => ⟨⟨by omega, by omega⟩, ?_⟩⟩
  obtain ⟨ca, na, ga, hCa⟩ := hRa.2.2.1
  refine z_thr (j := 2) (by decide) (fun Q X k2 => e_L_calls_29 ⟨⟨by decide, by decide⟩, c_refine (by decide) (by decide) hRa.1.1 hRa.2.1 hCa hRa.2.2.2.1 (fun y => by omega) (fun _ I' q => k2 I' Ja q JQ.rf)⟩) fun Ib Jb qb jb => ?_
  have hRb := hRa.q qb jb
  refine ⟨fun z => absurd rfl z, fun _ => ⟨⟨by omega, by omega⟩, ?_⟩⟩
  refine z_like hRb fun Ic Jc qc jc => ?_
  exact ⟨fun z => absurd z (by decide), fun _ => ⟨Or.inr rfl, k Ic Jc B⟩⟩
set_option maxRecDepth 100000 in
theorem z_law_146 (hgl : gL E ≤ 100000) (k : ∀ I' J' B', Q (.inl (.int (gi 1))) I' J' B') :
    ∀ (d a u : Nat) (f : Nat → Int) (I : gI) (J : gJ) (B : gB) (c w : Nat), d ≤ 8 → Ru f I J B → I 48 0 0 1 = gi (a : Int) → Un u B → 100 ≤ u → u + 25 * d ≤ 400 → a + 9 * d ≤ 500 → c + 4074 * d ≤ 90000 → w + 43844 * d ≤ 900000 → gG E 313 146 [(1, .inr (48, 0, 0)), (2, .inr (49, 0, 0)), (3, .inr (3, 0, 0)), (4, .inl (.int (gi (d : Int))))] [] I J B c w Q X
  | 0, a, u, f, I, J, B, c, w, hd8, hR, ha, hU, hu, hu2, ha2, hc, hw => z_law_end hR (by omega) (by omega) k
  | d + 1, a, u, f, I, J, B, c, w, hd8, hR, ha, hU, hu, hu2, ha2, hc, hw => by
    refine s_L_law_146 ⟨fun z => ?_, fun _ => ⟨⟨by omega, by omega⟩, ?_⟩⟩
    · rw [gi_le (by omega) (by omega) (by decide) (by decide)] at z
      omega
    refine z_minors hR hgl ha (by omega) fun I1 J1 hR1 e1 => ?_
    refine ⟨fun z => absurd z (by decide), fun _ => ⟨⟨by omega, by omega⟩, ?_⟩⟩
    refine z_solutions hR1 e1 hU hu (by omega) fun I2 J2 B2 hR2 e2 hU2 => ?_
    refine ⟨fun z => absurd z (by decide), fun _ => ⟨⟨by omega, by omega⟩, ?_⟩⟩
    refine z_products hR2 fun I3 J3 q3 j3 => ?_
    have hR3 := hR2.q q3 j3
    refine ⟨fun z => absurd z (by decide), fun _ => ⟨⟨by omega, by omega⟩, ?_⟩⟩
    refine z_act hR3 hgl ((q3 48 0 0 1 (by unfold KQ; omega)).trans e2) (by omega) fun g I4 J4 B4 b hR4 e4 hb bl => ?_
    refine ⟨fun z => absurd z (by decide), fun _ => ⟨⟨by omega, by omega⟩, ?_⟩⟩
    refine z_like hR4 fun I5 J5 q5 j5 => ?_
    refine ⟨fun _ => ?_, fun z => absurd z (by decide)⟩
    have g := z_law_146 hgl k d b (u + 25) g I5 J5 B4 (c + 1000 + 1500 + 1000 + 374 + 200) (w + 12000 + 18000 + 8000 + 4644 + 1200) (by omega) (hR4.q q5 j5) ((q5 48 0 0 1 (by unfold KQ; omega)).trans e4) (fun m h1 h2 => (bl.2 m (by omega)).trans (hU2 m h1 h2)) (by omega) (by omega) (by omega) (by omega) (by omega)
    rw [show gi ((d + 1 : Nat) : Int) + gi (-1) = gi (d : Int) by rw [gi_add]; congr 1; omega]
    exact g
end LW
