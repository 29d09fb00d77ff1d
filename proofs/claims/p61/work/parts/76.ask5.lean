theorem pr_ok {p : Int} {q i : Nat} (hp : p ∈ primesL) : ∀ (d j : Nat) (S : gPs), Rg p S.2.1 → Prw q i S → Rg p (prF p i d j S).2.1 ∧ Prw q i (prF p i d j S)
  | 0, _, _, h, hw => ⟨h, hw⟩
  | d + 1, j, S, h, hw => pr_ok hp d (j + 1) (pkF p S i j) (pk_rg (by have := pr_b hp; omega) h) (pk_row hp h hw)
theorem pa_ok {p : Int} {q R : Nat} (hp : p ∈ primesL) : ∀ (A i : Nat) (S : gPs), i + A = R → Rg p S.2.1 → S.1 + q ≤ i → (paF p q R A i S).1 + q ≤ R
  | 0, i, S, hi, _, hw => by show S.1 + q ≤ R; omega
  | A + 1, i, S, hi, h, hw => by
    obtain ⟨h1, h2⟩ := pr_ok (i := i) (q := q) hp (R - q) q S h ⟨by omega, fun z => by omega⟩
    exact pa_ok hp A (i + 1) _ (by omega) h1 h2.1
theorem prs_b {f : Nat → Int} {q : Nat} (hv : Vf f) (hq : q ≤ (f 0).toNat) : (prs f q).1 ≤ 7 := by
  have h0 := hv.1
  have := pa_ok (p := f 1) (q := q) (R := (f 0).toNat) hv.2.1 ((f 0).toNat - q) q (0, dpF (f 1) q (cpF f q), (fun _ _ => 0), fun _ _ => 0) (by omega) (Rg.dp (by have := hv.p; omega) (cp_rg hv)) (by show 0 + q ≤ q; omega)
  have h2 : (prs f q).1 + q ≤ (f 0).toNat := this
  omega
section YH
variable {E : gEn} {Q : gQt} {X : gXt} {I : gI} {J : gJ} {B : gB} {c w : Nat} {f : Nat → Int} {o : Option (Nat → Int)} {a b d : Int}
theorem st_le (hv : Vf f) (h1 : 0 ≤ a) (h2 : a < (ess f).length) : stE f a ≤ (f 0).toNat ∧ (stE f a : Int) ≤ f 0 ∧ stE f a ≤ 7 ∧ detF f (f 1) (stE f a) ≠ 0 := by
  have h := stE_le h1 h2
  have h0 := hv.1
  exact ⟨h, by omega, by omega, ess_det hv (getD_mem (show a.toNat < (ess f).length by omega))⟩
theorem c_schur (h1 : -2147483648 ≤ a) (h2 : a < 2147483648) (h3 : -2147483648 ≤ b) (h4 : b < 2147483648) (h5 : -2147483648 ≤ d) (h6 : d < 2147483648) (hS : Sys o I J) : Cl E 72 [.inr (3, 0, 0), .inl (.int (gi a)), .inl (.int (gi b)), .inl (.int (gi d))] I J B (eM o fun f => if (0 ≤ a ∧ a < (ess f).length) ∧ (stE f a ≤ b ∧ b < f 0) ∧ (stE f a ≤ d ∧ d < f 0) then 0 else 2) (.inl (.int (gi (rM o fun f => cpF f (stE f a) b.toNat d.toNat)))) :=
  Cl.of hS (fun h Q X k => e_X7_schur ⟨⟨by decide, by decide⟩, z_rs0 h k⟩) fun f hv hR Q X k1 k2 => e_X7_schur ⟨⟨by decide, by decide⟩, z_rs hv hR ⟨⟨by decide, by decide⟩, z_sb h1 h2 hv hR (fun g1 g2 I' fe _ => by
    have h0 := hv.1
    obtain ⟨s1, s2, s3, s4⟩ := st_le hv g1 g2
    refine ⟨⟨by decide, by decide⟩, z_rb h3 h4 hv (hR.fe fe) s3 (fun g3 g4 => ⟨⟨by decide, by decide⟩, z_rb h5 h6 hv (hR.fe fe) s3 (fun g5 g6 => ?_) (fun g => k2 1 (if_neg (fun z => g z.2.2)) I' J fe.q JQ.rf)⟩) (fun g => k2 1 (if_neg (fun z => g z.2.1)) I' J fe.q JQ.rf)⟩
    have k1 := k1 (if_pos ⟨⟨g1, g2⟩, ⟨g3, g4⟩, ⟨g5, g6⟩⟩)
    obtain ⟨x, rfl⟩ : ∃ n : Nat, b = n := ⟨b.toNat, by omega⟩
    obtain ⟨y, rfl⟩ : ∃ n : Nat, d = n := ⟨d.toNat, by omega⟩
    refine z_cb hv (hR.fe fe) s1 fun I2 fg g => ?_
    exact z_at g (by omega) (by omega) (by omega) (by omega) (k1 I2 J (fe.q.tr fg.q) JQ.rf)) (fun g I' fe => k2 1 (if_neg (fun z => g z.1)) I' J fe.q JQ.rf)⟩⟩
theorem c_displacement (h1 : -2147483648 ≤ a) (h2 : a < 2147483648) (h3 : -2147483648 ≤ b) (h4 : b < 2147483648) (h5 : -2147483648 ≤ d) (h6 : d < 2147483648) (hS : Sys o I J) : Cl E 73 [.inr (3, 0, 0), .inl (.int (gi a)), .inl (.int (gi b)), .inl (.int (gi d))] I J B (eM o fun f => if (0 ≤ a ∧ a < (ess f).length) ∧ (stE f a ≤ b ∧ b < f 0) ∧ (stE f a ≤ d ∧ d < f 0) then 0 else 2) (.inl (.int (gi (rM o fun f => dpF (f 1) (stE f a) (cpF f (stE f a)) b.toNat d.toNat)))) :=
  Cl.of hS (fun h Q X k => e_X7_displacement ⟨⟨by decide, by decide⟩, z_rs0 h k⟩) fun f hv hR Q X k1 k2 => e_X7_displacement ⟨⟨by decide, by decide⟩, z_rs hv hR ⟨⟨by decide, by decide⟩, z_sb h1 h2 hv hR (fun g1 g2 I' fe _ => by
    have h0 := hv.1
    have hp := hv.p
    obtain ⟨s1, s2, s3, s4⟩ := st_le hv g1 g2
    refine ⟨⟨by decide, by decide⟩, z_rb h3 h4 hv (hR.fe fe) s3 (fun g3 g4 => ⟨⟨by decide, by decide⟩, z_rb h5 h6 hv (hR.fe fe) s3 (fun g5 g6 => ?_) (fun g => k2 1 (if_neg (fun z => g z.2.2)) I' J fe.q JQ.rf)⟩) (fun g => k2 1 (if_neg (fun z => g z.2.1)) I' J fe.q JQ.rf)⟩
    have k1 := k1 (if_pos ⟨⟨g1, g2⟩, ⟨g3, g4⟩, ⟨g5, g6⟩⟩)
    obtain ⟨x, rfl⟩ : ∃ n : Nat, b = n := ⟨b.toNat, by omega⟩
    obtain ⟨y, rfl⟩ : ∃ n : Nat, d = n := ⟨d.toNat, by omega⟩
    refine z_cb hv (hR.fe fe) s1 fun I2 fg g => ?_
    refine z_dp (by omega) (by omega) (Nat.le_refl _) s1 (by omega) (by omega) (by omega) g (cp_rg hv) fun I3 f3 g3 => ?_
    refine z_at g3 (by omega) (by omega) (by omega) (by omega) ?_
    rw [if_pos (by omega)]
    exact k1 I3 J (fe.q.tr (fg.q.tr f3.g.q)) JQ.rf) (fun g I' fe => k2 1 (if_neg (fun z => g z.1)) I' J fe.q JQ.rf)⟩⟩
theorem c_generators (h1 : -2147483648 ≤ a) (h2 : a < 2147483648) (hS : Sys o I J) : Cl E 74 [.inr (3, 0, 0), .inl (.int (gi a))] I J B (eM o fun f => if 0 ≤ a ∧ a < (ess f).length then 0 else 2) (.inl (.int (gi (rM o fun f => ((prs f (stE f a)).1 : Nat))))) :=
  Cl.of hS (fun h Q X k => e_X7_generators ⟨⟨by decide, by decide⟩, z_rs0 h k⟩) fun f hv hR Q X k1 k2 => e_X7_generators ⟨⟨by decide, by decide⟩, z_rs hv hR ⟨⟨by decide, by decide⟩, z_sb h1 h2 hv hR (fun g1 g2 I' fe _ => z_pb hv (hR.fe fe) (st_le hv g1 g2).1 fun I2 fq _ _ => k1 (if_pos ⟨g1, g2⟩) I2 J (fe.q.tr fq.q) JQ.rf) (fun g I' fe => k2 1 (if_neg g) I' J fe.q JQ.rf)⟩⟩
/-! one generator -/
def gnF (f : Nat → Int) (q : Nat) (x : Int32) (s i : Nat) : Int := if x = gi 0 then (prs f q).2.2.1 s i else (prs f q).2.2.2 s i
theorem c_generator {x : Int32} (h1 : -2147483648 ≤ a) (h2 : a < 2147483648) (h3 : -2147483648 ≤ b) (h4 : b < 2147483648) (h5 : -2147483648 ≤ d) (h6 : d < 2147483648) (hS : Sys o I J) : Cl E 75 [.inr (3, 0, 0), .inl (.int (gi a)), .inl (.int (gi b)), .inl (.int (gi d)), .inl (.int x)] I J B (eM o fun f => if (0 ≤ a ∧ a < (ess f).length) ∧ (stE f a ≤ d ∧ d < f 0) ∧ (0 ≤ b ∧ b < (prs f (stE f a)).1) then 0 else 2) (.inl (.int (gi (rM o fun f => gnF f (stE f a) x b.toNat d.toNat)))) :=
  Cl.of hS (fun h Q X k => e_X7_generator ⟨⟨by decide, by decide⟩, z_rs0 h k⟩) fun f hv hR Q X k1 k2 => e_X7_generator ⟨⟨by decide, by decide⟩, z_rs hv hR ⟨⟨by decide, by decide⟩, z_sb h1 h2 hv hR (fun g1 g2 I' fe _ => by
    have h0 := hv.1
    obtain ⟨s1, s2, s3, s4⟩ := st_le hv g1 g2
    have hpb := prs_b hv s1
    refine ⟨⟨by decide, by decide⟩, z_rb h5 h6 hv (hR.fe fe) s3 (fun g3 g4 => ?_) (fun g => k2 1 (if_neg (fun z => g z.2.1)) I' J fe.q JQ.rf)⟩
    rw [gi_lt h3 h4 (by decide) (by decide)]
    refine ⟨fun z => ⟨⟨by decide, by decide⟩, k2 1 (if_neg (by omega)) I' J fe.q JQ.rf⟩, fun z => z_pb hv (hR.fe fe) s1 fun I2 fq _ hP => ?_⟩
    show (gi b < gi _ → _) ∧ (¬ gi b < gi _ → _)
    rw [gi_lt h3 h4 (by omega) (by omega)]
    refine ⟨fun z2 => ?_, fun z2 => ⟨⟨by decide, by decide⟩, k2 1 (if_neg (by omega)) I2 J (fe.q.tr fq.q) JQ.rf⟩⟩
    have k1 := k1 (if_pos ⟨⟨g1, g2⟩, ⟨g3, g4⟩, ⟨by omega, z2⟩⟩) I2 J (fe.q.tr fq.q) JQ.rf
    obtain ⟨y, rfl⟩ : ∃ n : Nat, b = n := ⟨b.toNat, by omega⟩
    obtain ⟨u, rfl⟩ : ∃ n : Nat, d = n := ⟨d.toNat, by omega⟩
    obtain ⟨l1, l2⟩ := hP.2.2 y u (by omega) (by omega) (by omega)
    refine e_X5_component ?_
    rw [gi_lt (by omega) (by omega) (by decide) (by decide), gi_le (by decide) (by decide) (by omega) (by omega), gi_lt (by omega) (by omega) (by decide) (by decide), gi_lt (by omega) (by omega) (by decide) (by decide), gi_c (by omega) (by omega), gi_c (by omega) (by omega), gtn, gtn, l1, l2]
    unfold gnF at k1
    refine ⟨fun z => by omega, fun _ => ⟨fun z => by omega, fun _ => ⟨fun z => by omega, fun _ => ⟨fun _ => ⟨fun z9 => ⟨gvp (by omega) (by omega) (by decide), gvp (by omega) (by omega) (by decide), ?_⟩, fun z9 => ⟨gvp (by omega) (by omega) (by decide), gvp (by omega) (by omega) (by decide), ?_⟩⟩, fun z => by omega⟩⟩⟩⟩
    · rw [if_pos z9] at k1
      exact k1
    · rw [if_neg z9] at k1
      exact k1) (fun g I' fe => k2 1 (if_neg (fun z => g z.1)) I' J fe.q JQ.rf)⟩⟩
def mgF (f : Nat → Int) (l : List Nat) : Nat → Int
  | 0 => 0
  | k + 1 => max (mgF f l k) ((prs f (l.getD k 0)).1 : Nat)
theorem mgF_b (hv : Vf f) : ∀ k, 0 ≤ mgF f (ess f) k ∧ mgF f (ess f) k ≤ 7
  | 0 => ⟨Int.le_refl 0, by show (0 : Int) ≤ 7; decide⟩
  | k + 1 => by
    have := mgF_b hv k
    have h1 := prs_b hv (ess_g (j := k) hv)
    show 0 ≤ max _ _ ∧ max _ _ ≤ (7 : Int)
    omega
end YH
