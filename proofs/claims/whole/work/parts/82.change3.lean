section YN
variable {E : gEn} {Q : gQt} {X : gXt} {I : gI} {J : gJ} {B : gB} {cc w : Nat} {f : Nat → Int} {c nx : Nat} {h : Nat → Nat → Int} {a b d : Int}
theorem Mdh.to {I' : gI} (hH : Mdh I c h) (hc : c ≤ 8) (h1 : I' 31 0 0 4 = I 31 0 0 4) (h2 : ∀ i, 408 ≤ i → i < 3672 → I' 33 0 0 i = I 33 0 0 i) : Mdh I' c h := ⟨h1.trans hH.1, fun j hj q hq => (h2 _ (by omega) (by omega)).trans (hH.2 j hj q hq)⟩
theorem Mdh.fr {I' : gI} (hH : Mdh I c h) (hc : c ≤ 8) (h1 : FR I I') : Mdh I' c h := hH.to hc (h1 31 0 0 4 (by decide) (by decide) (by decide) (by decide)) (fun i _ _ => h1 33 0 0 i (by decide) (by decide) (by decide) (fun z => absurd z.1 (by decide)))
theorem Mdh.t0 {I' : gI} (hH : Mdh I c h) (hc : c ≤ 8) (h1 : T0 I I') : Mdh I' c h := hH.to hc (h1 31 0 0 4 (by decide)) (fun i _ _ => h1 33 0 0 i (fun z => absurd z.1 (by decide)))
theorem Mdh.fpg {I' : gI} (hH : Mdh I c h) (hc : c ≤ 8) (h1 : Fpg I I') : Mdh I' c h := hH.to hc (h1 31 0 0 4 (by decide) (by decide)) (fun i _ _ => h1 33 0 0 i (by decide) (fun z => absurd z.1 (by decide)))
theorem Mdh.up32 {k : Nat} {x : Int32} (hH : Mdh I c h) (hc : c ≤ 8) : Mdh (gUI I 32 0 0 k x) c h := hH.to hc (if_neg (fun z => absurd z.1 (by decide))) (fun i _ _ => if_neg (fun z => absurd z.1 (by decide)))
theorem mc8 : min (c + 1) 8 ≤ 8 := by omega
theorem z_set1 {at' : Nat} {v : Int} (hat : at' < 408) (hM : Mrow f I) (hc : c ≤ 8) (hH : Mdh I c h) (h7 : 0 ≤ upF f at' v 0 ∧ upF f at' v 0 ≤ 7) (k : ∀ I', MF I I' → I' 31 0 0 0 = I 31 0 0 0 → Mrow (bgF (upF f at' v)) I' → Mdh I' (min (c + 1) 8) (nwH c h f) → Q (.inl (.int (gi (f at')))) I' J B) : gC E 242 [.inr (31, 0, 0), .inl (.int (gi (at' : Int))), .inl (.int (gi v)), .inl (.int (gi 1))] I J B Q X := by
  refine e_X8_sets (z_ka hM hc hH fun I2 fk hH2 => ⟨gvp (by omega) (by omega) (by decide), gvp (by omega) (by omega) (by decide), fun z => absurd z (by decide), fun _ => ?_⟩)
  have hM2 := fk.mrow hM
  rw [gi_c (by omega) (by omega), gtn, hM2 at' hat]
  exact z_bg h7 hM2.up fun I3 fr hM3 => k I3 (fk.m.tr ((MF.rf.up32).tr fr.mf)) ((fr 31 0 0 0 (by decide) (by decide) (by decide) (by decide)).trans ((if_neg (fun z => absurd z.1 (by decide))).trans (fk 31 0 0 0 (by decide) (by decide)))) hM3 ((hH2.up32 mc8).fr mc8 fr)
theorem z_set0 {at' : Nat} {v : Int} (hat : at' < 408) (hM : Mrow f I) (hc : c ≤ 8) (hH : Mdh I c h) (k : ∀ I', MF I I' → I' 31 0 0 0 = I 31 0 0 0 → Mrow (upF f at' v) I' → Mdh I' (min (c + 1) 8) (nwH c h f) → Q (.inl (.int (gi (f at')))) I' J B) : gC E 242 [.inr (31, 0, 0), .inl (.int (gi (at' : Int))), .inl (.int (gi v)), .inl (.int (gi 0))] I J B Q X := by
  refine e_X8_sets (z_ka hM hc hH fun I2 fk hH2 => ⟨gvp (by omega) (by omega) (by decide), gvp (by omega) (by omega) (by decide), fun _ => ?_, fun z => absurd rfl z⟩)
  have hM2 := fk.mrow hM
  rw [gi_c (by omega) (by omega), gtn, hM2 at' hat]
  exact k _ (fk.m.tr (MF.rf.up32)) ((if_neg (fun z => absurd z.1 (by decide))).trans (fk 31 0 0 0 (by decide) (by decide))) hM2.up (hH2.up32 mc8)
theorem m_setDiagonal (h1 : -2147483648 ≤ a) (h2 : a < 2147483648) (h3 : -2147483648 ≤ b) (h4 : b < 2147483648) (hv : Vf f) (hM : Mrow f I) (hs : I 31 0 0 1 = gi 1) (hc : c ≤ 8) (hH : Mdh I c h)
    (k1 : (-f 0 < a ∧ a < f 0) → (-50 ≤ b ∧ b ≤ 50) → ∀ I', MF I I' → I' 31 0 0 0 = gi 0 → Mrow (bgF (upF f (2 + (a + 6).toNat) b)) I' → Mdh I' (min (c + 1) 8) (nwH c h f) → Q (.inl (.int (gi (f (2 + (a + 6).toNat))))) I' J B) (k2 : ¬ (-f 0 < a ∧ a < f 0) → ∀ I', QF I I' → I' 31 0 0 0 = gi 2 → ∀ r, Q (.inl (.int r)) I' J B) (k3 : (-f 0 < a ∧ a < f 0) → ¬ (-50 ≤ b ∧ b ≤ 50) → ∀ I', QF I I' → I' 31 0 0 0 = gi 3 → ∀ r, Q (.inl (.int r)) I' J B) : gC E 243 [.inr (31, 0, 0), .inl (.int (gi a)), .inl (.int (gi b))] I J B Q X := by
  have h0 := hv.1
  refine e_X8_setDiagonal (z_ns1 hs fun I1 t g => ⟨fun z => absurd rfl z, fun _ => z_isDia h1 h2 hv (t.mrow hM) (fun g1 g2 => ⟨fun _ => z_rf0 g ⟨fun z => absurd rfl z, fun _ => z_inr g (by decide) h3 h4 (by decide) (by decide) (by decide) (by decide) (fun g3 g4 => ⟨fun _ => ?_, fun z => absurd rfl z⟩) (fun g3 => ⟨fun z => absurd z (by decide), fun _ => k3 ⟨g1, g2⟩ g3 _ t.up.q th_up _⟩)⟩, fun z => absurd z (by decide)⟩) (fun g1 => ⟨fun z => absurd rfl z, fun _ => z_rf1 g (by decide) ⟨fun _ => k2 g1 _ t.up.q th_up _, fun z => absurd z (by decide)⟩⟩)⟩)
  rw [gi_add, show (8 : Int) + a = ((2 + (a + 6).toNat : Nat) : Int) by omega]
  exact z_set1 (by omega) (t.mrow hM) hc (hH.t0 hc t) (by rw [upF_ne (by omega)]; omega) fun I2 mf e0 hM2 hH2 => k1 ⟨g1, g2⟩ ⟨g3, g4⟩ I2 (t.m.tr mf) (e0.trans g) hM2 hH2
theorem m_setSide (h1 : -2147483648 ≤ a) (h2 : a < 2147483648) (h3 : -2147483648 ≤ b) (h4 : b < 2147483648) (hv : Vf f) (hM : Mrow f I) (hs : I 31 0 0 1 = gi 1) (hc : c ≤ 8) (hH : Mdh I c h)
    (k1 : (0 ≤ a ∧ a < f 0) → (-999 ≤ b ∧ b ≤ 999) → ∀ I', MF I I' → I' 31 0 0 0 = gi 0 → Mrow (bgF (upF f (15 + a.toNat) b)) I' → Mdh I' (min (c + 1) 8) (nwH c h f) → Q (.inl (.int (gi (f (15 + a.toNat))))) I' J B) (k2 : ¬ (0 ≤ a ∧ a < f 0) → ∀ I', QF I I' → I' 31 0 0 0 = gi 2 → ∀ r, Q (.inl (.int r)) I' J B) (k3 : (0 ≤ a ∧ a < f 0) → ¬ (-999 ≤ b ∧ b ≤ 999) → ∀ I', QF I I' → I' 31 0 0 0 = gi 3 → ∀ r, Q (.inl (.int r)) I' J B) : gC E 244 [.inr (31, 0, 0), .inl (.int (gi a)), .inl (.int (gi b))] I J B Q X := by
  have h0 := hv.1
  refine e_X8_setSide (z_nr1 hs h1 h2 hv hM (fun g1 g2 I1 t g => ⟨fun z => absurd rfl z, fun _ => z_inr g (by decide) h3 h4 (by decide) (by decide) (by decide) (by decide) (fun g3 g4 => ⟨fun _ => ?_, fun z => absurd rfl z⟩) (fun g3 => ⟨fun z => absurd z (by decide), fun _ => k3 ⟨g1, g2⟩ g3 _ t.up.q th_up _⟩)⟩) (fun g1 I1 t g => ⟨fun _ => k2 g1 _ t.q g _, fun z => absurd z (by decide)⟩))
  rw [gi_add, show (15 : Int) + a = ((15 + a.toNat : Nat) : Int) by omega]
  exact z_set1 (by omega) (t.mrow hM) hc (hH.t0 hc t) (by rw [upF_ne (by omega)]; omega) fun I2 mf e0 hM2 hH2 => k1 ⟨g1, g2⟩ ⟨g3, g4⟩ I2 (t.m.tr mf) (e0.trans g) hM2 hH2
theorem m_setProbe (h1 : -2147483648 ≤ a) (h2 : a < 2147483648) (h3 : -2147483648 ≤ b) (h4 : b < 2147483648) (hv : Vf f) (hM : Mrow f I) (hs : I 31 0 0 1 = gi 1) (hc : c ≤ 8) (hH : Mdh I c h)
    (k1 : (0 ≤ a ∧ a < f 0) → (-999 ≤ b ∧ b ≤ 999) → ∀ I', MF I I' → I' 31 0 0 0 = gi 0 → Mrow (upF f (22 + a.toNat) b) I' → Mdh I' (min (c + 1) 8) (nwH c h f) → Q (.inl (.int (gi (f (22 + a.toNat))))) I' J B) (k2 : ¬ (0 ≤ a ∧ a < f 0) → ∀ I', QF I I' → I' 31 0 0 0 = gi 2 → ∀ r, Q (.inl (.int r)) I' J B) (k3 : (0 ≤ a ∧ a < f 0) → ¬ (-999 ≤ b ∧ b ≤ 999) → ∀ I', QF I I' → I' 31 0 0 0 = gi 3 → ∀ r, Q (.inl (.int r)) I' J B) : gC E 245 [.inr (31, 0, 0), .inl (.int (gi a)), .inl (.int (gi b))] I J B Q X := by
  have h0 := hv.1
  refine e_X8_setProbe (z_nr1 hs h1 h2 hv hM (fun g1 g2 I1 t g => ⟨fun z => absurd rfl z, fun _ => z_inr g (by decide) h3 h4 (by decide) (by decide) (by decide) (by decide) (fun g3 g4 => ⟨fun _ => ?_, fun z => absurd rfl z⟩) (fun g3 => ⟨fun z => absurd z (by decide), fun _ => k3 ⟨g1, g2⟩ g3 _ t.up.q th_up _⟩)⟩) (fun g1 I1 t g => ⟨fun _ => k2 g1 _ t.q g _, fun z => absurd z (by decide)⟩))
  rw [gi_add, show (22 : Int) + a = ((22 + a.toNat : Nat) : Int) by omega]
  exact z_set0 (by omega) (t.mrow hM) hc (hH.t0 hc t) fun I2 mf e0 hM2 hH2 => k1 ⟨g1, g2⟩ ⟨g3, g4⟩ I2 (t.m.tr mf) (e0.trans g) hM2 hH2
theorem m_setPrime (h1 : -2147483648 ≤ a) (h2 : a < 2147483648) (hv : Vf f) (hM : Mrow f I) (hs : I 31 0 0 1 = gi 1) (hc : c ≤ 8) (hH : Mdh I c h)
    (k1 : a ∈ primesL → ∀ I', MF I I' → I' 31 0 0 0 = gi 0 → Mrow (bgF (upF f 1 a)) I' → Mdh I' (min (c + 1) 8) (nwH c h f) → Q (.inl (.int (gi (f 1)))) I' J B) (k2 : a ∉ primesL → ∀ I', QF I I' → I' 31 0 0 0 = gi 2 → ∀ r, Q (.inl (.int r)) I' J B) : gC E 246 [.inr (31, 0, 0), .inl (.int (gi a))] I J B Q X := by
  have h0 := hv.1
  refine e_X8_setPrime (z_ns1 hs fun I1 t g => ⟨fun z => absurd rfl z, fun _ => z_ix h1 h2 (fun hm k hk => ⟨fun _ => z_rf0 g ⟨fun _ => ?_, fun z => absurd rfl z⟩, fun z => absurd z (by
    rw [gi_eq (by omega) (by omega) (by decide) (by decide)]
    omega)⟩) (fun hm => ⟨fun z => absurd rfl z, fun _ => z_rf1 g (by decide) ⟨fun z => absurd z (by decide), fun _ => k2 hm _ t.up.q th_up _⟩⟩)⟩)
  · exact z_set1 (at' := 1) (by decide) (t.mrow hM) hc (hH.t0 hc t) (by rw [upF_ne (by omega)]; omega) fun I2 mf e0 hM2 hH2 => k1 hm I2 (t.m.tr mf) (e0.trans g) hM2 hH2
theorem m_shrink (hv : Vf f) (hM : Mrow f I) (hs : I 31 0 0 1 = gi 1) (hc : c ≤ 8) (hH : Mdh I c h)
    (k1 : f 0 ≠ 1 → ∀ I', MF I I' → I' 31 0 0 0 = gi 0 → Mrow (bgF (upF f 0 (f 0 - 1))) I' → Mdh I' (min (c + 1) 8) (nwH c h f) → Q (.inl (.int (gi (f 0 - 1)))) I' J B) (k2 : f 0 = 1 → ∀ I', QF I I' → I' 31 0 0 0 = gi 2 → ∀ r, Q (.inl (.int r)) I' J B) : gC E 248 [.inr (31, 0, 0)] I J B Q X := by
  have h0 := hv.1
  have p0 : vp_in (gi 0) 408 := gvp (by decide) (by decide) (by decide)
  refine e_X8_shrink (z_ns1 hs fun I1 t g => ⟨fun z => absurd rfl z, fun _ => ⟨p0, ?_⟩⟩)
  rw [(t.mrow hM) 0 (by decide), gi_eq (by omega) (by omega) (by decide) (by decide)]
  refine ⟨fun z => z_rf0 g ⟨fun _ => z_ka (t.mrow hM) hc (hH.t0 hc t) fun I2 fk hH2 => ⟨p0, p0, ?_⟩, fun z => absurd rfl z⟩, fun z => z_rf1 g (by decide) ⟨fun z => absurd z (by decide), fun _ => k2 z _ t.up.q th_up _⟩⟩
  have hM2 := fk.mrow (t.mrow hM)
  rw [hM2 0 (by decide), gi_sub]
  refine z_bg (f := upF f 0 (f 0 - 1)) (by show 0 ≤ f 0 - 1 ∧ f 0 - 1 ≤ 7; omega) hM2.up fun I3 fr hM3 => ⟨p0, ?_⟩
  have e : bgF (upF f 0 (f 0 - 1)) 0 = f 0 - 1 := bgF_ne (by show f 0 - 1 ≤ 7; omega) (Or.inl (by decide))
  have := k1 z I3 (t.m.tr (fk.m.tr ((MF.rf.up32).tr fr.mf))) ((fr 31 0 0 0 (by decide) (by decide) (by decide) (by decide)).trans ((if_neg (fun z => absurd z.1 (by decide))).trans ((fk 31 0 0 0 (by decide) (by decide)).trans g))) hM3 ((hH2.up32 mc8).fr mc8 fr)
  rw [hM3 0 (by decide), e]
  exact this
theorem m_grow (h1 : -2147483648 ≤ a) (h2 : a < 2147483648) (h3 : -2147483648 ≤ b) (h4 : b < 2147483648) (h5 : -2147483648 ≤ d) (h6 : d < 2147483648) (hv : Vf f) (hM : Mrow f I) (hs : I 31 0 0 1 = gi 1) (hc : c ≤ 8) (hH : Mdh I c h)
    (k1 : (f 0 ≤ 6 ∧ (-50 ≤ a ∧ a ≤ 50) ∧ (-50 ≤ b ∧ b ≤ 50) ∧ (-999 ≤ d ∧ d ≤ 999)) → ∀ I', MF I I' → I' 31 0 0 0 = gi 0 → Mrow (bgF (gwF f a b d)) I' → Mdh I' (min (c + 1) 8) (nwH c h f) → Q (.inl (.int (gi (f 0 + 1)))) I' J B) (k2 : ¬ (f 0 ≤ 6 ∧ (-50 ≤ a ∧ a ≤ 50) ∧ (-50 ≤ b ∧ b ≤ 50) ∧ (-999 ≤ d ∧ d ≤ 999)) → ∀ I', QF I I' → I' 31 0 0 0 = gi 2 → ∀ r, Q (.inl (.int r)) I' J B) : gC E 247 [.inr (31, 0, 0), .inl (.int (gi a)), .inl (.int (gi b)), .inl (.int (gi d))] I J B Q X := by
  have h0 := hv.1
  have p0 : vp_in (gi 0) 408 := gvp (by decide) (by decide) (by decide)
  refine e_X8_grow (z_ns1 hs fun I1 t g => ⟨fun z => absurd rfl z, fun _ => ⟨p0, ?_⟩⟩)
  rw [(t.mrow hM) 0 (by decide), gi_eq (by omega) (by omega) (by decide) (by decide)]
  refine ⟨fun z => z_rf1 g (by decide) ⟨fun z => absurd z (by decide), fun _ => k2 (by omega) _ t.up.q th_up _⟩, fun z => ?_⟩
  refine z_in h1 h2 (by decide) (by decide) (by decide) (by decide) (fun g1 g2 => ⟨fun z => absurd z (by decide), fun _ => ?_⟩) (fun g1 => ⟨fun _ => z_rf1 g (by decide) ⟨fun z => absurd z (by decide), fun _ => k2 (fun z => g1 z.2.1) _ t.up.q th_up _⟩, fun z => absurd rfl z⟩)
  refine z_in h3 h4 (by decide) (by decide) (by decide) (by decide) (fun g3 g4 => ⟨fun z => absurd z (by decide), fun _ => ?_⟩) (fun g1 => ⟨fun _ => z_rf1 g (by decide) ⟨fun z => absurd z (by decide), fun _ => k2 (fun z => g1 z.2.2.1) _ t.up.q th_up _⟩, fun z => absurd rfl z⟩)
  refine z_inr g (by decide) h5 h6 (by decide) (by decide) (by decide) (by decide) (fun g5 g6 => ⟨fun _ => ?_, fun z => absurd rfl z⟩) (fun g5 => ⟨fun z => absurd z (by decide), fun _ => k2 (fun z => g5 z.2.2.2) _ t.up.q th_up _⟩)
  refine z_ka (t.mrow hM) hc (hH.t0 hc t) fun I2 fk hH2 => ⟨p0, ?_⟩
  have hM2 := fk.mrow (t.mrow hM)
  obtain ⟨n, hn⟩ : ∃ n : Nat, f 0 = n := ⟨(f 0).toNat, by omega⟩
  have hn2 : (f 0).toNat = n := by omega
  rw [hM2 0 (by decide), hn, gi_add, gi_sub, gi_add, gi_add, gi_c (by omega) (by omega), gi_c (by omega) (by omega), gi_c (by omega) (by omega), gi_c (by omega) (by omega), show ((8 : Int) + (n : Int)).toNat = 2 + (6 + n) by omega, show ((8 : Int) - (n : Int)).toNat = 2 + (6 - n) by omega, show ((15 : Int) + (n : Int)).toNat = 15 + n by omega, show ((22 : Int) + (n : Int)).toNat = 22 + n by omega]
  refine ⟨gvp (by omega) (by omega) (by decide), gvp (by omega) (by omega) (by decide), gvp (by omega) (by omega) (by decide), gvp (by omega) (by omega) (by decide), p0, p0, ?_⟩
  have hM3 := (((hM2.up (k := 2 + (6 + n)) (v := a)).up (k := 2 + (6 - n)) (v := b)).up (k := 15 + n) (v := d)).up (k := 22 + n) (v := 0)
  rw [hM3 0 (by decide), upF_ne (by omega), upF_ne (by omega), upF_ne (by omega), upF_ne (by omega), gi_add]
  have hM4 := hM3.up (k := 0) (v := f 0 + 1)
  have eg : upF (upF (upF (upF (upF f (2 + (6 + n)) a) (2 + (6 - n)) b) (15 + n) d) (22 + n) 0) 0 (f 0 + 1) = gwF f a b d := by
    unfold gwF
    rw [hn2, upF_comm (by omega), upF_comm (i := 15 + n) (j := 0) (by omega), upF_comm (i := 2 + (6 - n)) (j := 0) (by omega), upF_comm (i := 2 + (6 + n)) (j := 0) (by omega)]
  rw [eg] at hM4
  refine z_bg (f := gwF f a b d) (by rw [gw_0 hv (by omega)]; omega) hM4 fun I3 fr hM5 => ⟨p0, ?_⟩
  have e : bgF (gwF f a b d) 0 = f 0 + 1 := (bgF_ne (by rw [gw_0 hv (by omega)]; omega) (Or.inl (by decide))).trans (gw_0 hv (by omega))
  have := k1 ⟨by omega, ⟨g1, g2⟩, ⟨g3, g4⟩, ⟨g5, g6⟩⟩ I3 (t.m.tr (fk.m.tr ((((((MF.rf.up32).up32).up32).up32).up32).tr fr.mf))) ((fr 31 0 0 0 (by decide) (by decide) (by decide) (by decide)).trans ((if_neg (fun z => absurd z.1 (by decide))).trans ((if_neg (fun z => absurd z.1 (by decide))).trans ((if_neg (fun z => absurd z.1 (by decide))).trans ((if_neg (fun z => absurd z.1 (by decide))).trans ((if_neg (fun z => absurd z.1 (by decide))).trans ((fk 31 0 0 0 (by decide) (by decide)).trans g))))))) hM5 ((((((hH2.up32 mc8).up32 mc8).up32 mc8).up32 mc8).up32 mc8).fr mc8 fr)
  rw [hM5 0 (by decide), e]
  exact this
theorem m_lift (hv : Vf f) (hM : Mrow f I) (hs : I 31 0 0 1 = gi 1) (hc : c ≤ 8) (hH : Mdh I c h)
    (k1 : rgB f = true → (f 36).toNat < md (f 1) → ∀ I' J', MF I I' → FX J J' → I' 31 0 0 0 = gi 0 → Mrow (lbF f) I' → Mdh I' (min (c + 1) 8) (nwH c h f) → Q (.inl (.int (gi (f 36 + 1)))) I' J' B) (k2 : ¬ (rgB f = true ∧ (f 36).toNat < md (f 1)) → ∀ I', QF I I' → I' 31 0 0 0 = gi 2 → ∀ r, Q (.inl (.int r)) I' J B) : gC E 249 [.inr (31, 0, 0)] I J B Q X := by
  have h0 := hv.1
  refine e_X8_lift (z_ns1 hs fun I1 t g => ⟨fun z => absurd rfl z, fun _ => z_can hv (t.mrow hM) fun I2 fp => ?_⟩)
  have hth : I2 31 0 0 0 = gi 0 := (fp 31 0 0 0 (by decide) (by decide)).trans g
  have no : ¬ (rgB f = true ∧ (f 36).toNat < md (f 1)) → (if (f 36).toNat < md (f 1) then bI (rgB f) else 0) = 0 := fun hh => by
    split
    · cases hr : rgB f with
      | true => exact absurd ⟨hr, by assumption⟩ hh
      | false => rfl
    · rfl
  by_cases hh : rgB f = true ∧ (f 36).toNat < md (f 1)
  · rw [if_pos hh.2, hh.1]
    refine ⟨fun _ => z_rf0 hth ⟨fun _ => z_ka ((t.mrow hM).fpg fp) hc ((hH.t0 hc t).fpg hc fp) fun I3 fk hH3 => z_lf hv (fk.mrow ((t.mrow hM).fpg fp)) fun I4 fr hM4 => ?_, fun z => absurd rfl z⟩, fun z => absurd z (by decide)⟩
    have hv2 := hv.lf hh.2
    refine z_bk hv2 hM4 fun I5 J5 fr5 fx5 hM5 => ⟨gvp (by decide) (by decide) (by decide), ?_⟩
    have hM6 : Mrow (lbF f) I5 := hM5
    rw [hM6 36 (by decide), lb_36]
    exact k1 hh.1 hh.2 I5 J5 (t.m.tr (fp.m.tr (fk.m.tr (fr.mf.tr fr5.mf)))) fx5 ((fr5 31 0 0 0 (by decide) (by decide) (by decide) (by decide)).trans ((fr 31 0 0 0 (by decide) (by decide) (by decide) (by decide)).trans ((fk 31 0 0 0 (by decide) (by decide)).trans hth))) hM6 ((hH3.fr mc8 fr).fr mc8 fr5)
  · rw [no hh]
    exact ⟨fun z => absurd rfl z, fun _ => z_rf1 hth (by decide) ⟨fun z => absurd z (by decide), fun _ => k2 hh _ (t.q.tr (fp.q.tr (T0.rf.up).q)) th_up _⟩⟩
theorem lb_rg {f : Nat → Int} (hv : Vf f) : rgB (lbF f) = rgB f := by
  have e : rgB (lbF f) = rgB (lfF f) := by
    unfold rgB rkF
    rw [show lbF f 0 = lfF f 0 from bkF_lo (by decide), show lbF f 1 = lfF f 1 from bkF_lo (by decide)]
    have : mtF (lbF f) (lfF f 1) ((lfF f 0).toNat) = mtF (lfF f) (lfF f 1) ((lfF f 0).toNat) := by
      unfold mtF
      rw [show dg (lbF f) = dg (lfF f) from Lo.bk.edg]
    rw [this]
  exact e.trans lf_rg
theorem m_rf_l {c' : Nat} {h' : Nat → Nat → Int} {D N : Nat} {F : Nat → Int} (hc' : c' ≤ 8) (hD : D ≤ 40) (k : ∀ I' J', MF I I' → FX J J' → I' 31 0 0 0 = I 31 0 0 0 → Mrow F I' → Mdh I' c' h' → Q (.inl (.int (gi N))) I' J' B) : ∀ (dd n : Nat) (g : Nat → Int) (I' : gI) (J' : gJ), dd = min (D - n) (md (g 1) - (g 36).toNat) → n ≤ D → Vf g → rgB g = true → Mrow g I' → Mdh I' c' h' → MF I I' → FX J J' → I' 31 0 0 0 = I 31 0 0 0 → rfF dd g = F → n + rfK dd g = N → gG E 250 45 [(0, .inr (31, 0, 0)), (1, .inl (.int (gi D))), (2, .inl (.int (gi n)))] [] I' J' B cc w Q X
  | dd, n, g, I', J', hdd, hn, hv, hr, hM, hH, mf, fx, e0, hF, hN => by
    have hw := hv.pw
    have hm := md_36 hv
    refine s_X8_refine_45 ?_
    rw [gi_le (by omega) (by omega) (by omega) (by omega)]
    refine ⟨fun z => ?_, fun z => z_can hv hM fun I2 fp => ?_⟩
    · obtain rfl : dd = 0 := by omega
      have hF : g = F := hF
      have hN : n = N := hN
      subst hF
      subst hN
      exact k I' J' mf fx e0 hM hH
    · have e2 : I2 31 0 0 0 = I 31 0 0 0 := (fp 31 0 0 0 (by decide) (by decide)).trans e0
      by_cases hh : (g 36).toNat < md (g 1)
      · rw [if_pos hh, hr]
        refine ⟨fun z => absurd z (by decide), fun _ => z_ex hv (hM.fpg fp) fun J3 fx3 => ?_⟩
        obtain ⟨e, he⟩ : ∃ e, dd = e + 1 := ⟨dd - 1, by omega⟩
        subst he
        have hF : (if exB g then g else rfF e (lbF g)) = F := hF
        have hN : n + (if exB g then 0 else rfK e (lbF g) + 1) = N := hN
        cases hx : exB g with
        | true =>
          rw [hx] at hF hN
          have hF : g = F := hF
          have hN : n = N := hN
          subst hF
          subst hN
          exact ⟨fun _ => k I2 J3 (mf.tr fp.m) (fx.tr fx3) e2 (hM.fpg fp) (hH.fpg hc' fp), fun z => absurd z (by decide)⟩
        | false =>
          rw [hx] at hF hN
          have hF : rfF e (lbF g) = F := hF
          have hN : n + (rfK e (lbF g) + 1) = N := hN
          refine ⟨fun z => absurd rfl z, fun _ => z_lf hv (hM.fpg fp) fun I4 fr hM4 => z_bk (hv.lf hh) hM4 fun I5 J5 fr5 fx5 hM5 => ?_⟩
          show gG _ _ _ _ _ _ _ _ _ _ _ _
          have hM6 : Mrow (lbF g) I5 := hM5
          rw [gi_add]
          exact m_rf_l hc' hD k e (n + 1) (lbF g) I5 J5 (by rw [lb_36, lb_lo (by decide)]; omega) (by omega) (hv.lb hh) ((lb_rg hv).trans hr) hM6 (((hH.fpg hc' fp).fr hc' fr).fr hc' fr5) (mf.tr (fp.m.tr (fr.mf.tr fr5.mf))) (fx.tr (fx3.tr fx5)) ((fr5 31 0 0 0 (by decide) (by decide) (by decide) (by decide)).trans ((fr 31 0 0 0 (by decide) (by decide) (by decide) (by decide)).trans e2)) hF (by omega)
      · rw [if_neg hh]
        obtain rfl : dd = 0 := by omega
        have hF : g = F := hF
        have hN : n = N := hN
        subst hF
        subst hN
        exact ⟨fun _ => k I2 J' (mf.tr fp.m) fx e2 (hM.fpg fp) (hH.fpg hc' fp), fun z => absurd rfl z⟩
  termination_by dd => dd
theorem m_refine (h1 : -2147483648 ≤ a) (h2 : a < 2147483648) (hv : Vf f) (hM : Mrow f I) (hs : I 31 0 0 1 = gi 1) (hc : c ≤ 8) (hH : Mdh I c h)
    (k1 : (1 ≤ a ∧ a ≤ 40) → rgB f = true → ∀ I' J', MF I I' → FX J J' → I' 31 0 0 0 = gi 0 → Mrow (rfF (min a.toNat (md (f 1) - (f 36).toNat)) f) I' → Mdh I' (min (c + 1) 8) (nwH c h f) → Q (.inl (.int (gi (rfK (min a.toNat (md (f 1) - (f 36).toNat)) f : Nat)))) I' J' B) (k2 : ¬ ((1 ≤ a ∧ a ≤ 40) ∧ rgB f = true) → ∀ I', QF I I' → I' 31 0 0 0 = gi 2 → ∀ r, Q (.inl (.int r)) I' J B) : gC E 250 [.inr (31, 0, 0), .inl (.int (gi a))] I J B Q X := by
  have h0 := hv.1
  refine e_X8_refine (z_ns1 hs fun I1 t g => ⟨fun z => absurd rfl z, fun _ => z_in h1 h2 (by decide) (by decide) (by decide) (by decide) (fun g1 g2 => ⟨fun z => absurd z (by decide), fun _ => z_reg hv (t.mrow hM) fun I2 fp => ?_⟩) (fun g1 => ⟨fun _ => z_rf1 g (by decide) ⟨fun z => absurd z (by decide), fun _ => k2 (fun z => g1 z.1) _ t.up.q th_up _⟩, fun z => absurd rfl z⟩)⟩)
  have hth : I2 31 0 0 0 = gi 0 := (fp 31 0 0 0 (by decide) (by decide)).trans g
  cases hr : rgB f with
  | false => exact ⟨fun z => absurd rfl z, fun _ => z_rf1 hth (by decide) ⟨fun z => absurd z (by decide), fun _ => k2 (fun z => by rw [hr] at z; cases z.2) _ (t.q.tr (fp.q.tr (T0.rf.up).q)) th_up _⟩⟩
  | true =>
    refine ⟨fun _ => z_rf0 hth ⟨fun _ => z_ka ((t.mrow hM).fpg fp) hc ((hH.t0 hc t).fpg hc fp) fun I3 fk hH3 => ?_, fun z => absurd rfl z⟩, fun z => absurd z (by decide)⟩
    have hM3 := fk.mrow ((t.mrow hM).fpg fp)
    obtain ⟨n, rfl⟩ : ∃ n : Nat, a = n := ⟨a.toNat, by omega⟩
    exact m_rf_l (I := I3) (J := J) (D := n) mc8 (by omega) (fun I' J' mf fx e0 hMF hHF => k1 ⟨g1, g2⟩ hr I' J' (t.m.tr (fp.m.tr (fk.m.tr mf))) fx (e0.trans ((fk 31 0 0 0 (by decide) (by decide)).trans hth)) hMF hHF) _ 0 f I3 J rfl (by omega) hv hr hM3 hH3 MF.rf FX.rf rfl rfl (by rw [gtn, Nat.sub_zero]; omega)
theorem m_undo (hc : c ≤ 8) (hH : Mdh I c h) (k1 : c ≠ 0 → ∀ I', MF I I' → I' 31 0 0 0 = gi 0 → Mrow (h (c - 1)) I' → Mdh I' (c - 1) h → Q (.inl (.int (gi ((c - 1 : Nat) : Int)))) I' J B) (k2 : c = 0 → ∀ I', QF I I' → I' 31 0 0 0 = gi 1 → ∀ r, Q (.inl (.int r)) I' J B) : gC E 251 [.inr (31, 0, 0)] I J B Q X := by
  refine e_X8_undo ?_
  rw [hH.1, gi_eq (by omega) (by omega) (by decide) (by decide)]
  refine ⟨fun z => z_rf0 th_up ⟨fun _ => ?_, fun z => absurd rfl z⟩, fun z => z_rf1 th_up (by decide) ⟨fun z => absurd z (by decide), fun _ => k2 (by omega) _ (T0.rf.up.up).q th_up _⟩⟩
  have e4 : (gUI I 31 0 0 0 (gi 0)) 31 0 0 4 = gi c := (if_neg (fun z => absurd z.2.2.2 (by decide))).trans hH.1
  rw [e4, gi_sub, gi_add, show (1 : Int) + ((c : Int) - 1) = ((1 + (c - 1) : Nat) : Int) by omega, show (c : Int) - 1 = ((c - 1 : Nat) : Int) by omega]
  have hS : Mst (h (c - 1)) (gUI (gUI I 31 0 0 0 (gi 0)) 31 0 0 4 (gi ((c - 1 : Nat) : Int))) (1 + (c - 1)) := fun q hq => by
    rw [gUI_at, if_neg (fun z => absurd z.1 (by decide)), gUI_at, if_neg (fun z => absurd z.1 (by decide))]
    exact hH.2 (c - 1) (by omega) q hq
  refine z_ft (by omega) hS fun I2 f3 hM2 => ?_
  have e2 : I2 31 0 0 4 = gi ((c - 1 : Nat) : Int) := (f3 31 0 0 4 (by decide)).trans (if_pos ⟨rfl, rfl, rfl, rfl⟩)
  rw [e2]
  refine k1 (by omega) I2 (fun x y z u hk => ?_) ((f3 31 0 0 0 (by decide)).trans ((if_neg (fun z => absurd z.2.2.2 (by decide))).trans th_up)) hM2 ⟨e2, fun j hj q hq => ?_⟩
  · rw [f3 x y z u (by omega), gUI_at, if_neg (fun z => by omega), gUI_at, if_neg (fun z => by omega)]
  · rw [f3 33 0 0 _ (by decide), gUI_at, if_neg (fun z => absurd z.1 (by decide)), gUI_at, if_neg (fun z => absurd z.1 (by decide))]
    exact hH.2 j (by omega) q hq
end YN
