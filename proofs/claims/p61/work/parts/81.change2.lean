theorem pl_mem {a : Int} (h : a ∈ primesL) : ∃ k, k < 11 ∧ primesL.getD k 0 = a := by
  simp only [primesL, List.mem_cons, List.not_mem_nil, or_false] at h
  rcases h with rfl | rfl | rfl | rfl | rfl | rfl | rfl | rfl | rfl | rfl | rfl
  · exact ⟨0, by decide, rfl⟩
  · exact ⟨1, by decide, rfl⟩
  · exact ⟨2, by decide, rfl⟩
  · exact ⟨3, by decide, rfl⟩
  · exact ⟨4, by decide, rfl⟩
  · exact ⟨5, by decide, rfl⟩
  · exact ⟨6, by decide, rfl⟩
  · exact ⟨7, by decide, rfl⟩
  · exact ⟨8, by decide, rfl⟩
  · exact ⟨9, by decide, rfl⟩
  · exact ⟨10, by decide, rfl⟩
theorem upF_comm {f : Nat → Int} {i j : Nat} {x y : Int} (h : i ≠ j) : upF (upF f i x) j y = upF (upF f j y) i x := by
  funext k
  unfold upF
  by_cases h1 : k = j
  · rw [if_pos h1, if_neg (by omega), if_pos h1]
  · rw [if_neg h1, if_neg h1]
theorem IvM_lo {f f' : Nat → Int} (h : Lo f f') : IvM f' = IvM f := by
  unfold IvM mI
  rw [h 0 (by decide), h 1 (by decide), h.edg]
theorem Lrd.lo {f f' : Nat → Int} {I : gI} (h : Lo f f') (hL : Lrd f I) : Lrd f' I := by
  unfold Lrd
  rw [h 0 (by decide), h 1 (by decide), IvM_lo h]
  exact hL
def rfF : Nat → (Nat → Int) → (Nat → Int)
  | 0, f => f
  | d + 1, f => if exB f then f else rfF d (lbF f)
def rfK : Nat → (Nat → Int) → Nat
  | 0, _ => 0
  | d + 1, f => if exB f then 0 else rfK d (lbF f) + 1
theorem lb_36 {f : Nat → Int} : lbF f 36 = f 36 + 1 := (bkF_lo (by decide)).trans lf_36
theorem lb_ex {f : Nat → Int} (hv : Vf f) (hm : (f 36).toNat < md (f 1)) : exB (lbF f) = exB (lfF f) := by
  have hv2 := hv.lf hm
  exact Lo.bk.eexB (pow_lim hv2.p.1 hv2.pw.2) (by have := hv2.1; omega)
def gwF (f : Nat → Int) (x y z : Int) : Nat → Int := upF (upF (upF (upF (upF f 0 (f 0 + 1)) (2 + (6 + (f 0).toNat)) x) (2 + (6 - (f 0).toNat)) y) (15 + (f 0).toNat) z) (22 + (f 0).toNat) 0
section YM
variable {E : gEn} {Q : gQt} {X : gXt} {I : gI} {J : gJ} {B : gB} {cc w : Nat} {f : Nat → Int} {c nx : Nat} {h : Nat → Nat → Int} {a b d : Int}
theorem z_chg2 {g : Nat → Int} {I1 : gI} {J1 : gJ} {B1 : gB} (hC : Clh I1 J1 B1 c nx h) (h7 : g 0 ≤ 7) (h0 : Rs0 g I1 0) (h1 : CF I I1) (h2 : CJ J J1) (k : ∀ I' J', CF I I' → CJ J J' → Rst (bgF g) I' J' 0 → Clh I' J' B1 c nx h → Q (.inl .null) I' J' B1) : gC E 48 [.inr (6, 0, 0)] I1 J1 B1 Q X :=
  z_begin h7 h0 fun I' J' fs fj hR => k I' J' (h1.tr fs.c) (h2.tr fj.c) hR (hC.fs fs fj)
theorem z_il_l (h1 : -2147483648 ≤ a) (h2 : a < 2147483648) (k1 : a ∈ primesL → Q (.inl (.int (gi 1))) I J B) (k2 : a ∉ primesL → Q (.inl (.int (gi 0))) I J B) : ∀ d k : Nat, k + d = 11 → (∀ j, j < k → primesL.getD j 0 ≠ a) → gG E 120 9 [(0, .inl (.int (gi a))), (1, .inr (1, 0, 0)), (2, .inl (.int (gi 11))), (3, .inl (.int (gi k)))] [] I J B cc w Q X
  | 0, k, hk, hn => by
    obtain rfl : k = 11 := hk
    exact s_X7_isListed_9 ⟨fun _ => ⟨Or.inl rfl, k2 fun hm => by
      obtain ⟨j, hj, e⟩ := pl_mem hm
      exact hn j hj e⟩, fun z => absurd (Int32.le_refl _) z⟩
  | d + 1, k, hk, hn => by
    obtain ⟨g1, g2⟩ := gprm k (by omega)
    have hp := pr_b g2
    refine s_X7_isListed_9 ?_
    rw [gi_le (by decide) (by decide) (by omega) (by omega), gi_c (by omega) (by omega), gtn, g1, gi_eq (by omega) (by omega) h1 h2, gi_add]
    refine ⟨fun z => by omega, fun _ => ⟨gvp (by omega) (by omega) (by decide), fun z => ?_, fun z => ⟨Or.inr rfl, k1 (z ▸ g2)⟩⟩⟩
    exact z_il_l h1 h2 k1 k2 d (k + 1) (by omega) fun j hj => by
      by_cases hjk : j = k
      · rw [hjk]
        exact z
      · exact hn j (by omega)
theorem z_il (h1 : -2147483648 ≤ a) (h2 : a < 2147483648) (k1 : a ∈ primesL → Q (.inl (.int (gi 1))) I J B) (k2 : a ∉ primesL → Q (.inl (.int (gi 0))) I J B) : gC E 120 [.inl (.int (gi a))] I J B Q X :=
  e_X7_isListed (z_il_l h1 h2 k1 k2 11 0 (by omega) fun j hj => absurd hj (Nat.not_lt_zero j))
theorem vf_prime (hv : Vf f) (hm : a ∈ primesL) : Vf (bgF (upF f 1 a)) := by
  have e : ∀ j, j ≠ 1 → upF f 1 a j = f j := fun j hj => upF_ne hj
  obtain ⟨v1, v2, v3, v4, v5, v6, v7, v8, v9⟩ := hv
  refine Vf.mk0 ?_ ?_ (fun j hj => ?_) (fun j hj => ?_) (fun j hj => ?_) (fun j hj => ?_) ?_
  · rw [e _ (by omega)]; exact v1
  · exact hm
  · rw [e _ (by omega)]; exact v3 j hj
  · rw [e _ (by omega)]; exact v4 j hj
  · rw [e _ (by omega)]; exact v5 j hj
  · rw [e _ (by omega)]; exact v6 j hj
  · rw [e _ (by omega)]; exact v9
theorem vf_size (hv : Vf f) (h1 : 1 ≤ a) (h2 : a ≤ 7) : Vf (bgF (upF f 0 a)) := by
  have e : ∀ j, j ≠ 0 → upF f 0 a j = f j := fun j hj => upF_ne hj
  obtain ⟨v1, v2, v3, v4, v5, v6, v7, v8, v9⟩ := hv
  refine Vf.mk0 ?_ ?_ (fun j hj => ?_) (fun j hj => ?_) (fun j hj => ?_) (fun j hj => ?_) ?_
  · exact ⟨h1, h2⟩
  · rw [e _ (by omega)]; exact v2
  · rw [e _ (by omega)]; exact v3 j hj
  · rw [e _ (by omega)]; exact v4 j hj
  · rw [e _ (by omega)]; exact v5 j hj
  · rw [e _ (by omega)]; exact v6 j hj
  · rw [e _ (by omega)]; exact v9
theorem up_bd {g : Nat → Int} {k : Nat} {v m : Int} {j : Nat} (h1 : -m ≤ v) (h2 : v ≤ m) (hj : -m ≤ g j ∧ g j ≤ m) : -m ≤ upF g k v j ∧ upF g k v j ≤ m := by
  unfold upF
  split
  · exact ⟨h1, h2⟩
  · exact hj
theorem gw_ne {x y z : Int} {j : Nat} (hv : Vf f) (h6 : f 0 ≤ 6) (hj : j ≠ 0) (h1 : j ≠ 2 + (6 + (f 0).toNat)) (h2 : j ≠ 2 + (6 - (f 0).toNat)) (h3 : j ≠ 15 + (f 0).toNat) (h4 : j ≠ 22 + (f 0).toNat) : gwF f x y z j = f j := by
  unfold gwF
  rw [upF_ne h4, upF_ne h3, upF_ne h2, upF_ne h1, upF_ne hj]
theorem gw_0 {x y z : Int} (hv : Vf f) (h6 : f 0 ≤ 6) : gwF f x y z 0 = f 0 + 1 := by
  unfold gwF
  rw [upF_ne (by omega), upF_ne (by omega), upF_ne (by omega), upF_ne (by omega)]
  exact if_pos rfl
theorem vf_grow {x y z : Int} (hv : Vf f) (h6 : f 0 ≤ 6) (hx : -50 ≤ x ∧ x ≤ 50) (hy : -50 ≤ y ∧ y ≤ 50) (hz : -999 ≤ z ∧ z ≤ 999) : Vf (bgF (gwF f x y z)) := by
  have h0 := hv.1
  have v := hv
  obtain ⟨v1, v2, v3, v4, v5, v6, v7, v8, v9⟩ := hv
  refine Vf.mk0 ?_ ?_ (fun j hj => ?_) (fun j hj => ?_) (fun j hj => ?_) (fun j hj => ?_) ?_
  · rw [gw_0 v h6]; omega
  · rw [gw_ne v h6 (by omega) (by omega) (by omega) (by omega) (by omega)]; exact v2
  · unfold gwF
    rw [upF_ne (by omega), upF_ne (by omega)]
    refine up_bd hy.1 hy.2 (up_bd hx.1 hx.2 ?_)
    rw [upF_ne (by omega)]
    exact v3 j hj
  · unfold gwF
    rw [upF_ne (by omega)]
    refine up_bd hz.1 hz.2 ?_
    rw [upF_ne (by omega), upF_ne (by omega), upF_ne (by omega)]
    exact v4 j hj
  · unfold gwF
    refine up_bd (by decide) (by decide) ?_
    rw [upF_ne (by omega), upF_ne (by omega), upF_ne (by omega), upF_ne (by omega)]
    exact v5 j hj
  · rw [gw_ne v h6 (by omega) (by omega) (by omega) (by omega) (by omega)]; exact v6 j hj
  · rw [gw_ne v h6 (by omega) (by omega) (by omega) (by omega) (by omega)]; exact v9
theorem c_setPrime (h1 : -2147483648 ≤ a) (h2 : a < 2147483648) (hv : Vf f) (hR : Rst f I J 0) (hC : Clh I J B c nx h) (hB : Bk B)
    (k1 : a ∈ primesL → ∀ I' J' B', CF I I' → CJ J J' → gBl B B' → St (bgF (upF f 1 a)) c nx h f I' J' B' → Q (.inl (.int (gi (f 1)))) I' J' B') (k2 : a ∉ primesL → X 2 I J B) : gC E 101 [.inr (3, 0, 0), .inl (.int (gi a))] I J B Q X := by
  have h0 := hv.1
  refine e_X7_setPrime ⟨⟨by decide, by decide⟩, z_rs hv hR (z_il h1 h2 (fun hm => ⟨fun _ => ⟨⟨by decide, by decide⟩, z_rem hv hR hC hB fun I2 J2 B2 cr jr hC2 hB2 hBl => ?_⟩, fun z => absurd z (by decide)⟩) (fun hm => ⟨fun z => absurd rfl z, fun _ => ⟨⟨by decide, by decide⟩, k2 hm⟩⟩))⟩
  have hR2 := cr.rst0 jr hR
  rw [hR.1.2.1]
  refine z_chg2 (g := upF f 1 a) (hC2.to (fun d => by rw [gUI_at, if_neg (by omega)]) (fun a b d _ _ _ _ => by rw [gUI_at, if_neg (by omega)]) (fun _ _ _ _ _ _ => rfl)) (by rw [upF_ne (by decide)]; exact h0.2) (hR2.1.hd (k := 1) (by decide)) (cr.c.up (by decide)) jr.c fun I' J' f1 f2 hR3 hC3 => ?_
  exact k1 hm I' J' B2 f1 f2 hBl ⟨hR3, hC3, hB2, vf_prime hv hm⟩
theorem c_shrink (hv : Vf f) (hR : Rst f I J 0) (hC : Clh I J B c nx h) (hB : Bk B)
    (k1 : f 0 ≠ 1 → ∀ I' J' B', CF I I' → CJ J J' → gBl B B' → St (bgF (upF f 0 (f 0 - 1))) c nx h f I' J' B' → Q (.inl (.int (gi (f 0 - 1)))) I' J' B') (k2 : f 0 = 1 → X 2 I J B) : gC E 103 [.inr (3, 0, 0)] I J B Q X := by
  have h0 := hv.1
  refine e_X7_shrink ⟨⟨by decide, by decide⟩, z_rs hv hR ?_⟩
  rw [hR.1.1, gi_eq (by omega) (by omega) (by decide) (by decide)]
  refine ⟨fun z => ⟨⟨by decide, by decide⟩, z_rem hv hR hC hB fun I2 J2 B2 cr jr hC2 hB2 hBl => ?_⟩, fun z => ⟨⟨by decide, by decide⟩, k2 z⟩⟩
  have hR2 := cr.rst0 jr hR
  rw [hR2.1.1, gi_sub]
  refine z_chg2 (g := upF f 0 (f 0 - 1)) (hC2.to (fun d => by rw [gUI_at, if_neg (by omega)]) (fun a b d _ _ _ _ => by rw [gUI_at, if_neg (by omega)]) (fun _ _ _ _ _ _ => rfl)) (by show f 0 - 1 ≤ 7; omega) (hR2.1.hd (k := 0) (by decide)) (cr.c.up (by decide)) jr.c fun I' J' f1 f2 hR3 hC3 => ?_
  have hv3 := vf_size hv (show 1 ≤ f 0 - 1 by omega) (by omega)
  have := k1 z I' J' B2 f1 f2 hBl ⟨hR3, hC3, hB2, hv3⟩
  have e : bgF (upF f 0 (f 0 - 1)) 0 = f 0 - 1 := bgF_ne (by show f 0 - 1 ≤ 7; omega) (Or.inl (by decide))
  show Q (.inl (.int (I' 6 0 0 0))) I' J' B2
  rw [hR3.1.1, e]
  exact this
theorem c_grow (h1 : -2147483648 ≤ a) (h2 : a < 2147483648) (h3 : -2147483648 ≤ b) (h4 : b < 2147483648) (h5 : -2147483648 ≤ d) (h6 : d < 2147483648) (hv : Vf f) (hR : Rst f I J 0) (hC : Clh I J B c nx h) (hB : Bk B)
    (k1 : (f 0 ≤ 6 ∧ (-50 ≤ a ∧ a ≤ 50) ∧ (-50 ≤ b ∧ b ≤ 50) ∧ (-999 ≤ d ∧ d ≤ 999)) → ∀ I' J' B', CF I I' → CJ J J' → gBl B B' → St (bgF (gwF f a b d)) c nx h f I' J' B' → Q (.inl (.int (gi (f 0 + 1)))) I' J' B') (k2 : ¬ (f 0 ≤ 6 ∧ (-50 ≤ a ∧ a ≤ 50) ∧ (-50 ≤ b ∧ b ≤ 50) ∧ (-999 ≤ d ∧ d ≤ 999)) → X 2 I J B) : gC E 102 [.inr (3, 0, 0), .inl (.int (gi a)), .inl (.int (gi b)), .inl (.int (gi d))] I J B Q X := by
  have h0 := hv.1
  refine e_X7_grow ⟨⟨by decide, by decide⟩, z_rs hv hR ?_⟩
  rw [hR.1.1, gi_lt (by omega) (by omega) (by decide) (by decide)]
  refine ⟨fun z => ⟨⟨by decide, by decide⟩, z_ri h1 h2 (by decide) (by decide) (fun g1 g2 => ⟨⟨by decide, by decide⟩, z_ri h3 h4 (by decide) (by decide) (fun g3 g4 => ⟨⟨by decide, by decide⟩, z_ri h5 h6 (by decide) (by decide) (fun g5 g6 => ⟨⟨by decide, by decide⟩, z_rem hv hR hC hB fun I2 J2 B2 cr jr hC2 hB2 hBl => ?_⟩) (fun g => k2 (fun z => g z.2.2.2))⟩) (fun g => k2 (fun z => g z.2.2.1))⟩) (fun g => k2 (fun z => g z.2.1))⟩, fun z => ⟨⟨by decide, by decide⟩, k2 (by omega)⟩⟩
  have hR2 := cr.rst0 jr hR
  obtain ⟨n, hn⟩ : ∃ n : Nat, f 0 = n := ⟨(f 0).toNat, by omega⟩
  have hn2 : (f 0).toNat = n := by omega
  rw [gi_add, gi_neg]
  refine z_putAlong (by omega) (by omega) (z_putAlong (by omega) (by omega) ⟨gvp (by omega) (by omega) (by decide), gvp (by omega) (by omega) (by decide), ?_⟩)
  rw [gi_c (by omega) (by omega), show (f 0 + 6).toNat = 6 + n by omega, show (-f 0 + 6).toNat = 6 - n by omega, hn2]
  have s1 := hR2.1.hd (k := 0) (v := f 0 + 1) (by decide)
  have s2 := s1.dia (k := 6 + n) (v := a) (by omega)
  have s3 := s2.dia (k := 6 - n) (v := b) (by omega)
  have s4 := s3.sid (k := n) (v := d) (by omega)
  have s5 := s4.prb (k := n) (v := 0) (by omega)
  have eg : gwF f a b d = upF (upF (upF (upF (upF f 0 (f 0 + 1)) (2 + (6 + n)) a) (2 + (6 - n)) b) (15 + n) d) (22 + n) 0 := by
    unfold gwF
    rw [hn2]
  rw [← eg] at s5
  refine z_chg2 (g := gwF f a b d) (hC2.to (fun d => by rw [gUI_at, if_neg (by omega), gUI_at, if_neg (by omega), gUI_at, if_neg (by omega), gUI_at, if_neg (by omega), gUI_at, if_neg (by omega)]) (fun a b d _ _ _ _ => by rw [gUI_at, if_neg (by omega), gUI_at, if_neg (by omega), gUI_at, if_neg (by omega), gUI_at, if_neg (by omega), gUI_at, if_neg (by omega)]) (fun _ _ _ _ _ _ => rfl)) (by rw [gw_0 hv (by omega)]; omega) s5 (((((cr.c.up (by decide)).up (by decide)).up (by decide)).up (by decide)).up (by decide)) jr.c fun I' J' f1 f2 hR3 hC3 => ?_
  have hv3 := vf_grow hv (show f 0 ≤ 6 by omega) ⟨g1, g2⟩ ⟨g3, g4⟩ ⟨g5, g6⟩
  have := k1 ⟨by omega, ⟨g1, g2⟩, ⟨g3, g4⟩, ⟨g5, g6⟩⟩ I' J' B2 f1 f2 hBl ⟨hR3, hC3, hB2, hv3⟩
  have e : bgF (gwF f a b d) 0 = f 0 + 1 := (bgF_ne (by rw [gw_0 hv (by omega)]; omega) (Or.inl (by decide))).trans (gw_0 hv (by omega))
  show Q (.inl (.int (I' 6 0 0 0))) I' J' B2
  rw [hR3.1.1, e]
  exact this
theorem CR.lrd {I' : gI} (h1 : CR I I') (hL : Lrd f I) : Lrd f I' := Gr.fr hL (fun c d => h1 17 1 c d (by omega) (by omega)) (fun c d => h1 19 1 c d (by omega) (by omega))
theorem FL.lrd0 {I' : gI} (h1 : FL 0 I I') (hL : Lrd f I) : Lrd f I' := Gr.fr hL (fun c d => h1 17 1 c d (by omega) (by omega)) (fun c d => h1 19 1 c d (by omega) (by omega))
theorem Clh.fl {I' : gI} {J' : gJ} (hC : Clh I J B c nx h) (h1 : FL 0 I I') (h2 : ∀ a b d, ¬ ((a = 6 ∨ a = 10) ∧ b = 0) → a ≠ 26 → a ≠ 27 → J' a b d = J a b d) : Clh I' J' B c nx h := hC.to (fun d => h1 13 0 0 d (by omega) (by omega)) (fun a b d z1 z2 z3 z4 => h1 a b 0 d (by omega) (by omega)) (fun a b d z1 z2 z3 => h2 a b d (by omega) (by omega) (by omega))
theorem c_lift (hv : Vf f) (hR : Rst f I J 0) (hC : Clh I J B c nx h) (hB : Bk B)
    (k1 : rgB f = true → (f 36).toNat < md (f 1) → ∀ I' J' B', CF I I' → CJ J J' → gBl B B' → St (lbF f) c nx h f I' J' B' → Q (.inl (.int (gi (f 36 + 1)))) I' J' B') (k2 : ¬ (rgB f = true ∧ (f 36).toNat < md (f 1)) → ∀ I', QF I I' → X 2 I' J B) : gC E 104 [.inr (3, 0, 0)] I J B Q X := by
  have h0 := hv.1
  have hw := hv.pw
  have hm := md_36 hv
  refine e_X7_lift ⟨⟨by decide, by decide⟩, z_rs hv hR ⟨⟨by decide, by decide⟩, z_rl hv hR (fun hr I1 fg hL => z_lim hv.2.1 (hR.fg fg).1.2.1 ?_) (fun hr I1 fg => k2 (fun z => by rw [hr] at z; cases z.1) I1 fg.q)⟩⟩
  show (I1 6 0 0 5 < gi _ → _) ∧ (¬ I1 6 0 0 5 < gi _ → _)
  have hR1 : Rst f I1 J 0 := hR.fg fg
  rw [hR1.2.1, gi_lt (by omega) (by omega) (by omega) (by omega)]
  refine ⟨fun z => ⟨⟨by decide, by decide⟩, z_rem hv hR1 (hC.to (fun d => fg 13 0 0 d (by omega)) (fun a b d z1 z2 z3 z4 => fg a b 0 d (by omega)) (fun _ _ _ _ _ _ => rfl)) hB fun I2 J2 B2 cr jr hC2 hB2 hBl => ?_⟩, fun z => ⟨⟨by decide, by decide⟩, k2 (fun y => by omega) I1 fg.q⟩⟩
  refine z_lift hv (by omega) (cr.rst0 jr hR1) (cr.lrd hL) (by decide) fun I3 J3 fl fj hR3 => ?_
  have := k1 hr (by omega) I3 J3 B2 (fg.c.tr (cr.c.tr fl.c)) (jr.c.tr (fun a b d z1 z2 => fj a b d (by omega) (by omega) (by omega))) hBl ⟨hR3, hC2.fl fl fj, hB2, hv.lb (by omega)⟩
  show Q (.inl (.int (I3 6 0 0 5))) I3 J3 B2
  rw [hR3.2.1, lb_36]
  exact this
theorem c_rf_l {c' nx' : Nat} {h' : Nat → Nat → Int} {D N : Nat} {F : Nat → Int} (hD : D ≤ 40) (k : ∀ I' J', CF I I' → CJ J J' → Rst F I' J' 0 → Clh I' J' B c' nx' h' → Vf F → Q (.inl (.int (gi N))) I' J' B) : ∀ (dd n : Nat) (g : Nat → Int) (I' : gI) (J' : gJ), n + dd = D → Vf g → Rst g I' J' 0 → Lrd g I' → Clh I' J' B c' nx' h' → (g 36).toNat + dd ≤ md (g 1) → CF I I' → CJ J J' → rfF dd g = F → n + rfK dd g = N → gG E 105 76 [(0, .inr (3, 0, 0)), (2, .inl (.int (gi D))), (3, .inl (.int (gi (bI (exB g))))), (4, .inl (.int (gi n)))] [] I' J' B cc w Q X
  | 0, n, g, I', J', hn, hv, hR, hL, hC, hm, cf, cj, hF, hN => by
    refine s_X7_refine_76 ?_
    rw [gi_le (by omega) (by omega) (by omega) (by omega)]
    have hF : g = F := hF
    have hN : n = N := hN
    subst hF
    subst hN
    exact ⟨fun _ => k I' J' cf cj hR hC hv, fun z => by omega⟩
  | dd + 1, n, g, I', J', hn, hv, hR, hL, hC, hm, cf, cj, hF, hN => by
    have hw := hv.pw
    refine s_X7_refine_76 ?_
    rw [gi_le (by omega) (by omega) (by omega) (by omega)]
    have hF : (if exB g then g else rfF dd (lbF g)) = F := hF
    have hN : n + (if exB g then 0 else rfK dd (lbF g) + 1) = N := hN
    cases hx : exB g with
    | true =>
      rw [hx] at hF hN
      have hF : g = F := hF
      have hN : n = N := hN
      subst hF
      subst hN
      exact ⟨fun z => by omega, fun _ => ⟨fun _ => k I' J' cf cj hR hC hv, fun z => absurd z (by decide)⟩⟩
    | false =>
      rw [hx] at hF hN
      have hF : rfF dd (lbF g) = F := hF
      have hN : n + (rfK dd (lbF g) + 1) = N := hN
      refine ⟨fun z => by omega, fun _ => ⟨fun z => absurd rfl z, fun _ => z_lift hv (by omega) hR hL (by decide) fun I3 J3 fl fj hR3 => ?_⟩⟩
      show gG _ _ _ _ _ _ _ _ _ _ _ _
      rw [← lb_ex hv (by omega), gi_add]
      exact c_rf_l hD k dd (n + 1) (lbF g) I3 J3 (by omega) (hv.lb (by omega)) hR3 (Lrd.lo Lo.bk ((fl.lrd0 hL).lf)) (hC.fl fl fj) (by rw [lb_36, lb_lo (by decide)]; omega) (cf.tr fl.c) (cj.tr (fun a b d z1 z2 => fj a b d (by omega) (by omega) (by omega))) hF (by omega)
theorem c_refine (h1 : -2147483648 ≤ a) (h2 : a < 2147483648) (hv : Vf f) (hR : Rst f I J 0) (hC : Clh I J B c nx h) (hB : Bk B)
    (k1 : (1 ≤ a ∧ a ≤ 40) → rgB f = true → ∀ I' J' B', CF I I' → CJ J J' → gBl B B' → St (rfF (min a.toNat (md (f 1) - (f 36).toNat)) f) c nx h f I' J' B' → Q (.inl (.int (gi (rfK (min a.toNat (md (f 1) - (f 36).toNat)) f : Nat)))) I' J' B') (k2 : ¬ ((1 ≤ a ∧ a ≤ 40) ∧ rgB f = true) → ∀ I', QF I I' → X 2 I' J B) : gC E 105 [.inr (3, 0, 0), .inl (.int (gi a))] I J B Q X := by
  have h0 := hv.1
  have hw := hv.pw
  have hm := md_36 hv
  refine e_X7_refine ⟨⟨by decide, by decide⟩, z_rs hv hR ?_⟩
  rw [gi_lt h1 h2 (by decide) (by decide), gi_le h1 h2 (by decide) (by decide)]
  refine ⟨fun z => ⟨⟨by decide, by decide⟩, k2 (by omega) I QF.rf⟩, fun z => ⟨fun z2 => ⟨⟨by decide, by decide⟩, z_rl hv hR (fun hr I1 fg hL => ⟨⟨by decide, by decide⟩, z_rem hv (hR.fg fg) (hC.to (fun d => fg 13 0 0 d (by omega)) (fun a b d z1 z2 z3 z4 => fg a b 0 d (by omega)) (fun _ _ _ _ _ _ => rfl)) hB fun I2 J2 B2 cr jr hC2 hB2 hBl => ?_⟩) (fun hr I1 fg => k2 (fun z => by rw [hr] at z; cases z.2) I1 fg.q)⟩, fun z2 => ⟨⟨by decide, by decide⟩, k2 (by omega) I QF.rf⟩⟩⟩
  have hR2 := cr.rst0 jr (hR.fg fg)
  refine z_lim hv.2.1 hR2.1.2.1 ?_
  show gC _ _ _ _ _ _ _ _
  rw [hR2.2.1, gi_sub]
  refine z_min (by omega) (by omega) (by omega) (by omega) ?_
  show gC _ _ _ _ _ _ _ _
  refine z_solve hv hR2 fun J3 ff => ?_
  show gG _ _ _ _ _ _ _ _ _ _ _ _
  rw [show min a ((md (f 1) : Nat) - f 36) = ((min a.toNat (md (f 1) - (f 36).toNat) : Nat) : Int) by omega]
  have hR3 : Rst f I2 J3 0 := hR2.to (fun _ _ _ _ => rfl) (fun a d ha => ff a 0 d (by omega) (by omega))
  exact c_rf_l (I := I) (J := J) (by omega) (fun I' J' cf cj hRF hCF hvF => k1 ⟨by omega, z2⟩ hr I' J' B2 cf cj hBl ⟨hRF, hCF, hB2, hvF⟩) _ 0 f I2 J3 (by omega) hv hR3 (cr.lrd hL) (hC2.to (fun _ => rfl) (fun _ _ _ _ _ _ _ => rfl) (fun a b d z1 _ _ => ff a b d (by omega) (by omega))) (by omega) (fg.c.tr cr.c) (jr.c.tr ff.c) rfl (by omega)
theorem c_undo (hC : Clh I J B c nx h) (k1 : c ≠ 0 → ∀ I' J', CF I I' → CJ J J' → Rst (h (c - 1)) I' J' 0 → Vf (h (c - 1)) → Clh I' J' B (c - 1) ((nx + 7) % 8) h → Q (.inl (.int (gi ((c - 1 : Nat) : Int)))) I' J' B) (k2 : c = 0 → X 0 I J B) : gC E 106 [.inr (3, 0, 0)] I J B Q X := by
  obtain ⟨g1, g2, g3, g4, g5⟩ := id hC
  refine e_X7_undo (e_X2_takeLatest ?_)
  rw [g1, g2, gi_add, gi_sub, gi_rem (by omega) (by omega) (by decide) (by decide), Int.tmod_eq_emod_of_nonneg (by omega), gi_eq (by omega) (by omega) (by decide) (by decide), gi_sub, show ((nx : Int) + 8 - 1) % 8 = (((nx + 7) % 8 : Nat) : Int) by omega, gi_c (by omega) (by omega), gtn]
  refine ⟨fun z => ⟨by decide, gvp (by omega) (by omega) (by decide), fun hb => ?_, fun hb => ?_⟩, fun z => ⟨⟨by decide, by decide⟩, k2 (by omega)⟩⟩
  · obtain ⟨v1, v2, v3⟩ := g5 (c - 1) (by omega)
    have ei : (nx + 8 - c + (c - 1)) % 8 = (nx + 7) % 8 := by omega
    rw [ei] at v2 v3
    show gC E 45 [.inr (6, 0, 0), .inr (6, 3 + (nx + 7) % 8, 0)] _ J B _ _
    refine z_become (by omega) fun I2 J2 fs fj hb2 => ?_
    have hR2 := hb2 (h (c - 1)) v1 (v2.to (fun a d z1 z2 => by rw [gUI_at, if_neg (by omega), gUI_at, if_neg (by omega)]) (fun _ _ _ => rfl))
    have e2 : I2 13 0 0 2 = gi (((c - 1 : Nat)) : Int) := (fs 13 0 0 2 (by omega)).trans ((if_pos ⟨rfl, rfl, rfl, rfl⟩).trans (congrArg gi (by omega)))
    show Q (.inl (.int (I2 13 0 0 2))) I2 J2 B
    rw [e2]
    refine k1 (by omega) I2 J2 (((CF.rf.up (by decide)).up (by decide)).tr fs.c) fj.c hR2 v1 ⟨e2, (fs 13 0 0 1 (by omega)).trans ((if_neg (fun z => absurd z.2.2.2 (by decide))).trans (if_pos ⟨rfl, rfl, rfl, rfl⟩)), by omega, Nat.mod_lt _ (by decide), fun j hj => ?_⟩
    obtain ⟨w1, w2, w3⟩ := g5 j (by omega)
    rw [show ((nx + 7) % 8 + 8 - (c - 1) + j) % 8 = (nx + 8 - c + j) % 8 by omega]
    exact ⟨w1, w2.to (fun a d z1 z2 => (fs a _ 0 d (by omega)).trans (by rw [gUI_at, if_neg (by omega), gUI_at, if_neg (by omega)])) (fun a d z1 => fj a _ d (by omega)), w3⟩
  · obtain ⟨v1, v2, v3⟩ := g5 (c - 1) (by omega)
    have ei : (nx + 8 - c + (c - 1)) % 8 = (nx + 7) % 8 := by omega
    rw [ei, hb] at v3
    cases v3
end YM
