/-! ===== the model's elimination of the rows below ===== -/
theorem sw_c {i c : Nat} : sw i c c = i := by
  unfold sw
  by_cases h : c = i
  · rw [if_pos h, h]
  · rw [if_neg h, if_pos rfl]
theorem sw_s {i a : Nat} : sw i i a = a := by
  unfold sw
  by_cases h : a = i
  · rw [if_pos h, h]
  · rw [if_neg h, if_neg h]
theorem elF_z {p : Int} {lim : Nat} {M : gMx} {k : Nat} (h : (elF p lim M k).2.1 = 0) : ∀ d, (elF p lim M (k + d)).2.1 = 0
  | 0 => h
  | d + 1 => by
    have ih := elF_z h d
    show (esF p lim (elF p lim M (k + d)) (k + d)).2.1 = 0
    cases hv : pvF (elF p lim M (k + d)).2.2.2 (k + d) (lim - (elF p lim M (k + d)).1) (elF p lim M (k + d)).1 with
    | none => rw [esF_n hv]
    | some i =>
      rw [esF_s hv]
      show ((elF p lim M (k + d)).2.1 * _) % p = 0
      rw [ih, Int.zero_mul]
      rfl
/-- a step of the elimination, row by row -/
theorem step_row {p : Int} {E : gMx} {i c r b : Nat} (hr : r ≠ c) : clF p (ldF p E i c c) c c r b = (E (sw i c r) b - (E (sw i c r) c * inv p (E i c)) % p * E i b) % p := by
  have e1 : ∀ b, ldF p E i c c r b = E (sw i c r) b := fun b => by
    unfold ldF sw
    rw [if_neg hr]
    by_cases h : r = i
    · rw [if_pos h, if_pos h]
    · rw [if_neg h, if_neg h, if_neg hr]
  have e2 : ldF p E i c c c b = (inv p (E i c) * E i b) % p := if_pos rfl
  unfold clF
  rw [if_neg hr, e1, e1, e2, ← emod_sub_r, emod_mul_r, ← emod_sub_r (b := _ % p * _), emod_mul_l, ← Int.mul_assoc]
def Bel (I : gI) (R c RB : Nat) (W E' : gMx) (r : Nat) : Prop := (∀ a b, c < a → a < r → a < RB → b ≤ R → I 38 0 0 (8 * a + cmx R b) = gi (E' a b)) ∧ ∀ a b, (a = c ∨ r ≤ a) → a < RB → b ≤ R → I 38 0 0 (8 * a + cmx R b) = gi (W a b)
theorem tk_val {u o v : Int} {p : Int} (hu : 0 ≤ u) (hu2 : u < 31) (ho : 0 ≤ o) (ho2 : o < 31) (hv : 0 ≤ v) (hv2 : v < 31) : gi ((gi u - gi o * gi v).toInt % p) = gi ((u - o * v) % p) := by
  have := mulb ho ho2 hv hv2
  rw [gi_mul, gi_sub, gi_t (by omega) (by omega)]
theorem Bel.step {I I' : gI} {p : Int} {R c RB r i : Nat} {E : gMx} (hR : R ≤ 7) (hRB : RB ≤ 7) (hM : Rg p E) (hp : 1 ≤ p) (hp2 : p ≤ 31) (hr : r < RB) (hcr : c < r) (h : Bel I R c RB (fun a b => E (sw i c a) b) (clF p (ldF p E i c c) c c) r)
    (hI : ∀ a b, a < 7 → b < 8 → I' 38 0 0 (8 * a + b) = if a = r then gi ((I 38 0 0 (8 * r + b) - gi ((E (sw i c r) c * inv p (E i c)) % p) * I 38 0 0 (8 * c + b)).toInt % p) else I 38 0 0 (8 * a + b)) : Bel I' R c RB (fun a b => E (sw i c a) b) (clF p (ldF p E i c c) c c) (r + 1) := by
  have hc : sw i c c = i := by
    unfold sw
    by_cases h : c = i
    · rw [if_pos h, h]
    · rw [if_neg h, if_pos rfl]
  refine ⟨fun a b h1 h2 h3 h4 => ?_, fun a b h1 h3 h4 => ?_⟩
  · have hb := cmx_lt (j := b) hR
    rw [hI a _ (by omega) hb]
    by_cases har : a = r
    · subst har
      have o1 := Int.emod_nonneg (E (sw i c a) c * inv p (E i c)) (show p ≠ 0 by omega)
      have o2 := Int.emod_lt_of_pos (E (sw i c a) c * inv p (E i c)) (show 0 < p by omega)
      have m1 := hM (sw i c a) b
      have m2 := hM i b
      rw [if_pos rfl, h.2 a b (Or.inr (Nat.le_refl a)) h3 h4, h.2 c b (Or.inl rfl) (by omega) h4]
      dsimp only
      rw [hc, tk_val (by omega) (by omega) (by omega) (by omega) (by omega) (by omega), step_row (by omega)]
    · rw [if_neg har]
      exact h.1 a b h1 (by omega) h3 h4
  · have hb := cmx_lt (j := b) hR
    rw [hI a _ (by omega) hb, if_neg (by omega)]
    exact h.2 a b (by omega) h3 h4
def Fpg (I I' : gI) : Prop := ∀ a b c d, a ≠ 38 → ¬ (a = 31 ∧ d = 21) → I' a b c d = I a b c d
theorem Fpg.rf {I : gI} : Fpg I I := fun _ _ _ _ _ _ => rfl
theorem Fpg.tr {I I' I2 : gI} (h : Fpg I I') (h2 : Fpg I' I2) : Fpg I I2 := fun a b c d h3 h4 => (h2 a b c d h3 h4).trans (h a b c d h3 h4)
theorem F38.toG {I I' : gI} (h : F38 I I') : Fpg I I' := fun a b c d h1 _ => h a b c d h1
section ZT
variable {E : gEn} {Q : gQt} {X : gXt} {I : gI} {J : gJ} {B : gB} {c w : Nat} {p : Int} {f : Nat → Int}
theorem Mrow.f38 {I' : gI} (h : Mrow f I) (hF : F38 I I') : Mrow f I' := fun k hk => (hF 32 0 0 k (by decide)).trans (h k hk)
theorem Mrow.fpg {I' : gI} (h : Mrow f I) (hF : Fpg I I') : Mrow f I' := fun k hk => (hF 32 0 0 k (by decide) (fun h => absurd h.1 (by decide))).trans (h k hk)
theorem Gm.sw {R a0 a1 i cc : Nat} {M : gMx} {I' : gI} (hR : R ≤ 7) (ha : a1 ≤ 7) (h : Gm I R a0 a1 M) (hi : a0 ≤ i ∧ i < a1) (hc : a0 ≤ cc ∧ cc < a1) (hI : ∀ a b, a < 7 → b < 8 → I' 38 0 0 (8 * a + b) = I 38 0 0 (8 * sw i cc a + b)) : Gm I' R a0 a1 (fun a b => M (_root_.Jvm.Pilot.CToeplitzLabLaw_law_r9661_b9f0f0.sw i cc a) b) := fun a b h1 h2 h3 => by
  rw [hI a _ (by omega) (cmx_lt hR)]
  refine h _ b ?_ ?_ h3
  · unfold _root_.Jvm.Pilot.CToeplitzLabLaw_law_r9661_b9f0f0.sw
    split
    · exact hc.1
    · split
      · exact hi.1
      · exact h1
  · unfold _root_.Jvm.Pilot.CToeplitzLabLaw_law_r9661_b9f0f0.sw
    split
    · exact hc.2
    · split
      · exact hi.2
      · exact h2
/-- the inner loop of minorOf -/
theorem z_mo_i {k cc i : Nat} {s : Int} {E0 : gMx} (hk : k ≤ (f 0).toNat) (hn : (f 0).toNat ≤ 7) (hp1 : 1 ≤ p) (hp2 : p ≤ 31) (hE : Rg p E0) (hc : cc < k) (hp : I 31 0 0 21 = gi p)
    (h : ∀ I', F38 I I' → Gm I' ((f 0).toNat) (cc + 1) k (clF p (ldF p E0 i cc cc) cc cc) → gG E 178 19 [(0, .inr (31, 0, 0)), (1, .inl (.int (gi k))), (3, .inl (.int (gi s))), (4, .inl (.int (gi ((cc + 1 : Nat) : Int))))] [] I' J B c w Q X) :
    ∀ (d r : Nat) (I' : gI), r + d = k → cc < r → F38 I I' → Bel I' ((f 0).toNat) cc k (fun a b => E0 (sw i cc a) b) (clF p (ldF p E0 i cc cc) cc cc) r →
      gG E 178 112 [(0, .inr (31, 0, 0)), (1, .inl (.int (gi k))), (3, .inl (.int (gi s))), (4, .inl (.int (gi cc))), (6, .inl (.int (gi (inv p (E0 i cc))))), (7, .inl (.int (gi r)))] [] I' J B c w Q X
  | 0, r, I', hr, hcr, hF, hB => by
    refine s_X8_minorOf_112 ?_
    rw [gi_le (by omega) (by omega) (by omega) (by omega), gi_add]
    exact ⟨fun _ => h I' hF fun a b h1 h2 h3 => hB.1 a b (by omega) (by omega) h2 h3, fun h0 => by omega⟩
  | d + 1, r, I', hr, hcr, hF, hB => by
    have m1 := hE (sw i cc r) cc
    have m2 := inv_b (p := p) (v := E0 i cc) hp1
    have mu := mulb (x := E0 (sw i cc r) cc) (y := inv p (E0 i cc)) m1.1 (by omega) m2.1 (by omega)
    obtain ⟨a1, a2, a3⟩ := gidx (show r < 7 by omega) (show cc < 8 by omega)
    have hg := hB.2 r cc (Or.inr (Nat.le_refl r)) (by omega) (by omega)
    rw [cmx_in (by omega)] at hg
    have hp3 : I' 31 0 0 21 = gi p := (hF 31 0 0 21 (by decide)).trans hp
    refine s_X8_minorOf_112 ?_
    rw [gi_le (by omega) (by omega) (by omega) (by omega), a1, a2, hg, hp3, gi_eq (by omega) (by omega) (by decide) (by decide), gi_add, gi_add]
    dsimp only
    rw [gi_mul, gi_rem (by omega) (by omega) (by omega) (by omega), Int.tmod_eq_emod_of_nonneg mu.1]
    refine ⟨fun h0 => by omega, fun _ => ⟨a3, by omega, z_tk (by omega) (by omega) (by omega) hp3 hp1 hp2 fun I2 f2 g2 => ?_⟩⟩
    exact z_mo_i hk hn hp1 hp2 hE hc hp h d (r + 1) I2 (by omega) (by omega) (hF.tr f2) (hB.step hn (by omega) hE hp1 hp2 (by omega) (by omega) g2)
theorem z_mo_l {k : Nat} (hv : Vf f) (hk : k ≤ (f 0).toNat) (hp1 : 1 ≤ p) (hp2 : p ≤ 31) (hp : I 31 0 0 21 = gi p) (h : ∀ I', F38 I I' → Q (.inl (.int (gi (elF p k (mtF f p ((f 0).toNat)) k).2.1))) I' J B) :
    ∀ (d cc : Nat) (I' : gI), cc + d = k → F38 I I' → (elF p k (mtF f p ((f 0).toNat)) cc).1 = cc → Gm I' ((f 0).toNat) cc k (elF p k (mtF f p ((f 0).toNat)) cc).2.2.2 →
      gG E 178 19 [(0, .inr (31, 0, 0)), (1, .inl (.int (gi k))), (3, .inl (.int (gi (elF p k (mtF f p ((f 0).toNat)) cc).2.1))), (4, .inl (.int (gi cc)))] [] I' J B c w Q X
  | 0, cc, I', hc, hF, hf, hG => by
    have h0 := hv.1
    refine s_X8_minorOf_19 ?_
    obtain rfl : cc = k := hc
    rw [gi_le (by omega) (by omega) (by omega) (by omega)]
    exact ⟨fun _ => h I' hF, fun h1 => by omega⟩
  | d + 1, cc, I', hc, hF, hf, hG => by
    have h0 := hv.1
    obtain ⟨b1, b2, b3, b4⟩ := elF_b (lim := k) hp1 (Rg.mt (f := f) (size := (f 0).toNat) hp1) cc
    have hp3 : I' 31 0 0 21 = gi p := (hF 31 0 0 21 (by decide)).trans hp
    refine s_X8_minorOf_19 ?_
    rw [gi_le (by omega) (by omega) (by omega) (by omega)]
    refine ⟨fun h1 => by omega, fun _ => z_mpiv (R := (f 0).toNat) (by omega) (Nat.le_refl k) (by omega) (by omega) hp2 hG b4 (Nat.le_refl cc) (by omega) ?_⟩
    have hk1 : elF p k (mtF f p ((f 0).toNat)) (cc + 1) = esF p k (elF p k (mtF f p ((f 0).toNat)) cc) cc := rfl
    cases hv2 : pvF (elF p k (mtF f p ((f 0).toNat)) cc).2.2.2 cc (k - cc) cc with
    | none =>
      have hz : (elF p k (mtF f p ((f 0).toNat)) (cc + 1)).2.1 = 0 := by
        rw [hk1, esF_n (by rw [hf]; exact hv2)]
      have hz2 := elF_z hz d
      rw [show cc + 1 + d = k by omega] at hz2
      rw [hz2] at h
      exact ⟨fun h1 => absurd rfl h1, fun _ => h I' hF⟩
    | some i =>
      obtain ⟨s1, s2, s3⟩ := pvF_s hv2
      have e1 := esF_s (p := p) (lim := k) (col := cc) (S := elF p k (mtF f p ((f 0).toNat)) cc) (i := i) (by rw [hf]; exact hv2)
      rw [hf] at e1
      rw [show pvI (some i) = (i : Int) from rfl]
      show (¬ gi (i : Int) = gi (-1) → _) ∧ (gi (i : Int) = gi (-1) → _)
      have m1 := b4 i cc
      have mu := mulb (x := (elF p k (mtF f p ((f 0).toNat)) cc).2.1) (y := (elF p k (mtF f p ((f 0).toNat)) cc).2.2.2 i cc) b2.1 (by omega) m1.1 (by omega)
      obtain ⟨a1, a2, a3⟩ := gidx (show cc < 7 by omega) (show cc < 8 by omega)
      rw [gi_eq (a := (i : Int)) (by omega) (by omega) (by decide) (by decide), gi_inj (by omega) (by omega)]
      -- from the next head on
      have nx : ∀ (s : Int) (I2 : gI), s = (elF p k (mtF f p ((f 0).toNat)) (cc + 1)).2.1 → F38 I I2 → Gm I2 ((f 0).toNat) cc k (fun a b => (elF p k (mtF f p ((f 0).toNat)) cc).2.2.2 (sw i cc a) b) →
          gG E 178 112 [(0, .inr (31, 0, 0)), (1, .inl (.int (gi k))), (3, .inl (.int (gi s))), (4, .inl (.int (gi cc))), (6, .inl (.int (gi (inv p ((elF p k (mtF f p ((f 0).toNat)) cc).2.2.2 i cc))))), (7, .inl (.int (gi ((cc + 1 : Nat) : Int))))] [] I2 J B c w Q X := fun s I2 hs f2 g2 => by
        refine z_mo_i (I := I2) (i := i) hk (by omega) hp1 hp2 b4 (by omega) ((f2 31 0 0 21 (by decide)).trans hp) (fun I3 f3 g3 => ?_) (k - (cc + 1)) (cc + 1) I2 (by omega) (by omega) F38.rf ⟨fun a b h1 h2 _ _ => by omega, fun a b h1 h2 h3 => g2 a b (by omega) h2 h3⟩
        rw [hs]
        refine z_mo_l hv hk hp1 hp2 hp h d (cc + 1) I3 (by omega) (f2.tr f3) (by rw [hk1, e1]) ?_
        rw [hk1, e1]
        exact g3
      have hcs : ∀ (I2 : gI), Gm I2 ((f 0).toNat) cc k (fun a b => (elF p k (mtF f p ((f 0).toNat)) cc).2.2.2 (sw i cc a) b) → I2 38 0 0 (8 * cc + cc) = gi ((elF p k (mtF f p ((f 0).toNat)) cc).2.2.2 i cc) := fun I2 g2 => by
        have hg := g2 cc cc (Nat.le_refl cc) (by omega) (by omega)
        rw [cmx_in (by omega)] at hg
        rw [hg]
        dsimp only
        rw [sw_c]
      refine ⟨fun _ => ⟨fun hic => ?_, fun hic => ?_⟩, fun h1 => by omega⟩
      · subst hic
        have gs : Gm I' ((f 0).toNat) i k (fun a b => (elF p k (mtF f p ((f 0).toNat)) i).2.2.2 (sw i i a) b) := fun a b h1 h2 h3 => by
          rw [hG a b h1 h2 h3]
          dsimp only
          rw [sw_s]
        rw [a1, a2, hcs I' gs, hp3, gi_eq (by omega) (by omega) (by decide) (by decide)]
        refine ⟨a3, by omega, a3, z_minv hp3 hp1 hp2 m1.1 m1.2 ?_⟩
        show gG _ _ _ _ _ _ _ _ _ _ _ _
        rw [gi_mul, gi_rem (by omega) (by omega) (by omega) (by omega), Int.tmod_eq_emod_of_nonneg mu.1, gi_add]
        refine nx _ I' ?_ hF gs
        rw [hk1, e1]
        show _ = (_ * (if i = i then _ else _)) % p
        rw [if_pos rfl]
      · refine z_sw (by omega) (by omega) fun I2 f2 g2 => ?_
        have gs := hG.sw (I' := I2) (by omega) (by omega) ⟨s1, by omega⟩ ⟨Nat.le_refl cc, by omega⟩ g2
        have hp4 : I2 31 0 0 21 = gi p := (f2 31 0 0 21 (by decide)).trans hp3
        rw [gi_neg]
        refine z_modi (by omega) (by omega) hp4 hp1 hp2 ?_
        show vp_in _ 56 ∧ _
        have q1 := Int.emod_nonneg (-(elF p k (mtF f p ((f 0).toNat)) cc).2.1) (show p ≠ 0 by omega)
        have q2 := Int.emod_lt_of_pos (-(elF p k (mtF f p ((f 0).toNat)) cc).2.1) (show 0 < p by omega)
        have mu2 := mulb (x := (-(elF p k (mtF f p ((f 0).toNat)) cc).2.1) % p) (y := (elF p k (mtF f p ((f 0).toNat)) cc).2.2.2 i cc) q1 (by omega) m1.1 (by omega)
        rw [a1, a2, hcs I2 gs, hp4, gi_eq (by omega) (by omega) (by decide) (by decide)]
        refine ⟨a3, by omega, a3, z_minv hp4 hp1 hp2 m1.1 m1.2 ?_⟩
        show gG _ _ _ _ _ _ _ _ _ _ _ _
        rw [gi_mul, gi_rem (by omega) (by omega) (by omega) (by omega), Int.tmod_eq_emod_of_nonneg mu2.1, gi_add]
        refine nx _ I2 ?_ (hF.tr f2) gs
        rw [hk1, e1]
        show _ = (_ * (if i = cc then _ else _)) % p
        rw [if_neg hic, emod_mul_l, Int.neg_mul, Int.mul_neg]
theorem det_n {k : Nat} (hk : k ≤ (f 0).toNat) : (elF p k (mtF f p ((f 0).toNat)) k).2.1 = detF f p k := by
  have h : Aq k (mtF f p ((f 0).toNat)) (mtF f p k) := fun i j hj => by
    unfold mtF
    rw [if_pos (by omega), if_pos hj]
  exact (elF_ext h k (Nat.le_refl k)).2.1
theorem z_mo {k : Nat} (hv : Vf f) (hM : Mrow f I) (hk : k ≤ (f 0).toNat) (hp : p ∈ primesL) (h : ∀ I', Fpg I I' → Q (.inl (.int (gi (detF f p k)))) I' J B) : gC E 178 [.inr (31, 0, 0), .inl (.int (gi k)), .inl (.int (gi p))] I J B Q X := by
  have hb := pr_b hp
  have h0 := hv.1
  have f0 : Fpg I (gUI I 31 0 0 21 (gi p)) := fun a b c d h1 h2 => by
    rw [gUI_at, if_neg (fun h => h2 ⟨h.1, h.2.2.2⟩)]
  have hp0 : (gUI I 31 0 0 21 (gi p)) 31 0 0 21 = gi p := if_pos ⟨rfl, rfl, rfl, rfl⟩
  refine e_X8_minorOf (z_lay (p := p) hv (hM.fpg f0) hp0 (by omega) (by omega) fun I2 f2 g2 => ?_)
  have hp3 : I2 31 0 0 21 = gi p := (f2 31 0 0 21 (by decide)).trans hp0
  rw [hp3, gi_rem (by decide) (by decide) (by omega) (by omega), gi_eq (by omega) (by omega) (by decide) (by decide), Int.tmod_eq_emod_of_nonneg (show (0 : Int) ≤ 1 by decide)]
  refine ⟨by omega, ?_⟩
  refine z_mo_l (I := I2) hv hk (by omega) (by omega) hp3 (fun I3 f3 => ?_) k 0 I2 (by omega) F38.rf rfl (fun a b h1 h2 h3 => g2 a b h1 (by omega) h3)
  rw [det_n hk]
  exact h I3 (f0.tr (f2.toG.tr f3.toG))
theorem z_mn {k : Nat} (hv : Vf f) (hM : Mrow f I) (hk : k ≤ (f 0).toNat) (h : ∀ I', Fpg I I' → Q (.inl (.int (gi (detF f (f 1) k)))) I' J B) : gC E 179 [.inr (31, 0, 0), .inl (.int (gi k))] I J B Q X := by
  refine e_X8_minorNow ⟨gvp (by decide) (by decide) (by decide), ?_⟩
  rw [hM 1 (by decide)]
  exact z_mo hv hM hk hv.2.1 h
end ZT
