/-! ===== the reference's tokens ===== -/
def sn (t : Nat → Int) (n p : Nat) : Int := if p < n then t p else -1
section YU
variable {E : gEn} {Q : gQt} {X : gXt} {I : gI} {J : gJ} {B : gB} {c w n e p st : Nat} {t : Nat → Int} {lo hi x : Int} {k : Tok}
theorem sn_b (hb : Tb t n) : -1 ≤ sn t n p ∧ sn t n p < 256 := by
  unfold sn
  split
  · have := hb.2 p ‹_›; omega
  · omega
theorem z_seen (hb : Tb t n) (hT : Tm t n I) (hp : p ≤ n) (k : Q (.inl (.int (gi (sn t n p)))) I J B) : gC E 140 [.inr (31, 0, 0), .inl (.int (gi p))] I J B Q X := by
  have h0 := hb.1
  unfold sn at k
  refine e_X8_seen ⟨fun z => ?_, fun z => ?_⟩
  · rw [hT.1, gi_le (by omega) (by omega) (by omega) (by omega)] at z
    rw [if_neg (by omega)] at k
    exact k
  · rw [hT.1, gi_le (by omega) (by omega) (by omega) (by omega)] at z
    rw [if_pos (by omega)] at k
    refine ⟨gvp (by omega) (by omega) (by decide), ?_⟩
    rw [gi_c (by omega) (by omega), gtn, hT.2 p (by omega)]
    exact k
theorem z_isL (h1 : -1 ≤ x) (h2 : x < 256) (k1 : 97 ≤ x ∧ x ≤ 122 → Q (.inl (.int (gi 1))) I J B) (k0 : ¬ (97 ≤ x ∧ x ≤ 122) → Q (.inl (.int (gi 0))) I J B) : gC E 141 [.inl (.int (gi x))] I J B Q X := by
  refine e_X8_isLetter ⟨fun z => ⟨by decide, k0 ?_⟩, fun z => ⟨fun z2 => ⟨by decide, k0 ?_⟩, fun z2 => ⟨by decide, k1 ?_⟩⟩⟩
  · rw [gi_lt (by omega) (by omega) (by omega) (by omega)] at z; omega
  · rw [gi_lt (by omega) (by omega) (by omega) (by omega)] at z2; omega
  · rw [gi_lt (by omega) (by omega) (by omega) (by omega)] at z z2; omega
theorem z_isD (h1 : -1 ≤ x) (h2 : x < 256) (k1 : 48 ≤ x ∧ x ≤ 57 → Q (.inl (.int (gi 1))) I J B) (k0 : ¬ (48 ≤ x ∧ x ≤ 57) → Q (.inl (.int (gi 0))) I J B) : gC E 142 [.inl (.int (gi x))] I J B Q X := by
  refine e_X8_isDigit ⟨fun z => ⟨by decide, k0 ?_⟩, fun z => ⟨fun z2 => ⟨by decide, k0 ?_⟩, fun z2 => ⟨by decide, k1 ?_⟩⟩⟩
  · rw [gi_lt (by omega) (by omega) (by omega) (by omega)] at z; omega
  · rw [gi_lt (by omega) (by omega) (by omega) (by omega)] at z2; omega
  · rw [gi_lt (by omega) (by omega) (by omega) (by omega)] at z z2; omega
theorem FM.rf : FM I I := fun _ _ _ _ _ => rfl
theorem FM.up {I' : gI} {d : Nat} {x : Int32} (h : FM I I') (hd : d = 11 ∨ d = 12 ∨ d = 13 ∨ d = 14) : FM I (gUI I' 31 0 0 d x) := fun a b c d2 h1 => by
  rw [gUI_at, if_neg (fun z => h1 ⟨z.1, by omega⟩)]
  exact h a b c d2 h1
theorem FM.tr {I' I2 : gI} (h : FM I I') (h2 : FM I' I2) : FM I I2 := fun a b c d h3 => (h2 a b c d h3).trans (h a b c d h3)
theorem Tm.fm {I' : gI} (h : Tm t n I) (f : FM I I') : Tm t n I' := ⟨(f 31 0 0 10 (by omega)).trans h.1, fun k hk => (f 35 0 0 k (by omega)).trans (h.2 k hk)⟩
theorem g10 : ¬ (gi 1 : Int32) = gi 0 := by decide
theorem sn_in (hlo : 0 ≤ lo) : (lo ≤ sn t n p ∧ sn t n p ≤ hi) ↔ (p < n ∧ lo ≤ t p ∧ t p ≤ hi) := by
  unfold sn
  split
  · exact ⟨fun h => ⟨‹_›, h⟩, fun h => h.2⟩
  · exact ⟨fun h => by omega, fun h => absurd h.1 ‹_›⟩
/-- letters -/
theorem z_let (hb : Tb t n) : ∀ (j p : Nat) (I : gI), n - p = j → st ≤ p → p ≤ n → Tm t n I → I 31 0 0 11 = gi p → I 31 0 0 12 = gi st → (∀ I', FM I I' → I' 31 0 0 12 = gi st → I' 31 0 0 11 = gi (rn t n 97 122 p) → I' 31 0 0 13 = gi ((if rn t n 97 122 p ≤ st + 8 then 1 else 5 : Nat) : Int) → Q (.inl .null) I' J B) → gG E 143 63 [(0, .inr (31, 0, 0))] [] I J B c w Q X := by
  have h0 := hb.1
  intro j
  induction j with
  | zero =>
    intro p I g1 g2 g3 hT e1 e2 k
    have hp : p = n := by omega
    refine s_X8_token_63 ?_
    rw [e1]
    refine z_seen hb hT g3 (z_isL (sn_b hb).1 (sn_b hb).2 (fun z => absurd ((sn_in (by decide)).mp z).1 (by omega)) fun z => ?_)
    rw [rn_stop (fun z2 => z ((sn_in (by decide)).mpr z2))] at k
    refine And.intro (fun _ => ?_) (fun z => absurd rfl z)
    rw [e1, e2, gi_sub]
    refine ⟨fun z => ?_, fun z => ?_⟩
    · rw [gi_le (by omega) (by omega) (by omega) (by omega)] at z
      refine k _ (FM.rf.up (by omega)) ((gu_o (by decide)).trans e2) ((gu_o (by decide)).trans e1) ?_
      rw [gu_s, if_pos (by omega)]; rfl
    · rw [gi_le (by omega) (by omega) (by omega) (by omega)] at z
      refine k _ (FM.rf.up (by omega)) ((gu_o (by decide)).trans e2) ((gu_o (by decide)).trans e1) ?_
      rw [gu_s, if_neg (by omega)]; rfl
  | succ j ih =>
    intro p I g1 g2 g3 hT e1 e2 k
    refine s_X8_token_63 ?_
    rw [e1]
    refine z_seen hb hT g3 (z_isL (sn_b hb).1 (sn_b hb).2 (fun z => ?_) fun z => ?_)
    · have zz := (sn_in (by decide)).mp z
      rw [rn_go zz] at k
      refine And.intro (fun z => absurd z g10) (fun _ => ?_)
      rw [e1, show gi (p : Int) + gi 1 = gi ((p + 1 : Nat) : Int) from gi_add _ _]
      have f1 : FM I (gUI I 31 0 0 11 (gi ((p + 1 : Nat) : Int))) := FM.rf.up (by omega)
      exact ih (p + 1) _ (by omega) (by omega) (by omega) (hT.fm f1) gu_s ((gu_o (by decide)).trans e2) fun I' f2 => k I' (f1.tr f2)
    · rw [rn_stop (fun z2 => z ((sn_in (by decide)).mpr z2))] at k
      refine And.intro (fun _ => ?_) (fun z => absurd rfl z)
      rw [e1, e2, gi_sub]
      refine ⟨fun z => ?_, fun z => ?_⟩
      · rw [gi_le (by omega) (by omega) (by omega) (by omega)] at z
        refine k _ (FM.rf.up (by omega)) ((gu_o (by decide)).trans e2) ((gu_o (by decide)).trans e1) ?_
        rw [gu_s, if_pos (by omega)]; rfl
      · rw [gi_le (by omega) (by omega) (by omega) (by omega)] at z
        refine k _ (FM.rf.up (by omega)) ((gu_o (by decide)).trans e2) ((gu_o (by decide)).trans e1) ?_
        rw [gu_s, if_neg (by omega)]; rfl
/-- digits -/
theorem z_dig (hb : Tb t n) : ∀ (j p : Nat) (I : gI), n - p = j → st ≤ p → p ≤ n → Tm t n I → I 31 0 0 11 = gi p → I 31 0 0 12 = gi st → (p ≤ st + 4 → I 31 0 0 14 = gi (decF t st (p - st))) → (∀ I', FM I I' → I' 31 0 0 12 = gi st → I' 31 0 0 11 = gi (rn t n 48 57 p) → I' 31 0 0 13 = gi ((if rn t n 48 57 p ≤ st + 4 then 2 else 5 : Nat) : Int) → (rn t n 48 57 p ≤ st + 4 → I' 31 0 0 14 = gi (decF t st (rn t n 48 57 p - st))) → Q (.inl .null) I' J B) → gG E 143 128 [(0, .inr (31, 0, 0))] [] I J B c w Q X := by
  have h0 := hb.1
  intro j
  induction j with
  | zero =>
    intro p I g1 g2 g3 hT e1 e2 e3 k
    have hp : p = n := by omega
    refine s_X8_token_128 ?_
    rw [e1]
    refine z_seen hb hT g3 (z_isD (sn_b hb).1 (sn_b hb).2 (fun z => absurd ((sn_in (by decide)).mp z).1 (by omega)) fun z => ?_)
    rw [rn_stop (fun z2 => z ((sn_in (by decide)).mpr z2))] at k
    refine And.intro (fun _ => ?_) (fun z => absurd rfl z)
    rw [e1, e2, gi_sub]
    refine ⟨fun z => ?_, fun z => ?_⟩
    · rw [gi_le (by omega) (by omega) (by omega) (by omega)] at z
      refine k _ (FM.rf.up (by omega)) ((gu_o (by decide)).trans e2) ((gu_o (by decide)).trans e1) ?_ (fun z => (gu_o (by decide)).trans (e3 z))
      rw [gu_s, if_pos (by omega)]; rfl
    · rw [gi_le (by omega) (by omega) (by omega) (by omega)] at z
      refine k _ (FM.rf.up (by omega)) ((gu_o (by decide)).trans e2) ((gu_o (by decide)).trans e1) ?_ (fun z => (gu_o (by decide)).trans (e3 z))
      rw [gu_s, if_neg (by omega)]; rfl
  | succ j ih =>
    intro p I g1 g2 g3 hT e1 e2 e3 k
    refine s_X8_token_128 ?_
    rw [e1]
    refine z_seen hb hT g3 (z_isD (sn_b hb).1 (sn_b hb).2 (fun z => ?_) fun z => ?_)
    · have zz := (sn_in (by decide)).mp z
      rw [rn_go zz] at k
      refine And.intro (fun z => absurd z g10) (fun _ => ?_)
      rw [e1, e2, gi_sub]
      refine ⟨fun z3 => ?_, fun z3 => ?_⟩
      · rw [gi_le (by omega) (by omega) (by omega) (by omega)] at z3
        rw [show gi (p : Int) + gi 1 = gi ((p + 1 : Nat) : Int) from gi_add _ _]
        have f1 : FM I (gUI (gUI I 31 0 0 14 (gi 0)) 31 0 0 11 (gi ((p + 1 : Nat) : Int))) := (FM.rf.up (by omega)).up (by omega)
        exact ih (p + 1) _ (by omega) (by omega) (by omega) (hT.fm f1) gu_s (((gu_o (by decide)).trans (gu_o (by decide))).trans e2) (fun z => by omega) fun I' f2 => k I' (f1.tr f2)
      · rw [gi_le (by omega) (by omega) (by omega) (by omega)] at z3
        refine z_seen hb hT g3 ?_
        show gG _ _ _ _ _ _ _ _ _ _ _ _
        have es : sn t n p = t p := if_pos zz.1
        rw [es, e1, e3 (by omega), gi_mul, gi_add, gi_sub, show gi (p : Int) + gi 1 = gi ((p + 1 : Nat) : Int) from gi_add _ _]
        have f1 : FM I (gUI (gUI I 31 0 0 14 (gi (10 * decF t st (p - st) + t p - 48))) 31 0 0 11 (gi ((p + 1 : Nat) : Int))) := (FM.rf.up (by omega)).up (by omega)
        refine ih (p + 1) _ (by omega) (by omega) (by omega) (hT.fm f1) gu_s (((gu_o (by decide)).trans (gu_o (by decide))).trans e2) (fun z => ?_) fun I' f2 => k I' (f1.tr f2)
        rw [gu_o (by decide), gu_s, show p + 1 - st = (p - st) + 1 by omega]
        show gi _ = gi (10 * decF t st (p - st) + t (st + (p - st)) - 48)
        rw [show st + (p - st) = p by omega]
    · rw [rn_stop (fun z2 => z ((sn_in (by decide)).mpr z2))] at k
      refine And.intro (fun _ => ?_) (fun z => absurd rfl z)
      rw [e1, e2, gi_sub]
      refine ⟨fun z => ?_, fun z => ?_⟩
      · rw [gi_le (by omega) (by omega) (by omega) (by omega)] at z
        refine k _ (FM.rf.up (by omega)) ((gu_o (by decide)).trans e2) ((gu_o (by decide)).trans e1) ?_ (fun z => (gu_o (by decide)).trans (e3 z))
        rw [gu_s, if_pos (by omega)]; rfl
      · rw [gi_le (by omega) (by omega) (by omega) (by omega)] at z
        refine k _ (FM.rf.up (by omega)) ((gu_o (by decide)).trans e2) ((gu_o (by decide)).trans e1) ?_ (fun z => (gu_o (by decide)).trans (e3 z))
        rw [gu_s, if_neg (by omega)]; rfl
/-- behind the spaces -/
theorem z_tokS (hb : Tb t n) (hT : Tm t n I) (h2 : st ≤ n) (e1 : I 31 0 0 11 = gi st) (k : ∀ I', FM I I' → Mt (tokS t n st) I' → Q (.inl .null) I' J B) : ¬ (st < n ∧ 32 ≤ t st ∧ t st ≤ 32) → gG E 143 0 [(0, .inr (31, 0, 0))] [] I J B c w Q X := by
  intro hns
  have h0 := hb.1
  have hs := sn_b (p := st) hb
  refine s_X8_token_0 ?_
  rw [e1]
  refine z_seen hb hT h2 (And.intro (fun _ => ?_) (fun z => ?_))
  · rw [e1]
    have f1 : FM I (gUI I 31 0 0 12 (gi st)) := FM.rf.up (by omega)
    have e2 : (gUI I 31 0 0 12 (gi st)) 31 0 0 12 = gi st := gu_s
    have e3 : (gUI I 31 0 0 12 (gi st)) 31 0 0 11 = gi st := (gu_o (by decide)).trans e1
    generalize gUI I 31 0 0 12 (gi st) = I1 at f1 e2 e3 ⊢
    have hT1 := hT.fm f1
    have L := rn_lt (t := t) (lo := 97) (hi := 122) h2
    have D := rn_lt (t := t) (lo := 48) (hi := 57) h2
    unfold tokS at k
    refine z_seen hb hT1 h2 (And.intro (fun z => ?_) (fun z => ?_))
    · have hn : st < n := by
        rcases Nat.lt_or_ge st n with q | q
        · exact q
        · exact absurd (congrArg gi (show sn t n st = -1 from if_neg (by omega))) z
      have es : sn t n st = t st := if_pos hn
      refine z_isL hs.1 hs.2 (fun zl => And.intro (fun z => absurd z g10) (fun _ => ?_)) (fun zl => And.intro (fun _ => ?_) (fun z => absurd rfl z))
      · rw [es] at zl
        rw [if_pos (L.mpr ⟨hn, zl⟩)] at k
        refine z_let hb _ st _ rfl (Nat.le_refl _) h2 hT1 e3 e2 fun I' f2 k1 k2 k3 => k I' (f1.tr f2) ⟨k1, k2, k3.trans (congrArg (fun q : Nat => gi (q : Int)) ?_), fun z => ?_⟩
        · show _ = km _
          split <;> rfl
        · exfalso; revert z
          show ¬ (if rn t n 97 122 st ≤ st + 8 then 1 else 5) = 2
          split <;> decide
      · rw [es] at zl
        rw [if_neg (fun z => zl (L.mp z).2)] at k
        refine z_isD hs.1 hs.2 (fun zd => And.intro (fun z => absurd z g10) (fun _ => ?_)) (fun zd => And.intro (fun _ => ?_) (fun z => absurd rfl z))
        · rw [es] at zd
          rw [if_pos (D.mpr ⟨hn, zd⟩)] at k
          have f2 : FM I1 (gUI I1 31 0 0 14 (gi 0)) := FM.rf.up (by omega)
          refine z_dig hb _ st _ rfl (Nat.le_refl _) h2 (hT1.fm f2) ((gu_o (by decide)).trans e3) ((gu_o (by decide)).trans e2) (fun _ => by rw [gu_s, Nat.sub_self]; rfl) fun I' f3 k1 k2 k3 k4 => k I' ((f1.tr f2).tr f3) ⟨k1, k2, k3.trans (congrArg (fun q : Nat => gi (q : Int)) ?_), fun z => ?_⟩
          · show _ = km _
            split <;> rfl
          · have z2 : rn t n 48 57 st ≤ st + 4 := by
              by_cases q : rn t n 48 57 st ≤ st + 4
              · exact q
              · have z3 : (if rn t n 48 57 st ≤ st + 4 then 2 else 5) = 2 := z
                rw [if_neg q] at z3
                exact absurd z3 (by decide)
            have z4 := k4 z2
            show _ = gi (decF t st (min 4 (rn t n 48 57 st - st)))
            rw [show min 4 (rn t n 48 57 st - st) = rn t n 48 57 st - st by omega]
            exact z4
        · rw [es] at zd
          rw [if_neg (fun z => zd (D.mp z).2), if_pos hn] at k
          have key : ∀ x y : Nat, (if t st = 45 then 3 else if t st = 59 then 4 else 5) = x → km x = y → Q (.inl .null) (gUI (gUI I1 31 0 0 13 (gi y)) 31 0 0 11 (gi st + gi 1)) J B := fun x y hx hy => by
            rw [hx] at k
            have hx2 : x ≠ 2 := fun q => sgn_ne (hx.trans q)
            refine k _ ((f1.up (by omega)).up (by omega)) ⟨?_, ?_, ?_, fun z => absurd z hx2⟩
            · rw [gu_o (by decide), gu_o (by decide)]; exact e2
            · rw [gu_s, gi_add]; rfl
            · rw [gu_o (by decide), gu_s, ← hy]
          have gp := gb hb hn
          rw [e3, es]
          refine And.intro (fun z4 => And.intro (fun z5 => key 5 5 ?_ rfl) (fun z5 => key 3 4 ?_ rfl)) (fun z4 => key 4 3 ?_ rfl)
          · rw [if_neg (fun h => z5 (by rw [h])), if_neg (fun h => z4 (by rw [h]))]
          · rw [gi_eq gp.1 gp.2 (by omega) (by omega)] at z5
            rw [if_pos z5]
          · rw [gi_eq gp.1 gp.2 (by omega) (by omega)] at z4
            rw [if_neg (by omega), if_pos z4]
    · have hn : ¬ st < n := fun q => by
        have es : sn t n st = t st := if_pos q
        have gp := hb.2 st q
        rw [es, gi_eq (by omega) (by omega) (by omega) (by omega)] at z
        omega
      rw [if_neg (fun z => hn (L.mp z).1), if_neg (fun z => hn (D.mp z).1), if_neg hn] at k
      exact k _ (f1.up (by omega)) ⟨(gu_o (by decide)).trans e2, (gu_o (by decide)).trans e3, gu_s, fun z => absurd (show (0 : Nat) = 2 from z) (by decide)⟩
  · exfalso
    rw [gi_eq (by omega) (by omega) (by omega) (by omega)] at z
    exact hns ((sn_in (by decide)).mp ⟨by omega, by omega⟩)
theorem z_tokL (hb : Tb t n) : ∀ (j p : Nat) (I : gI), n - p = j → p ≤ n → Tm t n I → I 31 0 0 11 = gi p → (∀ I', FM I I' → Mt (tokF t n p) I' → Q (.inl .null) I' J B) → gG E 143 0 [(0, .inr (31, 0, 0))] [] I J B c w Q X := by
  have h0 := hb.1
  intro j
  induction j with
  | zero =>
    intro p I g1 g2 hT e1 k
    have hs : ¬ (p < n ∧ 32 ≤ t p ∧ t p ≤ 32) := by omega
    unfold tokF at k
    rw [rn_stop hs] at k
    exact z_tokS hb hT g2 e1 k hs
  | succ j ih =>
    intro p I g1 g2 hT e1 k
    unfold tokF at k
    by_cases hs : p < n ∧ 32 ≤ t p ∧ t p ≤ 32
    · rw [rn_go hs] at k
      have es : sn t n p = t p := if_pos hs.1
      refine s_X8_token_0 ?_
      rw [e1]
      refine z_seen hb hT g2 (And.intro (fun z => ?_) (fun z => ?_))
      · rw [es, show t p = 32 by omega] at z
        exact absurd rfl z
      · rw [e1, show gi (p : Int) + gi 1 = gi ((p + 1 : Nat) : Int) from gi_add _ _]
        have f1 : FM I (gUI I 31 0 0 11 (gi ((p + 1 : Nat) : Int))) := FM.rf.up (by omega)
        exact ih (p + 1) _ (by omega) (by omega) (hT.fm f1) gu_s fun I' f2 => k I' (f1.tr f2)
    · rw [rn_stop hs] at k
      exact z_tokS hb hT g2 e1 k hs
/-- the reference's step to the next token -/
theorem z_token (hb : Tb t n) (hT : Tm t n I) (he : I 31 0 0 11 = gi e) (hn : e ≤ n) (k : ∀ I', FM I I' → Mt (tokF t n e) I' → Q (.inl .null) I' J B) : gC E 143 [.inr (31, 0, 0)] I J B Q X :=
  e_X8_token (z_tokL hb _ e I rfl hn hT he k)
end YU
