/-! ===== the text goes into the buffer: the law's 'feeds' and 'tell' ===== -/
def wv (t : Nat → Int) (p : Nat) : Nat → Int32
  | 0 => gi 0
  | s + 1 => (wv t p s <<< (gi 8 &&& 31)) ||| gi (t (p + s))
theorem Bt_shl8 {x : Int32} {i : Nat} (hi : i < 32) : Bt (x <<< (gi 8 &&& 31)) i = (decide (8 ≤ i) && Bt x (i - 8)) := by
  unfold Bt
  rw [Int32.toBitVec_shiftLeft]
  show (x.toBitVec <<< ((8#32 : BitVec 32))).getLsbD i = _
  rw [BitVec.shiftLeft_eq', BitVec.getLsbD_shiftLeft]
  show (decide (i < 32) && !decide (i < 8) && _) = _
  rw [decide_eq_true hi, Bool.true_and]
  by_cases h : 8 ≤ i
  · rw [decide_eq_true h, decide_eq_false (show ¬ i < 8 by omega)]
    rfl
  · rw [decide_eq_false h, decide_eq_true (show i < 8 by omega)]
    rfl
theorem Bt_sr {x : Int32} {r j : Nat} (hr : r < 4) (hj : j < 8) : Bt (x >>> (gi ((8 * r : Nat) : Int) &&& 31)) j = Bt x (8 * r + j) := by
  have key : ∀ r, r < 4 → ((gi ((8 * r : Nat) : Int) &&& 31).toBitVec.smod 32).toNat = 8 * r := by decide +kernel
  unfold Bt
  rw [Int32.toBitVec_shiftRight]
  show (x.toBitVec.sshiftRight ((gi ((8 * r : Nat) : Int) &&& 31).toBitVec.smod 32).toNat).getLsbD j = _
  rw [key r hr, BitVec.getLsbD_sshiftRight, decide_eq_false (show ¬ 32 ≤ j by omega), if_pos (show 8 * r + j < 32 by omega)]
  rfl
theorem Bt_byte : ∀ b : Nat, b < 128 → ∀ i, i < 32 → 8 ≤ i → Bt (gi (b : Int)) i = false := by decide +kernel
section TE
variable {t : Nat → Int}
theorem wv_s (ht : ∀ q, 0 ≤ t q ∧ t q < 128) {p s r j : Nat} (hj : j < 8) (hr : r < 4) : Bt (wv t p (s + 1)) (8 * r + j) = if r = 0 then Bt (gi (t (p + s))) j else Bt (wv t p s) (8 * (r - 1) + j) := by
  show Bt ((wv t p s <<< (gi 8 &&& 31)) ||| gi (t (p + s))) (8 * r + j) = _
  rw [Bt_or, Bt_shl8 (by omega)]
  have hb := ht (p + s)
  by_cases h : r = 0
  · rw [if_pos h, h, decide_eq_false (show ¬ 8 ≤ 8 * 0 + j by omega), Bool.false_and, Bool.false_or, show 8 * 0 + j = j by omega]
  · rw [if_neg h, decide_eq_true (show 8 ≤ 8 * r + j by omega), Bool.true_and, show 8 * r + j - 8 = 8 * (r - 1) + j by omega]
    have e := Bt_byte (t (p + s)).toNat (by omega) (8 * r + j) (by omega) (by omega)
    rw [show (((t (p + s)).toNat : Nat) : Int) = t (p + s) by omega] at e
    rw [e, Bool.or_false]
theorem wv_byte (ht : ∀ q, 0 ≤ t q ∧ t q < 128) {p i : Nat} (hi : i < 4) : (wv t p 4 >>> (gi (24 - 8 * (i : Int)) &&& 31)) &&& gi 255 = gi (t (p + i)) := by
  refine Bt_ext fun j hj => ?_
  have hb := ht (p + i)
  rw [Bt_and, Bt_255 j hj]
  by_cases h : j < 8
  · rw [decide_eq_true h, Bool.and_true, show (24 - 8 * (i : Int)) = ((8 * (3 - i) : Nat) : Int) by omega, Bt_sr (by omega) h]
    rcases (show i = 0 ∨ i = 1 ∨ i = 2 ∨ i = 3 by omega) with rfl | rfl | rfl | rfl
    · rw [wv_s ht h (by decide), if_neg (by decide), wv_s ht h (by decide), if_neg (by decide), wv_s ht h (by decide), if_neg (by decide), wv_s ht h (by decide), if_pos (by decide)]
    · rw [wv_s ht h (by decide), if_neg (by decide), wv_s ht h (by decide), if_neg (by decide), wv_s ht h (by decide), if_pos (by decide)]
    · rw [wv_s ht h (by decide), if_neg (by decide), wv_s ht h (by decide), if_pos (by decide)]
    · rw [wv_s ht h (by decide), if_pos (by decide)]
  · have e := Bt_byte (t (p + i)).toNat (by omega) j hj (by omega)
    rw [show (((t (p + i)).toNat : Nat) : Int) = t (p + i) by omega] at e
    rw [e, decide_eq_false h, Bool.and_false]
end TE
/-- the law's text, as numbers; behind it spaces -/
def txN (E : gEn) (q : Nat) : Int := if q < (gTx E).length then ((gTx E).getD q 0).toInt else 32
theorem txN_ok {E : gEn} (h : txOk E) (q : Nat) : 0 ≤ txN E q ∧ txN E q < 128 := by
  unfold txN
  by_cases hq : q < (gTx E).length
  · rw [if_pos hq]
    obtain ⟨x, hx, e⟩ := gtx_at h hq
    rw [e, Int32.toInt_ofNat_of_lt (by omega)]
    omega
  · rw [if_neg hq]
    decide
theorem txN_gi {E : gEn} {q : Nat} (hq : q < (gTx E).length) : (gTx E).getD q 0 = gi (txN E q) := by
  unfold txN
  rw [if_pos hq]
  exact (Int32.ofInt_toInt _).symm
/-- what feeding changes -/
def FT (I I' : gI) : Prop := ∀ a b c d, ¬ (a = 4 ∧ d = 1) → a ≠ 5 → a ≠ 54 → I' a b c d = I a b c d
theorem FT.tr {I I1 I2 : gI} (h : FT I I1) (h2 : FT I1 I2) : FT I I2 := fun a b c d g1 g2 g3 => (h2 a b c d g1 g2 g3).trans (h a b c d g1 g2 g3)
section TF
variable {E : gEn} {Q : gQt} {X : gXt} {I : gI} {J : gJ} {B : gB} {c w : Nat}
theorem z_feed_17 {m r L : Nat} (ht : txOk E) (hL : (gTx E).length = L) (hL4 : L ≤ 400) (hr : 20 * r < L) (k : ∀ I', FT I I' → I' 4 0 0 1 = gi ((20 * (r + 1) : Nat) : Int) → (∀ q, q < 20 * (r + 1) → I' 5 0 0 q &&& gi 255 = gi (txN E q)) → gG E 148 2 [(0, .inr (3, 0, 0)), (1, .inr (2, 6, 0)), (2, .inl (.int (gi ((20 * (r + 1) : Nat) : Int))))] [] I' J B c w Q X) :
    ∀ (d j : Nat) (I1 : gI), j + d = 20 → FT I I1 → I1 4 0 0 1 = gi ((20 * r : Nat) : Int) → (∀ q, q < 20 * r → I1 5 0 0 q &&& gi 255 = gi (txN E q)) → (∀ i, i < 5 → I1 54 m 0 i = wv (txN E) (20 * r + 4 * i) (min 4 (j - 4 * i))) → gG E 148 17 [(0, .inr (3, 0, 0)), (1, .inr (2, 6, 0)), (2, .inl (.int (gi ((20 * r : Nat) : Int)))), (3, .inr (54, m, 0)), (4, .inl (.int (gi (j : Int))))] [] I1 J B c w Q X
  | 0, j, I1, hj, hf, h1, hq, hw => by
    have hj2 : j = 20 := by omega
    subst hj2
    refine s_L_feeds_17 ⟨fun _ => ⟨gvp (a := 0) (by decide) (by decide) (by decide), gvp (a := 1) (by decide) (by decide) (by decide), gvp (a := 2) (by decide) (by decide) (by decide), gvp (a := 3) (by decide) (by decide) (by decide), gvp (a := 4) (by decide) (by decide) (by decide), ?_⟩, fun z => absurd (by decide) z⟩
    rw [hw 0 (by decide), hw 1 (by decide), hw 2 (by decide), hw 3 (by decide), hw 4 (by decide)]
    refine c_append (nb := 20 * r) (W := fun i => wv (txN E) (20 * r + 4 * i) 4) (by omega) h1 (fun _ I2 fa e1 hb => ?_) (fun y => absurd (by omega) y)
    show (gi 0 ≤ gi _ → _) ∧ (¬ gi 0 ≤ gi _ → _)
    rw [gi_le (by omega) (by omega) (by omega) (by omega), gi_add]
    refine ⟨fun _ => ?_, fun z => absurd (by omega) z⟩
    have g := k I2 (hf.tr fun a b c d g1 g2 g3 => fa a b c d g1 (fun y => g2 y.1)) (by rw [e1]; congr 1) (fun q hq2 => ?_)
    · exact g
    · by_cases h : q < 20 * r
      · rw [fa 5 0 0 q (by omega) (by omega)]
        exact hq q h
      · have := hb (q - 20 * r) (by omega)
        rw [show 20 * r + (q - 20 * r) = q by omega] at this
        rw [this]
        unfold bW
        rw [wv_byte (txN_ok ht) (Nat.mod_lt _ (by decide))]
        congr 2
        omega
  | d + 1, j, I1, hj, hf, h1, hq, hw => by
    have hok := txN_ok ht
    have hm : gOkT E 6 := ⟨by decide, fun _ => ht⟩
    have next : ∀ x : Int32, x = gi (txN E (20 * r + j)) → gG E 148 17 [(0, .inr (3, 0, 0)), (1, .inr (2, 6, 0)), (2, .inl (.int (gi ((20 * r : Nat) : Int)))), (3, .inr (54, m, 0)), (4, .inl (.int (gi ((j + 1 : Nat) : Int))))] [] (gUI I1 54 m 0 (j / 4) ((I1 54 m 0 (j / 4) <<< (gi 8 &&& 31)) ||| x)) J B c w Q X := by
      intro x hx
      subst hx
      refine z_feed_17 ht hL hL4 hr k d (j + 1) _ (by omega) (hf.tr fun a b c d g1 g2 g3 => if_neg (fun y => g3 y.1)) ((if_neg (fun y => by omega)).trans h1) (fun q hq2 => ?_) (fun i hi => ?_)
      · rw [gUI_at, if_neg (by omega)]
        exact hq q hq2
      · rw [gUI_at]
        by_cases e : i = j / 4
        · rw [if_pos ⟨rfl, rfl, rfl, e⟩, hw _ (by omega), show min 4 (j + 1 - 4 * i) = min 4 (j - 4 * (j / 4)) + 1 by omega, e]
          show _ = (wv _ _ _ <<< _) ||| gi (txN E (20 * r + 4 * (j / 4) + min 4 (j - 4 * (j / 4))))
          rw [show 20 * r + 4 * (j / 4) + min 4 (j - 4 * (j / 4)) = 20 * r + j by omega]
        · rw [if_neg (fun y => e y.2.2.2), hw i hi]
          congr 1
          omega
    have hd4 : gi (j : Int) / gi 4 = gi ((j / 4 : Nat) : Int) := by
      rw [gi_div (by omega) (by omega) (by decide) (by decide), Int.tdiv_eq_ediv_of_nonneg (by omega)]
      rfl
    refine s_L_feeds_17 ?_
    rw [gi_le (by decide) (by decide) (by omega) (by omega), hd4, gi_add (a := (j : Int)) (b := 1), gi_add (a := ((20 * r : Nat) : Int)) (b := (j : Int)), gi_c (by omega) (by omega), gtn]
    have pv : vp_in (gi ((j / 4 : Nat) : Int)) 5 := gvp (by omega) (by omega) (by decide)
    refine ⟨fun z => by omega, fun _ => ⟨by decide, by decide, pv, ?_⟩⟩
    refine g_slen hm ?_
    rw [gtl_e6.1, hL, gt_nat]
    show (gi _ ≤ gi _ → _) ∧ (¬ gi _ ≤ gi _ → _)
    rw [gi_le (by omega) (by omega) (by omega) (by omega)]
    refine ⟨fun z => ⟨pv, ?_⟩, fun z => ?_⟩
    · have g := next (gi 32) (by
        unfold txN
        rw [if_neg (by omega)])
      exact g
    · rw [show (((20 * r : Nat) : Int) + (j : Int)) = ((20 * r + j : Nat) : Int) by omega, ← gt_nat]
      refine g_schr hm (by rw [gtl_e6.1]; omega) ?_
      rw [gtl_e6.2, txN_gi (by omega)]
      refine ⟨pv, ?_⟩
      exact next _ rfl
theorem z_feed_2 {L : Nat} (ht : txOk E) (hL : (gTx E).length = L) (hL4 : L ≤ 400)
    (k : ∀ r I' B', 20 * r ≤ 400 → L ≤ 20 * r → FT I I' → I' 4 0 0 1 = gi ((20 * r : Nat) : Int) → (∀ q, q < 20 * r → I' 5 0 0 q &&& gi 255 = gi (txN E q)) → (∀ m, m < 400 → B' m = B m) → Q (.inl (.int (gi 1))) I' J B') :
    ∀ (d r : Nat) (I1 : gI) (B1 : gB) (c w : Nat), r + d = 20 → FT I I1 → I1 4 0 0 1 = gi ((20 * r : Nat) : Int) → (∀ q, q < 20 * r → I1 5 0 0 q &&& gi 255 = gi (txN E q)) → (∀ m, m < 400 → B1 m = B m) → (∀ m, 400 + r ≤ m → m < 420 → B1 m = false) → c ≤ r → w ≤ 5 * r → gG E 148 2 [(0, .inr (3, 0, 0)), (1, .inr (2, 6, 0)), (2, .inl (.int (gi ((20 * r : Nat) : Int))))] [] I1 J B1 c w Q X
  | d, r, I1, B1, c, w, hd, hf, h1, hq, hB, hU, hc, hw => by
    have hm : gOkT E 6 := ⟨by decide, fun _ => ht⟩
    refine s_L_feeds_2 (g_slen hm ?_)
    rw [gtl_e6.1, hL, gt_nat]
    show (gi _ ≤ gi _ → _) ∧ (¬ gi _ ≤ gi _ → _)
    rw [gi_le (by omega) (by omega) (by omega) (by omega)]
    refine ⟨fun z => ⟨Or.inr rfl, k r I1 B1 (by omega) (by omega) hf h1 hq hB⟩, fun z => ?_⟩
    cases d with
    | zero => omega
    | succ d =>
      have hg := gall_54 r (by omega)
      refine ⟨rfl, by decide, 400 + r, ⟨by omega, hg, hU _ (Nat.le_refl _) (by omega)⟩, ⟨by omega, by omega⟩, ?_⟩
      refine z_feed_17 (I := I) (m := 400 + r) (r := r) ht hL hL4 (by omega) (fun I2 f2 g1 g2 => ?_) 20 0 (gnaI I1 54 (400 + r)) rfl (hf.tr fun a b c d g1 g2 g3 => if_neg (fun y => g3 y.1)) ((if_neg (fun y => by omega)).trans h1) (fun q hq2 => ?_) (fun i hi => ?_)
      · refine z_feed_2 ht hL hL4 k d (r + 1) I2 (gUB B1 (400 + r)) (c + 1) (w + 5) (by omega) f2 g1 g2 (fun m hm2 => ?_) (fun m h3 h4 => ?_) (by omega) (by omega)
        · rw [show gUB B1 (400 + r) m = B1 m from if_neg (by omega)]
          exact hB m hm2
        · rw [show gUB B1 (400 + r) m = B1 m from if_neg (by omega)]
          exact hU m (by omega) h4
      · rw [show gnaI I1 54 (400 + r) 5 0 0 q = I1 5 0 0 q from if_neg (fun y => by omega)]
        exact hq q hq2
      · rw [show min 4 (0 - 4 * i) = 0 by omega]
        exact if_pos ⟨rfl, rfl⟩
/-- telling the text: what is read is what the text says -/
theorem z_tell {L : Nat} {f : Nat → Int} (ht : txOk E) (hL : (gTx E).length = L) (hL4 : L ≤ 400) (hf : parseF (txN E) L = .inr f) (h1 : I 4 0 0 1 = gi 0) (hB : Bk B) (hU : ∀ m, 400 ≤ m → m < 420 → B m = false) (hn : I 13 0 0 1 = gi 0)
    (k : ∀ I' J' B', Rst (bgF f) I' J' 0 → Clh I' J' B' 0 0 (fun _ => f) → Bk B' → I' 4 0 0 3 = gi 0 → (∀ a c d, 48 ≤ a → a ≤ 52 → I' a 0 c d = I a 0 c d) → (∀ m, m < 400 → B' m = B m) → Q (.inl (.int (gi (bgF f 0)))) I' J' B') : gC E 149 [.inr (3, 0, 0), .inr (2, 6, 0)] I J B Q X := by
  have hm : gOkT E 6 := ⟨by decide, fun _ => ht⟩
  refine e_L_tell ⟨⟨by decide, by decide⟩, e_L_feeds ?_⟩
  refine z_feed_2 (I := I) (B := B) ht hL hL4 (fun r I2 B2 r1 r2 ft e1 hq hb => ?_) 20 0 I B 0 0 rfl (fun _ _ _ _ _ _ _ => rfl) h1 (fun q hq => absurd hq (Nat.not_lt_zero q)) (fun _ _ => rfl) (fun m g1 g2 => hU m (by omega) g2) (by omega) (by omega)
  refine ⟨fun z => absurd z (by decide), fun _ => g_slen hm ?_⟩
  rw [gtl_e6.1, hL, gt_nat]
  refine ⟨⟨by decide, by decide⟩, ?_⟩
  refine c_load (nb := 20 * r) (t := txN E) (by omega) (by omega) (by omega) e1 (fun q hq2 => ⟨by have := txN_ok ht q; omega, hq q hq2⟩) (fun y => absurd (by omega) y) (fun m hm2 _ er pos he => ?_) (fun m hm2 _ g hg I3 J3 fl fj hR e13 _ _ e43 _ => ?_)
  · have : m = L := by omega
    subst this
    rw [hf] at he
    cases he
  · have : m = L := by omega
    subst this
    rw [hf] at hg
    cases hg
    refine k I3 J3 B2 hR ⟨e13, ?_, by decide, by decide, fun j hj => absurd hj (Nat.not_lt_zero j)⟩ (fun q g1 g2 => by rw [hb q (by omega), hb (q + 17) (by omega)]; exact hB q g1 g2) e43 (fun a c d g1 g2 => ?_) hb
    · rw [fl 13 0 0 1 (by omega) (by omega) (by omega) (by omega), ft 13 0 0 1 (by omega) (by omega) (by omega)]
      exact hn
    · rw [fl a 0 c d (by omega) (by omega) (by omega) (by omega), ft a 0 c d (by omega) (by omega) (by omega)]
/-- from the text on: pc 102 -/
theorem z_law_102 {L a u : Nat} {f : Nat → Int} (hgl : gL E ≤ 100000) (ht : txOk E) (hL : (gTx E).length = L) (hL4 : L ≤ 400) (hf : parseF (txN E) L = .inr f) (h1 : I 4 0 0 1 = gi 0) (hB : Bk B) (hU : ∀ m, 100 ≤ m → m < 420 → B m = false) (hn : I 13 0 0 1 = gi 0) (hLb : Lb f I) (h5 : f 0 ≤ 5) (hd : I 48 0 0 1 = gi (a : Int)) (ha : a ≤ 100) (hc : c ≤ 20000) (hw : w ≤ 200000) (k : ∀ I' J' B', Q (.inl (.int (gi 1))) I' J' B') : gG E 313 102 [(1, .inr (48, 0, 0)), (2, .inr (49, 0, 0)), (3, .inr (3, 0, 0))] [.inr (2, 6, 0), .inr (3, 0, 0)] I J B c w Q X := by
  obtain ⟨hvb, h00, h07⟩ := parseF_ok hf
  have e0 : bgF f 0 = f 0 := bgF_ne h07 (Or.inl (by decide))
  have h0 := hvb.1
  rw [e0] at h0
  refine s_L_law_102 ⟨⟨by omega, by omega⟩, ?_⟩
  refine z_tell ht hL hL4 hf h1 hB (fun m g1 g2 => hU m (by omega) g2) hn fun I1 J1 B1 hR hC hBk e43 hq hb => ?_
  have hL1 : Lb (bgF f) I1 := (hLb.to fun a c d g1 g2 => hq a c d (by omega) g2).bg (by omega)
  have hR1 : Ru (bgF f) I1 J1 B1 := ⟨⟨hvb, by omega⟩, hR, ⟨_, _, _, hC⟩, hBk, hL1⟩
  rw [hL1.1]
  refine ⟨fun z => absurd rfl z, fun _ => e_X7_parseError ?_⟩
  rw [e43]
  refine ⟨fun z => absurd rfl z, fun _ => e_X7_errorPosition ?_⟩
  rw [e43]
  refine ⟨fun z => absurd rfl z, fun _ => ?_⟩
  refine ⟨fun z => absurd rfl z, fun _ => ⟨⟨by omega, by omega⟩, ?_⟩⟩
  refine z_like hR1 fun I2 J2 q2 j2 => ?_
  refine ⟨fun _ => ?_, fun z => absurd z (by decide)⟩
  have hd1 : I2 48 0 0 1 = gi (a : Int) := (q2 48 0 0 1 (by unfold KQ; omega)).trans ((hq 48 0 1 (by decide) (by decide)).trans hd)
  refine z_draw hd1 (by omega) (by decide) (by decide) (by decide) hgl fun t t1 t2 => ?_
  have hR2 := (hR1.q q2 j2).dw (x := gi ((a + 1 : Nat) : Int))
  obtain ⟨m, rfl⟩ : ∃ m : Nat, t = m := ⟨t.toNat, by omega⟩
  exact z_law_146 hgl k m (a + 1) 100 (bgF f) _ J2 B1 _ _ (by omega) hR2 (if_pos ⟨rfl, rfl, rfl, rfl⟩) (fun q g1 g2 => (hb q g2).trans (hU q g1 (by omega))) (by omega) (by omega) (by omega) (by omega) (by omega)
/-- no system yet: pc 26 -/
theorem z_law_26 {c0 w0 : Nat} (hc0 : c = c0) (hw0 : w = w0) (hS : Sys none I J) (hn : I 13 0 0 2 = gi 0) (hn1 : I 13 0 0 1 = gi 0) (hc : c ≤ 20000) (hw : w ≤ 200000) (k : ∀ I' J' c w, QF I I' → JQ J J' → c ≤ c0 + 462 → w ≤ w0 + 5472 → gG E 313 94 [(1, .inr (48, 0, 0)), (2, .inr (49, 0, 0)), (3, .inr (3, 0, 0))] [] I' J' B c w Q X) : gG E 313 26 [(1, .inr (48, 0, 0)), (2, .inr (49, 0, 0)), (3, .inr (3, 0, 0))] [] I J B c w Q X := by
  refine s_L_law_26 ⟨⟨by omega, by omega⟩, ?_⟩
  refine z_thr (j := 0) (by decide) (fun Q X k2 => e_L_calls_34 ⟨⟨by decide, by decide⟩, qno (c_rank hS) rfl k2⟩) fun I1 J1 q1 j1 => ?_
  have hS1 := q1.sys j1 hS
  refine ⟨fun z => absurd rfl z, fun _ => ⟨⟨by omega, by omega⟩, ?_⟩⟩
  refine z_thr (j := 0) (by decide) (fun Q X k2 => e_L_calls_1 ⟨⟨by decide, by decide⟩, qno (c_entry (by decide) (by decide) (by decide) (by decide) hS1) rfl k2⟩) fun I2 J2 q2 j2 => ?_
  have hS2 := q2.sys j2 hS1
  have hn12 : I2 13 0 0 1 = gi 0 := (q2 13 0 0 1 (by unfold KQ; omega)).trans ((q1 13 0 0 1 (by unfold KQ; omega)).trans hn1)
  have hn2 : I2 13 0 0 2 = gi 0 := (q2 13 0 0 2 (by unfold KQ; omega)).trans ((q1 13 0 0 2 (by unfold KQ; omega)).trans hn)
  refine ⟨fun z => absurd rfl z, fun _ => ⟨⟨by omega, by omega⟩, ?_⟩⟩
  refine z_thr (j := 0) (by decide) (fun Q X k2 => e_L_calls_30 ⟨⟨by decide, by decide⟩, c_undo (c := 0) (nx := 0) (h := fun _ => fun _ => 0) ⟨hn2, hn12, by decide, by decide, fun j hj => absurd hj (Nat.not_lt_zero j)⟩ (fun y => absurd rfl y) (fun _ => k2 I2 J2 QF.rf JQ.rf)⟩) fun I3 J3 q3 j3 => ?_
  have hS3 := q3.sys j3 hS2
  have hn3 : I3 13 0 0 2 = gi 0 := (q3 13 0 0 2 (by unfold KQ; omega)).trans hn2
  refine ⟨fun z => absurd rfl z, fun _ => e_X7_size ?_⟩
  rw [hS3.1]
  refine ⟨fun z => absurd rfl z, fun _ => e_X7_prime ?_⟩
  rw [hS3.2.1]
  refine ⟨fun z => absurd rfl z, fun _ => e_X7_entries ?_⟩
  rw [hS3.2.2]
  refine ⟨fun z => absurd rfl z, fun _ => e_X7_undoable ?_⟩
  rw [hn3]
  refine ⟨fun _ => ?_, fun z => absurd rfl z⟩
  exact k I3 J3 _ _ (q1.tr (q2.tr q3)) (j1.tr (j2.tr j3)) (by omega) (by omega)
end TF
