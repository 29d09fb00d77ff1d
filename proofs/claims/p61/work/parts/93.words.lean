/-! ===== words ===== -/
def wdL : List (List Int) := [[116, 111, 101, 112, 108, 105, 116, 122], [112, 114, 105, 109, 101], [100, 105, 97, 103, 111, 110, 97, 108], [98, 97, 110, 100], [115, 105, 100, 101], [112, 114, 111, 98, 101]]
def wd (k : Nat) : List Int := wdL.getD k []
def wdM (t : Nat → Int) : Nat → List Int → Bool
  | _, [] => true
  | p, a :: l => decide (t p = a) && wdM t (p + 1) l
def isWF (t : Nat → Int) (k : Tok) (m : Nat) : Bool := decide (k.2.2.1 = 1) && (decide (k.2.1 = k.1 + (wd m).length) && wdM t k.1 (wd m))
def Tkk (n : Nat) (k : Tok) : Prop := k.1 ≤ k.2.1 ∧ k.2.1 ≤ n ∧ k.2.2.1 ≤ 5 ∧ -9999 ≤ k.2.2.2 ∧ k.2.2.2 ≤ 9999
section YW
variable {E : gEn} {Q : gQt} {X : gXt} {I : gI} {J : gJ} {B : gB} {c w n e p st m : Nat} {t : Nat → Int} {lo hi x : Int} {k : Tok}
theorem decF_b : ∀ i, (∀ q, q < i → 48 ≤ t (st + q) ∧ t (st + q) ≤ 57) → 0 ≤ decF t st i ∧ decF t st i + 1 ≤ (10 : Int) ^ i := by
  intro i
  induction i with
  | zero => intro _; exact ⟨Int.le_refl _, Int.le_refl _⟩
  | succ i ih =>
    intro h
    obtain ⟨g1, g2⟩ := ih (fun q hq => h q (by omega))
    have g3 := h i (by omega)
    rw [Int.pow_succ]
    unfold decF
    omega
theorem tokS_ok (h2 : st ≤ n) : Tkk n (tokS t n st) ∧ st ≤ (tokS t n st).2.1 ∧ ((tokS t n st).2.2.1 ≠ 0 → st < (tokS t n st).2.1) := by
  obtain ⟨b1, b2⟩ := rn_b (t := t) (lo := 97) (hi := 122) h2
  obtain ⟨d1, d2⟩ := rn_b (t := t) (lo := 48) (hi := 57) h2
  have d3 := (rn_ok (t := t) (lo := 48) (hi := 57) (n := n) _ st rfl h2).2.2
  unfold tokS
  split
  · refine ⟨⟨b1, b2, ?_, by show (-9999 : Int) ≤ 0; decide, by show (0 : Int) ≤ 9999; decide⟩, b1, fun _ => ‹_›⟩
    show (if _ then 1 else 5) ≤ 5
    split <;> decide
  · split
    · have g := decF_b (t := t) (st := st) (min 4 (rn t n 48 57 st - st)) (fun q hq => d3 (st + q) (by omega) (by omega))
      have g2 : (10 : Int) ^ (min 4 (rn t n 48 57 st - st)) ≤ 10000 := by
        have : min 4 (rn t n 48 57 st - st) = 0 ∨ min 4 (rn t n 48 57 st - st) = 1 ∨ min 4 (rn t n 48 57 st - st) = 2 ∨ min 4 (rn t n 48 57 st - st) = 3 ∨ min 4 (rn t n 48 57 st - st) = 4 := by omega
        rcases this with h | h | h | h | h <;> rw [h] <;> decide
      refine ⟨⟨d1, d2, ?_, ?_, ?_⟩, d1, fun _ => ‹_›⟩
      · show (if _ then 2 else 5) ≤ 5
        split <;> decide
      · show -9999 ≤ decF _ _ _
        omega
      · show decF _ _ _ ≤ 9999
        omega
    · split
      · refine ⟨⟨Nat.le_succ _, by show st + 1 ≤ n; omega, ?_, by show (-9999 : Int) ≤ 0; decide, by show (0 : Int) ≤ 9999; decide⟩, Nat.le_succ _, fun _ => Nat.lt_succ_self _⟩
        show (if _ then 3 else if _ then 4 else 5) ≤ 5
        split
        · decide
        · split <;> decide
      · exact ⟨⟨Nat.le_refl _, h2, Nat.zero_le _, by show (-9999 : Int) ≤ 0; decide, by show (0 : Int) ≤ 9999; decide⟩, Nat.le_refl _, fun z => absurd rfl z⟩
theorem tokF_ok (h : e ≤ n) : Tkk n (tokF t n e) := (tokS_ok (rn_b h).2).1
theorem tokF_go (h : e ≤ n) : e ≤ (tokF t n e).2.1 ∧ ((tokF t n e).2.2.1 ≠ 0 → e < (tokF t n e).2.1) := by
  have g := rn_b (t := t) (lo := 32) (hi := 32) h
  have g2 := tokS_ok (t := t) g.2
  refine ⟨?_, fun z => ?_⟩
  · exact Nat.le_trans g.1 g2.2.1
  · exact Nat.lt_of_le_of_lt g.1 (g2.2.2 z)
theorem wd_in : ∀ m, m < 6 → (wd m).length = gTl.getD m 0 ∧ (wd m).length ≤ 8 ∧ ∀ i, i < (wd m).length → gi ((wd m).getD i 0) = (gTb.getD m []).getD i 0 ∧ 0 ≤ (wd m).getD i 0 ∧ (wd m).getD i 0 < 256 := by decide +kernel
theorem z_okT (hm : m < 6) : gOkT E m := ⟨by omega, fun h => by omega⟩
theorem z_slen (hm : m < 6) (k : Q (.inl (.int (gi ((wd m).length : Nat)))) I J B) : gC E 311 [.inr (2, m, 0)] I J B Q X := by
  rw [← gt_nat, (wd_in m hm).1, ← (gtl_6 (E := E) hm).1] at k
  exact g_slen (z_okT hm) k
theorem z_schr {i : Nat} (hm : m < 6) (hi : i < (wd m).length) (k : Q (.inl (.int (gi ((wd m).getD i 0)))) I J B) : gC E 312 [.inr (2, m, 0), .inl (.int (gi i))] I J B Q X := by
  rw [((wd_in m hm).2.2 i hi).1, ← (gtl_6 (E := E) hm).2] at k
  rw [← gt_nat]
  exact g_schr (z_okT hm) (by rw [(gtl_6 hm).1, ← (wd_in m hm).1]; exact hi) k
theorem drop_get {l : List Int} {i : Nat} (h : i < l.length) : l.drop i = l.getD i 0 :: l.drop (i + 1) := by
  rw [List.drop_eq_getElem_cons h, List.getD_eq_getElem?_getD, List.getElem?_eq_getElem h]; rfl
theorem wdM_s {i : Nat} (h : i < (wd m).length) : wdM t (st + i) ((wd m).drop i) = (decide (t (st + i) = (wd m).getD i 0) && wdM t (st + (i + 1)) ((wd m).drop (i + 1))) := by
  rw [drop_get h]
  rfl
theorem wdM_e {i : Nat} (h : (wd m).length ≤ i) : wdM t p ((wd m).drop i) = true := by
  rw [List.drop_eq_nil_iff.mpr h]
  rfl
theorem z_isWL (hb : Tb t n) (hT : Ti t n I) (hm : m < 6) (h4 : I 4 0 0 4 = gi st) (hen : st + (wd m).length ≤ n) (k1 : wdM t st (wd m) = true → Q (.inl (.int (gi 1))) I J B) (k0 : wdM t st (wd m) = false → Q (.inl (.int (gi 0))) I J B) : ∀ (j i : Nat), (wd m).length - i = j → i ≤ (wd m).length → wdM t st (wd m) = wdM t (st + i) ((wd m).drop i) → gG E 29 28 [(0, .inr (4, 0, 0)), (1, .inr (2, m, 0)), (2, .inl (.int (gi i)))] [] I J B c w Q X := by
  have h0 := hb.1
  have h8 := (wd_in m hm).2.1
  intro j
  induction j with
  | zero =>
    intro i g1 g2 e
    rw [wdM_e (by omega)] at e
    refine s_X3_isWord_28 (z_slen hm (And.intro (fun z => ⟨Or.inr rfl, k1 e⟩) (fun z => ?_)))
    rw [gi_le (by omega) (by omega) (by omega) (by omega)] at z
    omega
  | succ j ih =>
    intro i g1 g2 e
    have hi : i < (wd m).length := by omega
    rw [wdM_s hi] at e
    have hc := ((wd_in m hm).2.2 i hi).2
    have hp := gb hb (show st + i < n by omega)
    refine s_X3_isWord_28 (z_slen hm (And.intro (fun z => ?_) (fun z => ?_)))
    · rw [gi_le (by omega) (by omega) (by omega) (by omega)] at z
      omega
    · rw [h4, show gi (st : Int) + gi (i : Int) = gi ((st + i : Nat) : Int) from gi_add _ _]
      refine z_byteAt hb hT (by omega) (z_schr hm hi (And.intro (fun z2 => ?_) (fun z2 => ⟨Or.inl rfl, k0 ?_⟩)))
      · rw [gi_eq hp.1 hp.2 (by omega) (by omega)] at z2
        rw [decide_eq_true z2, Bool.true_and] at e
        rw [show gi (i : Int) + gi 1 = gi ((i + 1 : Nat) : Int) from gi_add _ _]
        exact ih (i + 1) (by omega) (by omega) e
      · rw [gi_eq hp.1 hp.2 (by omega) (by omega)] at z2
        rw [decide_eq_false z2, Bool.false_and] at e
        exact e
theorem gi_k {a b : Nat} (ha : a < 100000) (hb : b < 100000) : (gi (a : Int) = gi (b : Int)) = (a = b) := by
  rw [gi_eq (by omega) (by omega) (by omega) (by omega)]
  exact propext ⟨fun h => by omega, fun h => by omega⟩
theorem z_isW (hb : Tb t n) (hT : Ti t n I) (hm : m < 6) (hk : Tkk n k) (hK : Tk k I) (k1 : isWF t k m = true → Q (.inl (.int (gi 1))) I J B) (k0 : isWF t k m = false → Q (.inl (.int (gi 0))) I J B) : gC E 29 [.inr (4, 0, 0), .inr (2, m, 0)] I J B Q X := by
  have h0 := hb.1
  have h8 := (wd_in m hm).2.1
  obtain ⟨g1, g2, g3, g4, g5⟩ := hk
  obtain ⟨q1, q2, q3, q4⟩ := hK
  unfold isWF at k1 k0
  refine e_X3_isWord ⟨fun z => ⟨Or.inl rfl, k0 ?_⟩, fun z => z_slen hm (And.intro (fun z2 => ?_) (fun z2 => ⟨Or.inl rfl, k0 ?_⟩))⟩
  · rw [q3] at z
    rw [decide_eq_false (fun h => z (by rw [h]; rfl)), Bool.false_and]
  · rw [q3, show (gi 1 : Int32) = gi ((1 : Nat) : Int) from rfl, gi_k (by omega) (by omega)] at z
    rw [q1, q2, gi_sub, gi_eq (by omega) (by omega) (by omega) (by omega)] at z2
    rw [decide_eq_true z, Bool.true_and, decide_eq_true (show k.2.1 = k.1 + (wd m).length by omega), Bool.true_and] at k1 k0
    exact z_isWL hb hT hm q1 (by omega) k1 k0 _ 0 rfl (Nat.zero_le _) rfl
  · rw [q1, q2, gi_sub, gi_eq (by omega) (by omega) (by omega) (by omega)] at z2
    rw [decide_eq_false (show ¬ k.2.1 = k.1 + (wd m).length by omega), Bool.false_and, Bool.and_false]
end YW
