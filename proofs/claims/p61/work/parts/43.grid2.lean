section ZC
variable {E : gEn} {Q : gQt} {X : gXt} {I : gI} {J : gJ} {B : gB} {c w : Nat} {n R C : Nat} {p : Int} {M : gMx}
def pvI : Option Nat → Int
  | some i => (i : Int)
  | none => -1
theorem z_piv_l {col lim : Nat} (hR : R ≤ 7) (hC : C ≤ 14) (hl : lim ≤ R) (hc : col < C) (hp2 : p ≤ 31) (hG : Gr I n R C p M) (hM : Rg p M) : ∀ (d i : Nat), i + d = lim → Q (.inl (.int (gi (pvI (pvF M col d i))))) I J B → gG E 12 3 [(0, .inr (17, n, 0)), (2, .inl (.int (gi lim))), (3, .inl (.int (gi col))), (4, .inl (.int (gi i)))] [] I J B c w Q X
  | 0, i, hd, h => by
    refine s_X1_pivotRow_3 ?_
    rw [gi_le (by omega) (by omega) (by omega) (by omega)]
    exact ⟨fun _ => h, fun h0 => by omega⟩
  | d + 1, i, hd, h => by
    refine s_X1_pivotRow_3 ?_
    have hm := hM i col
    rw [gi_le (by omega) (by omega) (by omega) (by omega), gi_c (by omega) (by omega), gtn, gi_c (by omega) (by omega), gtn, hG.2.2.2 i col (by omega) hc, gi_eq (by omega) (by omega) (by decide) (by decide), gi_add]
    unfold pvF at h
    refine ⟨fun h0 => by omega, fun _ => ⟨gvp (by omega) (by omega) (by decide), gvp (by omega) (by omega) (by decide), fun h0 => ?_, fun h0 => ?_⟩⟩
    · rw [if_pos h0] at h
      exact z_piv_l hR hC hl hc hp2 hG hM d (i + 1) (by omega) h
    · rw [if_neg h0] at h
      exact h
theorem z_piv {a col lim : Nat} (hR : R ≤ 7) (hC : C ≤ 14) (hl : lim ≤ R) (hc : col < C) (ha : a ≤ lim) (hp2 : p ≤ 31) (hG : Gr I n R C p M) (hM : Rg p M) (h : Q (.inl (.int (gi (pvI (pvF M col (lim - a) a))))) I J B) : gC E 12 [.inr (17, n, 0), .inl (.int (gi a)), .inl (.int (gi lim)), .inl (.int (gi col))] I J B Q X :=
  e_X1_pivotRow (z_piv_l hR hC hl hc hp2 hG hM (lim - a) a (by omega) h)
theorem pvF_s {M : gMx} {col : Nat} : ∀ {d i k : Nat}, pvF M col d i = some k → i ≤ k ∧ k < i + d ∧ M k col ≠ 0
  | 0, _, _, h => by cases h
  | d + 1, i, k, h => by
    unfold pvF at h
    split at h
    · obtain ⟨h1, h2, h3⟩ := pvF_s h
      exact ⟨by omega, by omega, h3⟩
    · rename_i h0
      cases h
      exact ⟨Nat.le_refl _, by omega, h0⟩
theorem gi_inj {a b : Nat} (h1 : a < 1000) (h2 : b < 1000) : (gi a = gi b) = (a = b) := by
  rw [gi_eq (by omega) (by omega) (by omega) (by omega)]
  exact propext ⟨fun h => by omega, fun h => by rw [h]⟩
theorem z_lead_l {i r col : Nat} {ld : Int32} (hR : R ≤ 7) (hC : C ≤ 14) (hi : i < R) (hr : r < R) (hc : col < C) (hp : 1 ≤ p) (hp2 : p ≤ 31) (hG : Gr I n R C p M) (hM : Rg p M)
    (h : ∀ I', Fc n I I' → Gr I' n R C p (ldF p M i r col) → Q (.inl (.int (if i = r then ld else -ld))) I' J B) :
    ∀ (d j : Nat) (I' : gI), j + d = C → Fc n I I' → (∀ a b, a < R → b < C → I' 19 n a b = gi (if b < j then ldF p M i r col a b else M a b)) →
      gG E 13 21 [(0, .inr (17, n, 0)), (1, .inl (.int (gi i))), (2, .inl (.int (gi r))), (4, .inl (.int ld)), (5, .inl (.int (gi (inv p (M i col))))), (6, .inl (.int (gi j)))] [] I' J B c w Q X
  | 0, j, I', hd, hF, hI => by
    refine s_X1_leadRow_21 ?_
    rw [show I' 17 n 0 2 = gi C from (hF 17 n 0 2 (fun h => absurd h.1 (by decide))).trans hG.2.1, gi_le (by omega) (by omega) (by omega) (by omega), gi_inj (by omega) (by omega)]
    have hG2 : Gr I' n R C p (ldF p M i r col) := hG.fc hF fun a b ha hb => by
      rw [hI a b ha hb, if_pos (by omega)]
    have h2 := h I' hF hG2
    refine ⟨fun _ => ⟨fun h0 => ?_, fun h0 => ?_⟩, fun h0 => by omega⟩
    · rw [if_neg h0] at h2
      exact h2
    · rw [if_pos h0] at h2
      exact h2
  | d + 1, j, I', hd, hF, hI => by
    refine s_X1_leadRow_21 ?_
    have hb := inv_b (p := p) (v := M i col) hp
    have hm := hM i j
    have hmu := mulb (x := inv p (M i col)) (y := M i j) hb.1 (by omega) hm.1 (by omega)
    rw [show I' 17 n 0 2 = gi C from (hF 17 n 0 2 (fun h => absurd h.1 (by decide))).trans hG.2.1, gi_le (by omega) (by omega) (by omega) (by omega), gi_inj (by omega) (by omega), gi_c (by omega) (by omega), gtn, gi_c (by omega) (by omega), gtn, gi_c (by omega) (by omega), gtn,
      show I' 17 n 0 3 = gi p from (hF 17 n 0 3 (fun h => absurd h.1 (by decide))).trans hG.2.2.1, hI i j hi (by omega), hI r j hr (by omega), if_neg (by omega), if_neg (by omega), gi_mul, gi_add]
    have e1 : ldF p M i r col r j = (inv p (M i col) * M i j) % p := if_pos rfl
    refine ⟨fun h0 => by omega, fun _ => ⟨gvp (by omega) (by omega) (by decide), gvp (by omega) (by omega) (by decide), gvp (by omega) (by omega) (by decide), gvp (by omega) (by omega) (by decide), gvp (by omega) (by omega) (by decide), z_red (by omega) (by omega) hp (by omega) ⟨gvp (by omega) (by omega) (by decide), fun h0 => ?_, fun h0 => ⟨gvp (by omega) (by omega) (by decide), gvp (by omega) (by omega) (by decide), ?_⟩⟩⟩⟩
    · refine z_lead_l hR hC hi hr hc hp hp2 hG hM h d (j + 1) _ (by omega) hF.up fun a b ha hb2 => ?_
      rw [gU19]
      by_cases h1 : a = r ∧ b = j
      · rw [if_pos h1, h1.1, h1.2, if_pos (by omega), e1]
      · rw [if_neg h1, hI a b ha hb2]
        by_cases h2 : b < j
        · rw [if_pos h2, if_pos (by omega)]
        · rw [if_neg h2]
          by_cases h3 : b = j
          · have h4 : a ≠ r := fun e => h1 ⟨e, h3⟩
            rw [if_pos (by omega)]
            unfold ldF
            rw [if_neg h4, if_neg (by rw [h0]; exact h4)]
          · rw [if_neg (by omega)]
    · refine z_lead_l hR hC hi hr hc hp hp2 hG hM h d (j + 1) _ (by omega) hF.up.up fun a b ha hb2 => ?_
      rw [gU19, gU19]
      by_cases h1 : a = i ∧ b = j
      · rw [if_pos h1, h1.1, h1.2, if_pos (by omega)]
        unfold ldF
        rw [if_neg h0, if_pos rfl]
      · rw [if_neg h1]
        by_cases h5 : a = r ∧ b = j
        · rw [if_pos h5, h5.1, h5.2, if_pos (by omega), e1]
        · rw [if_neg h5, hI a b ha hb2]
          by_cases h2 : b < j
          · rw [if_pos h2, if_pos (by omega)]
          · rw [if_neg h2]
            by_cases h3 : b = j
            · have h4 : a ≠ r := fun e => h5 ⟨e, h3⟩
              have h6 : a ≠ i := fun e => h1 ⟨e, h3⟩
              rw [if_pos (by omega)]
              unfold ldF
              rw [if_neg h4, if_neg h6]
            · rw [if_neg (by omega)]
theorem z_lead {i r col : Nat} (hR : R ≤ 7) (hC : C ≤ 14) (hi : i < R) (hr : r < R) (hc : col < C) (hp : 1 ≤ p) (hp2 : p ≤ 31) (hG : Gr I n R C p M) (hM : Rg p M)
    (h : ∀ I', Fc n I I' → Gr I' n R C p (ldF p M i r col) → Q (.inl (.int (gi (if i = r then M i col else - M i col)))) I' J B) :
    gC E 13 [.inr (17, n, 0), .inl (.int (gi i)), .inl (.int (gi r)), .inl (.int (gi col))] I J B Q X := by
  refine e_X1_leadRow ?_
  have hm := hM i col
  rw [gi_c (by omega) (by omega), gtn, gi_c (by omega) (by omega), gtn, hG.2.2.2 i col hi hc]
  refine ⟨gvp (by omega) (by omega) (by decide), gvp (by omega) (by omega) (by decide), z_inv hG.2.2.1 hp hp2 hm.1 hm.2 ?_⟩
  refine z_lead_l (ld := gi (M i col)) hR hC hi hr hc hp hp2 hG hM (fun I' h1 h2 => ?_) C 0 I (by omega) Fc.rf (fun a b ha hb => ?_)
  · have h3 := h I' h1 h2
    split at h3
    · rename_i h0
      rw [if_pos h0]
      exact h3
    · rename_i h0
      rw [if_neg h0, gi_neg]
      exact h3
  · rw [if_neg (by omega)]
    exact hG.2.2.2 a b ha hb
theorem clF_0 {p : Int} {M : gMx} {r col a b : Nat} (hM : Rg p M) (h : a = r ∨ M a col = 0) : clF p M r col a b = M a b := by
  unfold clF
  rcases h with h | h
  · rw [if_pos h]
  · split
    · rfl
    · rw [h, Int.zero_mul, Int.sub_zero, Int.emod_eq_of_lt (hM a b).1 (hM a b).2]
theorem z_cl_i {r col : Nat} (hR : R ≤ 7) (hC : C ≤ 14) (hr : r < R) (hc : col < C) (hp : 1 ≤ p) (hp2 : p ≤ 31) (hG : Gr I n R C p M) (hM : Rg p M)
    (h : ∀ I', Fc n I I' → Gr I' n R C p (clF p M r col) → Q (.inl .null) I' J B) (D i : Nat) (hD : i + D + 1 = R)
    (nx : ∀ (i : Nat) (I' : gI), i + D = R → Fc n I I' → (∀ a b, a < R → b < C → I' 19 n a b = gi (if a < i then clF p M r col a b else M a b)) →
      gG E 14 2 [(0, .inr (17, n, 0)), (1, .inl (.int (gi r))), (2, .inl (.int (gi col))), (3, .inl (.int (gi i)))] [] I' J B c w Q X) :
    ∀ (d j : Nat) (I' : gI), j + d = C → Fc n I I' → (∀ a b, a < R → b < C → I' 19 n a b = gi (if a < i ∨ (a = i ∧ b < j) then clF p M r col a b else M a b)) →
      gG E 14 23 [(0, .inr (17, n, 0)), (1, .inl (.int (gi r))), (2, .inl (.int (gi col))), (3, .inl (.int (gi i))), (4, .inl (.int (gi (M i col)))), (5, .inl (.int (gi j)))] [] I' J B c w Q X
  | 0, j, I', hd, hF, hI => by
    refine s_X1_clearColumn_23 ?_
    rw [show I' 17 n 0 2 = gi C from (hF 17 n 0 2 (fun h => absurd h.1 (by decide))).trans hG.2.1, gi_le (by omega) (by omega) (by omega) (by omega), gi_add]
    refine ⟨fun _ => nx (i + 1) I' (by omega) hF fun a b ha hb => ?_, fun h0 => by omega⟩
    rw [hI a b ha hb]
    congr 1
    by_cases h1 : a < i ∨ (a = i ∧ b < j)
    · rw [if_pos h1, if_pos (by omega)]
    · rw [if_neg h1, if_neg (by omega)]
  | d + 1, j, I', hd, hF, hI => by
    refine s_X1_clearColumn_23 ?_
    have hmi := hM i col
    have hmr := hM r j
    have hmj := hM i j
    have hmu := mulb (x := M i col) (y := M r j) hmi.1 (by omega) hmr.1 (by omega)
    rw [show I' 17 n 0 2 = gi C from (hF 17 n 0 2 (fun h => absurd h.1 (by decide))).trans hG.2.1, gi_le (by omega) (by omega) (by omega) (by omega), gi_inj (by omega) (by omega), gi_eq (by omega) (by omega) (by decide) (by decide), gi_c (by omega) (by omega), gtn, gi_c (by omega) (by omega), gtn, gi_c (by omega) (by omega), gtn,
      show I' 17 n 0 3 = gi p from (hF 17 n 0 3 (fun h => absurd h.1 (by decide))).trans hG.2.2.1, hI i j (by omega) (by omega), hI r j hr (by omega), if_neg (by omega), gi_add, gi_add]
    have hout : (i = r ∨ M i col = 0) → gG E 14 2 [(0, .inr (17, n, 0)), (1, .inl (.int (gi r))), (2, .inl (.int (gi col))), (3, .inl (.int (gi ((i + 1 : Nat) : Int))))] [] I' J B c w Q X := fun h0 =>
      nx (i + 1) I' (by omega) hF fun a b ha hb => by
        rw [hI a b ha hb]
        by_cases h1 : a < i
        · rw [if_pos (Or.inl h1), if_pos (by omega)]
        · by_cases h2 : a = i
          · subst h2
            rw [if_pos (show a < a + 1 by omega), clF_0 hM h0]
            split <;> rfl
          · rw [if_neg (by omega), if_neg (by omega)]
    refine ⟨fun h0 => by omega, fun _ => ⟨fun h0 => hout (Or.inl h0), fun h0 => ⟨fun h1 => hout (Or.inr h1), fun h1 => ⟨gvp (by omega) (by omega) (by decide), gvp (by omega) (by omega) (by decide), gvp (by omega) (by omega) (by decide), gvp (by omega) (by omega) (by decide), gvp (by omega) (by omega) (by decide), ?_⟩⟩⟩⟩
    have er : (if r < i ∨ r = i ∧ j < j then clF p M r col r j else M r j) = M r j := by
      split
      · exact clF_0 hM (Or.inl rfl)
      · rfl
    rw [er, gi_mul, gi_sub]
    refine z_red (by omega) (by omega) hp (by omega) ⟨gvp (by omega) (by omega) (by decide), ?_⟩
    refine z_cl_i hR hC hr hc hp hp2 hG hM h D i hD nx d (j + 1) _ (by omega) hF.up fun a b ha hb2 => ?_
    rw [gU19]
    by_cases h5 : a = i ∧ b = j
    · rw [if_pos h5, h5.1, h5.2, if_pos (by omega)]
      unfold clF
      rw [if_neg h0]
    · rw [if_neg h5, hI a b ha hb2]
      congr 1
      by_cases h6 : a < i ∨ (a = i ∧ b < j)
      · rw [if_pos h6, if_pos (by omega)]
      · rw [if_neg h6, if_neg (by omega)]
theorem z_cl_l {r col : Nat} (hR : R ≤ 7) (hC : C ≤ 14) (hr : r < R) (hc : col < C) (hp : 1 ≤ p) (hp2 : p ≤ 31) (hG : Gr I n R C p M) (hM : Rg p M)
    (h : ∀ I', Fc n I I' → Gr I' n R C p (clF p M r col) → Q (.inl .null) I' J B) :
    ∀ (D i : Nat) (I' : gI), i + D = R → Fc n I I' → (∀ a b, a < R → b < C → I' 19 n a b = gi (if a < i then clF p M r col a b else M a b)) →
      gG E 14 2 [(0, .inr (17, n, 0)), (1, .inl (.int (gi r))), (2, .inl (.int (gi col))), (3, .inl (.int (gi i)))] [] I' J B c w Q X
  | 0, i, I', hd, hF, hI => by
    refine s_X1_clearColumn_2 ?_
    rw [show I' 17 n 0 1 = gi R from (hF 17 n 0 1 (fun h => absurd h.1 (by decide))).trans hG.1, gi_le (by omega) (by omega) (by omega) (by omega)]
    refine ⟨fun _ => h I' hF (hG.fc hF fun a b ha hb => ?_), fun h0 => by omega⟩
    rw [hI a b ha hb, if_pos (by omega)]
  | D + 1, i, I', hd, hF, hI => by
    refine s_X1_clearColumn_2 ?_
    rw [show I' 17 n 0 1 = gi R from (hF 17 n 0 1 (fun h => absurd h.1 (by decide))).trans hG.1, gi_le (by omega) (by omega) (by omega) (by omega), gi_c (by omega) (by omega), gtn, gi_c (by omega) (by omega), gtn, hI i col (by omega) hc, if_neg (by omega)]
    refine ⟨fun h0 => by omega, fun _ => ⟨gvp (by omega) (by omega) (by decide), gvp (by omega) (by omega) (by decide), ?_⟩⟩
    refine z_cl_i hR hC hr hc hp hp2 hG hM h D i (by omega) (z_cl_l hR hC hr hc hp hp2 hG hM h D) C 0 I' (by omega) hF fun a b ha hb => ?_
    rw [hI a b ha hb]
    congr 1
    by_cases h1 : a < i
    · rw [if_pos h1, if_pos (Or.inl h1)]
    · rw [if_neg h1, if_neg (by omega)]
theorem z_cl {r col : Nat} (hR : R ≤ 7) (hC : C ≤ 14) (hr : r < R) (hc : col < C) (hp : 1 ≤ p) (hp2 : p ≤ 31) (hG : Gr I n R C p M) (hM : Rg p M)
    (h : ∀ I', Fc n I I' → Gr I' n R C p (clF p M r col) → Q (.inl .null) I' J B) : gC E 14 [.inr (17, n, 0), .inl (.int (gi r)), .inl (.int (gi col))] I J B Q X :=
  e_X1_clearColumn (z_cl_l hR hC hr hc hp hp2 hG hM h R 0 I (by omega) Fc.rf fun a b ha hb => by
    rw [if_neg (by omega)]
    exact hG.2.2.2 a b ha hb)
end ZC
