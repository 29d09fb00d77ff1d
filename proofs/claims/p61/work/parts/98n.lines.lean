/-! ===== the lines of the law's text ===== -/
def dLn (k v : Int) (l : List Int) : List Int := 59 :: (wd 2 ++ 32 :: (sgL k ++ 32 :: (sgL v ++ l)))
def pLn (m : Nat) (i : Nat) (v : Int) (l : List Int) : List Int := 59 :: (wd m ++ 32 :: (48 + (i : Int)) :: 32 :: (sgL v ++ l))
def dTx (dv : Int → Int) : Nat → Int → List Int → List Int
  | 0, _, l => l
  | d + 1, k, l => if dv k = 0 then dTx dv d (k + 1) l else dLn k (dv k) (dTx dv d (k + 1) l)
def pTx (sv pv : Nat → Int) : Nat → Nat → List Int
  | 0, _ => []
  | d + 1, i => pLn 4 i (sv i) (pLn 5 i (pv i) (pTx sv pv d (i + 1)))
def nmL (p : Int) (l : List Int) : List Int := if p < 10 then (48 + p) :: l else (48 + p / 10) :: (48 + p % 10) :: l
def labTx (N p : Int) (dv : Int → Int) (sv pv : Nat → Int) : List Int := wd 0 ++ 32 :: (48 + N) :: 32 :: (wd 1 ++ 32 :: nmL p (dTx dv (2 * N - 1).toNat (1 - N) (pTx sv pv N.toNat 0)))
theorem pTx_sep {sv pv : Nat → Int} : ∀ {d i : Nat}, Sep (pTx sv pv d i)
  | 0, _ => Or.inl rfl
  | _ + 1, _ => Or.inr ⟨_, rfl⟩
theorem dTx_sep {dv : Int → Int} {l : List Int} (hl : Sep l) : ∀ {d : Nat} {k : Int}, Sep (dTx dv d k l)
  | 0, _ => hl
  | d + 1, k => by
    unfold dTx
    split
    · exact dTx_sep hl
    · exact Or.inr ⟨_, rfl⟩
section TU
variable {t : Nat → Int} {n q e : Nat} {l : List Int} {f : Nat → Int} {tD : Nat → Bool} {b : Nat} {k v : Int}
theorem sp_eq (h : Tx t n q (32 :: l)) (hn : No 32 32 l) : tokF t n q = tokF t n (q + 1) ∧ Tx t n (q + 1) l := by
  obtain ⟨g1, g2⟩ := tok_sp h hn
  exact ⟨g1.trans (tok_ns g2 hn).symm, g2⟩
theorem sem_t (h : Tx t n q (59 :: l)) : tokF t n q = (q, q + 1, 4, 0) ∧ Tx t n (q + 1) l := by
  obtain ⟨g1, g2⟩ := toS_semi h
  exact ⟨(tok_ns h (by intro a l' e; cases e; omega)).trans g1, g2⟩
theorem loop_line {j : Nat} {s : PS} (h : Tx t n e (59 :: l)) (hl : lineF t n (tokF t n (e + 1), f, tD, b) = .inr s) : loopP t n (j + 1) (tokF t n e, f, tD, b) = loopP t n j s := by
  obtain ⟨g1, g2⟩ := sem_t h
  have en : nx t n (tokF t n e) = tokF t n (e + 1) := by
    unfold nx
    rw [g1]
  show (if (tokF t n e).2.2.1 = 4 then (match lineF t n (nx t n (tokF t n e), f, tD, b) with
      | .inl e => (.inl e : PF)
      | .inr s' => loopP t n j s') else (_ : PF)) = _
  rw [if_pos (by rw [g1]), en, hl]
theorem loop_end {j : Nat} (h : Tx t n e []) : loopP t n (j + 1) (tokF t n e, f, tD, b) = .inr f := by
  have g := (tok_ns h (by intro a l' e; cases e)).trans (toS_end h)
  show (if (tokF t n e).2.2.1 = 4 then (_ : PF) else if (tokF t n e).2.2.1 = 0 then (.inr f : PF) else (_ : PF)) = _
  rw [if_neg (by rw [g]; exact (show ¬ (0 : Nat) = 4 by decide)), if_pos (by rw [g])]
theorem dia_line {j : Nat} (h : Tx t n e (dLn k v l)) (hl : Sep l) (hk1 : 1 - f 0 ≤ k) (hk2 : k ≤ f 0 - 1) (h7 : f 0 ≤ 7) (hv1 : -9 ≤ v) (hv2 : v ≤ 9) (hD : tD (k + 6).toNat = false) : ∃ e', loopP t n (j + 1) (tokF t n e, f, tD, b) = loopP t n j (tokF t n e', fillF f (k + 6).toNat 1 v, fillB tD (k + 6).toNat 1, b) ∧ Tx t n e' l := by
  obtain ⟨-, h1⟩ := sem_t h
  obtain ⟨w1, w2, h2⟩ := word_t (m := 2) (by decide) h1 (no_sp (Or.inr (by decide)))
  have h3 := h2
  obtain ⟨k1, e1, e2, h4⟩ := num_s (lo := 1 - f 0) (hi := f 0 - 1) h3 (by omega) (by omega) (no_sp (Or.inr (by decide))) hk1 hk2 fun k1 q => rngV t n f tD b k1 (q + 6).toNat 1
  obtain ⟨k2, e3, e4, h5⟩ := num_s (lo := -50) (hi := 50) h4 hv1 hv2 (hl.no (Or.inl (by decide))) (by omega) (by omega) fun k2 v => (.inr (nx t n k2, fillF f (k + 6).toNat 1 v, fillB tD (k + 6).toNat 1, b) : PR)
  have hx : nx t n (tokF t n (e + 1)) = tokF t n (e + 1 + (wd 2).length) := by
    unfold nx
    rw [w1]
  have hx1 : nx t n k1 = tokF t n (e + 1 + (wd 2).length + 1 + (sgL k).length) := by
    unfold nx
    rw [e2]
  refine ⟨_, loop_line h ?_, h5⟩
  have hx2 : nx t n k2 = tokF t n (e + 1 + (wd 2).length + 1 + (sgL k).length + 1 + (sgL v).length) := by
    unfold nx
    rw [e4]
  have ha : ¬ anB tD (k + 6).toNat 1 = true := by
    show ¬ (tD (k + 6).toNat || false) = true
    rw [hD]
    decide
  unfold lineF
  rw [if_pos w2]
  unfold diagL
  show nm t n (nx t n (tokF t n (e + 1))) true (1 - f 0) (f 0 - 1) (fun k1 q => rngV t n f tD b k1 (q + 6).toNat 1) = _
  rw [hx, e1]
  unfold rngV
  rw [if_neg ha, hx1, e3, hx2]
theorem par_line {j m r L : Nat} {i : Nat} (hm : (m = 4 ∧ r = 15 ∧ L = 13) ∨ (m = 5 ∧ r = 22 ∧ L = 20)) (h : Tx t n e (pLn m i v l)) (hl : Sep l) (hi : (i : Int) ≤ f 0 - 1) (h7 : f 0 ≤ 7) (hv1 : -9 ≤ v) (hv2 : v ≤ 9) (hD : tD (L + i) = false) : ∃ e', loopP t n (j + 1) (tokF t n e, f, tD, b) = loopP t n j (tokF t n e', upF f (r + i) v, fillB tD (L + i) 1, b) ∧ Tx t n e' l := by
  obtain ⟨-, h1⟩ := sem_t h
  obtain ⟨w1, w2, h2⟩ := word_t (m := m) (by omega) h1 (no_sp (Or.inr (by decide)))
  obtain ⟨k1, e1, e2, -, -, -, h4⟩ := num_u (lo := 0) (hi := f 0 - 1) h2 (by omega) (by omega) (no_sp (Or.inr (by decide))) (by omega) hi fun k1 q => if tD (L + q.toNat) = true then (.inl (3, k1.1) : PR) else nm t n (nx t n k1) true (-999) 999 fun k2 v => (.inr (nx t n k2, upF f (r + q.toNat) v, fillB tD (L + q.toNat) 1, b) : PR)
  obtain ⟨k2, e3, e4, h5⟩ := num_s (lo := -999) (hi := 999) h4 hv1 hv2 (hl.no (Or.inl (by decide))) (by omega) (by omega) fun k2 v => (.inr (nx t n k2, upF f (r + i) v, fillB tD (L + i) 1, b) : PR)
  have hx : nx t n (tokF t n (e + 1)) = tokF t n (e + 1 + (wd m).length) := by
    unfold nx
    rw [w1]
  have hx1 : nx t n k1 = tokF t n (e + 1 + (wd m).length + 2) := by
    unfold nx
    rw [e2]
  refine ⟨_, loop_line h ?_, h5⟩
  have hx2 : nx t n k2 = tokF t n (e + 1 + (wd m).length + 2 + 1 + (sgL v).length) := by
    unfold nx
    rw [e4]
  have key : partL t n r L (tokF t n (e + 1), f, tD, b) = .inr (tokF t n (e + 1 + (wd m).length + 2 + 1 + (sgL v).length), upF f (r + i) v, fillB tD (L + i) 1, b) := by
    unfold partL
    show nm t n (nx t n (tokF t n (e + 1))) false 0 (f 0 - 1) (fun k1 q => if tD (L + q.toNat) = true then (.inl (3, k1.1) : PR) else nm t n (nx t n k1) true (-999) 999 fun k2 v => (.inr (nx t n k2, upF f (r + q.toNat) v, fillB tD (L + q.toNat) 1, b) : PR)) = _
    rw [hx, e1]
    show (if tD (L + i) = true then (.inl (3, k1.1) : PR) else nm t n (nx t n k1) true (-999) 999 fun k2 v => (.inr (nx t n k2, upF f (r + i) v, fillB tD (L + i) 1, b) : PR)) = _
    rw [if_neg (by rw [hD]; decide), hx1, e3, hx2]
  have fl : ∀ m2, (wd m).length ≠ (wd m2).length → ¬ isWF t (tokF t n (e + 1)) m2 = true := by
    intro m2 hne z
    unfold isWF at z
    rw [w1, Bool.and_eq_true, Bool.and_eq_true] at z
    have := of_decide_eq_true z.2.1
    change e + 1 + (wd m).length = e + 1 + (wd m2).length at this
    omega
  have f3 : ∀ a l', wd m = a :: l' → a ≠ 98 → ¬ isWF t (tokF t n (e + 1)) 3 = true := by
    intro a l' ea hne z
    unfold isWF at z
    rw [w1, Bool.and_eq_true, Bool.and_eq_true] at z
    have z2 := z.2.2
    change (decide (t (e + 1) = 98) && _) = true at z2
    rw [Bool.and_eq_true] at z2
    have z3 := of_decide_eq_true z2.1
    have h6 := h1
    rw [ea] at h6
    have := (h6.app).1 0 (by rw [List.length_cons]; omega)
    change t (e + 1) = a at this
    omega
  unfold lineF
  rcases hm with ⟨rfl, rfl, rfl⟩ | ⟨rfl, rfl, rfl⟩
  · rw [if_neg (fl 2 (by decide)), if_neg (f3 115 _ rfl (by decide)), if_pos w2]
    exact key
  · rw [if_neg (fl 2 (by decide)), if_neg (fl 3 (by decide)), if_neg (fl 4 (by decide)), if_pos w2]
    exact key
theorem dia_loop {dv : Int → Int} (hdv : ∀ k, -9 ≤ dv k ∧ dv k ≤ 9) (hl : Sep l) {N : Int} (h1 : 1 ≤ N) (h7 : N ≤ 5) :
    ∀ (d : Nat) (k : Int) (f : Nat → Int) (tD : Nat → Bool) (j e m : Nat), Tx t n e (dTx dv d k l) → f 0 = N → k + d = N → 1 - N ≤ k → (∀ k', k ≤ k' → k' < N → tD (k' + 6).toNat = false ∧ f (k' + 8).toNat = 0) → d + m ≤ j → ∃ f' tD' e' j', m ≤ j' ∧ loopP t n j (tokF t n e, f, tD, b) = loopP t n j' (tokF t n e', f', tD', b) ∧ Tx t n e' l ∧ f' 0 = N ∧ f' 1 = f 1 ∧ (∀ k', k ≤ k' → k' < N → f' (k' + 8).toNat = dv k') ∧ (∀ k', -6 ≤ k' → k' < k → f' (k' + 8).toNat = f (k' + 8).toNat) ∧ (∀ q, 13 ≤ q → tD' q = tD q)
  | 0, k, f, tD, j, e, m, hT, hf, hk, hk1, hD, hm => ⟨f, tD, e, j, by omega, rfl, hT, hf, rfl, fun k' h3 h4 => by omega, fun _ _ _ => rfl, fun _ _ => rfl⟩
  | d + 1, k, f, tD, j, e, m, hT, hf, hk, hk1, hD, hm => by
    unfold dTx at hT
    by_cases hz : dv k = 0
    · rw [if_pos hz] at hT
      obtain ⟨f', tD', e', j', g1, g2, g3, g4, g5, g6, g7, g8⟩ := dia_loop hdv hl h1 h7 d (k + 1) f tD j e m hT hf (by omega) (by omega) (fun k' h3 h4 => hD k' (by omega) h4) (by omega)
      refine ⟨f', tD', e', j', g1, g2, g3, g4, g5, fun k' h3 h4 => ?_, fun k' h3 h4 => g7 k' h3 (by omega), g8⟩
      by_cases ek : k' = k
      · rw [ek, g7 k (by omega) (by omega), hz]
        exact (hD k (Int.le_refl _) (by omega)).2
      · exact g6 k' (by omega) h4
    · rw [if_neg hz] at hT
      obtain ⟨i, rfl⟩ : ∃ i, j = i + 1 := ⟨j - 1, by omega⟩
      obtain ⟨e1, l1, hT1⟩ := dia_line (j := i) (b := b) (tD := tD) (f := f) hT (dTx_sep hl) (by omega) (by omega) (by omega) (hdv k).1 (hdv k).2 (hD k (Int.le_refl _) (by omega)).1
      have ff : ∀ q, q ≠ (k + 8).toNat → fillF f (k + 6).toNat 1 (dv k) q = f q := fun q hq => if_neg (by omega)
      have fk : fillF f (k + 6).toNat 1 (dv k) (k + 8).toNat = dv k := if_pos (by omega)
      have fb : ∀ q, q ≠ (k + 6).toNat → fillB tD (k + 6).toNat 1 q = tD q := fun q hq => if_neg (by omega)
      obtain ⟨f', tD', e', j', g1, g2, g3, g4, g5, g6, g7, g8⟩ := dia_loop hdv hl h1 h7 d (k + 1) (fillF f (k + 6).toNat 1 (dv k)) (fillB tD (k + 6).toNat 1) i e1 m hT1 (by rw [ff 0 (by omega)]; exact hf) (by omega) (by omega) (fun k' h3 h4 => by
        rw [fb _ (by omega), ff _ (by omega)]
        exact hD k' (by omega) h4) (by omega)
      refine ⟨f', tD', e', j', g1, l1.trans g2, g3, g4, ?_, fun k' h3 h4 => ?_, fun k' h3 h4 => ?_, fun q hq => ?_⟩
      · rw [g5, ff 1 (by omega)]
      · by_cases ek : k' = k
        · rw [ek, g7 k (by omega) (by omega), fk]
        · exact g6 k' (by omega) h4
      · rw [g7 k' h3 (by omega), ff _ (by omega)]
      · rw [g8 q hq, fb q (by omega)]
theorem par_loop {sv pv : Nat → Int} (hs : ∀ i, -9 ≤ sv i ∧ sv i ≤ 9) (hp : ∀ i, -9 ≤ pv i ∧ pv i ≤ 9) {N : Int} (h1 : 1 ≤ N) (h7 : N ≤ 5) :
    ∀ (d i : Nat) (f : Nat → Int) (tD : Nat → Bool) (j e : Nat), Tx t n e (pTx sv pv d i) → f 0 = N → i + d = N.toNat → (∀ i', i ≤ i' → i' < 7 → tD (13 + i') = false ∧ tD (20 + i') = false) → 2 * d + 1 ≤ j → ∃ f', loopP t n j (tokF t n e, f, tD, b) = .inr f' ∧ (∀ q, q < 15 → f' q = f q) ∧ (∀ i', i ≤ i' → i' < N.toNat → f' (15 + i') = sv i' ∧ f' (22 + i') = pv i') ∧ (∀ i', i' < i → f' (15 + i') = f (15 + i') ∧ f' (22 + i') = f (22 + i'))
  | 0, i, f, tD, j, e, hT, hf, hi, hD, hj => by
    obtain ⟨m, rfl⟩ : ∃ m, j = m + 1 := ⟨j - 1, by omega⟩
    exact ⟨f, loop_end hT, fun _ _ => rfl, fun i' h3 h4 => by omega, fun _ _ => ⟨rfl, rfl⟩⟩
  | d + 1, i, f, tD, j, e, hT, hf, hi, hD, hj => by
    obtain ⟨m, rfl⟩ : ∃ m, j = m + 1 + 1 := ⟨j - 2, by omega⟩
    obtain ⟨e1, l1, hT1⟩ := par_line (j := m + 1) (b := b) (tD := tD) (f := f) (Or.inl ⟨rfl, rfl, rfl⟩) hT (Or.inr ⟨_, rfl⟩) (by omega) (by omega) (hs i).1 (hs i).2 (hD i (Nat.le_refl _) (by omega)).1
    have a1 : ∀ q, q ≠ 15 + i → upF f (15 + i) (sv i) q = f q := fun q hq => upF_ne hq
    have b1 : ∀ q, q ≠ 13 + i → fillB tD (13 + i) 1 q = tD q := fun q hq => if_neg (by omega)
    obtain ⟨e2, l2, hT2⟩ := par_line (j := m) (b := b) (tD := fillB tD (13 + i) 1) (f := upF f (15 + i) (sv i)) (Or.inr ⟨rfl, rfl, rfl⟩) hT1 pTx_sep (by rw [a1 0 (by omega)]; omega) (by rw [a1 0 (by omega)]; omega) (hp i).1 (hp i).2 (by rw [b1 _ (by omega)]; exact (hD i (Nat.le_refl _) (by omega)).2)
    have a2 : ∀ q, q ≠ 22 + i → upF (upF f (15 + i) (sv i)) (22 + i) (pv i) q = upF f (15 + i) (sv i) q := fun q hq => upF_ne hq
    have b2 : ∀ q, q ≠ 20 + i → fillB (fillB tD (13 + i) 1) (20 + i) 1 q = fillB tD (13 + i) 1 q := fun q hq => if_neg (by omega)
    obtain ⟨f', g1, g2, g3, g4⟩ := par_loop hs hp h1 h7 d (i + 1) (upF (upF f (15 + i) (sv i)) (22 + i) (pv i)) (fillB (fillB tD (13 + i) 1) (20 + i) 1) m e2 hT2 (by rw [a2 0 (by omega), a1 0 (by omega)]; exact hf) (by omega) (fun i' h3 h4 => by
      rw [b2 _ (by omega), b1 _ (by omega), b2 _ (by omega), b1 _ (by omega)]
      exact hD i' (by omega) h4) (by omega)
    refine ⟨f', l1.trans (l2.trans g1), fun q hq => ?_, fun i' h3 h4 => ?_, fun i' h3 => ?_⟩
    · rw [g2 q hq, a2 q (by omega), a1 q (by omega)]
    · by_cases ei : i' = i
      · subst ei
        obtain ⟨k1, k2⟩ := g4 i' (by omega)
        rw [k1, k2, a2 _ (by omega)]
        exact ⟨if_pos rfl, if_pos rfl⟩
      · exact g3 i' (by omega) h4
    · obtain ⟨k1, k2⟩ := g4 i' (by omega)
      rw [k1, k2, a2 _ (by omega), a1 _ (by omega), a2 _ (by omega), a1 _ (by omega)]
      exact ⟨rfl, rfl⟩
/-- the text says the system -/
theorem text_ok {dv : Int → Int} {sv pv : Nat → Int} {N p : Int} (hdv : ∀ k, -9 ≤ dv k ∧ dv k ≤ 9) (hs : ∀ i, -9 ≤ sv i ∧ sv i ≤ 9) (hpv : ∀ i, -9 ≤ pv i ∧ pv i ≤ 9) (h1 : 1 ≤ N) (h5 : N ≤ 5) (hp : p ∈ primesL) (hT : Tx t n 0 (labTx N p dv sv pv)) :
    ∃ f, parseF t n = .inr f ∧ f 0 = N ∧ f 1 = p ∧ (∀ k, -N < k → k < N → f (k + 8).toNat = dv k) ∧ (∀ i, i < N.toNat → f (15 + i) = sv i ∧ f (22 + i) = pv i) := by
  have hpb := pr_b hp
  obtain ⟨w1, w2, hT1⟩ := word_t (m := 0) (by decide) hT (no_sp (Or.inr (by decide)))
  obtain ⟨k1, -, e2, v1, n1, r1, hT2⟩ := num_u (lo := 1) (hi := 7) hT1 (by omega) (by omega) (no_sp (Or.inr (by decide))) h1 (by omega) fun k v => (.inl (0, 0) : PR)
  obtain ⟨s1, hT3⟩ := sp_eq hT2 (by
    intro a l' e
    have : wd 1 = [112, 114, 105, 109, 101] := rfl
    rw [this] at e
    cases e
    decide)
  obtain ⟨x1, x2, hT4⟩ := word_t (m := 1) (by decide) hT3 (no_sp (Or.inr (by decide)))
  have hsep : Sep (dTx dv (2 * N - 1).toNat (1 - N) (pTx sv pv N.toNat 0)) := dTx_sep pTx_sep
  obtain ⟨e5, y1, hT5⟩ : ∃ e5, tokF t n (0 + (wd 0).length + 2 + 1 + (wd 1).length) = (0 + (wd 0).length + 2 + 1 + (wd 1).length + 1, e5, 2, p) ∧ Tx t n e5 (dTx dv (2 * N - 1).toNat (1 - N) (pTx sv pv N.toNat 0)) := by
    unfold nmL at hT4
    by_cases h10 : p < 10
    · rw [if_pos h10] at hT4
      obtain ⟨g1, g2⟩ := tok_sp hT4 (by intro a l' e; cases e; omega)
      obtain ⟨g3, g4⟩ := toS_num1 g2 (by omega) (by omega) (hsep.no (Or.inl (by decide)))
      exact ⟨_, g1.trans g3, g4⟩
    · rw [if_neg h10] at hT4
      obtain ⟨g1, g2⟩ := tok_sp hT4 (by intro a l' e; cases e; omega)
      obtain ⟨g3, g4⟩ := toS_num2 g2 (by omega) (by omega) (by omega) (by omega) (hsep.no (Or.inl (by decide)))
      rw [show 10 * (p / 10) + p % 10 = p by omega] at g3
      exact ⟨_, g1.trans g3, g4⟩
  obtain ⟨f', tD', e', j', g1, g2, g3, g4, g5, g6, g7, g8⟩ := dia_loop (b := 0) (dv := dv) hdv pTx_sep h1 h5 (2 * N - 1).toNat (1 - N) (f0P N p) (fun _ => false) 701 e5 11 hT5 rfl (by omega) (by omega) (fun k' h3 h4 => ⟨rfl, by
    unfold f0P
    rw [upF_ne (by omega), upF_ne (by omega)]⟩) (by omega)
  obtain ⟨f2, k1, k2, k3, k4⟩ := par_loop (b := 0) hs hpv h1 h5 N.toNat 0 f' tD' j' e' g3 g4 (by omega) (fun i' h3 h4 => by
    rw [g8 _ (by omega), g8 _ (by omega)]
    exact ⟨rfl, rfl⟩) (by omega)
  refine ⟨f2, ?_, by rw [k2 0 (by decide)]; exact g4, by rw [k2 1 (by decide), g5]; rfl, fun k h3 h4 => by rw [k2 _ (by omega)]; exact g6 k (by omega) h4, fun i hi => k3 i (Nat.zero_le _) hi⟩
  have z1 : nx t n (tokF t n 0) = tokF t n (0 + (wd 0).length) := by
    unfold nx
    rw [w1]
  have nk1 : ∀ K : Tok, nk t n K false = K := fun K => if_neg (fun z => absurd z.1 (by decide))
  rw [nk1] at n1
  have z2 : nx t n (tokF t n (0 + (wd 0).length)) = tokF t n (0 + (wd 0).length + 2) := by
    rw [n1]
    unfold nx
    rw [e2]
  have z3 : nx t n (tokF t n (0 + (wd 0).length + 2 + 1)) = tokF t n (0 + (wd 0).length + 2 + 1 + (wd 1).length) := by
    unfold nx
    rw [x1]
  have v2 : (tokF t n (0 + (wd 0).length)).2.2.2 = N := v1
  unfold parseF
  rw [if_pos w2, z1]
  unfold head1
  rw [if_pos r1, z2, v2, s1]
  unfold head2
  rw [if_pos x2, z3]
  unfold head3
  rw [y1, if_pos rfl, if_pos hp]
  have z4 : nx t n (0 + (wd 0).length + 2 + 1 + (wd 1).length + 1, e5, 2, p) = tokF t n e5 := rfl
  rw [z4]
  exact g2.trans k1
end TU
