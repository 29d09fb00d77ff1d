/-! ===== other names of the same world ===== -/
theorem s_str {E : gEn} {U : State} {H H8 H9 : Heap} {s0 a2 n q8 q9 : Nat} {v9 : Value} {f : Nat → Int32} {A A8 A9 : Nat → Prop} (hK : va_K (gD E) vwCl (gtys E) U) (hO : va_OF "java/lang/String" "coder" "B" (.int 0) q8 A8 U H8) (hO2 : va_OF "java/lang/String" "value" "[B" v9 q9 A9 U H9)
    (h1 : va_at (gD E) vwCl (s0, .inr (10, [.ref a2, .int 0, .int 0, .int 0])) H) (h2 : va_at (gD E) vwCl (a2, .inl (gca E 3, n, .inl f)) H) (hA1 : ¬ A s0) (hA2 : ¬ A a2) :
    va_O "java/lang/String" s0 A U H ∧ va_OF "java/lang/String" "coder" "B" (.int 0) s0 A U H ∧ va_OF "java/lang/String" "value" "[B" (.ref a2) s0 A U H ∧ va_T .byte a2 n (fun j => .int (f j)) A U H := by
  obtain ⟨r, hr, cell, hc, hcl, hvm, hsl⟩ := h1
  cases (show some ((RJ0, TJ0, 4) : vw_C) = some r from hr)
  have hkn := hK.1 10 (RJ0, TJ0, 4) rfl
  have h2 : H[a2]? = some (vp_cell (gca E 3) (n, .inl f)) := h2
  refine ⟨⟨cell, hc, by rw [hvm]; rfl, by rw [hcl]; exact hkn.2.1, hA1⟩, ?_, ?_, ⟨vp_cell (gca E 3) (n, .inl f), h2, (hK.2 3 (gca E 3, .byte) rfl).1 _ _, (by intro z; cases z), ?_, ?_, ?_, hA2⟩⟩
  · obtain ⟨cf, k, i, fd, cell2, g1, g2, -⟩ := hO
    obtain ⟨cf3, k3, i3, fd3, g3, g4⟩ := hkn.1 1 (by decide)
    cases Option.some.inj ((show U.fieldFound? "java/lang/String" "coder" "B" = _ from g3).symm.trans g1)
    exact ⟨_, _, _, _, cell, g1, g2, hc, by rw [hvm]; decide, by rw [g4]; exact hsl 1 (by decide), hA1⟩
  · obtain ⟨cf, k, i, fd, cell2, g1, g2, -⟩ := hO2
    obtain ⟨cf3, k3, i3, fd3, g3, g4⟩ := hkn.1 0 (by decide)
    cases Option.some.inj ((show U.fieldFound? "java/lang/String" "value" "[B" = _ from g3).symm.trans g1)
    exact ⟨_, _, _, _, cell, g1, g2, hc, by rw [hvm]; decide, by rw [g4]; exact hsl 0 (by decide), hA1⟩
  · show n ≤ (Array.ofFn (n := n) fun j => Value.int (f j.val)).size
    rw [Array.size_ofFn]
    exact Nat.le_refl n
  · show (Array.ofFn (n := n) fun j => Value.int (f j.val)).size.toInt32 = _
    rw [Array.size_ofFn]
  · intro j hj
    show (Array.ofFn (n := n) fun j => Value.int (f j.val))[j]? = _
    rw [Array.getElem?_ofFn, dif_pos hj]
/-- the same machine with another text, other places -/
def gEm (E : gEn) (ax : gR → Nat) (tx : List Int32) (ex : List Nat) : gEn := (E.1, E.2.1, E.2.2.1, E.2.2.2.1, ax, gL E, gXs E, tx, ex)
theorem gEm_ev {E : gEn} {ax : gR → Nat} {tx : List Int32} {ex : List Nat} {U : State} {H : Heap} (h : gEv E U H) (hsub : ∀ q, gA (gEm E ax tx ex) q → gA E q) (hax : ∀ r : gR, r ≠ (1, 2, 0) → r ≠ (2, 6, 0) → r ≠ (2, 6, 1) → ax r = gax E r) (hex : ∀ q ∈ ex, q < H.size)
    (hst : vk_S 7 (gTl ++ [tx.length]) (gTb ++ [tx]) (fun k => ax (2, k, 0)) (fun k => ax (2, k, 1)) (gA (gEm E ax tx ex)) U H) : gEv (gEm E ax tx ex) U H := by
  obtain ⟨h1, h2, h3, h4, h5, h6, h5b, h6b, h7, ⟨h8, h9⟩, h10, h11, h12, h13, h14, h17, h15, h16, h18⟩ := h
  have e1 : ax (1, 0, 0) = gax E (1, 0, 0) := hax _ (by decide) (by decide) (by decide)
  have e2 : ax (1, 1, 0) = gax E (1, 1, 0) := hax _ (by decide) (by decide) (by decide)
  have e3 : ax (0, 0, 0) = gax E (0, 0, 0) := hax _ (by decide) (by decide) (by decide)
  refine ⟨h1, h2, h3.narrow hsub, h4.narrow hsub, ?_, ?_, ?_, ?_, ?_, ⟨?_, ?_⟩, h10, ?_, hst, h13.narrow hsub, h14.narrow hsub, h17, h15, h16, hex⟩
  · show va_Z _ _ _ (.ref (ax (1, 0, 0))) _ _ _
    rw [e1]
    exact h5.narrow hsub
  · show va_T _ (ax (1, 0, 0)) _ _ _ _ _
    rw [e1]
    exact h6.narrow hsub
  · show va_Z _ _ _ (.ref (ax (1, 1, 0))) _ _ _
    rw [e2]
    exact h5b.narrow hsub
  · show va_T _ (ax (1, 1, 0)) _ _ _ _ _
    rw [e2]
    exact h6b.narrow hsub
  · show va_X (ax (0, 0, 0)) _ _ _ _
    rw [e3]
    exact h7
  · show ¬ gA _ (ax (0, 0, 0))
    rw [e3]
    exact fun z => h8 (hsub _ z)
  · show ax (0, 0, 0) < _
    rw [e3]
    exact h9
  · intro q hq
    show vk_R q.1 q.2.1 q.2.2.1 (ax (2, q.2.2.2, 0)) U
    have h6 : q.2.2.2 < 6 := (by decide : ∀ q ∈ gTx2, q.2.2.2 < 6) q hq
    rw [hax (2, q.2.2.2, 0) (fun z => by cases z) (fun z => by
      have := congrArg (fun r : gR => r.2.1) z
      change q.2.2.2 = 6 at this
      omega) (fun z => by
      have := congrArg (fun r : gR => r.2.2) z
      change 0 = 1 at this
      omega)]
    exact h11 q hq
theorem gobj_102 : ∀ (k ci : Nat) (fl : List (Nat × Nat)), gobj k = some (ci, fl) → ∀ q ∈ fl, q.1 ≠ 102 := by
  intro k ci fl h
  unfold gobj at h
  split at h <;> first | (cases h; decide) | cases h
theorem garr_2 : ∀ (k n rk : Nat), garr k = some (5, n, rk) → rk ≠ 2 := by
  intro k n rk h
  unfold garr at h
  split at h <;> first | (cases h; decide) | cases h
theorem genc_ad {ca : Nat → ClassId} {ad ad' : gR → Nat} {I : gI} {J : gJ} {B : gB} {r : gR} (h : ∀ r : gR, r.1 ≠ 2 → ad' r = ad r) : genc ca ad' I J B r = genc ca ad I J B r := by
  cases ho : gobj r.1 with
  | some p =>
    obtain ⟨ci, fl⟩ := p
    rw [genc_obj ho, genc_obj ho]
    refine congrArg (fun x => (.inr (ci, x) : va_E)) ?_
    unfold gfvals
    refine List.mapIdx_eq_mapIdx_iff.mpr fun i hi => ?_
    unfold gfval
    have h2 := gobj_102 r.1 ci fl ho fl[i] (List.getElem_mem hi)
    split
    · rfl
    · split
      · rfl
      · rename_i h9
        exact congrArg Value.ref (h _ (by show fl[i].1 - 100 ≠ 2; omega))
  | none =>
    cases ha : garr r.1 with
    | none => unfold genc; rw [ho, ha]
    | some p =>
      obtain ⟨t, n, rk⟩ := p
      have e : ∀ ad, genc ca ad I J B r = garrE ca ad I J B r t n rk := fun ad => by unfold genc; rw [ho, ha]
      rw [e, e]
      rcases (show t = 0 ∨ t = 1 ∨ t = 2 ∨ t = 3 ∨ t = 4 ∨ t = 5 ∨ ∃ k, t = k + 6 by
        rcases Nat.lt_or_ge t 6 with g | g
        · omega
        · exact Or.inr (Or.inr (Or.inr (Or.inr (Or.inr (Or.inr ⟨t - 6, by omega⟩)))))) with rfl | rfl | rfl | rfl | rfl | rfl | ⟨k, rfl⟩
      · rfl
      · rfl
      · rfl
      · rfl
      · rfl
      · have h2 := garr_2 _ _ _ ha
        show (.inl (ca 5, n, .inr (.inr (.inr (.inr (fun j => some (ad' (rk, r.2.1, j))))))) : va_E) = .inl (ca 5, n, .inr (.inr (.inr (.inr (fun j => some (ad (rk, r.2.1, j)))))))
        rw [show (fun j => some (ad' (rk, r.2.1, j))) = fun j => some (ad (rk, r.2.1, j)) from funext fun j => congrArg some (h _ h2)]
      · show (.inl (ca 6, n, .inr (.inr (.inr (.inr (fun j => if Nat.blt j n && B (rk + j + 17) then some (ad' (6, rk + j, 0)) else none))))) : va_E) = .inl (ca 6, n, .inr (.inr (.inr (.inr (fun j => if Nat.blt j n && B (rk + j + 17) then some (ad (6, rk + j, 0)) else none)))))
        rw [show (fun j => if Nat.blt j n && B (rk + j + 17) then some (ad' (6, rk + j, 0)) else none) = fun j => if Nat.blt j n && B (rk + j + 17) then some (ad (6, rk + j, 0)) else none from funext fun j => by rw [h (6, rk + j, 0) (by show (6 : Nat) ≠ 2; decide)]]
theorem gws_ad {E E' : gEn} {ad ad' : gR → Nat} {I : gI} {J : gJ} {B : gB} (hc : gca E' = gca E) (h : ∀ r : gR, r.1 ≠ 2 → ad' r = ad r) : gws E' ad' I J B = gws E ad I J B := by
  unfold gws
  refine List.map_congr_left fun r hr => ?_
  have h3 := gall_k3 r (gids_all hr)
  rw [h r (by omega), hc, genc_ad h]
