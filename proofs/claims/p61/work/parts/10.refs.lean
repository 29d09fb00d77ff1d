/-! ===== rows of references, copies, ends, throws, calls ===== -/
section GH
variable {E : gEn} {y pc : Nat} {ls : List (Nat × gV)} {st r : List gV} {I : gI} {J : gJ} {B : gB} {c w : Nat} {Q : gQt} {X : gXt}
/-- the rows that outer rows hold stand; the states that kept rows hold stand -/
theorem gall_rows : ∀ r ∈ gall, ∀ n rk, garr r.1 = some (5, n, rk) → ∀ j, j < n → (rk, r.2.1, j) ∈ gall := by
  have h : ∀ r ∈ gall, (garr r.1).all (fun z => !(Nat.beq z.1 5) || (List.range z.2.1).all (fun j => decide ((z.2.2, r.2.1, j) ∈ gall))) = true := by decide +kernel
  intro r hr n rk ha j hj
  have h1 := h r hr
  rw [ha] at h1
  simp only [Option.all_some] at h1
  have h2 : (List.range n).all (fun j => decide ((rk, r.2.1, j) ∈ gall)) = true := h1
  have h3 := List.all_eq_true.mp h2 j (List.mem_range.mpr hj)
  exact of_decide_eq_true h3
theorem gall_sts : ∀ k n rk, garr k = some (6, n, rk) → 3 ≤ rk ∧ rk + n ≤ 13 := by
  intro k n rk h
  unfold garr at h
  split at h <;> cases h <;> decide
theorem gall_st : ∀ m, m ≤ 12 → (6, m, 0) ∈ gall := by
  have h : ∀ m, m < 13 → (6, m, 0) ∈ gall := by decide +kernel
  intro m hm
  exact h m (by omega)
theorem gids_st {m : Nat} (h : m ≤ 12) (hB : B m = true) : (6, m, 0) ∈ gids B := List.mem_filter.mpr ⟨gall_st m h, by simp only [hB, Bool.or_true]⟩
theorem gids_row {q : gR} {n rk j : Nat} (hq : q ∈ gids B) (ha : garr q.1 = some (5, n, rk)) (hj : j < n) : (rk, q.2.1, j) ∈ gids B := by
  obtain ⟨h1, h2⟩ := List.mem_filter.mp hq
  exact List.mem_filter.mpr ⟨gall_rows q h1 n rk ha j hj, h2⟩
theorem gp_aaload {q : gR} {i : Int32} (hd : decode (hb y) pc = .ok (.aaload, 1)) (k : gaal B q i fun x => gG E y (pc + 1) ls (x :: r) I J B c w Q X) : gG E y pc ls (.inl (.int i) :: .inr q :: r) I J B c w Q X := by
  intro hc hw p e s m args below meth cc ad0 Bs hC hT H locs LS ad hS
  have hv := gvs_h (gvs_d hS.vs)
  have hdr := gvs_d (gvs_d hS.vs)
  have hE := hC.2.2.2.2.2.2.2
  unfold gaal at k
  split at k
  · rename_i n rk ha
    obtain ⟨hin, k⟩ := k
    have hlt : i.toNatClampNeg < n := Nat.not_le.mp fun q => hin (Or.inr q)
    have hq := gq_ids hv ha
    obtain ⟨q0, -, hq0⟩ := gws_get (E := E) (ad := ad) (I := I) (J := J) hq
    rw [genc_arr ha] at hq0
    refine W.aald (v := .ref (ad (rk, q.2.1, i.toNatClampNeg))) (ty := .array .int) hC.1 hC.2.1 (hS.1.1 q0 _ hq0) ((hE.1.2 5 (gca E 5, .array .int) rfl).1 n (fun j => va_rf (some (ad (rk, q.2.1, j))))) rfl (fun q => by cases q) (by show ¬ (i < 0 ∨ (arrV _ _ _).slots.size ≤ _); rw [arrV_size]; exact hin) (by show (arrV _ _ _).slots[_]? = _; rw [arrV_read _ _ hlt]; rfl) rfl rfl hd ?_
    exact k hc hw p e s m args below meth cc ad0 Bs hC hT H locs LS ad (hS.tk (gvs_c (gV_of (gids_row hq ha hlt)) hdr))
  · rename_i n rk ha
    obtain ⟨hin, k1, k2⟩ := k
    have hlt : i.toNatClampNeg < n := Nat.not_le.mp fun q => hin (Or.inr q)
    have hq := gq_ids hv ha
    obtain ⟨q0, -, hq0⟩ := gws_get (E := E) (ad := ad) (I := I) (J := J) hq
    rw [genc_arr ha] at hq0
    have hbl : Nat.blt i.toNatClampNeg n = true := Nat.ble_eq_true_of_le hlt
    obtain ⟨hr1, hr2⟩ := gall_sts _ _ _ ha
    cases hb : B (rk + i.toNatClampNeg + 17) with
    | true =>
      refine W.aald (v := .ref (ad (6, rk + i.toNatClampNeg, 0))) (ty := .object "ToeplitzLab$State") hC.1 hC.2.1 (hS.1.1 q0 _ hq0) ((hE.1.2 6 (gca E 6, .object "ToeplitzLab$State") rfl).1 n (fun j => va_rf (if Nat.blt j n && B (rk + j + 17) then some (ad (6, rk + j, 0)) else none))) rfl (fun q => by cases q) (by show ¬ (i < 0 ∨ (arrV _ _ _).slots.size ≤ _); rw [arrV_size]; exact hin) (by show (arrV _ _ _).slots[_]? = _; rw [arrV_read _ _ hlt]; simp [hbl, hb, va_rf]) rfl rfl hd ?_
      exact k1 hb hc hw p e s m args below meth cc ad0 Bs hC hT H locs LS ad (hS.tk (gvs_c (gV_of (gids_st (by omega) (hS.1.2.2.2 _ (by omega) (by omega) hb))) hdr))
    | false =>
      refine W.aald (v := .null) (ty := .object "ToeplitzLab$State") hC.1 hC.2.1 (hS.1.1 q0 _ hq0) ((hE.1.2 6 (gca E 6, .object "ToeplitzLab$State") rfl).1 n (fun j => va_rf (if Nat.blt j n && B (rk + j + 17) then some (ad (6, rk + j, 0)) else none))) rfl (fun q => by cases q) (by show ¬ (i < 0 ∨ (arrV _ _ _).slots.size ≤ _); rw [arrV_size]; exact hin) (by show (arrV _ _ _).slots[_]? = _; rw [arrV_read _ _ hlt]; simp [hbl, hb, va_rf]) rfl rfl hd ?_
      exact k2 hb hc hw p e s m args below meth cc ad0 Bs hC hT H locs LS ad (hS.tk (gvs_n hdr))
  · exact absurd k id
theorem gall_n12 : ∀ r ∈ gall, r.2.1 ≤ 12 ∨ 100 ≤ r.2.1 := by decide +kernel
theorem gids_flag {f : Nat} (hf : 13 ≤ f) (hf2 : f < 100) : gids (gUB B f) = gids B := by
  unfold gids
  apply List.filter_congr
  intro r hr
  have h := gall_n12 r hr
  rw [show gUB B f r.2.1 = B r.2.1 from if_neg (by omega)]
theorem gBok_flag {f : Nat} (h : gBok B) (hf : 20 ≤ f) (hB : B (f - 17) = true) : gBok (gUB B f) := by
  intro n h1 h2 h3
  unfold gUB at h3 ⊢
  rw [if_neg (by omega)]
  by_cases e : n + 17 = f
  · rw [show f - 17 = n by omega] at hB
    exact hB
  · rw [if_neg e] at h3
    exact h n h1 h2 h3
theorem gLe_UB {f : Nat} : gLe B (gUB B f) := fun n h => by
  unfold gUB
  split
  · rfl
  · exact h
theorem gLe.tr {B1 B2 B3 : gB} (h1 : gLe B1 B2) (h2 : gLe B2 B3) : gLe B1 B3 := fun n h => h2 n (h1 n h)
theorem gids_le {B1 B2 : gB} (h : gLe B1 B2) {q : gR} (hq : q ∈ gids B1) : q ∈ gids B2 := by
  obtain ⟨h1, h2⟩ := List.mem_filter.mp hq
  refine List.mem_filter.mpr ⟨h1, ?_⟩
  rcases Bool.or_eq_true_iff.mp h2 with h3 | h3
  · simp only [h3, Bool.true_or]
  · simp only [h _ h3, Bool.or_true]
theorem gVl_le {B1 B2 : gB} (h : gLe B1 B2) {q : gR} (hq : gVl B1 q) : gVl B2 q := by
  rcases hq with e | e | e | e
  · exact Or.inl e
  · exact Or.inr (Or.inl e)
  · exact Or.inr (Or.inr (Or.inl e))
  · exact Or.inr (Or.inr (Or.inr (gids_le h e)))
theorem gVv_le {B1 B2 : gB} (h : gLe B1 B2) {v : gV} (hv : gVv B1 v) : gVv B2 v := by
  cases v with
  | inl _ => trivial
  | inr q => exact gVl_le h hv
theorem gp_aastore {q v : gR} {i : Int32} (hd : decode (hb y) pc = .ok (.aastore, 1)) (k : gaas B q v i fun B2 => gG E y (pc + 1) ls r I J B2 c w Q X) : gG E y pc ls (.inr v :: .inl (.int i) :: .inr q :: r) I J B c w Q X := by
  intro hc hw p e s m args below meth cc ad0 Bs hC hT H locs LS ad hS
  have hv := gvs_h (gvs_d (gvs_d hS.vs))
  have hvv := gvs_h hS.vs
  have hdr := gvs_d (gvs_d (gvs_d hS.vs))
  have hE := hC.2.2.2.2.2.2.2
  unfold gaas at k
  split at k
  · rename_i n rk ha
    obtain ⟨hin, rfl, k⟩ := k
    have hlt : i.toNatClampNeg < n := Nat.not_le.mp fun q => hin (Or.inr q)
    have hq := gq_ids hv ha
    obtain ⟨q0, hq1, hq0⟩ := gws_get (E := E) (ad := ad) (I := I) (J := J) hq
    rw [genc_arr ha] at hq0
    obtain ⟨hr1, hr2⟩ := gall_sts _ _ _ ha
    have hvi : (6, rk + i.toNatClampNeg, 0) ∈ gids B := gV_ids hvv (show (3 : Nat) ≤ 6 by decide)
    have hBm : B (rk + i.toNatClampNeg) = true := by
      have h2 := (List.mem_filter.mp hvi).2
      rcases Bool.or_eq_true_iff.mp h2 with h3 | h3
      · have : rk + i.toNatClampNeg < 3 := Nat.le_of_ble_eq_true h3
        omega
      · exact h3
    obtain ⟨qk, -, hqk⟩ := gws_get (E := E) (ad := ad) (I := I) (J := J) hvi
    rw [genc_obj (ci := 6) rfl] at hqk
    have hf : 13 ≤ rk + i.toNatClampNeg + 17 := by omega
    refine va_astq (r := (RX6, TX6, 11)) (ci := 6) hC.1 hC.2.1 hE.1 hS.1.1 hS.1.2.1 hS.2.1 q0 6 qk hq0 rfl hqk rfl hin hd (fun H1 locs1 hP hD hS1 => ?_)
    have hR := gRep.put (I2 := I) (J2 := J) (B2 := gUB B (rk + i.toNatClampNeg + 17)) hS.1 hq1 (gids_flag hf (by omega)) (gBok_flag hS.1.2.2.2 (by omega) (by rw [show rk + i.toNatClampNeg + 17 - 17 = rk + i.toNatClampNeg by omega]; exact hBm)) ?_ ?_ hP hD
    · exact k hc hw p e s m args below meth cc ad0 Bs hC hT H1 locs1 LS ad ⟨hR, hS1, hS.2.2.1, hS.2.2.2.1, hS.2.2.2.2.1.tr gLe_UB, fun z hz => gVv_le gLe_UB (hS.2.2.2.2.2.1 z hz), fun z hz => gVv_le gLe_UB (hdr z hz)⟩
    · rw [genc_arr ha]
      unfold garrE
      simp only
      congr 7
      funext j
      unfold va_up gUB
      by_cases hj : j = i.toNatClampNeg
      · subst hj
        rw [if_pos rfl, if_pos rfl, show Nat.blt i.toNatClampNeg n = true from Nat.ble_eq_true_of_le hlt]
        rfl
      · rw [if_neg hj, if_neg (show ¬ rk + j + 17 = rk + i.toNatClampNeg + 17 by omega)]
    · intro r2 h2 hne
      refine genc_cong (gids_all h2) rfl (fun _ => rfl) ?_
      intro n2 rk2 ha2 j hj
      unfold gUB
      rw [if_neg]
      intro e
      obtain ⟨g1, g2⟩ := gall_sts _ _ _ ha2
      have hk : r2.1 = q.1 := by
        have key : ∀ k k2 n n2 rk rk2 : Nat, garr k = some (6, n, rk) → garr k2 = some (6, n2, rk2) → ∀ j i, j < n2 → i < n → rk2 + j + 17 = rk + i + 17 → k2 = k := by
          intro k k2 n n2 rk rk2 h1 h2
          unfold garr at h1 h2
          split at h1 <;> cases h1 <;> split at h2 <;> cases h2 <;> intro j i h3 h4 h5 <;> first | rfl | omega
        exact key _ _ _ _ _ _ ha ha2 _ _ hj hlt e
      have key2 : ∀ r ∈ gall, ∀ r2 ∈ gall, (garr r.1).map (fun z => z.1) = some 6 → r2.1 = r.1 → r2 = r := by decide +kernel
      exact hne (key2 q (gids_all hq) r2 (gids_all h2) (by rw [ha]; rfl) hk)
  · exact absurd k id
end GH
