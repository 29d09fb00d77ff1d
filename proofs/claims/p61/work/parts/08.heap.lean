/-! ===== the rows that read and write the heap ===== -/
theorem gall_nodup : gall.Nodup := by decide +kernel
theorem gids_nodup (B : gB) : (gids B).Nodup := List.Pairwise.filter _ gall_nodup
theorem gids_all {B : gB} {r : gR} (h : r ∈ gids B) : r ∈ gall := (List.mem_filter.mp h).1
theorem gall_i0 : ∀ r ∈ gall, r.2.2 = 0 ∨ (gobj r.1 = none ∧ (garr r.1).map (fun z => z.1) = some 0) := by decide +kernel
theorem gall_k3 : ∀ r ∈ gall, 3 ≤ r.1 := by decide +kernel
theorem garr_obj {k : Nat} {z : Nat × Nat × Nat} (h : garr k = some z) : gobj k = none := by
  unfold garr at h
  split at h <;> first | rfl | cases h
theorem gV_ids {B : gB} {r : gR} (h : gVl B r) (h3 : 3 ≤ r.1) : r ∈ gids B := by
  rcases h with rfl | h | h | h
  · exact absurd h3 (by decide)
  · omega
  · omega
  · exact h
theorem genc_obj {ca : Nat → ClassId} {ad : gR → Nat} {I : gI} {J : gJ} {B : gB} {r : gR} {ci : Nat} {fl : List (Nat × Nat)} (h : gobj r.1 = some (ci, fl)) : genc ca ad I J B r = .inr (ci, gfvals ad I J r.1 r.2.1 fl) := by
  unfold genc
  rw [h]
theorem genc_arr {ca : Nat → ClassId} {ad : gR → Nat} {I : gI} {J : gJ} {B : gB} {r : gR} {t n rk : Nat} (h : garr r.1 = some (t, n, rk)) : genc ca ad I J B r = garrE ca ad I J B r t n rk := by
  unfold genc
  rw [garr_obj h, h]
theorem gfvals_get {ad : gR → Nat} {I : gI} {J : gJ} {k n b : Nat} {fl : List (Nat × Nat)} {q : Nat × Nat} (h : fl[b]? = some q) : (gfvals ad I J k n fl)[b]? = some (gfval ad I J k n b q.1 q.2) := by
  unfold gfvals
  rw [List.getElem?_mapIdx, h]
  rfl
theorem gfvals_len {ad : gR → Nat} {I : gI} {J : gJ} {k n : Nat} {fl : List (Nat × Nat)} : (gfvals ad I J k n fl).length = fl.length := by
  unfold gfvals
  rw [List.length_mapIdx]
theorem gws_get {E : gEn} {ad : gR → Nat} {I : gI} {J : gJ} {B : gB} {r : gR} (h : r ∈ gids B) : ∃ q : Nat, (gids B)[q]? = some r ∧ (gws E ad I J B)[q]? = some (ad r, genc (gca E) ad I J B r) := by
  obtain ⟨q, hq⟩ := List.getElem?_of_mem h
  exact ⟨q, hq, by unfold gws; rw [List.getElem?_map, hq]; rfl⟩
theorem gws_set {E : gEn} {ad : gR → Nat} {I I2 : gI} {J J2 : gJ} {B B2 : gB} {r : gR} {q : Nat} {e : va_E} (hq : (gids B)[q]? = some r) (hB : gids B2 = gids B) (he : genc (gca E) ad I2 J2 B2 r = e)
    (ho : ∀ r2 ∈ gids B, r2 ≠ r → genc (gca E) ad I2 J2 B2 r2 = genc (gca E) ad I J B r2) : (gws E ad I J B).set q (ad r, e) = gws E ad I2 J2 B2 := by
  subst he
  unfold gws
  rw [hB]
  apply List.ext_getElem?
  intro j
  rw [List.getElem?_set, List.length_map]
  by_cases hj : q = j
  · subst hj
    rw [if_pos rfl, if_pos (List.getElem?_eq_some_iff.mp hq).1, List.getElem?_map, hq]
    rfl
  · rw [if_neg hj, List.getElem?_map, List.getElem?_map]
    cases hr : (gids B)[j]? with
    | none => rfl
    | some r2 =>
      have hne : r2 ≠ r := by
        intro e
        subst e
        obtain ⟨h1, e1⟩ := List.getElem?_eq_some_iff.mp hq
        obtain ⟨h2, e2⟩ := List.getElem?_eq_some_iff.mp hr
        have hp := List.pairwise_iff_getElem.mp (gids_nodup B)
        rcases Nat.lt_or_gt_of_ne hj with h | h
        · exact hp q j h1 h2 h (e1.trans e2.symm)
        · exact hp j q h2 h1 h (e2.trans e1.symm)
      simp only [Option.map_some]
      rw [ho r2 (List.mem_of_getElem? hr) hne]
theorem gUI_ne {I : gI} {k n i j a b c : Nat} {x : Int32} (h : (a, b, c) ≠ ((k, n, i) : gR)) : gUI I k n i j x a b c = I a b c := by
  funext d
  unfold gUI
  rw [if_neg]
  rintro ⟨rfl, rfl, rfl, -⟩
  exact h rfl
theorem gUI_eq {I : gI} {k n i j : Nat} {x : Int32} : gUI I k n i j x k n i = upd (I k n i) j x := by
  funext d
  unfold gUI upd
  simp
theorem gUJ_ne {J : gJ} {k n j a b : Nat} {x : Int64} (h : ¬ (a = k ∧ b = n)) : gUJ J k n j x a b = J a b := by
  funext d
  unfold gUJ
  rw [if_neg]
  rintro ⟨h1, h2, -⟩
  exact h ⟨h1, h2⟩
theorem gUJ_eq {J : gJ} {k n j : Nat} {x : Int64} : gUJ J k n j x k n = vp_updL (J k n) j x := by
  funext d
  unfold gUJ vp_updL
  simp
/-- a thing's picture speaks of its own numbers -/
theorem genc_cong {ca : Nat → ClassId} {ad : gR → Nat} {I I2 : gI} {J J2 : gJ} {B B2 : gB} {r : gR} (hr : r ∈ gall) (hI : I2 r.1 r.2.1 r.2.2 = I r.1 r.2.1 r.2.2) (hJ : (gobj r.1 ≠ none ∨ (garr r.1).map (fun z => z.1) ≠ some 0) → J2 r.1 r.2.1 = J r.1 r.2.1)
    (hB : ∀ n rk, garr r.1 = some (6, n, rk) → ∀ j, j < n → B2 (rk + j + 17) = B (rk + j + 17)) : genc ca ad I2 J2 B2 r = genc ca ad I J B r := by
  unfold genc
  cases ho : gobj r.1 with
  | some z =>
    obtain ⟨ci, fl⟩ := z
    have h0 : r.2.2 = 0 := by
      rcases gall_i0 r hr with h | ⟨h, -⟩
      · exact h
      · rw [h] at ho; cases ho
    rw [h0] at hI
    simp only
    congr 2
    unfold gfvals
    congr 1
    funext j q
    unfold gfval
    rw [hI, hJ (Or.inl (by rw [ho]; exact fun h => by cases h))]
  | none =>
    cases ha : garr r.1 with
    | none => rfl
    | some z =>
      obtain ⟨t, n, rk⟩ := z
      simp only
      unfold garrE
      split
      · rw [hI]
      · rw [hJ (Or.inr (by rw [ha]; simp))]
      · rw [hI]
      · rw [hI]
      · rw [hJ (Or.inr (by rw [ha]; simp))]
      · rfl
      · rename_i t0 h0 h1 h2 h3 h4 h5
        have ht : t = 6 := by
          revert ha h0 h1 h2 h3 h4 h5
          unfold garr
          split <;> intro ha <;> first | (cases ha; first | (intro h0; exact absurd rfl h0) | (intro _ h1; exact absurd rfl h1) | (intro _ _ h1; exact absurd rfl h1) | (intro _ _ _ h1; exact absurd rfl h1) | (intro _ _ _ _ h1; exact absurd rfl h1) | (intro _ _ _ _ _ h1; exact absurd rfl h1) | (intros; rfl)) | cases ha
        subst ht
        congr 7
        funext j
        by_cases hj : j < n
        · rw [hB n rk ha j hj]
        · have e : Nat.blt j n = false := by
            cases h : Nat.blt j n with
            | false => rfl
            | true => exact absurd (Nat.le_of_ble_eq_true h) (by omega)
          rw [e]; rfl

section GH
variable {E : gEn} {y pc : Nat} {ls : List (Nat × gV)} {st r : List gV} {I : gI} {J : gJ} {B : gB} {c w : Nat} {Q : gQt} {X : gXt}
/-- what a field's number in the pool names -/
def gFl (own : String) (n ci b : Nat) : Prop := ∃ (C : String) (T : u_T) (N : Nat) (ty : Nat → FieldType), vwCl[ci]? = some (C, T, N) ∧ (∀ w ∈ u_ws C T N, w ∈ gBig) ∧ b < N ∧ (∀ k, k < N → parseFieldDescriptor (T k).2.2.1 = some (ty k)) ∧ (∀ a, a < N → ∀ b, b < N → a ≠ b → (T a).2.1 ≠ (T b).2.1) ∧
  (Cond.fieldLink own n (T b).1 (T b).2.1 (T b).2.2.1 ∈ gBig ∨ ∃ host, Cond.fieldLinkNest own n (T b).1 (T b).2.1 (T b).2.2.1 host ∈ gNst)
/-- a field that may be written, and its type -/
def gFw (ci b : Nat) (ty : FieldType) : Prop := ∃ (C : String) (T : u_T) (N : Nat), vwCl[ci]? = some (C, T, N) ∧ (T b).2.2.2 = false ∧ parseFieldDescriptor (T b).2.2.1 = some ty
/-- a read of a field, as the heap has it -/
theorem gh_get {p : Program} {e : Env} {R : Room} {s : State} {m : MethodId} {args : Array Value} {below : List Frame} {meth : Method} {cc : Code} {H : Heap} {locs : List Loc} {LS : Array Slot} {Z : State → Prop} {ad : gR → Nat} {n : Nat} {q : gR} {ci b : Nat} {fl : List (Nat × Nat)} {z : Nat × Nat} {rest : List Value}
    (hC : gCx E y p e s m args below meth cc) (hR : gRep E ad I J B H) (hq : q ∈ gids B) (hd : decode (hb y) pc = .ok (.getfield n, 3)) (ho : gobj q.1 = some (ci, fl)) (hf : fl[b]? = some z) (hl : gFl (hy y).cls n ci b)
    (k : W p (gl E) e R s m args below meth cc H locs c w Z (F0 m (pc + 3) LS (gfval ad I J q.1 q.2.1 b z.1 z.2 :: rest))) : W p (gl E) e R s m args below meth cc H locs c w Z (F0 m pc LS (.ref (ad q) :: rest)) := by
  obtain ⟨hx, hb, hr, hml, hown, hts, hlk, hE⟩ := hC
  obtain ⟨C, T, N, ty, h1, h2, h3, h4, h5, h6⟩ := hl
  obtain ⟨q0, -, hq0⟩ := gws_get (E := E) (ad := ad) (I := I) (J := J) hq
  rw [genc_obj ho] at hq0
  rcases h6 with h6 | ⟨host, h6⟩
  · exact va_get (D := gD E) (tys := gtys E) (C := C) (T := T) (N := N) hx hb hts h2 hown hE.1 hR.1 q0 hq0 h1 b h3 (hts _ h6) (fun _ h => h) (gfvals_get hf) hd k
  · exact va_getN (D := gD E) (tys := gtys E) (C := C) (T := T) (N := N) hx hb hts h2 hown hE.1 hR.1 q0 hq0 h1 b h3 (va_Nw.use rfl (hE.2.1 _ h6)) (fun _ h => h) (gfvals_get hf) hd k
/-- the references that fields hold stand -/
theorem gall_ref : ∀ r ∈ gall, ∀ z, gobj r.1 = some z → ∀ f ∈ z.2, 103 ≤ f.1 → (f.1 - 100, r.2.1 + f.2, 0) ∈ gall ∧ (Nat.blt r.2.1 3 = true → Nat.blt (r.2.1 + f.2) 3 = true) ∧ (Nat.blt r.2.1 3 = false → f.2 = 0) := by
  have h : ∀ r ∈ gall, ∀ f ∈ ((gobj r.1).map (fun z => z.2)).getD [], 103 ≤ f.1 → (f.1 - 100, r.2.1 + f.2, 0) ∈ gall ∧ (Nat.blt r.2.1 3 = true → Nat.blt (r.2.1 + f.2) 3 = true) ∧ (Nat.blt r.2.1 3 = false → f.2 = 0) := by decide +kernel
  intro r hr z hz
  have h1 := h r hr
  rw [hz] at h1
  exact h1
/-- what fields hold of the things that are not the world's -/
theorem gall_rlo : ∀ r ∈ gall, ∀ z, gobj r.1 = some z → ∀ f ∈ z.2, 100 ≤ f.1 → f.1 < 103 → f.1 ≠ 101 → (f.1 - 100, r.2.1 + f.2, 0) = ((0, 0, 0) : gR) := by
  have h : ∀ r ∈ gall, ∀ f ∈ ((gobj r.1).map (fun z => z.2)).getD [], 100 ≤ f.1 → f.1 < 103 → f.1 ≠ 101 → (f.1 - 100, r.2.1 + f.2, 0) = ((0, 0, 0) : gR) := by decide +kernel
  intro r hr z hz
  have h1 := h r hr
  rw [hz] at h1
  exact h1
theorem gV_of {q : gR} (h : q ∈ gids B) : gVv B (.inr q) := Or.inr (Or.inr (Or.inr h))
theorem gids_ref {q : gR} {z : Nat × List (Nat × Nat)} {f : Nat × Nat} (hq : q ∈ gids B) (ho : gobj q.1 = some z) (hf : f ∈ z.2) (h100 : 103 ≤ f.1) : (f.1 - 100, q.2.1 + f.2, 0) ∈ gids B := by
  obtain ⟨h1, h2⟩ := List.mem_filter.mp hq
  obtain ⟨g1, g2, g3⟩ := gall_ref q h1 z ho f hf h100
  refine List.mem_filter.mpr ⟨g1, ?_⟩
  cases hb : Nat.blt q.2.1 3 with
  | true => simp only [g2 hb, Bool.true_or]
  | false =>
    rw [g3 hb, Nat.add_zero]
    rw [hb, Bool.false_or] at h2
    simp only [h2, Bool.or_true]
theorem gV_ref {q : gR} {z : Nat × List (Nat × Nat)} {f : Nat × Nat} (hq : q ∈ gids B) (ho : gobj q.1 = some z) (hf : f ∈ z.2) (h100 : 100 ≤ f.1) (h101 : f.1 ≠ 101) : gVl B (f.1 - 100, q.2.1 + f.2, 0) := by
  by_cases h : 103 ≤ f.1
  · exact Or.inr (Or.inr (Or.inr (gids_ref hq ho hf h)))
  · exact Or.inl (gall_rlo q (gids_all hq) z ho f hf h100 (by omega) h101)
theorem gobj_cd {k : Nat} {z : Nat × List (Nat × Nat)} (h : gobj k = some z) : ∀ f ∈ z.2, f.1 ≤ 2 ∨ 100 ≤ f.1 := by
  unfold gobj at h
  split at h <;> first | (cases h; decide) | cases h
theorem gobj_k3 {k : Nat} {z : Nat × List (Nat × Nat)} (h : gobj k = some z) : 3 ≤ k := by
  unfold gobj at h
  split at h <;> first | omega | cases h
theorem gp_getfield {n a b : Nat} {q : gR} (hd : decode (hb y) pc = .ok (.getfield n, 3)) (hl : ∀ z, gobj a = some z → gFl (hy y).cls n z.1 b) (k : gfg I J q a b fun x => gG E y (pc + 3) ls (x :: r) I J B c w Q X) : gG E y pc ls (.inr q :: r) I J B c w Q X := by
  intro hc hw p e s m args below meth cc ad0 Bs hC hT H locs LS ad hS
  unfold gfg at k
  split at k
  · rename_i x ci fl hqa ho
    have hqa : q.1 = a := Nat.eq_of_beq_eq_true hqa
    subst hqa
    have h3 := gobj_k3 ho
    have hq : q ∈ gids B := gV_ids (gvs_h hS.vs) h3
    have hdr := gvs_d hS.vs
    split at k
    · rename_i dn hf
      exact gh_get hC hS.1 hq hd ho hf (hl _ ho) (k hc hw p e s m args below meth cc ad0 Bs hC hT H locs LS ad (hS.tk (gvs_n hdr)))
    · rename_i dn hf
      exact gh_get hC hS.1 hq hd ho hf (hl _ ho) (k hc hw p e s m args below meth cc ad0 Bs hC hT H locs LS ad (hS.tk (gvs_n hdr)))
    · rename_i dn hf
      exact gh_get hC hS.1 hq hd ho hf (hl _ ho) (k hc hw p e s m args below meth cc ad0 Bs hC hT H locs LS ad (hS.tk (gvs_n hdr)))
    · exact absurd k id
    · rename_i cd dn h0 h1 h2 h3 hf
      have h101 : cd ≠ 101 := fun z => h3 z
      have hm := List.mem_of_getElem? hf
      have h100 : 100 ≤ cd := by
        rcases gobj_cd ho _ hm with h | h
        · have e0 : cd ≠ 0 := fun z => h0 z
          have e1 : cd ≠ 1 := fun z => h1 z
          have e2 : cd ≠ 2 := fun z => h2 z
          have h : cd ≤ 2 := h
          omega
        · exact h
      refine gh_get hC hS.1 hq hd ho hf (hl _ ho) ?_
      have hv0 := gV_ref hq ho hm h100 h101
      have hv : gVv B (.inr (cd - 100, q.2.1 + dn, 0)) := hv0
      have kk := k hc hw p e s m args below meth cc ad0 Bs hC hT H locs LS ad (hS.tk (gvs_c hv hdr))
      have e : gfval ad I J q.1 q.2.1 b cd dn = .ref (ad (cd - 100, q.2.1 + dn, 0)) := by
        unfold gfval
        rw [if_neg (by omega), if_neg (by omega)]
      rw [show ((cd, dn) : Nat × Nat).1 = cd from rfl, show ((cd, dn) : Nat × Nat).2 = dn from rfl, e]
      exact kk
    · exact absurd k id
  · exact absurd k id
end GH
