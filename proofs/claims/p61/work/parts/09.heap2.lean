/-! ===== writes and rows of numbers ===== -/
section GH
variable {E : gEn} {y pc : Nat} {ls : List (Nat × gV)} {st r : List gV} {I : gI} {J : gJ} {B : gB} {c w : Nat} {Q : gQt} {X : gXt}
/-- the world behind a write that changes one thing's picture -/
theorem gRep.put {ad : gR → Nat} {H H1 : Heap} {I2 : gI} {J2 : gJ} {B2 : gB} {q : gR} {q0 : Nat} {e : va_E} (hR : gRep E ad I J B H) (hq : (gids B)[q0]? = some q) (hB : gids B2 = gids B) (hk : gBok B2) (he : genc (gca E) ad I2 J2 B2 q = e)
    (ho : ∀ r2 ∈ gids B, r2 ≠ q → genc (gca E) ad I2 J2 B2 r2 = genc (gca E) ad I J B r2) (hP : va_P (gD E) vwCl ((gws E ad I J B).set q0 (ad q, e)) H1) (hD : va_D (gA E) ((gws E ad I J B).set q0 (ad q, e))) : gRep E ad I2 J2 B2 H1 := by
  rw [gws_set (I2 := I2) (J2 := J2) (B2 := B2) hq hB he ho] at hP hD
  exact ⟨hP, hD, hR.2.2.1, hk⟩
theorem gSt.ht {ad0 : gR → Nat} {Bs : gB} {s : State} {H H1 : Heap} {locs locs1 : List Loc} {LS : Array Slot} {ad : gR → Nat} {I2 : gI} {J2 : gJ} {st2 : List gV} (h : gSt E y ad0 Bs s H locs LS ad ls st I J B) (hR : gRep E ad I2 J2 B H1) (hS : va_S (gA E) s.heap H1 locs1) (hv : ∀ v ∈ st2, gVv B v) : gSt E y ad0 Bs s H1 locs1 LS ad ls st2 I2 J2 B := ⟨hR, hS, h.2.2.1, h.2.2.2.1, h.2.2.2.2.1, h.2.2.2.2.2.1, hv⟩
theorem gne_I {q r2 : gR} {I : gI} {j : Nat} {x : Int32} (h : r2 ≠ q) : gUI I q.1 q.2.1 q.2.2 j x r2.1 r2.2.1 r2.2.2 = I r2.1 r2.2.1 r2.2.2 := gUI_ne h
/-- a write of a whole number in a thing -/
theorem genc_UI {ca : Nat → ClassId} {ad : gR → Nat} {q : gR} {j : Nat} {x : Int32} : ∀ r2 ∈ gids B, r2 ≠ q → genc ca ad (gUI I q.1 q.2.1 q.2.2 j x) J B r2 = genc ca ad I J B r2 := fun _ h2 hne => genc_cong (gids_all h2) (gne_I hne) (fun _ => rfl) (fun _ _ _ _ _ => rfl)
theorem genc_UJ {ca : Nat → ClassId} {ad : gR → Nat} {q : gR} {j : Nat} {x : Int64} (hq : q ∈ gids B) (hk : gobj q.1 ≠ none ∨ (garr q.1).map (fun z => z.1) ≠ some 0) : ∀ r2 ∈ gids B, r2 ≠ q → genc ca ad I (gUJ J q.1 q.2.1 j x) B r2 = genc ca ad I J B r2 := by
  intro r2 h2 hne
  refine genc_cong (gids_all h2) rfl (fun h => gUJ_ne ?_) (fun _ _ _ _ _ => rfl)
  rintro ⟨e1, e2⟩
  have z1 : q.2.2 = 0 := by
    rcases gall_i0 q (gids_all hq) with h | ⟨h, h'⟩
    · exact h
    · rcases hk with hk | hk
      · exact absurd h hk
      · exact absurd h' hk
  have z2 : r2.2.2 = 0 := by
    rcases gall_i0 r2 (gids_all h2) with h3 | ⟨h3, h'⟩
    · exact h3
    · rcases h with h | h
      · exact absurd h3 h
      · exact absurd h' h
  exact hne (Prod.ext e1 (Prod.ext e2 (z2.trans z1.symm)))
theorem gobj_0 {q : gR} {z : Nat × List (Nat × Nat)} (hq : q ∈ gids B) (h : gobj q.1 = some z) : q.2.2 = 0 := by
  rcases gall_i0 q (gids_all hq) with h1 | ⟨h1, -⟩
  · exact h1
  · rw [h] at h1; cases h1
theorem gfvals_set_I {ad : gR → Nat} {k n b : Nat} {fl : List (Nat × Nat)} {cd dn : Nat} {x : Int32} (hf : fl[b]? = some (cd, dn)) (hcd : cd ≠ 1 ∧ cd < 100) : (gfvals ad I J k n fl).set b (.int x) = gfvals ad (gUI I k n 0 b x) J k n fl := by
  apply List.ext_getElem?
  intro j
  rw [List.getElem?_set, gfvals_len]
  have hb := (List.getElem?_eq_some_iff.mp hf).1
  by_cases hj : b = j
  · subst hj
    rw [if_pos rfl, if_pos hb, gfvals_get hf]
    unfold gfval
    rw [if_neg hcd.1, if_pos hcd.2]
    simp [gUI]
  · rw [if_neg hj]
    unfold gfvals
    rw [List.getElem?_mapIdx, List.getElem?_mapIdx]
    cases fl[j]? with
    | none => rfl
    | some z =>
      simp only [Option.map_some]
      unfold gfval
      rw [show gUI I k n 0 b x k n 0 j = I k n 0 j from by unfold gUI; rw [if_neg]; rintro ⟨-, -, -, e⟩; exact hj e.symm]
theorem gfvals_set_J {ad : gR → Nat} {k n b : Nat} {fl : List (Nat × Nat)} {dn : Nat} {x : Int64} (hf : fl[b]? = some (1, dn)) : (gfvals ad I J k n fl).set b (.long x) = gfvals ad I (gUJ J k n b x) k n fl := by
  apply List.ext_getElem?
  intro j
  rw [List.getElem?_set, gfvals_len]
  have hb := (List.getElem?_eq_some_iff.mp hf).1
  by_cases hj : b = j
  · subst hj
    rw [if_pos rfl, if_pos hb, gfvals_get hf]
    unfold gfval
    rw [if_pos rfl]
    simp [gUJ]
  · rw [if_neg hj]
    unfold gfvals
    rw [List.getElem?_mapIdx, List.getElem?_mapIdx]
    cases fl[j]? with
    | none => rfl
    | some z =>
      simp only [Option.map_some]
      unfold gfval
      rw [show gUJ J k n b x k n j = J k n j from by unfold gUJ; rw [if_neg]; rintro ⟨-, -, e⟩; exact hj e.symm]
/-- a write of a field, as the heap has it -/
theorem gh_put {p : Program} {e : Env} {R : Room} {s : State} {m : MethodId} {args : Array Value} {below : List Frame} {meth : Method} {cc : Code} {H : Heap} {locs : List Loc} {LS : Array Slot} {Z : State → Prop} {ad : gR → Nat} {n : Nat} {q : gR} {ci b : Nat} {fl : List (Nat × Nat)} {ty : FieldType} {v : Value} {rest : List Value} {I2 : gI} {J2 : gJ}
    (hC : gCx E y p e s m args below meth cc) (hR : gRep E ad I J B H) (hS0 : va_S (gA E) s.heap H locs) (hq : q ∈ gids B) (hd : decode (hb y) pc = .ok (.putfield n, 3)) (ho : gobj q.1 = some (ci, fl)) (hb2 : b < fl.length) (hl : gFl (hy y).cls n ci b) (hfw : gFw ci b ty) (hn : narrow ty v = v) (hfit : fits ty v = true)
    (he : (gfvals ad I J q.1 q.2.1 fl).set b v = gfvals ad I2 J2 q.1 q.2.1 fl) (hoth : ∀ r2 ∈ gids B, r2 ≠ q → genc (gca E) ad I2 J2 B r2 = genc (gca E) ad I J B r2)
    (k : ∀ (H1 : Heap) (locs1 : List Loc), gRep E ad I2 J2 B H1 → va_S (gA E) s.heap H1 locs1 → W p (gl E) e R s m args below meth cc H1 locs1 c w Z (F0 m (pc + 3) LS rest)) : W p (gl E) e R s m args below meth cc H locs c w Z (F0 m pc LS (v :: .ref (ad q) :: rest)) := by
  obtain ⟨hx, hb, hr, hml, hown, hts, hlk, hE⟩ := hC
  obtain ⟨C, T, N, ty0, h1, h2, h3, h4, h5, h6⟩ := hl
  obtain ⟨C', T', N', g1, g2, g3⟩ := hfw
  cases Option.some.inj (g1.symm.trans h1)
  obtain ⟨q0, hq1, hq0⟩ := gws_get (E := E) (ad := ad) (I := I) (J := J) hq
  rw [genc_obj ho] at hq0
  have hlen : b < (gfvals ad I J q.1 q.2.1 fl).length := by rw [gfvals_len]; exact hb2
  rcases h6 with h6 | ⟨host, h6⟩
  · refine va_put (D := gD E) (tys := gtys E) (C := C) (T := T) (N := N) hx hb hts h2 ty0 h4 h5 hown hE.1 hR.1 hR.2.1 hS0 q0 hq0 h1 b h3 (hts _ h6) (fun _ h => h) g2 g3 hn hfit hlen hd (fun H1 locs1 hP hD hS => ?_)
    refine k H1 locs1 (gRep.put (I2 := I2) (J2 := J2) hR hq1 rfl hR.2.2.2 ?_ hoth hP hD) hS
    rw [genc_obj ho, he]
  · refine va_putN (D := gD E) (tys := gtys E) (C := C) (T := T) (N := N) hx hb hts h2 ty0 h4 h5 hown hE.1 hR.1 hR.2.1 hS0 q0 hq0 h1 b h3 (va_Nw.use rfl (hE.2.1 _ h6)) (fun _ h => h) g2 g3 hn hfit hlen hd (fun H1 locs1 hP hD hS => ?_)
    refine k H1 locs1 (gRep.put (I2 := I2) (J2 := J2) hR hq1 rfl hR.2.2.2 ?_ hoth hP hD) hS
    rw [genc_obj ho, he]
theorem gvi_e {v : gV} {k : Int32 → Prop} (h : gvi v k) : ∃ x, v = .inl (.int x) ∧ k x := by
  unfold gvi at h
  split at h
  · exact ⟨_, rfl, h⟩
  · exact absurd h id
theorem gvl_e {v : gV} {k : Int64 → Prop} (h : gvl v k) : ∃ x, v = .inl (.long x) ∧ k x := by
  unfold gvl at h
  split at h
  · exact ⟨_, rfl, h⟩
  · exact absurd h id
theorem gvd_e {v : gV} {k : UInt64 → Prop} (h : gvd v k) : ∃ x, v = .inl (.double x) ∧ k x := by
  unfold gvd at h
  split at h
  · exact ⟨_, rfl, h⟩
  · exact absurd h id
theorem gvr_e {v : gV} {k : gR → Prop} (h : gvr v k) : ∃ x, v = .inr x ∧ k x := by
  unfold gvr at h
  split at h
  · exact ⟨_, rfl, h⟩
  · exact absurd h id
theorem gvn_e {v : gV} {a : Prop} {k : gR → Prop} (h : gvn v a k) : (v = .inl .null ∧ a) ∨ ∃ x, v = .inr x ∧ k x := by
  unfold gvn at h
  split at h
  · exact Or.inr ⟨_, rfl, h⟩
  · exact Or.inl ⟨rfl, h⟩
  · exact absurd h id
theorem fits_bool {x : Int32} (h : x = 0 ∨ x = 1) : narrow .boolean (.int x) = .int x ∧ fits .boolean (.int x) = true := by
  rcases h with rfl | rfl <;> decide
/-- which type a written field has -/
def gFt (cd : Nat) : FieldType := if cd = 1 then .long else if cd = 2 then .boolean else .int
theorem gp_putfield {n a b : Nat} {q : gR} {v : gV} (hd : decode (hb y) pc = .ok (.putfield n, 3)) (hl : ∀ z, gobj a = some z → gFl (hy y).cls n z.1 b ∧ ∀ u, z.2[b]? = some u → u.1 ≤ 2 → gFw z.1 b (gFt u.1)) (k : gfp I J q a b v fun I2 J2 => gG E y (pc + 3) ls r I2 J2 B c w Q X) : gG E y pc ls (v :: .inr q :: r) I J B c w Q X := by
  intro hc hw p e s m args below meth cc ad0 Bs hC hT H locs LS ad hS
  unfold gfp at k
  split at k
  · rename_i x ci fl hqa ho
    have hqa : q.1 = a := Nat.eq_of_beq_eq_true hqa
    subst hqa
    have h3 := gobj_k3 ho
    have hq : q ∈ gids B := gV_ids (gvs_h (gvs_d hS.vs)) h3
    have hz := gobj_0 hq ho
    have hdr := gvs_d (gvs_d hS.vs)
    obtain ⟨hl1, hl2⟩ := hl _ ho
    have hI : ∀ x : Int32, ∀ r2 ∈ gids B, r2 ≠ q → genc (gca E) ad (gUI I q.1 q.2.1 0 b x) J B r2 = genc (gca E) ad I J B r2 := fun x => by
      have h := genc_UI (ca := gca E) (ad := ad) (I := I) (J := J) (B := B) (q := q) (j := b) (x := x)
      rw [hz] at h
      exact h
    split at k
    · rename_i dn hf
      obtain ⟨x, rfl, k⟩ := gvi_e k
      exact gh_put hC hS.1 hS.2.1 hq hd ho (List.getElem?_eq_some_iff.mp hf).1 hl1 (hl2 _ hf (show (0 : Nat) ≤ 2 by decide)) rfl rfl (gfvals_set_I hf ⟨by decide, by decide⟩) (hI x) (fun H1 locs1 hR hS1 => k hc hw p e s m args below meth cc ad0 Bs hC hT H1 locs1 LS ad (hS.ht hR hS1 hdr))
    · rename_i dn hf
      obtain ⟨x, rfl, k⟩ := gvl_e k
      exact gh_put hC hS.1 hS.2.1 hq hd ho (List.getElem?_eq_some_iff.mp hf).1 hl1 (hl2 _ hf (show (1 : Nat) ≤ 2 by decide)) rfl rfl (gfvals_set_J hf) (genc_UJ hq (Or.inl (by rw [ho]; exact fun h => by cases h))) (fun H1 locs1 hR hS1 => k hc hw p e s m args below meth cc ad0 Bs hC hT H1 locs1 LS ad (hS.ht hR hS1 hdr))
    · rename_i dn hf
      obtain ⟨x, rfl, h01, k⟩ := gvi_e k
      exact gh_put hC hS.1 hS.2.1 hq hd ho (List.getElem?_eq_some_iff.mp hf).1 hl1 (hl2 _ hf (show (2 : Nat) ≤ 2 by decide)) (fits_bool h01).1 (fits_bool h01).2 (gfvals_set_I hf ⟨by decide, by decide⟩) (hI x) (fun H1 locs1 hR hS1 => k hc hw p e s m args below meth cc ad0 Bs hC hT H1 locs1 LS ad (hS.ht hR hS1 hdr))
    · exact absurd k id
  · exact absurd k id
/-! rows of numbers -/
theorem garr_k3 {k : Nat} {z : Nat × Nat × Nat} (h : garr k = some z) : 3 ≤ k := by
  unfold garr at h
  split at h <;> first | omega | cases h
theorem gq_ids {q : gR} {z : Nat × Nat × Nat} (h : gVl B q) (ha : garr q.1 = some z) : q ∈ gids B := gV_ids h (garr_k3 ha)
theorem gx_0 (ad : gR → Nat) (H : Heap) (hR : gRep E ad I J B H) (q : gR) (h : gVl B q) (hk : q.1 = 0) : ad q = gax E (0, 0, 0) := by
  rcases h with rfl | h | h | h
  · exact hR.2.2.1 _ (by decide)
  · omega
  · omega
  · exact absurd (gall_k3 q (gids_all h)) (by omega)
theorem gx_1 (ad : gR → Nat) (H : Heap) (hR : gRep E ad I J B H) (q : gR) (h : gVl B q) (hk : q.1 = 1) : ad q = gax E (1, 0, 0) ∨ ad q = gax E (1, 1, 0) := by
  rcases h with rfl | h | h | h
  · exact absurd hk (by decide)
  · obtain ⟨q1, q2, q3⟩ := q
    obtain ⟨h1, h2, h3⟩ := h
    simp only at h1 h2 h3
    subst h1
    subst h3
    rcases (show q2 = 0 ∨ q2 = 1 by omega) with rfl | rfl
    · exact Or.inl (hR.2.2.1 _ (by decide))
    · exact Or.inr (hR.2.2.1 _ (by decide))
  · omega
  · exact absurd (gall_k3 q (gids_all h)) (by omega)
theorem gp_iaload {q : gR} {i : Int32} (hd : decode (hb y) pc = .ok (.iaload, 1)) (k : gial (gL E) (gXs E) I q i fun x => gG E y (pc + 1) ls (.inl (.int x) :: r) I J B c w Q X) : gG E y pc ls (.inl (.int i) :: .inr q :: r) I J B c w Q X := by
  intro hc hw p e s m args below meth cc ad0 Bs hC hT H locs LS ad hS
  have hv := gvs_h (gvs_d hS.vs)
  have hdr := gvs_d (gvs_d hS.vs)
  have hE := hC.2.2.2.2.2.2.2
  unfold gial at k
  split at k
  · rename_i hk
    obtain ⟨hin, k⟩ := k
    have h7 := hE.2.2.2.2.2.2.2.2.1
    have h8 := hE.2.2.2.2.2.2.2.2.2.1
    have e0 : gcv ad (.inr q) = .ref (gax E (0, 0, 0)) := congrArg Value.ref (gx_0 ad H hS.1 q hv hk)
    rw [List.map_cons, List.map_cons, e0]
    exact va_sld hC.1 hC.2.1 h7 h8.2 h8.1 hS.2.1 hin hd (k hc hw p e s m args below meth cc ad0 Bs hC hT H locs LS ad (hS.tk (gvs_n hdr)))
  · rename_i hk
    obtain ⟨hin, k⟩ := k
    have h6 := hE.2.2.2.2.2.1
    rcases gx_1 ad H hS.1 q hv hk with e1 | e1
    · have e0 : gcv ad (.inr q) = .ref (gax E (1, 0, 0)) := congrArg Value.ref e1
      rw [List.map_cons, List.map_cons, e0]
      exact va_ti hC.1 hC.2.1 h6 hS.2.1 hin rfl hd (k hc hw p e s m args below meth cc ad0 Bs hC hT H locs LS ad (hS.tk (gvs_n hdr)))
    · have e0 : gcv ad (.inr q) = .ref (gax E (1, 1, 0)) := congrArg Value.ref e1
      rw [List.map_cons, List.map_cons, e0]
      exact va_ti hC.1 hC.2.1 hE.2.2.2.2.2.2.2.1 hS.2.1 hin rfl hd (k hc hw p e s m args below meth cc ad0 Bs hC hT H locs LS ad (hS.tk (gvs_n hdr)))
  · split at k
    · rename_i n rk ha
      obtain ⟨hin, k⟩ := k
      have hq := gq_ids hv ha
      obtain ⟨q0, -, hq0⟩ := gws_get (E := E) (ad := ad) (I := I) (J := J) hq
      rw [genc_arr ha] at hq0
      exact va_iald hC.1 hC.2.1 hE.1 hS.1.1 q0 0 hq0 rfl hin hd (k hc hw p e s m args below meth cc ad0 Bs hC hT H locs LS ad (hS.tk (gvs_n hdr)))
    · exact absurd k id
theorem gp_baload {q : gR} {i : Int32} (hd : decode (hb y) pc = .ok (.baload, 1)) (k : gbal I q i fun x => gG E y (pc + 1) ls (.inl (.int x) :: r) I J B c w Q X) : gG E y pc ls (.inl (.int i) :: .inr q :: r) I J B c w Q X := by
  intro hc hw p e s m args below meth cc ad0 Bs hC hT H locs LS ad hS
  have hv := gvs_h (gvs_d hS.vs)
  have hdr := gvs_d (gvs_d hS.vs)
  have hE := hC.2.2.2.2.2.2.2
  unfold gbal at k
  split at k
  · rename_i n rk ha
    obtain ⟨hin, k⟩ := k
    obtain ⟨q0, -, hq0⟩ := gws_get (E := E) (ad := ad) (I := I) (J := J) (gq_ids hv ha)
    rw [genc_arr ha] at hq0
    exact va_zald hC.1 hC.2.1 hE.1 hS.1.1 q0 2 hq0 rfl hin hd (k hc hw p e s m args below meth cc ad0 Bs hC hT H locs LS ad (hS.tk (gvs_n hdr)))
  · rename_i n rk ha
    obtain ⟨hin, k⟩ := k
    obtain ⟨q0, -, hq0⟩ := gws_get (E := E) (ad := ad) (I := I) (J := J) (gq_ids hv ha)
    rw [genc_arr ha] at hq0
    exact va_bald hC.1 hC.2.1 hE.1 hS.1.1 q0 3 hq0 rfl hin hd (k hc hw p e s m args below meth cc ad0 Bs hC hT H locs LS ad (hS.tk (gvs_n hdr)))
  · exact absurd k id
theorem gp_laload {q : gR} {i : Int32} (hd : decode (hb y) pc = .ok (.laload, 1)) (k : glal J q i fun x => gG E y (pc + 1) ls (.inl (.long x) :: r) I J B c w Q X) : gG E y pc ls (.inl (.int i) :: .inr q :: r) I J B c w Q X := by
  intro hc hw p e s m args below meth cc ad0 Bs hC hT H locs LS ad hS
  have hv := gvs_h (gvs_d hS.vs)
  have hdr := gvs_d (gvs_d hS.vs)
  have hE := hC.2.2.2.2.2.2.2
  unfold glal at k
  split at k
  · rename_i n rk ha
    obtain ⟨hin, k⟩ := k
    obtain ⟨q0, -, hq0⟩ := gws_get (E := E) (ad := ad) (I := I) (J := J) (gq_ids hv ha)
    rw [genc_arr ha] at hq0
    exact va_lald hC.1 hC.2.1 hE.1 hS.1.1 q0 1 hq0 rfl hin hd (k hc hw p e s m args below meth cc ad0 Bs hC hT H locs LS ad (hS.tk (gvs_n hdr)))
  · exact absurd k id
theorem garr_4 : ∀ (k n rk : Nat), garr k ≠ some (4, n, rk) := by
  intro k n rk h
  unfold garr at h
  split at h <;> cases h
theorem gp_daload {q : gR} {i : Int32} (hd : decode (hb y) pc = .ok (.daload, 1)) (k : gdal J q i fun x => gG E y (pc + 1) ls (.inl (.double x) :: r) I J B c w Q X) : gG E y pc ls (.inl (.int i) :: .inr q :: r) I J B c w Q X := by
  intro hc hw p e s m args below meth cc ad0 Bs hC hT H locs LS ad hS
  have hv := gvs_h (gvs_d hS.vs)
  have hdr := gvs_d (gvs_d hS.vs)
  have hE := hC.2.2.2.2.2.2.2
  unfold gdal at k
  split at k
  · rename_i n rk ha
    exact absurd ha (garr_4 _ _ _)
  · exact absurd k id
theorem gp_iastore {q : gR} {i x : Int32} (hd : decode (hb y) pc = .ok (.iastore, 1)) (k : gias I q i x fun I2 => gG E y (pc + 1) ls r I2 J B c w Q X) : gG E y pc ls (.inl (.int x) :: .inl (.int i) :: .inr q :: r) I J B c w Q X := by
  intro hc hw p e s m args below meth cc ad0 Bs hC hT H locs LS ad hS
  have hv := gvs_h (gvs_d (gvs_d hS.vs))
  have hdr := gvs_d (gvs_d (gvs_d hS.vs))
  have hE := hC.2.2.2.2.2.2.2
  unfold gias at k
  split at k
  · rename_i n rk ha
    obtain ⟨hin, k⟩ := k
    obtain ⟨q0, hq1, hq0⟩ := gws_get (E := E) (ad := ad) (I := I) (J := J) (gq_ids hv ha)
    rw [genc_arr ha] at hq0
    refine va_iast hC.1 hC.2.1 hE.1 hS.1.1 hS.1.2.1 hS.2.1 q0 0 hq0 rfl hin hd (fun H1 locs1 hP hD hS1 => ?_)
    refine k hc hw p e s m args below meth cc ad0 Bs hC hT H1 locs1 LS ad (hS.ht (gRep.put hS.1 hq1 rfl hS.1.2.2.2 ?_ genc_UI hP hD) hS1 hdr)
    rw [genc_arr ha]
    unfold garrE
    simp only
    rw [gUI_eq]
  · exact absurd k id
theorem gp_bastore {q : gR} {i x : Int32} (hd : decode (hb y) pc = .ok (.bastore, 1)) (k : gbas I q i x fun I2 => gG E y (pc + 1) ls r I2 J B c w Q X) : gG E y pc ls (.inl (.int x) :: .inl (.int i) :: .inr q :: r) I J B c w Q X := by
  intro hc hw p e s m args below meth cc ad0 Bs hC hT H locs LS ad hS
  have hv := gvs_h (gvs_d (gvs_d hS.vs))
  have hdr := gvs_d (gvs_d (gvs_d hS.vs))
  have hE := hC.2.2.2.2.2.2.2
  unfold gbas at k
  split at k
  · rename_i n rk ha
    obtain ⟨hin, k⟩ := k
    obtain ⟨q0, hq1, hq0⟩ := gws_get (E := E) (ad := ad) (I := I) (J := J) (gq_ids hv ha)
    rw [genc_arr ha] at hq0
    refine va_zast hC.1 hC.2.1 hE.1 hS.1.1 hS.1.2.1 hS.2.1 q0 2 hq0 rfl hin hd (fun H1 locs1 hP hD hS1 => ?_)
    refine k hc hw p e s m args below meth cc ad0 Bs hC hT H1 locs1 LS ad (hS.ht (gRep.put hS.1 hq1 rfl hS.1.2.2.2 ?_ genc_UI hP hD) hS1 hdr)
    rw [genc_arr ha]
    unfold garrE
    simp only
    rw [gUI_eq]
  · rename_i n rk ha
    obtain ⟨hin, k⟩ := k
    obtain ⟨q0, hq1, hq0⟩ := gws_get (E := E) (ad := ad) (I := I) (J := J) (gq_ids hv ha)
    rw [genc_arr ha] at hq0
    refine va_bast hC.1 hC.2.1 hE.1 hS.1.1 hS.1.2.1 hS.2.1 q0 3 hq0 rfl hin hd (fun H1 locs1 hP hD hS1 => ?_)
    rw [vp_nar_byte] at hP hD
    refine k hc hw p e s m args below meth cc ad0 Bs hC hT H1 locs1 LS ad (hS.ht (gRep.put hS.1 hq1 rfl hS.1.2.2.2 ?_ genc_UI hP hD) hS1 hdr)
    rw [genc_arr ha]
    unfold garrE
    simp only
    rw [gUI_eq]
  · exact absurd k id
theorem gp_lastore {q : gR} {i : Int32} {x : Int64} (hd : decode (hb y) pc = .ok (.lastore, 1)) (k : glas J q i x fun J2 => gG E y (pc + 1) ls r I J2 B c w Q X) : gG E y pc ls (.inl (.long x) :: .inl (.int i) :: .inr q :: r) I J B c w Q X := by
  intro hc hw p e s m args below meth cc ad0 Bs hC hT H locs LS ad hS
  have hv := gvs_h (gvs_d (gvs_d hS.vs))
  have hdr := gvs_d (gvs_d (gvs_d hS.vs))
  have hE := hC.2.2.2.2.2.2.2
  unfold glas at k
  split at k
  · rename_i n rk ha
    obtain ⟨hin, k⟩ := k
    have hq := gq_ids hv ha
    obtain ⟨q0, hq1, hq0⟩ := gws_get (E := E) (ad := ad) (I := I) (J := J) hq
    rw [genc_arr ha] at hq0
    refine va_last hC.1 hC.2.1 hE.1 hS.1.1 hS.1.2.1 hS.2.1 q0 1 hq0 rfl hin hd (fun H1 locs1 hP hD hS1 => ?_)
    refine k hc hw p e s m args below meth cc ad0 Bs hC hT H1 locs1 LS ad (hS.ht (gRep.put hS.1 hq1 rfl hS.1.2.2.2 ?_ (genc_UJ hq (Or.inr (by rw [ha]; simp))) hP hD) hS1 hdr)
    rw [genc_arr ha]
    unfold garrE
    simp only
    rw [gUJ_eq]
  · exact absurd k id
theorem gp_dastore {q : gR} {i : Int32} {x : UInt64} (hd : decode (hb y) pc = .ok (.dastore, 1)) (k : gdas J q i x fun J2 => gG E y (pc + 1) ls r I J2 B c w Q X) : gG E y pc ls (.inl (.double x) :: .inl (.int i) :: .inr q :: r) I J B c w Q X := by
  intro hc hw p e s m args below meth cc ad0 Bs hC hT H locs LS ad hS
  have hv := gvs_h (gvs_d (gvs_d hS.vs))
  have hdr := gvs_d (gvs_d (gvs_d hS.vs))
  have hE := hC.2.2.2.2.2.2.2
  unfold gdas at k
  split at k
  · rename_i n rk ha
    exact absurd ha (garr_4 _ _ _)
  · exact absurd k id
theorem gp_arraylength {q : gR} (hd : decode (hb y) pc = .ok (.arraylength, 1)) (k : gln (gL E) q fun x => gG E y (pc + 1) ls (.inl (.int x) :: r) I J B c w Q X) : gG E y pc ls (.inr q :: r) I J B c w Q X := by
  intro hc hw p e s m args below meth cc ad0 Bs hC hT H locs LS ad hS
  have hv := gvs_h hS.vs
  have hdr := gvs_d hS.vs
  have hE := hC.2.2.2.2.2.2.2
  unfold gln at k
  split at k
  · rename_i hk
    have h7 := hE.2.2.2.2.2.2.2.2.1
    have h8 := hE.2.2.2.2.2.2.2.2.2.1
    have e0 : gcv ad (.inr q) = .ref (gax E (0, 0, 0)) := congrArg Value.ref (gx_0 ad H hS.1 q hv hk)
    rw [List.map_cons, e0]
    exact va_slen hC.1 hC.2.1 h7 h8.2 h8.1 hS.2.1 hd (k hc hw p e s m args below meth cc ad0 Bs hC hT H locs LS ad (hS.tk (gvs_n hdr)))
  · rename_i hk
    have h6 := hE.2.2.2.2.2.1
    rcases gx_1 ad H hS.1 q hv hk with e1 | e1
    · have e0 : gcv ad (.inr q) = .ref (gax E (1, 0, 0)) := congrArg Value.ref e1
      rw [List.map_cons, e0]
      exact va_tlen hC.1 hC.2.1 h6 hS.2.1 rfl hd (k hc hw p e s m args below meth cc ad0 Bs hC hT H locs LS ad (hS.tk (gvs_n hdr)))
    · have e0 : gcv ad (.inr q) = .ref (gax E (1, 1, 0)) := congrArg Value.ref e1
      rw [List.map_cons, e0]
      exact va_tlen hC.1 hC.2.1 hE.2.2.2.2.2.2.2.1 hS.2.1 rfl hd (k hc hw p e s m args below meth cc ad0 Bs hC hT H locs LS ad (hS.tk (gvs_n hdr)))
  · split at k
    · rename_i t n rk ha
      have hq := gq_ids hv ha
      obtain ⟨q0, -, hq0⟩ := gws_get (E := E) (ad := ad) (I := I) (J := J) hq
      rw [genc_arr ha] at hq0
      have hh := k hc hw p e s m args below meth cc ad0 Bs hC hT H locs LS ad (hS.tk (gvs_n hdr))
      unfold garrE at hq0
      split at hq0
      · exact va_alen hC.1 hC.2.1 hE.1 hS.1.1 q0 0 hq0 (ty := .int) rfl rfl hd hh
      · exact va_alen hC.1 hC.2.1 hE.1 hS.1.1 q0 1 hq0 (ty := .long) rfl rfl hd hh
      · exact va_alen hC.1 hC.2.1 hE.1 hS.1.1 q0 2 hq0 (ty := .boolean) rfl rfl hd hh
      · exact va_alen hC.1 hC.2.1 hE.1 hS.1.1 q0 3 hq0 (ty := .byte) rfl rfl hd hh
      · exact va_alen hC.1 hC.2.1 hE.1 hS.1.1 q0 4 hq0 (ty := .boolean) rfl rfl hd hh
      · exact va_alen hC.1 hC.2.1 hE.1 hS.1.1 q0 5 hq0 (ty := .array .int) rfl rfl hd hh
      · exact va_alen hC.1 hC.2.1 hE.1 hS.1.1 q0 6 hq0 (ty := .object "ToeplitzLab$State") rfl rfl hd hh
    · exact absurd k id
theorem gp_getstatic {n : Nat} (hd : decode (hb y) pc = .ok (.getstatic n, 3)) (hl : Cond.fieldLink (hy y).cls n "ToeplitzLab" "PRIMES" "[I" ∈ gBig) (k : gG E y (pc + 3) ls (.inr (1, 0, 0) :: r) I J B c w Q X) : gG E y pc ls r I J B c w Q X := by
  intro hc hw p e s m args below meth cc ad0 Bs hC hT H locs LS ad hS
  have hE := hC.2.2.2.2.2.2.2
  have e2 : ad (1, 0, 0) = gax E (1, 0, 0) := hS.1.2.2.1 _ (by decide)
  refine va_gets hC.1 hC.2.1 hE.2.2.2.2.1 hS.2.1 hC.2.2.2.2.1 (hC.2.2.2.2.2.1 _ hl) (fun _ h => h) hd ?_
  have kk := k hc hw p e s m args below meth cc ad0 Bs hC hT H locs LS ad (hS.tk (gvs_c (Or.inr (Or.inl ⟨rfl, (show (0 : Nat) < 2 by decide), rfl⟩)) hS.vs))
  rw [List.map_cons, show gcv ad (.inr (1, 0, 0)) = .ref (gax E (1, 0, 0)) from congrArg Value.ref e2] at kk
  exact kk
theorem gp_getstatic1 {n : Nat} (hd : decode (hb y) pc = .ok (.getstatic n, 3)) (hl : Cond.fieldLink (hy y).cls n "ToeplitzLabLaw" "PRIMES" "[I" ∈ gBig) (k : gG E y (pc + 3) ls (.inr (1, 1, 0) :: r) I J B c w Q X) : gG E y pc ls r I J B c w Q X := by
  intro hc hw p e s m args below meth cc ad0 Bs hC hT H locs LS ad hS
  have hE := hC.2.2.2.2.2.2.2
  have e2 : ad (1, 1, 0) = gax E (1, 1, 0) := hS.1.2.2.1 _ (by decide)
  refine va_gets hC.1 hC.2.1 hE.2.2.2.2.2.2.1 hS.2.1 hC.2.2.2.2.1 (hC.2.2.2.2.2.1 _ hl) (fun _ h => h) hd ?_
  have kk := k hc hw p e s m args below meth cc ad0 Bs hC hT H locs LS ad (hS.tk (gvs_c (Or.inr (Or.inl ⟨rfl, (show (1 : Nat) < 2 by decide), rfl⟩)) hS.vs))
  rw [List.map_cons, show gcv ad (.inr (1, 1, 0)) = .ref (gax E (1, 1, 0)) from congrArg Value.ref e2] at kk
  exact kk
end GH
