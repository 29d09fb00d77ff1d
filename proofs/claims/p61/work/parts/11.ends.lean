/-! ===== copies, ends, throws, calls ===== -/
section GH
variable {E : gEn} {y pc : Nat} {ls : List (Nat × gV)} {st r : List gV} {I : gI} {J : gJ} {B : gB} {c w : Nat} {Q : gQt} {X : gXt}
theorem gcpI_ne {s d : gR} {sp dp n a b e : Nat} (h : (a, b, e) ≠ d) : gcpI I s d sp dp n a b e = I a b e := by
  funext j
  unfold gcpI
  rw [if_neg]
  rintro ⟨h1, h2, h3⟩
  exact h (Prod.ext h1 (Prod.ext h2 h3))
theorem gcpI_eq {s d : gR} {sp dp n : Nat} : gcpI I s d sp dp n d.1 d.2.1 d.2.2 = va_cpy (I s.1 s.2.1 s.2.2) (I d.1 d.2.1 d.2.2) sp dp n := by
  funext j
  unfold gcpI
  rw [if_pos ⟨rfl, rfl, rfl⟩]
theorem gcpJ_ne {s d : gR} {sp dp n a b : Nat} (h : ¬ (a = d.1 ∧ b = d.2.1)) : gcpJ J s d sp dp n a b = J a b := by
  funext j
  unfold gcpJ
  rw [if_neg h]
theorem gcpJ_eq {s d : gR} {sp dp n : Nat} : gcpJ J s d sp dp n d.1 d.2.1 = va_cpy (J s.1 s.2.1) (J d.1 d.2.1) sp dp n := by
  funext j
  unfold gcpJ
  rw [if_pos ⟨rfl, rfl⟩]
theorem gsum_cv (ad : gR → Nat) (st : List gV) : ((st.map (gcv ad)).map fun v => v.category).sum = gsum st := by
  unfold gsum
  rw [List.map_map]
  congr 1
  apply List.map_congr_left
  intro v _
  exact gcat_cv ad v
theorem gp_copy {n : Nat} {s0 d : gR} {sp dp k0 : Int32} (hd : decode (hb y) pc = .ok (.invokestatic n, 3)) (hl : Cond.methodLink (hy y).cls n arraycopyName ∈ gBig ∧ Cond.native arraycopyName ∈ gBig ∧ Cond.static arraycopyName ∈ gBig ∧ Cond.initialized "java/lang/System" ∈ gBig) (hfc : 1 ≤ hfr y) (hlc : 26 ≤ hlo y) (hsm : gsum r ≤ 8)
    (k : gcpy I J s0 d sp dp k0 fun I2 J2 => gG E y (pc + 3) ls r I2 J2 B c w Q X) : gG E y pc ls (.inl (.int k0) :: .inl (.int dp) :: .inr d :: .inl (.int sp) :: .inr s0 :: r) I J B c w Q X := by
  intro hc hw p e s m args below meth cc ad0 Bs hC hT H locs LS ad hS
  have hvd := gvs_h (gvs_d (gvs_d hS.vs))
  have hvs := gvs_h (gvs_d (gvs_d (gvs_d (gvs_d hS.vs))))
  have hdr := gvs_d (gvs_d (gvs_d (gvs_d (gvs_d hS.vs))))
  obtain ⟨hx, hb, hr, hml, hown, hts, hlk, hE⟩ := id hC
  obtain ⟨l1, l2, l3, l4⟩ := hl
  have hroom : (((r.map (gcv ad)).map fun v => v.category).sum + (nativeFrameWords "java/lang/System" "arraycopy" 5 + 11)) ≤ (hrm y).locals := by
    rw [gsum_cv]
    show gsum r + (nativeFrameWords "java/lang/System" "arraycopy" 5 + 11) ≤ hlo y
    have : nativeFrameWords "java/lang/System" "arraycopy" 5 = 7 := by decide +kernel
    omega
  unfold gcpy at k
  split at k
  · rename_i n0 r0 n1 r1 ha0 ha1
    obtain ⟨⟨h1, h2, h3, h4, h5, h6⟩, k⟩ := k
    obtain ⟨q0, -, hq0⟩ := gws_get (E := E) (ad := ad) (I := I) (J := J) (gq_ids hvs ha0)
    obtain ⟨q1, hq11, hq1⟩ := gws_get (E := E) (ad := ad) (I := I) (J := J) (gq_ids hvd ha1)
    rw [genc_arr ha0] at hq0
    rw [genc_arr ha1] at hq1
    refine va_copyi hx hb (hml.trans hS.2.2.1.1.symm) hown (hts _ l1) (hts _ l2) (hts _ l3) (hts _ l4) hE.1 hS.1.1 hS.1.2.1 hS.2.1 q0 q1 0 0 hq0 hq1 rfl rfl rfl h1 h2 h3 h4 h5 (fun _ _ => rfl) hfc hroom hd (fun H1 locs1 hP hD hS1 => ?_)
    refine k hc hw p e s m args below meth cc ad0 Bs hC hT H1 locs1 LS ad (hS.ht (gRep.put hS.1 hq11 rfl hS.1.2.2.2 ?_ ?_ hP hD) hS1 hdr)
    · rw [genc_arr ha1]
      unfold garrE
      simp only
      rw [gcpI_eq]
    · intro r2 hr2 hne
      exact genc_cong (gids_all hr2) (gcpI_ne hne) (fun _ => rfl) (fun _ _ _ _ _ => rfl)
  · rename_i n0 r0 n1 r1 ha0 ha1
    obtain ⟨⟨h1, h2, h3, h4, h5, h6⟩, k⟩ := k
    have hqd := gq_ids hvd ha1
    obtain ⟨q0, -, hq0⟩ := gws_get (E := E) (ad := ad) (I := I) (J := J) (gq_ids hvs ha0)
    obtain ⟨q1, hq11, hq1⟩ := gws_get (E := E) (ad := ad) (I := I) (J := J) hqd
    rw [genc_arr ha0] at hq0
    rw [genc_arr ha1] at hq1
    refine va_copyl hx hb (hml.trans hS.2.2.1.1.symm) hown (hts _ l1) (hts _ l2) (hts _ l3) (hts _ l4) hE.1 hS.1.1 hS.1.2.1 hS.2.1 q0 q1 1 1 hq0 hq1 rfl rfl rfl h1 h2 h3 h4 h5 (fun _ _ => rfl) hfc hroom hd (fun H1 locs1 hP hD hS1 => ?_)
    refine k hc hw p e s m args below meth cc ad0 Bs hC hT H1 locs1 LS ad (hS.ht (gRep.put hS.1 hq11 rfl hS.1.2.2.2 ?_ ?_ hP hD) hS1 hdr)
    · rw [genc_arr ha1]
      unfold garrE
      simp only
      rw [gcpJ_eq]
    · intro r2 hr2 hne
      refine genc_cong (gids_all hr2) rfl (fun h => gcpJ_ne ?_) (fun _ _ _ _ _ => rfl)
      rintro ⟨e1, e2⟩
      have z1 : d.2.2 = 0 := by
        rcases gall_i0 d (gids_all hqd) with h | ⟨h, h'⟩
        · exact h
        · rw [ha1] at h'; exact absurd h' (by simp)
      have z2 : r2.2.2 = 0 := by
        rcases gall_i0 r2 (gids_all hr2) with h3 | ⟨h3, h'⟩
        · exact h3
        · rcases h with h | h
          · exact absurd h3 h
          · exact absurd h' h
      exact hne (Prod.ext e1 (Prod.ext e2 (z2.trans z1.symm)))
  · exact absurd k id
/-! ends -/
theorem gfree {E : gEn} {s : State} {H : Heap} {locs : List Loc} (h : va_S (gA E) s.heap H locs) : ∀ q ∈ locs, gA E q.base := h.2.2
theorem gQ_of {ad0 ad : gR → Nat} {Bs : gB} {s t : State} {H : Heap} {locs : List Loc} {v : gV} {args : Array Value} (hR : gRep E ad I J B H) (hS : va_S (gA E) s.heap H locs) (hx : gExt ad0 Bs ad) (hle : gLe Bs B) (hv : gVv B v) (hq : Q v I J B) (ht : t.heap = H) : gQc E y ad0 Bs Q args s (.returned (gout y ad v)) t := ⟨⟨v, I, J, B, ad, rfl, hq, by rw [ht]; exact hR, hx, hle, hv⟩, hS.F ht⟩
theorem gp_ireturn {x : Int32} (hd : decode (hb y) pc = .ok (.ireturn, 1)) (hr : hr y = some .int) (k : Q (.inl (.int x)) I J B) : gG E y pc ls [.inl (.int x)] I J B c w Q X := by
  intro hc hw p e s m args below meth cc ad0 Bs hC hT H locs LS ad hS
  refine vx_ret (W.widen hc hw ?_)
  refine W.iret (v := x) hC.1 hC.2.1 (hC.2.2.1.trans hr) (fun t ht hW => ?_) (gfree hS.2.1) hd hC.2.2.2.2.2.2.1
  have h := gQ_of (y := y) (args := args) (v := .inl (.int x)) hS.1 hS.2.1 hS.2.2.2.1 hS.2.2.2.2.1 trivial k ht
  unfold gout at h
  rw [hr] at h
  exact h
theorem gp_zreturn {x : Int32} {ty : FieldType} (hd : decode (hb y) pc = .ok (.ireturn, 1)) (hr : hr y = some ty) (hn : narrow ty (.int x) = .int x) (k : Q (.inl (.int x)) I J B) : gG E y pc ls [.inl (.int x)] I J B c w Q X := by
  intro hc hw p e s m args below meth cc ad0 Bs hC hT H locs LS ad hS
  refine vx_ret (W.widen hc hw ?_)
  refine W.zret (v := x) hC.1 hC.2.1 (hC.2.2.1.trans hr) hn (fun t ht hW => ?_) (gfree hS.2.1) hd hC.2.2.2.2.2.2.1
  have h := gQ_of (y := y) (args := args) (v := .inl (.int x)) hS.1 hS.2.1 hS.2.2.2.1 hS.2.2.2.2.1 trivial k ht
  unfold gout at h
  rw [hr] at h
  exact h
theorem gp_lreturn {x : Int64} (hd : decode (hb y) pc = .ok (.lreturn, 1)) (hr : hr y = some .long) (k : Q (.inl (.long x)) I J B) : gG E y pc ls [.inl (.long x)] I J B c w Q X := by
  intro hc hw p e s m args below meth cc ad0 Bs hC hT H locs LS ad hS
  refine vx_ret (W.widen hc hw ?_)
  refine W.lret (v := x) hC.1 hC.2.1 (hC.2.2.1.trans hr) (fun t ht hW => ?_) (gfree hS.2.1) hd hC.2.2.2.2.2.2.1
  have h := gQ_of (y := y) (args := args) (v := .inl (.long x)) hS.1 hS.2.1 hS.2.2.2.1 hS.2.2.2.2.1 trivial k ht
  unfold gout at h
  rw [hr] at h
  exact h
theorem gp_dreturn {x : UInt64} (hd : decode (hb y) pc = .ok (.dreturn, 1)) (hr : hr y = some .double) (k : Q (.inl (.double x)) I J B) : gG E y pc ls [.inl (.double x)] I J B c w Q X := by
  intro hc hw p e s m args below meth cc ad0 Bs hC hT H locs LS ad hS
  refine vx_ret (W.widen hc hw ?_)
  refine W.dret (v := x) hC.1 hC.2.1 (hC.2.2.1.trans hr) (fun t ht hW => ?_) (gfree hS.2.1) hd hC.2.2.2.2.2.2.1
  have h := gQ_of (y := y) (args := args) (v := .inl (.double x)) hS.1 hS.2.1 hS.2.2.2.1 hS.2.2.2.2.1 trivial k ht
  unfold gout at h
  rw [hr] at h
  exact h
theorem gp_vreturn (hd : decode (hb y) pc = .ok (.return_, 1)) (hr : hr y = none) (k : Q (.inl .null) I J B) : gG E y pc ls [] I J B c w Q X := by
  intro hc hw p e s m args below meth cc ad0 Bs hC hT H locs LS ad hS
  refine vx_ret (W.widen hc hw ?_)
  refine W.vret hC.1 hC.2.1 (hC.2.2.1.trans hr) (fun t ht hW => ?_) (gfree hS.2.1) hd hC.2.2.2.2.2.2.1
  have h := gQ_of (y := y) (args := args) (v := .inl .null) hS.1 hS.2.1 hS.2.2.2.1 hS.2.2.2.2.1 trivial k ht
  unfold gout at h
  rw [hr] at h
  exact h
theorem gp_areturn {v : gV} {C : String} (hd : decode (hb y) pc = .ok (.areturn, 1)) (hr : hr y = some (.object C)) (hv : v = .inl .null ∨ ∃ q, v = .inr q) (k : Q v I J B) : gG E y pc ls [v] I J B c w Q X := by
  intro hc hw p e s m args below meth cc ad0 Bs hC hT H locs LS ad hS
  refine vx_ret (W.widen hc hw ?_)
  refine W.aret (v := gcv ad v) hC.1 hC.2.1 (hC.2.2.1.trans hr) (Or.inl ⟨C, rfl⟩) ?_ (fun t ht hW => ?_) (gfree hS.2.1) hd hC.2.2.2.2.2.2.1
  · rcases hv with rfl | ⟨q, rfl⟩
    · exact Or.inl rfl
    · exact Or.inr ⟨_, rfl⟩
  · have h := gQ_of (y := y) (args := args) (v := v) hS.1 hS.2.1 hS.2.2.2.1 hS.2.2.2.2.1 (gvs_h hS.vs) k ht
    unfold gout at h
    rw [hr] at h
    exact h
end GH
