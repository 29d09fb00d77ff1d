/-! ===== all instructions together, stretches, contracts ===== -/
section GW
variable {E : gEn} {y : Nat} {cd : List gE} {hs : gH} {bo : Bool} {Q : gQt} {X : gXt} {rest : List gE} {go : List gE → gM} {ls : List (Nat × gV)} {st r : List gV} {I : gI} {J : gJ} {B : gB} {c w : Nat} {pc len a b : Nat} {v : gV}
theorem gp_switch {d lo hi : Int} {offs : Array Int} {x : Int32} {t : Nat} (hd : decode (hb y) pc = .ok (.tableswitch d lo hi offs, len)) (hx : ((x.toInt < lo ∨ hi < x.toInt) ∧ (pc : Int) + d = (t : Int)) ∨ (¬ x.toInt < lo ∧ ¬ hi < x.toInt ∧ ∃ off, offs[(x.toInt - lo).toNat]? = some off ∧ (pc : Int) + off = (t : Int)))
    (k : gG E y t ls r I J B c w Q X) : gG E y pc ls (.inl (.int x) :: r) I J B c w Q X := by
  intro hc hw p e s m args below meth cc ad0 Bs hC hT H locs LS ad hS
  have kk := k hc hw p e s m args below meth cc ad0 Bs hC hT H locs LS ad (hS.tk (gvs_d hS.vs))
  rcases hx with ⟨h1, h2⟩ | ⟨h1, h2, off, h3, h4⟩
  · exact lv_tableOut hC.1 hC.2.1 hd h1 h2 kk
  · exact lv_tableIn hC.1 hC.2.1 hd h1 h2 h3 h4 kk
theorem gs_tableswitch {d lo hi : Int} {offs : Array Int} (hgo : gGo E y cd Q X go) (hsuf : ∃ pre, cd = pre ++ (pc, len, .tableswitch d lo hi offs, a, b, v) :: rest) (hck : gck1 y (pc, len, .tableswitch d lo hi offs, a, b, v) rest = true) (h : gsem (gC E) cd hs (hmc y) (hms y) (gL E) (gXs E) bo Q X (pc, len, .tableswitch d lo hi offs, a, b, v) rest go ls st I J B c w) : gG E y pc ls st I J B c w Q X := by
  replace h := gpi_e h; obtain ⟨x, r, rfl, h⟩ := h
  obtain ⟨h1, h2⟩ := h
  obtain ⟨k1, k2⟩ := gband (gband (gband hck).2).2
  obtain ⟨k2, k3⟩ := gband k2
  have k1 := of_decide_eq_true k1
  have k3 := of_decide_eq_true k3
  have k2 := List.all_eq_true.mp k2
  simp only at k1 k2 k3 h1 h2
  rw [List.length_map, Array.length_toList] at h2
  by_cases hl : x.toInt < lo
  · exact gp_switch (gdec2 hck) (Or.inl ⟨Or.inl hl, (by omega : (pc : Int) + d = (((pc : Int) + d).toNat : Int))⟩) (hgo.jm (h2 (Or.inl hl)))
  · by_cases hh : hi < x.toInt
    · exact gp_switch (gdec2 hck) (Or.inl ⟨Or.inr hh, (by omega : (pc : Int) + d = (((pc : Int) + d).toNat : Int))⟩) (hgo.jm (h2 (Or.inr (by omega))))
    · have hi2 : (x.toInt - lo).toNat < offs.size := by omega
      have ho : offs[(x.toInt - lo).toNat]? = some offs[(x.toInt - lo).toNat] := Array.getElem?_eq_getElem hi2
      have hm : offs[(x.toInt - lo).toNat] ∈ offs.toList := Array.mem_toList_iff.mpr (Array.getElem_mem hi2)
      have h0 := of_decide_eq_true (k2 _ hm)
      refine gp_switch (gdec2 hck) (Or.inr ⟨hl, hh, _, ho, (by omega : (pc : Int) + offs[(x.toInt - lo).toNat] = (((pc : Int) + offs[(x.toInt - lo).toNat]).toNat : Int))⟩) (hgo.jm (h1 (x.toInt - lo).toNat _ ?_ (by omega)))
      rw [List.getElem?_map, Array.getElem?_toList, ho]
      rfl
theorem gnx {e e2 : gE} {r2 : List gE} (h : gck1 y e (e2 :: r2) = true) : e2.1 = e.1 + e.2.1 := Nat.eq_of_beq_eq_true (gband (gband h).2).1
theorem gs_new {ik : Nat} (hN : gNewOK E) (hgo : gGo E y cd Q X go) (hsuf : ∃ pre, cd = pre ++ (pc, len, .new ik, a, b, v) :: rest) (hck : gck1 y (pc, len, .new ik, a, b, v) rest = true) (h : gsem (gC E) cd hs (hmc y) (hms y) (gL E) (gXs E) bo Q X (pc, len, .new ik, a, b, v) rest go ls st I J B c w) (hcd : gckL y cd = true) (hcl2 : (hy y).cls = gcls (hcl y)) : gG E y pc ls st I J B c w Q X := by
  obtain ⟨pre, hp⟩ := hsuf
  have hall : ∀ {pre2 : List gE} {e2 : gE} {r2 : List gE}, cd = pre2 ++ e2 :: r2 → gck1 y e2 r2 = true := fun h0 => gckL_at (by rw [← h0]; exact hcd)
  by_cases ha : a = 1
  · subst ha
    replace h := gno_e h; obtain ⟨rfl, ⟨h1, h2⟩, h3⟩ := h
    have hk := (gband (gband hck).2).2
    obtain ⟨k1, hk⟩ := gband hk
    obtain ⟨k2, hk⟩ := gband hk
    obtain ⟨k3, hk⟩ := gband hk
    obtain ⟨k4, hk⟩ := gband hk
    have k1 := Nat.eq_of_beq_eq_true k1
    have k2 := List.isEmpty_iff.mp k2
    have k3 := Nat.le_of_ble_eq_true k3
    have k4 := Nat.le_of_ble_eq_true k4
    have hcc : (hy y).cls = RX7 := by rw [hcl2, k1]; rfl
    split at hk
    · rename_i p3 l3 z3 p4 l4 is z4 p6 l6 ic z6 p9 l9 z9 r9
      obtain ⟨m1, hk⟩ := gband hk
      obtain ⟨m2, hk⟩ := gband hk
      obtain ⟨m3, hk⟩ := gband hk
      obtain ⟨m4, hk⟩ := gband hk
      obtain ⟨m5, hk⟩ := gband hk
      obtain ⟨m6, hk⟩ := gband hk
      obtain ⟨m7, hk⟩ := gband hk
      obtain ⟨m8, m9⟩ := gband hk
      have m1 := Nat.eq_of_beq_eq_true m1
      have m2 := Nat.eq_of_beq_eq_true m2
      have m3 := Nat.eq_of_beq_eq_true m3
      have m4 := Nat.eq_of_beq_eq_true m4
      have m5 := Nat.eq_of_beq_eq_true m5
      have m6 := Nat.eq_of_beq_eq_true m6
      have m7 := Nat.eq_of_beq_eq_true m7
      have m8 := Nat.eq_of_beq_eq_true m8
      simp only at m1 m3 m5 m7
      subst m1 m2 m3 m4 m5 m6 m7 m8
      have hl : pc + 3 = pc + len := gnx hck
      have hl : len = 3 := by omega
      subst hl
      have hp1 := hp.trans (List.append_cons _ _ _)
      have hp2 := hp1.trans (List.append_cons _ _ _)
      have hp3 := hp2.trans (List.append_cons _ _ _)
      have d3 := gdec2 (hall hp1)
      have d4 := gdec2 (hall hp2)
      have hp4 := hp3.trans (List.append_cons _ _ _)
      have d6 := gdec2 (hall hp3)
      have d9 := gdec2 (hall hp4)
      exact gp_throw (gdec2 hck) d3 d4 d6 d9 (by rw [hcc]; exact gthrT_ok _ (List.contains_iff_mem.mp m9)) k2 k3 k4 h1 h2 h3
    · rename_i p3 l3 z3 p4 l4 is z4 p6 l6 ic z6 p9 l9 z9 r9
      obtain ⟨m1, hk⟩ := gband hk
      obtain ⟨m2, hk⟩ := gband hk
      obtain ⟨m3, hk⟩ := gband hk
      obtain ⟨m4, hk⟩ := gband hk
      obtain ⟨m5, hk⟩ := gband hk
      obtain ⟨m6, hk⟩ := gband hk
      obtain ⟨m7, hk⟩ := gband hk
      obtain ⟨m8, m9⟩ := gband hk
      have m1 := Nat.eq_of_beq_eq_true m1
      have m2 := Nat.eq_of_beq_eq_true m2
      have m3 := Nat.eq_of_beq_eq_true m3
      have m4 := Nat.eq_of_beq_eq_true m4
      have m5 := Nat.eq_of_beq_eq_true m5
      have m6 := Nat.eq_of_beq_eq_true m6
      have m7 := Nat.eq_of_beq_eq_true m7
      have m8 := Nat.eq_of_beq_eq_true m8
      simp only at m1 m3 m5 m7
      subst m1 m2 m3 m4 m5 m6 m7 m8
      have hl : pc + 3 = pc + len := gnx hck
      have hl : len = 3 := by omega
      subst hl
      have hp1 := hp.trans (List.append_cons _ _ _)
      have hp2 := hp1.trans (List.append_cons _ _ _)
      have hp3 := hp2.trans (List.append_cons _ _ _)
      have d3 := gdec2 (hall hp1)
      have d4 := gdec2 (hall hp2)
      have hp4 := hp3.trans (List.append_cons _ _ _)
      have d6 := gdec2 (hall hp3)
      have d9 := gdec2 (hall hp4)
      exact gp_throwW (gdec2 hck) d3 d4 d6 d9 (by rw [hcc]; exact gthrT_ok _ (List.contains_iff_mem.mp m9)) k2 k3 k4 h1 h2 h3
    · exact absurd hk (by decide)
  · have hk := (gband (gband hck).2).2
    have hsem : Nat.ble (gsum st) 6 = true ∧ ∃ m, (3 ≤ m ∧ m ≤ 12 ∧ B m = false) ∧ (c + 7 ≤ hmc y ∧ w + 142 ≤ hms y) ∧ go (rest.drop 2) ls (.inr (6, m, 0) :: st) (gnwI I m) (gnwJ J m) (gUB B m) (c + 7) (w + 142) := by
      unfold gsem at h
      simp only at h
      exact h
    unfold gck2 at hk
    simp only at hk
    clear h
    obtain ⟨g1, m, g2, g3, g4⟩ := hsem
    obtain ⟨k1, hk⟩ := gband hk
    obtain ⟨k2, hk⟩ := gband hk
    split at hk
    · rename_i p3 l3 z3 p4 l4 ic z4 rest2 _ _
      obtain ⟨m1, hk⟩ := gband hk
      obtain ⟨m2, hk⟩ := gband hk
      obtain ⟨m3, hk⟩ := gband hk
      obtain ⟨m4, hk⟩ := gband hk
      obtain ⟨m5, m6⟩ := gband hk
      have m1 := Nat.eq_of_beq_eq_true m1
      have m2 := Nat.eq_of_beq_eq_true m2
      have m3 := Nat.eq_of_beq_eq_true m3
      have m4 := Nat.eq_of_beq_eq_true m4
      subst m1 m2 m3 m4
      have hl : pc + 3 = pc + len := gnx hck
      have hl : len = 3 := by omega
      subst hl
      have hp1 := hp.trans (List.append_cons _ _ _)
      have hp2 := hp1.trans (List.append_cons _ _ _)
      have hp3 := hp2.trans (List.append_cons _ _ _)
      have d3 := gdec2 (hall hp1)
      have d4 := gdec2 (hall hp2)
      obtain ⟨e7, r7, he, hG⟩ := hgo rest2 ls _ _ _ _ _ _ ⟨_, hp3⟩ g4
      subst he
      have m6 := Nat.eq_of_beq_eq_true m6
      rw [m6] at hG
      refine hN y pc ls st I J B c w Q X ik ic m ?_ hcl2 (gdec2 hck) d3 d4 (Nat.le_of_ble_eq_true k1) (Nat.le_of_ble_eq_true k2) (Nat.le_of_ble_eq_true g1) g2 g3 hG
      rcases Bool.or_eq_true_iff.mp m5 with h | h
      · exact Or.inl (of_decide_eq_true h)
      · exact Or.inr (of_decide_eq_true h)
    · exact absurd hk (by decide)
theorem gsem_ok {e : gE} (hN : gNewOK E) (hgo : gGo E y cd Q X go) (hsuf : ∃ pre, cd = pre ++ e :: rest) (hcd : gckL y cd = true) (hcl2 : (hy y).cls = gcls (hcl y)) (hH : gckH y cd hs = true) (hbo : bo = true ↔ hr y = some .boolean) (h : gsem (gC E) cd hs (hmc y) (hms y) (gL E) (gXs E) bo Q X e rest go ls st I J B c w) : gG E y e.1 ls st I J B c w Q X := by
  have hck : gck1 y e rest = true := by
    obtain ⟨pre, hp⟩ := hsuf
    exact gckL_at (by rw [← hp]; exact hcd)
  obtain ⟨pc, len, ins, a, b, v⟩ := e
  cases ins
  case iadd => exact gs_iadd hgo hsuf hck h 
  case isub => exact gs_isub hgo hsuf hck h 
  case imul => exact gs_imul hgo hsuf hck h 
  case iand => exact gs_iand hgo hsuf hck h 
  case ior => exact gs_ior hgo hsuf hck h 
  case ixor => exact gs_ixor hgo hsuf hck h 
  case ishl => exact gs_ishl hgo hsuf hck h 
  case ishr => exact gs_ishr hgo hsuf hck h 
  case iushr => exact gs_iushr hgo hsuf hck h 
  case idiv => exact gs_idiv hgo hsuf hck h 
  case irem => exact gs_irem hgo hsuf hck h 
  case ladd => exact gs_ladd hgo hsuf hck h 
  case lsub => exact gs_lsub hgo hsuf hck h 
  case lmul => exact gs_lmul hgo hsuf hck h 
  case lcmp => exact gs_lcmp hgo hsuf hck h 
  case ldiv => exact gs_ldiv hgo hsuf hck h 
  case lrem => exact gs_lrem hgo hsuf hck h 
  case ineg => exact gs_ineg hgo hsuf hck h 
  case lneg => exact gs_lneg hgo hsuf hck h 
  case i2l => exact gs_i2l hgo hsuf hck h 
  case l2i => exact gs_l2i hgo hsuf hck h 
  case i2b => exact gs_i2b hgo hsuf hck h 
  case l2d => exact gs_l2d hgo hsuf hck h 
  case ddiv => exact gs_ddiv hgo hsuf hck h 
  case dcmp _ => exact gs_dcmp hgo hsuf hck h 
  case iconst _ => exact gs_iconst hgo hsuf hck h 
  case bipush _ => exact gs_bipush hgo hsuf hck h 
  case sipush _ => exact gs_sipush hgo hsuf hck h 
  case lconst _ => exact gs_lconst hgo hsuf hck h 
  case dconst _ => exact gs_dconst hgo hsuf hck h 
  case ldc _ => exact gs_ldc hgo hsuf hck h 
  case ldc_w _ => exact gs_ldcw hgo hsuf hck h 
  case ldc2_w _ => exact gs_ldc2 hgo hsuf hck h 
  case aconst_null => exact gs_null hgo hsuf hck h 
  case getstatic _ => exact gs_getstatic hgo hsuf hck h hcl2
  case newarray _ => exact gs_newarray hgo hsuf hck h 
  case iload_n _ => exact gs_iload_n hgo hsuf hck h 
  case lload_n _ => exact gs_lload_n hgo hsuf hck h 
  case iload _ => exact gs_iload hgo hsuf hck h 
  case lload _ => exact gs_lload hgo hsuf hck h 
  case dload _ => exact gs_dload hgo hsuf hck h 
  case aload_n _ => exact gs_aload_n hgo hsuf hck h 
  case aload _ => exact gs_aload hgo hsuf hck h 
  case istore_n _ => exact gs_istore_n hgo hsuf hck h 
  case lstore_n _ => exact gs_lstore_n hgo hsuf hck h 
  case istore _ => exact gs_istore hgo hsuf hck h 
  case lstore _ => exact gs_lstore hgo hsuf hck h 
  case dstore _ => exact gs_dstore hgo hsuf hck h 
  case astore_n _ => exact gs_astore_n hgo hsuf hck h 
  case astore _ => exact gs_astore hgo hsuf hck h 
  case iinc _ _ => exact gs_iinc hgo hsuf hck h 
  case pop => exact gs_pop hgo hsuf hck h 
  case dup => exact gs_dup hgo hsuf hck h 
  case dup2 => exact gs_dup2 hgo hsuf hck h 
  case goto _ => exact gs_goto hgo hsuf hck h 
  case ifnull _ => exact gs_ifnull hgo hsuf hck h 
  case ifnonnull _ => exact gs_ifnonnull hgo hsuf hck h 
  case iaload => exact gs_iaload hgo hsuf hck h 
  case baload => exact gs_baload hgo hsuf hck h 
  case laload => exact gs_laload hgo hsuf hck h 
  case daload => exact gs_daload hgo hsuf hck h 
  case aaload => exact gs_aaload hgo hsuf hck h 
  case iastore => exact gs_iastore hgo hsuf hck h 
  case bastore => exact gs_bastore hgo hsuf hck h 
  case lastore => exact gs_lastore hgo hsuf hck h 
  case dastore => exact gs_dastore hgo hsuf hck h 
  case aastore => exact gs_aastore hgo hsuf hck h 
  case arraylength => exact gs_arraylength hgo hsuf hck h 
  case getfield _ => exact gs_getfield hgo hsuf hck h hcl2
  case putfield _ => exact gs_putfield hgo hsuf hck h hcl2
  case ireturn => exact gs_ireturn hgo hsuf hck h hbo
  case lreturn => exact gs_lreturn hgo hsuf hck h 
  case dreturn => exact gs_dreturn hgo hsuf hck h 
  case areturn => exact gs_areturn hgo hsuf hck h 
  case return_ => exact gs_return hgo hsuf hck h 
  case invokevirtual _ => exact gs_invokevirtual hgo hsuf hck h hcd hcl2 hH
  case invokestatic _ => exact gs_invokestatic hgo hsuf hck h hcd hcl2 hH
  case tableswitch _ _ _ _ => exact gs_tableswitch hgo hsuf hck h 
  case new n => exact gs_new hN hgo hsuf hck h hcd hcl2
  case ifCond cc off =>
    cases cc
    case eq => exact gs_if_eq hgo hsuf hck h
    case ne => exact gs_if_ne hgo hsuf hck h
    case lt => exact gs_if_lt hgo hsuf hck h
    case ge => exact gs_if_ge hgo hsuf hck h
    case gt => exact gs_if_gt hgo hsuf hck h
    case le => exact gs_if_le hgo hsuf hck h
  case if_icmp cc off =>
    cases cc
    case eq => exact gs_icmp_eq hgo hsuf hck h
    case ne => exact gs_icmp_ne hgo hsuf hck h
    case lt => exact gs_icmp_lt hgo hsuf hck h
    case ge => exact gs_icmp_ge hgo hsuf hck h
    case gt => exact gs_icmp_gt hgo hsuf hck h
    case le => exact gs_icmp_le hgo hsuf hck h
  all_goals exact absurd h id
theorem gG_run {ct : List (Nat × List Nat)} (hN : gNewOK E) (hcd : gckL y cd = true) (hcl2 : (hy y).cls = gcls (hcl y)) (hH : gckH y cd hs = true) (hbo : bo = true ↔ hr y = some .boolean) : ∀ (n : Nat) (cur : List gE) (ls : List (Nat × gV)) (st : List gV) (I : gI) (J : gJ) (B : gB) (c w : Nat), (∃ pre, cd = pre ++ cur) →
    gstp (gC E) cd hs (hmc y) (hms y) (gL E) (gXs E) bo Q X ct (fun pc ls st I J B c w => gG E y pc ls st I J B c w Q X) n cur ls st I J B c w → ∃ e r, cur = e :: r ∧ gG E y e.1 ls st I J B c w Q X
  | 0, _, _, _, _, _, _, _, _, _, h => absurd h id
  | _ + 1, [], _, _, _, _, _, _, _, _, h => absurd h id
  | n + 1, e :: rest, ls, st, I, J, B, c, w, hs2, h => by
    refine ⟨e, rest, rfl, gsem_ok hN ?_ hs2 hcd hcl2 hH hbo h⟩
    intro cur ls2 st2 I2 J2 B2 c2 w2 hs3 h2
    cases cur with
    | nil => exact absurd h2 id
    | cons e2 r2 =>
      cases hlk : ct.lookup e2.1 with
      | some live => exact ⟨e2, r2, rfl, gp_pick (live := live) (by simpa only [gcut, hlk] using h2)⟩
      | none => exact gG_run hN hcd hcl2 hH hbo n (e2 :: r2) ls2 st2 I2 J2 B2 c2 w2 hs3 (by simpa only [gcut, hlk] using h2)
/-- all that is checked of a method -/
def gFine (y : Nat) (cd : List gE) (hs : gH) (mc ms : Nat) (bo : Bool) : Prop := gckL y cd = true ∧ gckH y cd hs = true ∧ (hy y).cls = gcls (hcl y) ∧ (bo = true ↔ hr y = some .boolean) ∧ plainFor (hy y) = true ∧ hmc y = mc ∧ hms y = ms
theorem gr_s {mc ms n : Nat} {ct : List (Nat × List Nat)} (F : gFine y cd hs mc ms bo) (hN : gNewOK E)
    (h : gstp (gC E) cd hs mc ms (gL E) (gXs E) bo Q X ct (fun pc ls st I J B c w => gG E y pc ls st I J B c w Q X) n (gto cd pc) ls st I J B c w) : gG E y pc ls st I J B c w Q X := by
  obtain ⟨f1, f2, f3, f4, f5, rfl, rfl⟩ := F
  obtain ⟨e, r, he, hG⟩ := gG_run hN f1 f3 f2 f4 n _ ls st I J B c w gto_s h
  rw [← gto_h he]
  exact hG
/-- the places of what a method is called with -/
def gpos : Nat → List gV → List (Nat × gV)
  | _, [] => []
  | i, v :: vs => (i, v) :: gpos (i + gcat v) vs
theorem gpos_cv {ad : gR → Nat} : ∀ (vs : List gV) (i : Nat), (gpos i vs).map (gcp ad) = lv_args i (vs.map (gcv ad))
  | [], _ => rfl
  | v :: vs, i => by
    have h : gcat v = 1 ∨ gcat v = 2 := by
      cases v with
      | inl z => cases z <;> first | exact Or.inl rfl | exact Or.inr rfl
      | inr r => exact Or.inl rfl
    simp only [gpos, List.map_cons, lv_args]
    rw [gpos_cv vs, gcat_cv]
    rcases h with h | h
    · rw [h, if_neg (by decide)]
      rfl
    · rw [h, if_pos rfl]
      rfl
theorem gpos_mem : ∀ (vs : List gV) (i : Nat) (q : Nat × gV), q ∈ gpos i vs → q.2 ∈ vs
  | [], _, _, h => absurd h (by simp [gpos])
  | v :: vs, i, q, h => by
    rcases List.mem_cons.mp h with rfl | h
    · exact List.mem_cons_self
    · exact List.mem_cons_of_mem _ (gpos_mem vs _ q h)
theorem glg_len {ad : gR → Nat} : ∀ (vs : List gV), (lg_sl (vs.map (gcv ad))).length = gsum vs
  | [] => rfl
  | v :: vs => by
    have h : gcat v = 1 ∨ gcat v = 2 := by
      cases v with
      | inl z => cases z <;> first | exact Or.inl rfl | exact Or.inr rfl
      | inr r => exact Or.inl rfl
    have h2 : lg_sl ((v :: vs).map (gcv ad)) = (if (gcv ad v).category = 2 then [Slot.val (gcv ad v), Slot.second] else [Slot.val (gcv ad v)]) ++ lg_sl (vs.map (gcv ad)) := by
      simp [lg_sl]
    rw [h2, List.length_append, glg_len vs, gcat_cv]
    have h3 : gsum (v :: vs) = gcat v + gsum vs := by simp [gsum]
    rw [h3]
    rcases h with h | h
    · rw [h, if_neg (by decide)]
      rfl
    · rw [h, if_pos rfl]
      rfl
theorem gx_ofW {ws ws' : List Cond} {l : Launch} {yn : MethodName} {rm : Room} {Pc : Array Value → State → Prop} {Qc : Array Value → State → Outcome → State → Prop} {XC : String → State → State → Prop} {mc ms : Nat} {free : Addr → Prop} {cc : ByteArray} {maxL : Nat} {ret : Option FieldType} (hp : plainFor yn = true) (hw : ws = Cond.code yn cc maxL ret :: ws')
    (body : ∀ p e s m args below meth c s₁, BodyLoose p l yn (headSpec ws rm) cc maxL ret e s m args below meth c s₁ → c.maxLocals = maxL → (∀ x ∈ c.exceptionTable.toList, False) → Pc args s →
      W p l e (headSpec ws rm).room s m args below meth c s.heap [] 0 0 (vx_MQ below Qc XC args s mc ms free) (entryFrame m args maxL)) : vx_Met l yn ws rm Pc Qc XC mc ms free := by
  refine MetFree.of_bodySF (code := cc) (maxLocals := maxL) (ret := ret) hp ?_ ?_
  · intro args s m h hn
    obtain ⟨meth, c, h1, h2, h3, h4, h5, h6, -, -⟩ := Cond.code_spec hn (atoms_spec (ws := ws) h _ (by rw [hw]; exact List.mem_cons_self))
    exact ⟨meth, c, h1, h2, h3, h4, h5, h6⟩
  · intro p e s m args below meth c s₁ B hml hP _
    have hh0 : s₁.heap = s.heap := by rw [B.state]; rfl
    have ht : ∀ x ∈ c.exceptionTable.toList, False := by
      obtain ⟨meth9, c9, h1, h2, -, -, -, -, h7, -⟩ := Cond.code_spec B.named (atoms_spec (ws := ws) B.pre _ (by rw [hw]; exact List.mem_cons_self))
      cases Option.some.inj (h1.symm.trans B.method)
      cases Option.some.inj (h2.symm.trans (Stand.of_body B).code)
      intro x hx
      rw [Array.isEmpty_iff.mp h7] at hx
      cases hx
    obtain ⟨t, a1, o, b1, b2, b3⟩ := body p e s m args below meth c s₁ B hml ht hP s₁ hh0 (Stand.of_body B)
    exact ⟨t, o, a1, b1, b2, b3⟩
theorem gx_ofWH {ws ws' : List Cond} {l : Launch} {yn : MethodName} {rm : Room} {Pc : Array Value → State → Prop} {Qc : Array Value → State → Outcome → State → Prop} {XC : String → State → State → Prop} {mc ms : Nat} {free : Addr → Prop} {cc : ByteArray} {maxL : Nat} {ret : Option FieldType} {hh : List (Nat × Nat × Nat × Nat)} (hp : plainFor yn = true) (hw : ws = Cond.codeWith yn cc maxL ret hh :: ws')
    (body : ∀ p e s m args below meth c s₁, BodyLoose p l yn (headSpec ws rm) cc maxL ret e s m args below meth c s₁ → c.maxLocals = maxL → Pc args s →
      W p l e (headSpec ws rm).room s m args below meth c s.heap [] 0 0 (vx_MQ below Qc XC args s mc ms free) (entryFrame m args maxL)) : vx_Met l yn ws rm Pc Qc XC mc ms free := by
  refine MetFree.of_bodySF (code := cc) (maxLocals := maxL) (ret := ret) hp ?_ ?_
  · intro args s m h hn
    obtain ⟨m9, meth, c, hn9, h1, h2, h3, h4, -, h5, h6, -⟩ := Cond.codeWith_spec (atoms_spec (ws := ws) h _ (by rw [hw]; exact List.mem_cons_self))
    cases hn.symm.trans hn9
    exact ⟨meth, c, h1, h2, h3, h4, h5, h6⟩
  · intro p e s m args below meth c s₁ B hml hP _
    have hh0 : s₁.heap = s.heap := by rw [B.state]; rfl
    obtain ⟨t, a1, o, b1, b2, b3⟩ := body p e s m args below meth c s₁ B hml hP s₁ hh0 (Stand.of_body B)
    exact ⟨t, o, a1, b1, b2, b3⟩
theorem gC_of {args : List gV} (hp : plainFor (hy y) = true) (hlen : gsum args ≤ hml y) (h : gG E y 0 (gpos 0 args) [] I J B 0 0 Q X) : gC E y args I J B Q X := by
  intro hva ad
  have body : ∀ p e s m (aa : Array Value) below meth c s₁, BodyLoose p (gl E) (hy y) (headSpec (hws y) (hrm y)) (hb y) (hml y) (hr y) e s m aa below meth c s₁ → c.maxLocals = hml y → c.exceptionTable.toList = tableOf (hht y) → va_Pc (args.map (gcv ad)) (fun U => gEv E U U.heap ∧ gRep E ad I J B U.heap) aa s →
      W p (gl E) e (headSpec (hws y) (hrm y)).room s m aa below meth c s.heap [] 0 0 (vx_MQ below (gQc E y ad B Q) (gXc E ad B X) aa s (hmc y) (hms y) (gA E)) (entryFrame m aa (hml y)) := by
    intro p e s m aa below meth c s₁ Bo hml2 hT hv
    obtain ⟨rfl, hE, hR⟩ := hv
    have hts := atoms_spec (ws := hws y) Bo.pre
    have hown : s.vm.findClass (hy y).cls = some m.cls := findClass_of_methodNamed Bo.named
    have hl := lv_entry (args.map (gcv ad)) (n := hml y) (by rw [glg_len]; exact hlen)
    rw [lg_entry_eq]
    rw [← gpos_cv] at hl
    exact h (Nat.zero_le _) (Nat.zero_le _) p e s m _ below meth c ad B ⟨Bo.exec, Bo.bytes, Bo.returns, hml2, hown, fun w hw => hts _ (List.mem_cons_of_mem _ hw), Bo.notSynchronized, hE⟩ hT s.heap [] _ ad
      ⟨hR, va_S.rf, hl, fun _ _ => rfl, fun _ h => h, fun q hq => hva _ (gpos_mem _ _ _ hq), fun v hv => (by cases hv)⟩
  by_cases hh : hht y = []
  · refine gx_ofW hp (hws_code hh) ?_
    intro p e s m aa below meth c s₁ Bo hml2 hx hv
    refine body p e s m aa below meth c s₁ Bo hml2 ?_ hv
    rw [hh]
    cases hl : c.exceptionTable.toList with
    | nil => rfl
    | cons x t => exact absurd (hx x (by rw [hl]; exact List.mem_cons_self)) id
  · have hw : hws y = Cond.codeWith (hy y) (hb y) (hml y) (hr y) (hht y) :: gBig := by
      have h1 : hcw y = Cond.codeWith (hy y) (hb y) (hml y) (hr y) (hht y) := by
        unfold hcw
        cases e : hht y with
        | nil => exact absurd e hh
        | cons a t => rfl
      unfold hws
      rw [h1]
    refine gx_ofWH hp hw ?_
    intro p e s m aa below meth c s₁ Bo hml2 hv
    refine body p e s m aa below meth c s₁ Bo hml2 ?_ hv
    have hts := atoms_spec (ws := hws y) Bo.pre
    exact vx_table (x := hy y) Bo (hts _ (by rw [hw]; exact List.mem_cons_self))
theorem gr_e {args : List gV} {mc ms n : Nat} {ct : List (Nat × List Nat)} (F : gFine y cd hs mc ms bo) (hN : gNewOK E) (hlen : Nat.ble (gsum args) (hml y) = true)
    (h : gstp (gC E) cd hs mc ms (gL E) (gXs E) bo Q X ct (fun pc ls st I J B c w => gG E y pc ls st I J B c w Q X) n (gto cd 0) (gpos 0 args) [] I J B 0 0) : gC E y args I J B Q X := gC_of F.2.2.2.2.1 (Nat.le_of_ble_eq_true hlen) (gr_s F hN h)
end GW
