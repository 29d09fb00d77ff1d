/-! ===== every row of code does what gsem says (by wip/whole/p20.py) ===== -/
theorem gYc_t : ∀ t ∈ gYc, hht t = [] := by decide +kernel
theorem gYx_t : ∀ t ∈ gYx, hht t ≠ [] := by decide +kernel
theorem gx3_0 {a b c : Prop} : gx3 0 a b c = a := rfl
theorem gx3_1 {a b c : Prop} : gx3 1 a b c = b := rfl
theorem gx3_2 {a b c : Prop} : gx3 2 a b c = c := rfl
def gHcl : List (Nat × Nat) := [(145, 0), (147, 1), (149, 2)]
/-- the handlers of the small machine are those of the method's table -/
def gckH (y : Nat) (cd : List gE) (hs : gH) : Bool := match hs with
  | [] => (hht y).isEmpty
  | _ => Nat.beq (hcl y) 9 && (Nat.beq hs.length (hht y).length && ((hs.zip (hht y)).all (fun q => Nat.beq q.1.1 q.2.1 && (Nat.beq q.1.2.1 q.2.2.1 && (Nat.beq q.1.2.2.1 q.2.2.2.1 && gHcl.contains (q.2.2.2.2, q.1.2.2.2)))) && hs.all (fun z => match gto cd z.2.2.1 with
    | (_, _, .astore_n _, _) :: _ => true
    | (_, _, .astore _, _) :: _ => true
    | _ => false)))

section GZ
variable {E : gEn} {y : Nat} {cd : List gE} {hs : gH} {bo : Bool} {Q : gQt} {X : gXt} {rest : List gE} {go : List gE → gM} {ls : List (Nat × gV)} {st : List gV} {I : gI} {J : gJ} {B : gB} {c w : Nat} {pc len a b : Nat} {v : gV}
theorem gdec2 {ins : Instr} (hck : gck1 y (pc, len, ins, a, b, v) rest = true) : decode (hb y) pc = .ok (ins, len) := of_decide_eq_true (gband hck).1
theorem gG_in (h : c ≤ hmc y → w ≤ hms y → gG E y pc ls st I J B c w Q X) : gG E y pc ls st I J B c w Q X := fun hc hw => h hc hw hc hw
theorem gtgt_e {off : Int} (h : gtgt pc off a = true) : (pc : Int) + off = (a : Int) := of_decide_eq_true h
theorem ghok_of {own : String} : ∀ {hh : List (Nat × Nat × Nat × Nat)} {hs : gH}, own = RL → hs.length = hh.length → (∀ q ∈ hs.zip hh, (Nat.beq q.1.1 q.2.1 && (Nat.beq q.1.2.1 q.2.2.1 && (Nat.beq q.1.2.2.1 q.2.2.2.1 && gHcl.contains (q.2.2.2.2, q.1.2.2.2)))) = true) → gHok own hh hs
  | [], [], _, _, _ => trivial
  | [], _ :: _, _, h, _ => by cases h
  | _ :: _, [], _, h, _ => by cases h
  | (a, b, h, i) :: t, (a2, b2, h2, j) :: t2, ho, hl, hq => by
    have h0 := hq ((a2, b2, h2, j), (a, b, h, i)) (by simp)
    obtain ⟨e1, h0⟩ := gband h0
    obtain ⟨e2, h0⟩ := gband h0
    obtain ⟨e3, h0⟩ := gband h0
    refine ⟨⟨Nat.eq_of_beq_eq_true e1, Nat.eq_of_beq_eq_true e2, Nat.eq_of_beq_eq_true e3, ?_⟩, ghok_of ho (by simpa using hl) (fun q h => hq q (by simp only [List.zip_cons_cons, List.mem_cons]; exact Or.inr h))⟩
    have h1 : (i, j) ∈ gHcl := List.contains_iff_mem.mp h0
    subst ho
    simp only [gHcl, List.mem_cons, List.not_mem_nil, or_false, Prod.mk.injEq] at h1
    rcases h1 with ⟨rfl, rfl⟩ | ⟨rfl, rfl⟩ | ⟨rfl, rfl⟩
    · exact ⟨by decide, by decide, gCl_ok ("ToeplitzLabLaw", 145, "java/lang/IllegalStateException") (by decide +kernel)⟩
    · exact ⟨by decide, by decide, gCl_ok ("ToeplitzLabLaw", 147, "java/lang/IndexOutOfBoundsException") (by decide +kernel)⟩
    · exact ⟨by decide, by decide, gCl_ok ("ToeplitzLabLaw", 149, "java/lang/IllegalArgumentException") (by decide +kernel)⟩
theorem ghf_mem {k h : Nat} : ∀ {hs : gH}, ghf hs pc k = some h → ∃ z ∈ hs, z.2.2.1 = h
  | [], e => by cases e
  | (a, b, h2, j) :: r, e => by
    unfold ghf at e
    split at e
    · cases e
      exact ⟨_, List.mem_cons_self, rfl⟩
    · obtain ⟨z, hz, h3⟩ := ghf_mem e
      exact ⟨z, List.mem_cons_of_mem _ hz, h3⟩
/-- what a handler leads to -/
theorem gh_go {k h : Nat} (hgo : gGo E y cd Q X go) (hcd : gckL y cd = true) (hcl2 : (hy y).cls = gcls (hcl y)) (hne : hs ≠ []) (hH : gckH y cd hs = true) (hk : k < 3) (hf : ghf hs pc k = some h) (h0 : ghg cd h (fun r ls2 => go r ls2 [] I J B c w) ls) : gGx E y pc ls k I J B c w Q X := by
  have hH2 : (Nat.beq (hcl y) 9 && (Nat.beq hs.length (hht y).length && ((hs.zip (hht y)).all (fun q => Nat.beq q.1.1 q.2.1 && (Nat.beq q.1.2.1 q.2.2.1 && (Nat.beq q.1.2.2.1 q.2.2.2.1 && gHcl.contains (q.2.2.2.2, q.1.2.2.2)))) && hs.all (fun z => match gto cd z.2.2.1 with
    | (_, _, .astore_n _, _) :: _ => true
    | (_, _, .astore _, _) :: _ => true
    | _ => false)))) = true := by
    unfold gckH at hH
    split at hH
    · exact absurd rfl hne
    · exact hH
  obtain ⟨c1, hH2⟩ := gband hH2
  obtain ⟨c2, hH2⟩ := gband hH2
  obtain ⟨c3, c4⟩ := gband hH2
  have hok : gHok (hy y).cls (hht y) hs := ghok_of (by rw [hcl2, Nat.eq_of_beq_eq_true c1]; rfl) (Nat.eq_of_beq_eq_true c2) (List.all_eq_true.mp c3)
  obtain ⟨z, hz, hzh⟩ := ghf_mem hf
  have c5 := List.all_eq_true.mp c4 z hz
  rw [hzh] at c5
  unfold ghg at h0
  obtain ⟨pre, hpre⟩ := gto_s (cd := cd) (t := h)
  cases hg : gto cd h with
  | nil => rw [hg] at c5; cases c5
  | cons e r =>
    rw [hg] at c5 h0 hpre
    have ht := gto_h hg
    have hck : gck1 y e r = true := gckL_at (by rw [hpre] at hcd; exact hcd)
    obtain ⟨pc2, len2, ins2, a2, b2, v2⟩ := e
    have hpc : pc2 = h := ht
    subst hpc
    have hst : (∃ j : Fin 4, ins2 = .astore_n j ∧ (j : Nat) = a2 ∧ len2 = 1 ∧ a2 < hml y) ∨ (ins2 = .astore a2 ∧ len2 = 2 ∧ a2 < hml y) := by
      split at c5
      · rename_i heq
        cases heq
        obtain ⟨d1, d2⟩ := gband (gband hck).2
        obtain ⟨d2, d3⟩ := gband d2
        obtain ⟨d3, d4⟩ := gband d3
        exact Or.inl ⟨_, rfl, Nat.eq_of_beq_eq_true d3, Nat.eq_of_beq_eq_true d2, Nat.le_of_ble_eq_true d4⟩
      · rename_i heq
        cases heq
        obtain ⟨d1, d2⟩ := gband (gband hck).2
        obtain ⟨d2, d3⟩ := gband d2
        obtain ⟨d3, d4⟩ := gband d3
        have e4 := Nat.eq_of_beq_eq_true d3
        subst e4
        exact Or.inr ⟨rfl, Nat.eq_of_beq_eq_true d2, Nat.le_of_ble_eq_true d4⟩
      · cases c5
    have hd2 : decode (hb y) pc2 = .ok (ins2, len2) := gdec2 hck
    have hG : gG E y (pc2 + len2) (ls.filter (fun q => !(q.1 == a2) && !(q.1 + 1 == a2 && gcat q.2 == 2))) [] I J B c w Q X := hgo.nx ⟨pre, hpre⟩ hck h0
    clear h0 hck
    rcases hst with ⟨j, e1, e2, e3, e4⟩ | ⟨e1, e2, e3⟩
    · exact gx_catch (h := pc2) (a := a2) (e0 := len2) (ins := ins2) hok hk hf hd2 (Or.inl ⟨j, e1, e2, e3⟩) e4 hG
    · exact gx_catch (h := pc2) (a := a2) (e0 := len2) (ins := ins2) hok hk hf hd2 (Or.inr ⟨e1, e2⟩) e3 hG
theorem gh_no {k : Nat} (hcl2 : (hy y).cls = gcls (hcl y)) (hne : hs ≠ []) (hH : gckH y cd hs = true) (hk : k < 3) (hf : ghf hs pc k = none) (h0 : X k I J B) : gGx E y pc ls k I J B c w Q X := by
  have hH2 : (Nat.beq (hcl y) 9 && (Nat.beq hs.length (hht y).length && ((hs.zip (hht y)).all (fun q => Nat.beq q.1.1 q.2.1 && (Nat.beq q.1.2.1 q.2.2.1 && (Nat.beq q.1.2.2.1 q.2.2.2.1 && gHcl.contains (q.2.2.2.2, q.1.2.2.2)))) && hs.all (fun z => match gto cd z.2.2.1 with
    | (_, _, .astore_n _, _) :: _ => true
    | (_, _, .astore _, _) :: _ => true
    | _ => false)))) = true := by
    unfold gckH at hH
    split at hH
    · exact absurd rfl hne
    · exact hH
  obtain ⟨c1, hH2⟩ := gband hH2
  obtain ⟨c2, hH2⟩ := gband hH2
  obtain ⟨c3, c4⟩ := gband hH2
  have hok : gHok (hy y).cls (hht y) hs := ghok_of (by rw [hcl2, Nat.eq_of_beq_eq_true c1]; rfl) (Nat.eq_of_beq_eq_true c2) (List.all_eq_true.mp c3)
  exact gx_pass hok hk hf h0

theorem gs_iadd  (hgo : gGo E y cd Q X go) (hsuf : ∃ pre, cd = pre ++ (pc, len, .iadd, a, b, v) :: rest) (hck : gck1 y (pc, len, .iadd, a, b, v) rest = true) (h : gsem (gC E) cd hs (hmc y) (hms y) (gL E) (gXs E) bo Q X (pc, len, .iadd, a, b, v) rest go ls st I J B c w)  : gG E y pc ls st I J B c w Q X := by
  replace h := gpi_e h; obtain ⟨z, r, rfl, h⟩ := h
  replace h := gpi_e h; obtain ⟨x, r, rfl, h⟩ := h
  have hl : len = 1 := Nat.eq_of_beq_eq_true (gband (gband hck).2).2
  subst hl
  exact gp_iadd (gdec2 hck) (hgo.nx hsuf hck h)
theorem gs_isub  (hgo : gGo E y cd Q X go) (hsuf : ∃ pre, cd = pre ++ (pc, len, .isub, a, b, v) :: rest) (hck : gck1 y (pc, len, .isub, a, b, v) rest = true) (h : gsem (gC E) cd hs (hmc y) (hms y) (gL E) (gXs E) bo Q X (pc, len, .isub, a, b, v) rest go ls st I J B c w)  : gG E y pc ls st I J B c w Q X := by
  replace h := gpi_e h; obtain ⟨z, r, rfl, h⟩ := h
  replace h := gpi_e h; obtain ⟨x, r, rfl, h⟩ := h
  have hl : len = 1 := Nat.eq_of_beq_eq_true (gband (gband hck).2).2
  subst hl
  exact gp_isub (gdec2 hck) (hgo.nx hsuf hck h)
theorem gs_imul  (hgo : gGo E y cd Q X go) (hsuf : ∃ pre, cd = pre ++ (pc, len, .imul, a, b, v) :: rest) (hck : gck1 y (pc, len, .imul, a, b, v) rest = true) (h : gsem (gC E) cd hs (hmc y) (hms y) (gL E) (gXs E) bo Q X (pc, len, .imul, a, b, v) rest go ls st I J B c w)  : gG E y pc ls st I J B c w Q X := by
  replace h := gpi_e h; obtain ⟨z, r, rfl, h⟩ := h
  replace h := gpi_e h; obtain ⟨x, r, rfl, h⟩ := h
  have hl : len = 1 := Nat.eq_of_beq_eq_true (gband (gband hck).2).2
  subst hl
  exact gp_imul (gdec2 hck) (hgo.nx hsuf hck h)
theorem gs_iand  (hgo : gGo E y cd Q X go) (hsuf : ∃ pre, cd = pre ++ (pc, len, .iand, a, b, v) :: rest) (hck : gck1 y (pc, len, .iand, a, b, v) rest = true) (h : gsem (gC E) cd hs (hmc y) (hms y) (gL E) (gXs E) bo Q X (pc, len, .iand, a, b, v) rest go ls st I J B c w)  : gG E y pc ls st I J B c w Q X := by
  replace h := gpi_e h; obtain ⟨z, r, rfl, h⟩ := h
  replace h := gpi_e h; obtain ⟨x, r, rfl, h⟩ := h
  have hl : len = 1 := Nat.eq_of_beq_eq_true (gband (gband hck).2).2
  subst hl
  exact gp_iand (gdec2 hck) (hgo.nx hsuf hck h)
theorem gs_ior  (hgo : gGo E y cd Q X go) (hsuf : ∃ pre, cd = pre ++ (pc, len, .ior, a, b, v) :: rest) (hck : gck1 y (pc, len, .ior, a, b, v) rest = true) (h : gsem (gC E) cd hs (hmc y) (hms y) (gL E) (gXs E) bo Q X (pc, len, .ior, a, b, v) rest go ls st I J B c w)  : gG E y pc ls st I J B c w Q X := by
  replace h := gpi_e h; obtain ⟨z, r, rfl, h⟩ := h
  replace h := gpi_e h; obtain ⟨x, r, rfl, h⟩ := h
  have hl : len = 1 := Nat.eq_of_beq_eq_true (gband (gband hck).2).2
  subst hl
  exact gp_ior (gdec2 hck) (hgo.nx hsuf hck h)
theorem gs_ixor  (hgo : gGo E y cd Q X go) (hsuf : ∃ pre, cd = pre ++ (pc, len, .ixor, a, b, v) :: rest) (hck : gck1 y (pc, len, .ixor, a, b, v) rest = true) (h : gsem (gC E) cd hs (hmc y) (hms y) (gL E) (gXs E) bo Q X (pc, len, .ixor, a, b, v) rest go ls st I J B c w)  : gG E y pc ls st I J B c w Q X := by
  replace h := gpi_e h; obtain ⟨z, r, rfl, h⟩ := h
  replace h := gpi_e h; obtain ⟨x, r, rfl, h⟩ := h
  have hl : len = 1 := Nat.eq_of_beq_eq_true (gband (gband hck).2).2
  subst hl
  exact gp_ixor (gdec2 hck) (hgo.nx hsuf hck h)
theorem gs_ishl  (hgo : gGo E y cd Q X go) (hsuf : ∃ pre, cd = pre ++ (pc, len, .ishl, a, b, v) :: rest) (hck : gck1 y (pc, len, .ishl, a, b, v) rest = true) (h : gsem (gC E) cd hs (hmc y) (hms y) (gL E) (gXs E) bo Q X (pc, len, .ishl, a, b, v) rest go ls st I J B c w)  : gG E y pc ls st I J B c w Q X := by
  replace h := gpi_e h; obtain ⟨z, r, rfl, h⟩ := h
  replace h := gpi_e h; obtain ⟨x, r, rfl, h⟩ := h
  have hl : len = 1 := Nat.eq_of_beq_eq_true (gband (gband hck).2).2
  subst hl
  exact gp_ishl (gdec2 hck) (hgo.nx hsuf hck h)
theorem gs_ishr  (hgo : gGo E y cd Q X go) (hsuf : ∃ pre, cd = pre ++ (pc, len, .ishr, a, b, v) :: rest) (hck : gck1 y (pc, len, .ishr, a, b, v) rest = true) (h : gsem (gC E) cd hs (hmc y) (hms y) (gL E) (gXs E) bo Q X (pc, len, .ishr, a, b, v) rest go ls st I J B c w)  : gG E y pc ls st I J B c w Q X := by
  replace h := gpi_e h; obtain ⟨z, r, rfl, h⟩ := h
  replace h := gpi_e h; obtain ⟨x, r, rfl, h⟩ := h
  have hl : len = 1 := Nat.eq_of_beq_eq_true (gband (gband hck).2).2
  subst hl
  exact gp_ishr (gdec2 hck) (hgo.nx hsuf hck h)
theorem gs_iushr  (hgo : gGo E y cd Q X go) (hsuf : ∃ pre, cd = pre ++ (pc, len, .iushr, a, b, v) :: rest) (hck : gck1 y (pc, len, .iushr, a, b, v) rest = true) (h : gsem (gC E) cd hs (hmc y) (hms y) (gL E) (gXs E) bo Q X (pc, len, .iushr, a, b, v) rest go ls st I J B c w)  : gG E y pc ls st I J B c w Q X := by
  replace h := gpi_e h; obtain ⟨z, r, rfl, h⟩ := h
  replace h := gpi_e h; obtain ⟨x, r, rfl, h⟩ := h
  have hl : len = 1 := Nat.eq_of_beq_eq_true (gband (gband hck).2).2
  subst hl
  exact gp_iushr (gdec2 hck) (hgo.nx hsuf hck h)
theorem gs_idiv  (hgo : gGo E y cd Q X go) (hsuf : ∃ pre, cd = pre ++ (pc, len, .idiv, a, b, v) :: rest) (hck : gck1 y (pc, len, .idiv, a, b, v) rest = true) (h : gsem (gC E) cd hs (hmc y) (hms y) (gL E) (gXs E) bo Q X (pc, len, .idiv, a, b, v) rest go ls st I J B c w)  : gG E y pc ls st I J B c w Q X := by
  replace h := gpi_e h; obtain ⟨z, r, rfl, h⟩ := h
  replace h := gpi_e h; obtain ⟨x, r, rfl, h⟩ := h
  have hl : len = 1 := Nat.eq_of_beq_eq_true (gband (gband hck).2).2
  subst hl
  exact gp_idiv (gdec2 hck) h.1 (hgo.nx hsuf hck h.2)
theorem gs_irem  (hgo : gGo E y cd Q X go) (hsuf : ∃ pre, cd = pre ++ (pc, len, .irem, a, b, v) :: rest) (hck : gck1 y (pc, len, .irem, a, b, v) rest = true) (h : gsem (gC E) cd hs (hmc y) (hms y) (gL E) (gXs E) bo Q X (pc, len, .irem, a, b, v) rest go ls st I J B c w)  : gG E y pc ls st I J B c w Q X := by
  replace h := gpi_e h; obtain ⟨z, r, rfl, h⟩ := h
  replace h := gpi_e h; obtain ⟨x, r, rfl, h⟩ := h
  have hl : len = 1 := Nat.eq_of_beq_eq_true (gband (gband hck).2).2
  subst hl
  exact gp_irem (gdec2 hck) h.1 (hgo.nx hsuf hck h.2)
theorem gs_ladd  (hgo : gGo E y cd Q X go) (hsuf : ∃ pre, cd = pre ++ (pc, len, .ladd, a, b, v) :: rest) (hck : gck1 y (pc, len, .ladd, a, b, v) rest = true) (h : gsem (gC E) cd hs (hmc y) (hms y) (gL E) (gXs E) bo Q X (pc, len, .ladd, a, b, v) rest go ls st I J B c w)  : gG E y pc ls st I J B c w Q X := by
  replace h := gpl_e h; obtain ⟨z, r, rfl, h⟩ := h
  replace h := gpl_e h; obtain ⟨x, r, rfl, h⟩ := h
  have hl : len = 1 := Nat.eq_of_beq_eq_true (gband (gband hck).2).2
  subst hl
  exact gp_ladd (gdec2 hck) (hgo.nx hsuf hck h)
theorem gs_lsub  (hgo : gGo E y cd Q X go) (hsuf : ∃ pre, cd = pre ++ (pc, len, .lsub, a, b, v) :: rest) (hck : gck1 y (pc, len, .lsub, a, b, v) rest = true) (h : gsem (gC E) cd hs (hmc y) (hms y) (gL E) (gXs E) bo Q X (pc, len, .lsub, a, b, v) rest go ls st I J B c w)  : gG E y pc ls st I J B c w Q X := by
  replace h := gpl_e h; obtain ⟨z, r, rfl, h⟩ := h
  replace h := gpl_e h; obtain ⟨x, r, rfl, h⟩ := h
  have hl : len = 1 := Nat.eq_of_beq_eq_true (gband (gband hck).2).2
  subst hl
  exact gp_lsub (gdec2 hck) (hgo.nx hsuf hck h)
theorem gs_lmul  (hgo : gGo E y cd Q X go) (hsuf : ∃ pre, cd = pre ++ (pc, len, .lmul, a, b, v) :: rest) (hck : gck1 y (pc, len, .lmul, a, b, v) rest = true) (h : gsem (gC E) cd hs (hmc y) (hms y) (gL E) (gXs E) bo Q X (pc, len, .lmul, a, b, v) rest go ls st I J B c w)  : gG E y pc ls st I J B c w Q X := by
  replace h := gpl_e h; obtain ⟨z, r, rfl, h⟩ := h
  replace h := gpl_e h; obtain ⟨x, r, rfl, h⟩ := h
  have hl : len = 1 := Nat.eq_of_beq_eq_true (gband (gband hck).2).2
  subst hl
  exact gp_lmul (gdec2 hck) (hgo.nx hsuf hck h)
theorem gs_lcmp  (hgo : gGo E y cd Q X go) (hsuf : ∃ pre, cd = pre ++ (pc, len, .lcmp, a, b, v) :: rest) (hck : gck1 y (pc, len, .lcmp, a, b, v) rest = true) (h : gsem (gC E) cd hs (hmc y) (hms y) (gL E) (gXs E) bo Q X (pc, len, .lcmp, a, b, v) rest go ls st I J B c w)  : gG E y pc ls st I J B c w Q X := by
  replace h := gpl_e h; obtain ⟨z, r, rfl, h⟩ := h
  replace h := gpl_e h; obtain ⟨x, r, rfl, h⟩ := h
  have hl : len = 1 := Nat.eq_of_beq_eq_true (gband (gband hck).2).2
  subst hl
  exact gp_lcmp (gdec2 hck) (hgo.nx hsuf hck h)
theorem gs_ldiv  (hgo : gGo E y cd Q X go) (hsuf : ∃ pre, cd = pre ++ (pc, len, .ldiv, a, b, v) :: rest) (hck : gck1 y (pc, len, .ldiv, a, b, v) rest = true) (h : gsem (gC E) cd hs (hmc y) (hms y) (gL E) (gXs E) bo Q X (pc, len, .ldiv, a, b, v) rest go ls st I J B c w)  : gG E y pc ls st I J B c w Q X := by
  replace h := gpl_e h; obtain ⟨z, r, rfl, h⟩ := h
  replace h := gpl_e h; obtain ⟨x, r, rfl, h⟩ := h
  have hl : len = 1 := Nat.eq_of_beq_eq_true (gband (gband hck).2).2
  subst hl
  exact gp_ldiv (gdec2 hck) h.1 (hgo.nx hsuf hck h.2)
theorem gs_lrem  (hgo : gGo E y cd Q X go) (hsuf : ∃ pre, cd = pre ++ (pc, len, .lrem, a, b, v) :: rest) (hck : gck1 y (pc, len, .lrem, a, b, v) rest = true) (h : gsem (gC E) cd hs (hmc y) (hms y) (gL E) (gXs E) bo Q X (pc, len, .lrem, a, b, v) rest go ls st I J B c w)  : gG E y pc ls st I J B c w Q X := by
  replace h := gpl_e h; obtain ⟨z, r, rfl, h⟩ := h
  replace h := gpl_e h; obtain ⟨x, r, rfl, h⟩ := h
  have hl : len = 1 := Nat.eq_of_beq_eq_true (gband (gband hck).2).2
  subst hl
  exact gp_lrem (gdec2 hck) h.1 (hgo.nx hsuf hck h.2)
theorem gs_ineg  (hgo : gGo E y cd Q X go) (hsuf : ∃ pre, cd = pre ++ (pc, len, .ineg, a, b, v) :: rest) (hck : gck1 y (pc, len, .ineg, a, b, v) rest = true) (h : gsem (gC E) cd hs (hmc y) (hms y) (gL E) (gXs E) bo Q X (pc, len, .ineg, a, b, v) rest go ls st I J B c w)  : gG E y pc ls st I J B c w Q X := by
  replace h := gpi_e h; obtain ⟨x, r, rfl, h⟩ := h
  have hl : len = 1 := Nat.eq_of_beq_eq_true (gband (gband hck).2).2
  subst hl
  exact gp_ineg (gdec2 hck) (hgo.nx hsuf hck h)
theorem gs_lneg  (hgo : gGo E y cd Q X go) (hsuf : ∃ pre, cd = pre ++ (pc, len, .lneg, a, b, v) :: rest) (hck : gck1 y (pc, len, .lneg, a, b, v) rest = true) (h : gsem (gC E) cd hs (hmc y) (hms y) (gL E) (gXs E) bo Q X (pc, len, .lneg, a, b, v) rest go ls st I J B c w)  : gG E y pc ls st I J B c w Q X := by
  replace h := gpl_e h; obtain ⟨x, r, rfl, h⟩ := h
  have hl : len = 1 := Nat.eq_of_beq_eq_true (gband (gband hck).2).2
  subst hl
  exact gp_lneg (gdec2 hck) (hgo.nx hsuf hck h)
theorem gs_i2l  (hgo : gGo E y cd Q X go) (hsuf : ∃ pre, cd = pre ++ (pc, len, .i2l, a, b, v) :: rest) (hck : gck1 y (pc, len, .i2l, a, b, v) rest = true) (h : gsem (gC E) cd hs (hmc y) (hms y) (gL E) (gXs E) bo Q X (pc, len, .i2l, a, b, v) rest go ls st I J B c w)  : gG E y pc ls st I J B c w Q X := by
  replace h := gpi_e h; obtain ⟨x, r, rfl, h⟩ := h
  have hl : len = 1 := Nat.eq_of_beq_eq_true (gband (gband hck).2).2
  subst hl
  exact gp_i2l (gdec2 hck) (hgo.nx hsuf hck h)
theorem gs_l2i  (hgo : gGo E y cd Q X go) (hsuf : ∃ pre, cd = pre ++ (pc, len, .l2i, a, b, v) :: rest) (hck : gck1 y (pc, len, .l2i, a, b, v) rest = true) (h : gsem (gC E) cd hs (hmc y) (hms y) (gL E) (gXs E) bo Q X (pc, len, .l2i, a, b, v) rest go ls st I J B c w)  : gG E y pc ls st I J B c w Q X := by
  replace h := gpl_e h; obtain ⟨x, r, rfl, h⟩ := h
  have hl : len = 1 := Nat.eq_of_beq_eq_true (gband (gband hck).2).2
  subst hl
  exact gp_l2i (gdec2 hck) (hgo.nx hsuf hck h)
theorem gs_i2b  (hgo : gGo E y cd Q X go) (hsuf : ∃ pre, cd = pre ++ (pc, len, .i2b, a, b, v) :: rest) (hck : gck1 y (pc, len, .i2b, a, b, v) rest = true) (h : gsem (gC E) cd hs (hmc y) (hms y) (gL E) (gXs E) bo Q X (pc, len, .i2b, a, b, v) rest go ls st I J B c w)  : gG E y pc ls st I J B c w Q X := by
  replace h := gpi_e h; obtain ⟨x, r, rfl, h⟩ := h
  have hl : len = 1 := Nat.eq_of_beq_eq_true (gband (gband hck).2).2
  subst hl
  exact gp_i2b (gdec2 hck) (hgo.nx hsuf hck h)
theorem gs_l2d  (hgo : gGo E y cd Q X go) (hsuf : ∃ pre, cd = pre ++ (pc, len, .l2d, a, b, v) :: rest) (hck : gck1 y (pc, len, .l2d, a, b, v) rest = true) (h : gsem (gC E) cd hs (hmc y) (hms y) (gL E) (gXs E) bo Q X (pc, len, .l2d, a, b, v) rest go ls st I J B c w)  : gG E y pc ls st I J B c w Q X := by
  replace h := gpl_e h; obtain ⟨x, r, rfl, h⟩ := h
  have hl : len = 1 := Nat.eq_of_beq_eq_true (gband (gband hck).2).2
  subst hl
  exact gp_l2d (gdec2 hck) (hgo.nx hsuf hck h)
theorem gs_ddiv  (hgo : gGo E y cd Q X go) (hsuf : ∃ pre, cd = pre ++ (pc, len, .ddiv, a, b, v) :: rest) (hck : gck1 y (pc, len, .ddiv, a, b, v) rest = true) (h : gsem (gC E) cd hs (hmc y) (hms y) (gL E) (gXs E) bo Q X (pc, len, .ddiv, a, b, v) rest go ls st I J B c w)  : gG E y pc ls st I J B c w Q X := by
  replace h := gpd_e h; obtain ⟨z, r, rfl, h⟩ := h
  replace h := gpd_e h; obtain ⟨x, r, rfl, h⟩ := h
  have hl : len = 1 := Nat.eq_of_beq_eq_true (gband (gband hck).2).2
  subst hl
  exact gp_ddiv (gdec2 hck) h.1 (hgo.nx hsuf hck h.2)
theorem gs_dcmp {o : CmpOp} (hgo : gGo E y cd Q X go) (hsuf : ∃ pre, cd = pre ++ (pc, len, .dcmp o, a, b, v) :: rest) (hck : gck1 y (pc, len, .dcmp o, a, b, v) rest = true) (h : gsem (gC E) cd hs (hmc y) (hms y) (gL E) (gXs E) bo Q X (pc, len, .dcmp o, a, b, v) rest go ls st I J B c w)  : gG E y pc ls st I J B c w Q X := by
  replace h := gpd_e h; obtain ⟨z, r, rfl, h⟩ := h
  replace h := gpd_e h; obtain ⟨x, r, rfl, h⟩ := h
  have hl : len = 1 := Nat.eq_of_beq_eq_true (gband (gband hck).2).2
  subst hl
  exact gp_dcmp (gdec2 hck) (hgo.nx hsuf hck h)
theorem gs_iconst {n : Int} (hgo : gGo E y cd Q X go) (hsuf : ∃ pre, cd = pre ++ (pc, len, .iconst n, a, b, v) :: rest) (hck : gck1 y (pc, len, .iconst n, a, b, v) rest = true) (h : gsem (gC E) cd hs (hmc y) (hms y) (gL E) (gXs E) bo Q X (pc, len, .iconst n, a, b, v) rest go ls st I J B c w)  : gG E y pc ls st I J B c w Q X := by
  replace h := gvi_e h; obtain ⟨x, rfl, h⟩ := h
  obtain ⟨hl, h2⟩ := gband (gband (gband hck).2).2
  have hl := Nat.eq_of_beq_eq_true hl
  subst hl
  exact gp_iconst (gdec2 hck) (of_decide_eq_true (gvI_e h2 rfl)) (hgo.nx hsuf hck h)
theorem gs_bipush {n : Int} (hgo : gGo E y cd Q X go) (hsuf : ∃ pre, cd = pre ++ (pc, len, .bipush n, a, b, v) :: rest) (hck : gck1 y (pc, len, .bipush n, a, b, v) rest = true) (h : gsem (gC E) cd hs (hmc y) (hms y) (gL E) (gXs E) bo Q X (pc, len, .bipush n, a, b, v) rest go ls st I J B c w)  : gG E y pc ls st I J B c w Q X := by
  replace h := gvi_e h; obtain ⟨x, rfl, h⟩ := h
  obtain ⟨hl, h2⟩ := gband (gband (gband hck).2).2
  have hl := Nat.eq_of_beq_eq_true hl
  subst hl
  exact gp_bipush (gdec2 hck) (of_decide_eq_true (gvI_e h2 rfl)) (hgo.nx hsuf hck h)
theorem gs_sipush {n : Int} (hgo : gGo E y cd Q X go) (hsuf : ∃ pre, cd = pre ++ (pc, len, .sipush n, a, b, v) :: rest) (hck : gck1 y (pc, len, .sipush n, a, b, v) rest = true) (h : gsem (gC E) cd hs (hmc y) (hms y) (gL E) (gXs E) bo Q X (pc, len, .sipush n, a, b, v) rest go ls st I J B c w)  : gG E y pc ls st I J B c w Q X := by
  replace h := gvi_e h; obtain ⟨x, rfl, h⟩ := h
  obtain ⟨hl, h2⟩ := gband (gband (gband hck).2).2
  have hl := Nat.eq_of_beq_eq_true hl
  subst hl
  exact gp_sipush (gdec2 hck) (of_decide_eq_true (gvI_e h2 rfl)) (hgo.nx hsuf hck h)
theorem gs_lconst {n : Fin 2} (hgo : gGo E y cd Q X go) (hsuf : ∃ pre, cd = pre ++ (pc, len, .lconst n, a, b, v) :: rest) (hck : gck1 y (pc, len, .lconst n, a, b, v) rest = true) (h : gsem (gC E) cd hs (hmc y) (hms y) (gL E) (gXs E) bo Q X (pc, len, .lconst n, a, b, v) rest go ls st I J B c w)  : gG E y pc ls st I J B c w Q X := by
  replace h := gvl_e h; obtain ⟨x, rfl, h⟩ := h
  obtain ⟨hl, h2⟩ := gband (gband (gband hck).2).2
  have hl := Nat.eq_of_beq_eq_true hl
  subst hl
  exact gp_lconst (gdec2 hck) (of_decide_eq_true (gvL_e h2 rfl)) (hgo.nx hsuf hck h)
theorem gs_dconst {n : Fin 2} (hgo : gGo E y cd Q X go) (hsuf : ∃ pre, cd = pre ++ (pc, len, .dconst n, a, b, v) :: rest) (hck : gck1 y (pc, len, .dconst n, a, b, v) rest = true) (h : gsem (gC E) cd hs (hmc y) (hms y) (gL E) (gXs E) bo Q X (pc, len, .dconst n, a, b, v) rest go ls st I J B c w)  : gG E y pc ls st I J B c w Q X := by
  obtain ⟨hl, h2⟩ := gband (gband (gband hck).2).2
  have hl := Nat.eq_of_beq_eq_true hl
  subst hl
  have hn : n = 0 := Fin.ext (Nat.eq_of_beq_eq_true h2)
  subst hn
  exact gp_dconst (gdec2 hck) (hgo.nx hsuf hck h)
theorem gs_ldc {n : Nat} (hgo : gGo E y cd Q X go) (hsuf : ∃ pre, cd = pre ++ (pc, len, .ldc n, a, b, v) :: rest) (hck : gck1 y (pc, len, .ldc n, a, b, v) rest = true) (h : gsem (gC E) cd hs (hmc y) (hms y) (gL E) (gXs E) bo Q X (pc, len, .ldc n, a, b, v) rest go ls st I J B c w)  : gG E y pc ls st I J B c w Q X := by
  unfold gsem at h
  simp only at h
  obtain ⟨hl, h2⟩ := gband (gband (gband hck).2).2
  have hl := Nat.eq_of_beq_eq_true hl
  subst hl
  split at h
  · rename_i x
    obtain ⟨z, hz, h3⟩ := List.any_eq_true.mp h2
    obtain ⟨e1, h3⟩ := gband h3
    obtain ⟨e2, e3⟩ := gband h3
    have e1 := of_decide_eq_true e1
    have e2 := Nat.eq_of_beq_eq_true e2
    have e3 := of_decide_eq_true e3
    have h4 := gKi_ok z hz
    simp only at h4
    rw [e1, e2, e3] at h4
    exact gp_ldcI (gdec2 hck) h4 (hgo.nx hsuf hck h)
  rename_i hnoi
  have h := gvr_e h
  obtain ⟨q, rfl, h⟩ := h
  obtain ⟨q1, q2, q3⟩ := q
  simp only at h2
  split at h2
  · rename_i k heq
    cases heq
    obtain ⟨z, hz, h3⟩ := List.any_eq_true.mp h2
    obtain ⟨e1, h3⟩ := gband h3
    obtain ⟨e2, e3⟩ := gband h3
    obtain ⟨z1, z2, z3, z4⟩ := z
    have f1 : z1 = (hy y).cls := of_decide_eq_true e1
    have f2 : z2 = n := Nat.eq_of_beq_eq_true e2
    have f3 : z4 = q2 := Nat.eq_of_beq_eq_true e3
    clear e1 e2 e3 h3
    subst f1
    subst f2
    subst f3
    exact gp_ldcS (gdec2 hck) hz (hgo.nx hsuf hck h)
  · cases h2
  · rename_i heq
    cases heq
  · rename_i hno hno2 hno3
    exact absurd rfl (hno2 _)
theorem gs_ldcw {n : Nat} (hgo : gGo E y cd Q X go) (hsuf : ∃ pre, cd = pre ++ (pc, len, .ldc_w n, a, b, v) :: rest) (hck : gck1 y (pc, len, .ldc_w n, a, b, v) rest = true) (h : gsem (gC E) cd hs (hmc y) (hms y) (gL E) (gXs E) bo Q X (pc, len, .ldc_w n, a, b, v) rest go ls st I J B c w)  : gG E y pc ls st I J B c w Q X := by
  unfold gsem at h
  simp only at h
  split at h
  · rename_i x
    obtain ⟨hl, h2⟩ := gband (gband (gband hck).2).2
    have hl := Nat.eq_of_beq_eq_true hl
    subst hl
    obtain ⟨z, hz, h3⟩ := List.any_eq_true.mp h2
    obtain ⟨e1, h3⟩ := gband h3
    obtain ⟨e2, e3⟩ := gband h3
    have e1 := of_decide_eq_true e1
    have e2 := Nat.eq_of_beq_eq_true e2
    have e3 := of_decide_eq_true e3
    have h4 := gKi_ok z hz
    simp only at h4
    rw [e1, e2, e3] at h4
    exact gp_ldcw (gdec2 hck) h4 (hgo.nx hsuf hck h)
  · exact absurd h id
theorem gs_ldc2 {n : Nat} (hgo : gGo E y cd Q X go) (hsuf : ∃ pre, cd = pre ++ (pc, len, .ldc2_w n, a, b, v) :: rest) (hck : gck1 y (pc, len, .ldc2_w n, a, b, v) rest = true) (h : gsem (gC E) cd hs (hmc y) (hms y) (gL E) (gXs E) bo Q X (pc, len, .ldc2_w n, a, b, v) rest go ls st I J B c w)  : gG E y pc ls st I J B c w Q X := by
  replace h := gvl_e h; obtain ⟨x, rfl, h⟩ := h
  obtain ⟨hl, h2⟩ := gband (gband (gband hck).2).2
  have hl := Nat.eq_of_beq_eq_true hl
  subst hl
  have h2 := gvL_e h2 rfl
  obtain ⟨z, hz, h3⟩ := List.any_eq_true.mp h2
  obtain ⟨e1, h3⟩ := gband h3
  obtain ⟨e2, e3⟩ := gband h3
  have e1 := of_decide_eq_true e1
  have e2 := Nat.eq_of_beq_eq_true e2
  have e3 := of_decide_eq_true e3
  have h4 := gKl_ok z hz
  simp only at h4
  rw [e1, e2, e3] at h4
  exact gp_ldc2 (gdec2 hck) h4 (hgo.nx hsuf hck h)
theorem gs_null  (hgo : gGo E y cd Q X go) (hsuf : ∃ pre, cd = pre ++ (pc, len, .aconst_null, a, b, v) :: rest) (hck : gck1 y (pc, len, .aconst_null, a, b, v) rest = true) (h : gsem (gC E) cd hs (hmc y) (hms y) (gL E) (gXs E) bo Q X (pc, len, .aconst_null, a, b, v) rest go ls st I J B c w)  : gG E y pc ls st I J B c w Q X := by
  have hl : len = 1 := Nat.eq_of_beq_eq_true (gband (gband hck).2).2
  subst hl
  exact gp_null (gdec2 hck) (hgo.nx hsuf hck h)
theorem gs_getstatic {n : Nat} (hgo : gGo E y cd Q X go) (hsuf : ∃ pre, cd = pre ++ (pc, len, .getstatic n, a, b, v) :: rest) (hck : gck1 y (pc, len, .getstatic n, a, b, v) rest = true) (h : gsem (gC E) cd hs (hmc y) (hms y) (gL E) (gXs E) bo Q X (pc, len, .getstatic n, a, b, v) rest go ls st I J B c w) (hcl2 : (hy y).cls = gcls (hcl y)) : gG E y pc ls st I J B c w Q X := by
  obtain ⟨hl, h2⟩ := gband (gband (gband hck).2).2
  have hl := Nat.eq_of_beq_eq_true hl
  subst hl
  rcases Bool.or_eq_true_iff.mp h2 with h2 | h2
  · have h2 := of_decide_eq_true h2
    simp only [Prod.mk.injEq] at h2
    obtain ⟨rfl, h3, rfl⟩ := h2
    have hcc : (hy y).cls = "ToeplitzLab" := by rw [hcl2, h3]; rfl
    exact gp_getstatic (gdec2 hck) (by rw [hcc]; exact gw_pri) (hgo.nx hsuf hck h)
  · have h2 := of_decide_eq_true h2
    simp only [Prod.mk.injEq] at h2
    obtain ⟨rfl, h3, rfl⟩ := h2
    have hcc : (hy y).cls = "ToeplitzLabLaw" := by rw [hcl2, h3]; rfl
    exact gp_getstatic1 (gdec2 hck) (by rw [hcc]; exact gw_prL) (hgo.nx hsuf hck h)
theorem gs_newarray {t : ArrayType} (hgo : gGo E y cd Q X go) (hsuf : ∃ pre, cd = pre ++ (pc, len, .newarray t, a, b, v) :: rest) (hck : gck1 y (pc, len, .newarray t, a, b, v) rest = true) (h : gsem (gC E) cd hs (hmc y) (hms y) (gL E) (gXs E) bo Q X (pc, len, .newarray t, a, b, v) rest go ls st I J B c w)  : gG E y pc ls st I J B c w Q X := by
  replace h := gpi_e h; obtain ⟨x, r, rfl, h⟩ := h
  obtain ⟨hl, h2⟩ := gband (gband (gband hck).2).2
  have hl := Nat.eq_of_beq_eq_true hl
  subst hl
  obtain ⟨h2, h3⟩ := gband h2
  have h2 := of_decide_eq_true h2
  subst h2
  obtain ⟨hx, hst, m, ⟨h100, hg, hB⟩, hr, h⟩ := h
  
  rcases Bool.or_eq_true_iff.mp h3 with h3 | h3
  · obtain ⟨e1, e2⟩ := gband h3
    have e1 := Nat.eq_of_beq_eq_true e1
    have e2 := Nat.eq_of_beq_eq_true e2
    subst e1
    subst e2
    exact gp_newarray (gdec2 hck) rfl hx (show (7 : Nat) ≤ 1000 by decide) h100 hg hB hr (hgo.nx hsuf hck h)
  · obtain ⟨e1, e2⟩ := gband h3
    have e1 := Nat.eq_of_beq_eq_true e1
    have e2 := Nat.eq_of_beq_eq_true e2
    subst e1
    subst e2
    exact gp_newarray (gdec2 hck) rfl hx (show (5 : Nat) ≤ 1000 by decide) h100 hg hB hr (hgo.nx hsuf hck h)
theorem gs_iload_n {j : Fin 4} (hgo : gGo E y cd Q X go) (hsuf : ∃ pre, cd = pre ++ (pc, len, .iload_n j, a, b, v) :: rest) (hck : gck1 y (pc, len, .iload_n j, a, b, v) rest = true) (h : gsem (gC E) cd hs (hmc y) (hms y) (gL E) (gXs E) bo Q X (pc, len, .iload_n j, a, b, v) rest go ls st I J B c w)  : gG E y pc ls st I J B c w Q X := by
  replace h := gldv_e h; obtain ⟨u, hu, h⟩ := h
  replace h := gvi_e h; obtain ⟨x, rfl, h⟩ := h
  obtain ⟨hl, h2⟩ := gband (gband (gband hck).2).2
  have hl := Nat.eq_of_beq_eq_true hl
  subst hl
  exact gp_iload_n (gdec2 hck) (Nat.eq_of_beq_eq_true h2) hu (hgo.nx hsuf hck h)
theorem gs_lload_n {j : Fin 4} (hgo : gGo E y cd Q X go) (hsuf : ∃ pre, cd = pre ++ (pc, len, .lload_n j, a, b, v) :: rest) (hck : gck1 y (pc, len, .lload_n j, a, b, v) rest = true) (h : gsem (gC E) cd hs (hmc y) (hms y) (gL E) (gXs E) bo Q X (pc, len, .lload_n j, a, b, v) rest go ls st I J B c w)  : gG E y pc ls st I J B c w Q X := by
  replace h := gldv_e h; obtain ⟨u, hu, h⟩ := h
  replace h := gvl_e h; obtain ⟨x, rfl, h⟩ := h
  obtain ⟨hl, h2⟩ := gband (gband (gband hck).2).2
  have hl := Nat.eq_of_beq_eq_true hl
  subst hl
  exact gp_lload_n (gdec2 hck) (Nat.eq_of_beq_eq_true h2) hu (hgo.nx hsuf hck h)
theorem gs_iload {j : Nat} (hgo : gGo E y cd Q X go) (hsuf : ∃ pre, cd = pre ++ (pc, len, .iload j, a, b, v) :: rest) (hck : gck1 y (pc, len, .iload j, a, b, v) rest = true) (h : gsem (gC E) cd hs (hmc y) (hms y) (gL E) (gXs E) bo Q X (pc, len, .iload j, a, b, v) rest go ls st I J B c w)  : gG E y pc ls st I J B c w Q X := by
  replace h := gldv_e h; obtain ⟨u, hu, h⟩ := h
  replace h := gvi_e h; obtain ⟨x, rfl, h⟩ := h
  obtain ⟨hl, h2⟩ := gband (gband (gband hck).2).2
  have hl := Nat.eq_of_beq_eq_true hl
  subst hl
  have h2 := Nat.eq_of_beq_eq_true h2
  subst h2
  exact gp_iload (gdec2 hck) hu (hgo.nx hsuf hck h)
theorem gs_lload {j : Nat} (hgo : gGo E y cd Q X go) (hsuf : ∃ pre, cd = pre ++ (pc, len, .lload j, a, b, v) :: rest) (hck : gck1 y (pc, len, .lload j, a, b, v) rest = true) (h : gsem (gC E) cd hs (hmc y) (hms y) (gL E) (gXs E) bo Q X (pc, len, .lload j, a, b, v) rest go ls st I J B c w)  : gG E y pc ls st I J B c w Q X := by
  replace h := gldv_e h; obtain ⟨u, hu, h⟩ := h
  replace h := gvl_e h; obtain ⟨x, rfl, h⟩ := h
  obtain ⟨hl, h2⟩ := gband (gband (gband hck).2).2
  have hl := Nat.eq_of_beq_eq_true hl
  subst hl
  have h2 := Nat.eq_of_beq_eq_true h2
  subst h2
  exact gp_lload (gdec2 hck) hu (hgo.nx hsuf hck h)
theorem gs_dload {j : Nat} (hgo : gGo E y cd Q X go) (hsuf : ∃ pre, cd = pre ++ (pc, len, .dload j, a, b, v) :: rest) (hck : gck1 y (pc, len, .dload j, a, b, v) rest = true) (h : gsem (gC E) cd hs (hmc y) (hms y) (gL E) (gXs E) bo Q X (pc, len, .dload j, a, b, v) rest go ls st I J B c w)  : gG E y pc ls st I J B c w Q X := by
  replace h := gldv_e h; obtain ⟨u, hu, h⟩ := h
  replace h := gvd_e h; obtain ⟨x, rfl, h⟩ := h
  obtain ⟨hl, h2⟩ := gband (gband (gband hck).2).2
  have hl := Nat.eq_of_beq_eq_true hl
  subst hl
  have h2 := Nat.eq_of_beq_eq_true h2
  subst h2
  exact gp_dload (gdec2 hck) hu (hgo.nx hsuf hck h)

theorem gs_aload_n {j : Fin 4} (hgo : gGo E y cd Q X go) (hsuf : ∃ pre, cd = pre ++ (pc, len, .aload_n j, a, b, v) :: rest) (hck : gck1 y (pc, len, .aload_n j, a, b, v) rest = true) (h : gsem (gC E) cd hs (hmc y) (hms y) (gL E) (gXs E) bo Q X (pc, len, .aload_n j, a, b, v) rest go ls st I J B c w)  : gG E y pc ls st I J B c w Q X := by
  replace h := gldv_e h; obtain ⟨u, hu, h⟩ := h
  obtain ⟨hl, h2⟩ := gband (gband (gband hck).2).2
  have hl := Nat.eq_of_beq_eq_true hl
  subst hl
  replace h := gvn_e h; rcases h with ⟨rfl, h⟩ | ⟨x, rfl, h⟩
  · exact gp_aload_nN (gdec2 hck) (Nat.eq_of_beq_eq_true h2) hu (hgo.nx hsuf hck h)
  · exact gp_aload_n (gdec2 hck) (Nat.eq_of_beq_eq_true h2) hu (hgo.nx hsuf hck h)
theorem gs_aload {j : Nat} (hgo : gGo E y cd Q X go) (hsuf : ∃ pre, cd = pre ++ (pc, len, .aload j, a, b, v) :: rest) (hck : gck1 y (pc, len, .aload j, a, b, v) rest = true) (h : gsem (gC E) cd hs (hmc y) (hms y) (gL E) (gXs E) bo Q X (pc, len, .aload j, a, b, v) rest go ls st I J B c w)  : gG E y pc ls st I J B c w Q X := by
  replace h := gldv_e h; obtain ⟨u, hu, h⟩ := h
  obtain ⟨hl, h2⟩ := gband (gband (gband hck).2).2
  have hl := Nat.eq_of_beq_eq_true hl
  subst hl
  have h2 := Nat.eq_of_beq_eq_true h2
  subst h2
  replace h := gvn_e h; rcases h with ⟨rfl, h⟩ | ⟨x, rfl, h⟩
  · exact gp_aloadN (gdec2 hck) hu (hgo.nx hsuf hck h)
  · exact gp_aload (gdec2 hck) hu (hgo.nx hsuf hck h)
theorem gs_istore_n {j : Fin 4} (hgo : gGo E y cd Q X go) (hsuf : ∃ pre, cd = pre ++ (pc, len, .istore_n j, a, b, v) :: rest) (hck : gck1 y (pc, len, .istore_n j, a, b, v) rest = true) (h : gsem (gC E) cd hs (hmc y) (hms y) (gL E) (gXs E) bo Q X (pc, len, .istore_n j, a, b, v) rest go ls st I J B c w)  : gG E y pc ls st I J B c w Q X := by
  replace h := gpi_e h; obtain ⟨x, r, rfl, h⟩ := h
  obtain ⟨hl, h2⟩ := gband (gband (gband hck).2).2
  have hl := Nat.eq_of_beq_eq_true hl
  subst hl
  obtain ⟨h2, h3⟩ := gband h2
  have h2 := Nat.eq_of_beq_eq_true h2
  have h3 := Nat.le_of_ble_eq_true h3
  exact gp_istore_n (gdec2 hck) h2 h3 (hgo.nx hsuf hck h)
theorem gs_lstore_n {j : Fin 4} (hgo : gGo E y cd Q X go) (hsuf : ∃ pre, cd = pre ++ (pc, len, .lstore_n j, a, b, v) :: rest) (hck : gck1 y (pc, len, .lstore_n j, a, b, v) rest = true) (h : gsem (gC E) cd hs (hmc y) (hms y) (gL E) (gXs E) bo Q X (pc, len, .lstore_n j, a, b, v) rest go ls st I J B c w)  : gG E y pc ls st I J B c w Q X := by
  replace h := gpl_e h; obtain ⟨x, r, rfl, h⟩ := h
  obtain ⟨hl, h2⟩ := gband (gband (gband hck).2).2
  have hl := Nat.eq_of_beq_eq_true hl
  subst hl
  obtain ⟨h2, h3⟩ := gband h2
  have h2 := Nat.eq_of_beq_eq_true h2
  have h3 := Nat.le_of_ble_eq_true h3
  exact gp_lstore_n (gdec2 hck) h2 h3 (hgo.nx hsuf hck h)
theorem gs_istore {j : Nat} (hgo : gGo E y cd Q X go) (hsuf : ∃ pre, cd = pre ++ (pc, len, .istore j, a, b, v) :: rest) (hck : gck1 y (pc, len, .istore j, a, b, v) rest = true) (h : gsem (gC E) cd hs (hmc y) (hms y) (gL E) (gXs E) bo Q X (pc, len, .istore j, a, b, v) rest go ls st I J B c w)  : gG E y pc ls st I J B c w Q X := by
  replace h := gpi_e h; obtain ⟨x, r, rfl, h⟩ := h
  obtain ⟨hl, h2⟩ := gband (gband (gband hck).2).2
  have hl := Nat.eq_of_beq_eq_true hl
  subst hl
  obtain ⟨h2, h3⟩ := gband h2
  have h2 := Nat.eq_of_beq_eq_true h2
  have h3 := Nat.le_of_ble_eq_true h3
  subst h2
  exact gp_istore (gdec2 hck) h3 (hgo.nx hsuf hck h)
theorem gs_lstore {j : Nat} (hgo : gGo E y cd Q X go) (hsuf : ∃ pre, cd = pre ++ (pc, len, .lstore j, a, b, v) :: rest) (hck : gck1 y (pc, len, .lstore j, a, b, v) rest = true) (h : gsem (gC E) cd hs (hmc y) (hms y) (gL E) (gXs E) bo Q X (pc, len, .lstore j, a, b, v) rest go ls st I J B c w)  : gG E y pc ls st I J B c w Q X := by
  replace h := gpl_e h; obtain ⟨x, r, rfl, h⟩ := h
  obtain ⟨hl, h2⟩ := gband (gband (gband hck).2).2
  have hl := Nat.eq_of_beq_eq_true hl
  subst hl
  obtain ⟨h2, h3⟩ := gband h2
  have h2 := Nat.eq_of_beq_eq_true h2
  have h3 := Nat.le_of_ble_eq_true h3
  subst h2
  exact gp_lstore (gdec2 hck) h3 (hgo.nx hsuf hck h)
theorem gs_dstore {j : Nat} (hgo : gGo E y cd Q X go) (hsuf : ∃ pre, cd = pre ++ (pc, len, .dstore j, a, b, v) :: rest) (hck : gck1 y (pc, len, .dstore j, a, b, v) rest = true) (h : gsem (gC E) cd hs (hmc y) (hms y) (gL E) (gXs E) bo Q X (pc, len, .dstore j, a, b, v) rest go ls st I J B c w)  : gG E y pc ls st I J B c w Q X := by
  replace h := gpd_e h; obtain ⟨x, r, rfl, h⟩ := h
  obtain ⟨hl, h2⟩ := gband (gband (gband hck).2).2
  have hl := Nat.eq_of_beq_eq_true hl
  subst hl
  obtain ⟨h2, h3⟩ := gband h2
  have h2 := Nat.eq_of_beq_eq_true h2
  have h3 := Nat.le_of_ble_eq_true h3
  subst h2
  exact gp_dstore (gdec2 hck) h3 (hgo.nx hsuf hck h)
theorem gs_astore_n {j : Fin 4} (hgo : gGo E y cd Q X go) (hsuf : ∃ pre, cd = pre ++ (pc, len, .astore_n j, a, b, v) :: rest) (hck : gck1 y (pc, len, .astore_n j, a, b, v) rest = true) (h : gsem (gC E) cd hs (hmc y) (hms y) (gL E) (gXs E) bo Q X (pc, len, .astore_n j, a, b, v) rest go ls st I J B c w)  : gG E y pc ls st I J B c w Q X := by
  replace h := gtop_e h; obtain ⟨u, r, rfl, h⟩ := h
  obtain ⟨hl, h2⟩ := gband (gband (gband hck).2).2
  have hl := Nat.eq_of_beq_eq_true hl
  subst hl
  obtain ⟨h2, h3⟩ := gband h2
  have h2 := Nat.eq_of_beq_eq_true h2
  have h3 := Nat.le_of_ble_eq_true h3
  replace h := gvn_e h; rcases h with ⟨rfl, h⟩ | ⟨x, rfl, h⟩
  · exact gp_astore_nN (gdec2 hck) h2 h3 (hgo.nx hsuf hck h)
  · exact gp_astore_n (gdec2 hck) h2 h3 (hgo.nx hsuf hck h)
theorem gs_astore {j : Nat} (hgo : gGo E y cd Q X go) (hsuf : ∃ pre, cd = pre ++ (pc, len, .astore j, a, b, v) :: rest) (hck : gck1 y (pc, len, .astore j, a, b, v) rest = true) (h : gsem (gC E) cd hs (hmc y) (hms y) (gL E) (gXs E) bo Q X (pc, len, .astore j, a, b, v) rest go ls st I J B c w)  : gG E y pc ls st I J B c w Q X := by
  replace h := gtop_e h; obtain ⟨u, r, rfl, h⟩ := h
  obtain ⟨hl, h2⟩ := gband (gband (gband hck).2).2
  have hl := Nat.eq_of_beq_eq_true hl
  subst hl
  obtain ⟨h2, h3⟩ := gband h2
  have h2 := Nat.eq_of_beq_eq_true h2
  have h3 := Nat.le_of_ble_eq_true h3
  subst h2
  replace h := gvn_e h; rcases h with ⟨rfl, h⟩ | ⟨x, rfl, h⟩
  · exact gp_astoreN (gdec2 hck) h3 (hgo.nx hsuf hck h)
  · exact gp_astore (gdec2 hck) h3 (hgo.nx hsuf hck h)
theorem gs_iinc {j : Nat} {n : Int} (hgo : gGo E y cd Q X go) (hsuf : ∃ pre, cd = pre ++ (pc, len, .iinc j n, a, b, v) :: rest) (hck : gck1 y (pc, len, .iinc j n, a, b, v) rest = true) (h : gsem (gC E) cd hs (hmc y) (hms y) (gL E) (gXs E) bo Q X (pc, len, .iinc j n, a, b, v) rest go ls st I J B c w)  : gG E y pc ls st I J B c w Q X := by
  replace h := gldv_e h; obtain ⟨u, hu, h⟩ := h
  replace h := gvi_e h; obtain ⟨x, rfl, h⟩ := h
  replace h := gvi_e h; obtain ⟨z, rfl, h⟩ := h
  obtain ⟨hl, h2⟩ := gband (gband (gband hck).2).2
  have hl := Nat.eq_of_beq_eq_true hl
  subst hl
  obtain ⟨h2, h3⟩ := gband h2
  have h2 := Nat.eq_of_beq_eq_true h2
  subst h2
  obtain ⟨h3, h4⟩ := gband h3
  exact gp_iinc (gdec2 hck) (of_decide_eq_true (gvI_e h4 rfl)) hu (Nat.le_of_ble_eq_true h3) (hgo.nx hsuf hck h)
theorem gcat_1 {v : gV} {p q : Prop} (h : match gcat v with | 1 => p | _ => q) (hq : ¬ q) : gcat v = 1 ∧ p := by
  split at h
  · rename_i e
    exact ⟨e, h⟩
  · exact absurd h hq
theorem gs_pop  (hgo : gGo E y cd Q X go) (hsuf : ∃ pre, cd = pre ++ (pc, len, .pop, a, b, v) :: rest) (hck : gck1 y (pc, len, .pop, a, b, v) rest = true) (h : gsem (gC E) cd hs (hmc y) (hms y) (gL E) (gXs E) bo Q X (pc, len, .pop, a, b, v) rest go ls st I J B c w)  : gG E y pc ls st I J B c w Q X := by
  replace h := gtop_e h; obtain ⟨u, r, rfl, h⟩ := h
  obtain ⟨h0, h⟩ := gcat_1 h id
  have hl : len = 1 := Nat.eq_of_beq_eq_true (gband (gband hck).2).2
  subst hl
  exact gp_pop h0 (gdec2 hck) (hgo.nx hsuf hck h)
theorem gs_dup  (hgo : gGo E y cd Q X go) (hsuf : ∃ pre, cd = pre ++ (pc, len, .dup, a, b, v) :: rest) (hck : gck1 y (pc, len, .dup, a, b, v) rest = true) (h : gsem (gC E) cd hs (hmc y) (hms y) (gL E) (gXs E) bo Q X (pc, len, .dup, a, b, v) rest go ls st I J B c w)  : gG E y pc ls st I J B c w Q X := by
  replace h := gtop_e h; obtain ⟨u, r, rfl, h⟩ := h
  obtain ⟨h0, h⟩ := gcat_1 h id
  have hl : len = 1 := Nat.eq_of_beq_eq_true (gband (gband hck).2).2
  subst hl
  exact gp_dup h0 (gdec2 hck) (hgo.nx hsuf hck h)
theorem gs_dup2  (hgo : gGo E y cd Q X go) (hsuf : ∃ pre, cd = pre ++ (pc, len, .dup2, a, b, v) :: rest) (hck : gck1 y (pc, len, .dup2, a, b, v) rest = true) (h : gsem (gC E) cd hs (hmc y) (hms y) (gL E) (gXs E) bo Q X (pc, len, .dup2, a, b, v) rest go ls st I J B c w)  : gG E y pc ls st I J B c w Q X := by
  replace h := gtop_e h; obtain ⟨u, r, rfl, h⟩ := h
  have hl : len = 1 := Nat.eq_of_beq_eq_true (gband (gband hck).2).2
  subst hl
  split at h
  · rename_i e
    exact gp_dup2 e (gdec2 hck) (hgo.nx hsuf hck h)
  · rename_i e
    replace h := gtop_e h; obtain ⟨u2, r, rfl, h⟩ := h
    obtain ⟨h0, h⟩ := gcat_1 h id
    have e1 : gcat u = 1 := by
      have h7 : ∀ v : gV, gcat v = 1 ∨ gcat v = 2 := by
        intro v
        cases v with
        | inl z => cases z <;> first | exact Or.inl rfl | exact Or.inr rfl
        | inr z => exact Or.inl rfl
      rcases h7 u with h8 | h8
      · exact h8
      · exact absurd h8 e
    exact gp_dup2b e1 h0 (gdec2 hck) (hgo.nx hsuf hck h)
theorem gs_if_eq {off : Int} (hgo : gGo E y cd Q X go) (hsuf : ∃ pre, cd = pre ++ (pc, len, .ifCond .eq off, a, b, v) :: rest) (hck : gck1 y (pc, len, .ifCond .eq off, a, b, v) rest = true) (h : gsem (gC E) cd hs (hmc y) (hms y) (gL E) (gXs E) bo Q X (pc, len, .ifCond .eq off, a, b, v) rest go ls st I J B c w)  : gG E y pc ls st I J B c w Q X := by
  replace h := gpi_e h; obtain ⟨x, r, rfl, h⟩ := h
  obtain ⟨hl, h2⟩ := gband (gband (gband hck).2).2
  have hl := Nat.eq_of_beq_eq_true hl
  subst hl
  have ht := gtgt_e h2
  exact gp_if_eq (gdec2 hck) ht (fun e => hgo.jm (h.1 e)) (fun e => hgo.nx hsuf hck (h.2 e))
theorem gs_if_ne {off : Int} (hgo : gGo E y cd Q X go) (hsuf : ∃ pre, cd = pre ++ (pc, len, .ifCond .ne off, a, b, v) :: rest) (hck : gck1 y (pc, len, .ifCond .ne off, a, b, v) rest = true) (h : gsem (gC E) cd hs (hmc y) (hms y) (gL E) (gXs E) bo Q X (pc, len, .ifCond .ne off, a, b, v) rest go ls st I J B c w)  : gG E y pc ls st I J B c w Q X := by
  replace h := gpi_e h; obtain ⟨x, r, rfl, h⟩ := h
  obtain ⟨hl, h2⟩ := gband (gband (gband hck).2).2
  have hl := Nat.eq_of_beq_eq_true hl
  subst hl
  have ht := gtgt_e h2
  exact gp_if_ne (gdec2 hck) ht (fun e => hgo.jm (h.1 e)) (fun e => hgo.nx hsuf hck (h.2 e))
theorem gs_if_lt {off : Int} (hgo : gGo E y cd Q X go) (hsuf : ∃ pre, cd = pre ++ (pc, len, .ifCond .lt off, a, b, v) :: rest) (hck : gck1 y (pc, len, .ifCond .lt off, a, b, v) rest = true) (h : gsem (gC E) cd hs (hmc y) (hms y) (gL E) (gXs E) bo Q X (pc, len, .ifCond .lt off, a, b, v) rest go ls st I J B c w)  : gG E y pc ls st I J B c w Q X := by
  replace h := gpi_e h; obtain ⟨x, r, rfl, h⟩ := h
  obtain ⟨hl, h2⟩ := gband (gband (gband hck).2).2
  have hl := Nat.eq_of_beq_eq_true hl
  subst hl
  have ht := gtgt_e h2
  exact gp_if_lt (gdec2 hck) ht (fun e => hgo.jm (h.1 e)) (fun e => hgo.nx hsuf hck (h.2 e))
theorem gs_if_ge {off : Int} (hgo : gGo E y cd Q X go) (hsuf : ∃ pre, cd = pre ++ (pc, len, .ifCond .ge off, a, b, v) :: rest) (hck : gck1 y (pc, len, .ifCond .ge off, a, b, v) rest = true) (h : gsem (gC E) cd hs (hmc y) (hms y) (gL E) (gXs E) bo Q X (pc, len, .ifCond .ge off, a, b, v) rest go ls st I J B c w)  : gG E y pc ls st I J B c w Q X := by
  replace h := gpi_e h; obtain ⟨x, r, rfl, h⟩ := h
  obtain ⟨hl, h2⟩ := gband (gband (gband hck).2).2
  have hl := Nat.eq_of_beq_eq_true hl
  subst hl
  have ht := gtgt_e h2
  exact gp_if_ge (gdec2 hck) ht (fun e => hgo.jm (h.1 e)) (fun e => hgo.nx hsuf hck (h.2 e))
theorem gs_if_gt {off : Int} (hgo : gGo E y cd Q X go) (hsuf : ∃ pre, cd = pre ++ (pc, len, .ifCond .gt off, a, b, v) :: rest) (hck : gck1 y (pc, len, .ifCond .gt off, a, b, v) rest = true) (h : gsem (gC E) cd hs (hmc y) (hms y) (gL E) (gXs E) bo Q X (pc, len, .ifCond .gt off, a, b, v) rest go ls st I J B c w)  : gG E y pc ls st I J B c w Q X := by
  replace h := gpi_e h; obtain ⟨x, r, rfl, h⟩ := h
  obtain ⟨hl, h2⟩ := gband (gband (gband hck).2).2
  have hl := Nat.eq_of_beq_eq_true hl
  subst hl
  have ht := gtgt_e h2
  exact gp_if_gt (gdec2 hck) ht (fun e => hgo.jm (h.1 e)) (fun e => hgo.nx hsuf hck (h.2 e))
theorem gs_if_le {off : Int} (hgo : gGo E y cd Q X go) (hsuf : ∃ pre, cd = pre ++ (pc, len, .ifCond .le off, a, b, v) :: rest) (hck : gck1 y (pc, len, .ifCond .le off, a, b, v) rest = true) (h : gsem (gC E) cd hs (hmc y) (hms y) (gL E) (gXs E) bo Q X (pc, len, .ifCond .le off, a, b, v) rest go ls st I J B c w)  : gG E y pc ls st I J B c w Q X := by
  replace h := gpi_e h; obtain ⟨x, r, rfl, h⟩ := h
  obtain ⟨hl, h2⟩ := gband (gband (gband hck).2).2
  have hl := Nat.eq_of_beq_eq_true hl
  subst hl
  have ht := gtgt_e h2
  exact gp_if_le (gdec2 hck) ht (fun e => hgo.jm (h.1 e)) (fun e => hgo.nx hsuf hck (h.2 e))
theorem gs_icmp_eq {off : Int} (hgo : gGo E y cd Q X go) (hsuf : ∃ pre, cd = pre ++ (pc, len, .if_icmp .eq off, a, b, v) :: rest) (hck : gck1 y (pc, len, .if_icmp .eq off, a, b, v) rest = true) (h : gsem (gC E) cd hs (hmc y) (hms y) (gL E) (gXs E) bo Q X (pc, len, .if_icmp .eq off, a, b, v) rest go ls st I J B c w)  : gG E y pc ls st I J B c w Q X := by
  replace h := gpi_e h; obtain ⟨z, r, rfl, h⟩ := h
  replace h := gpi_e h; obtain ⟨x, r, rfl, h⟩ := h
  obtain ⟨hl, h2⟩ := gband (gband (gband hck).2).2
  have hl := Nat.eq_of_beq_eq_true hl
  subst hl
  have ht := gtgt_e h2
  exact gp_icmp_eq (gdec2 hck) ht (fun e => hgo.jm (h.1 e)) (fun e => hgo.nx hsuf hck (h.2 e))
theorem gs_icmp_ne {off : Int} (hgo : gGo E y cd Q X go) (hsuf : ∃ pre, cd = pre ++ (pc, len, .if_icmp .ne off, a, b, v) :: rest) (hck : gck1 y (pc, len, .if_icmp .ne off, a, b, v) rest = true) (h : gsem (gC E) cd hs (hmc y) (hms y) (gL E) (gXs E) bo Q X (pc, len, .if_icmp .ne off, a, b, v) rest go ls st I J B c w)  : gG E y pc ls st I J B c w Q X := by
  replace h := gpi_e h; obtain ⟨z, r, rfl, h⟩ := h
  replace h := gpi_e h; obtain ⟨x, r, rfl, h⟩ := h
  obtain ⟨hl, h2⟩ := gband (gband (gband hck).2).2
  have hl := Nat.eq_of_beq_eq_true hl
  subst hl
  have ht := gtgt_e h2
  exact gp_icmp_ne (gdec2 hck) ht (fun e => hgo.jm (h.1 e)) (fun e => hgo.nx hsuf hck (h.2 e))
theorem gs_icmp_lt {off : Int} (hgo : gGo E y cd Q X go) (hsuf : ∃ pre, cd = pre ++ (pc, len, .if_icmp .lt off, a, b, v) :: rest) (hck : gck1 y (pc, len, .if_icmp .lt off, a, b, v) rest = true) (h : gsem (gC E) cd hs (hmc y) (hms y) (gL E) (gXs E) bo Q X (pc, len, .if_icmp .lt off, a, b, v) rest go ls st I J B c w)  : gG E y pc ls st I J B c w Q X := by
  replace h := gpi_e h; obtain ⟨z, r, rfl, h⟩ := h
  replace h := gpi_e h; obtain ⟨x, r, rfl, h⟩ := h
  obtain ⟨hl, h2⟩ := gband (gband (gband hck).2).2
  have hl := Nat.eq_of_beq_eq_true hl
  subst hl
  have ht := gtgt_e h2
  exact gp_icmp_lt (gdec2 hck) ht (fun e => hgo.jm (h.1 e)) (fun e => hgo.nx hsuf hck (h.2 e))
theorem gs_icmp_ge {off : Int} (hgo : gGo E y cd Q X go) (hsuf : ∃ pre, cd = pre ++ (pc, len, .if_icmp .ge off, a, b, v) :: rest) (hck : gck1 y (pc, len, .if_icmp .ge off, a, b, v) rest = true) (h : gsem (gC E) cd hs (hmc y) (hms y) (gL E) (gXs E) bo Q X (pc, len, .if_icmp .ge off, a, b, v) rest go ls st I J B c w)  : gG E y pc ls st I J B c w Q X := by
  replace h := gpi_e h; obtain ⟨z, r, rfl, h⟩ := h
  replace h := gpi_e h; obtain ⟨x, r, rfl, h⟩ := h
  obtain ⟨hl, h2⟩ := gband (gband (gband hck).2).2
  have hl := Nat.eq_of_beq_eq_true hl
  subst hl
  have ht := gtgt_e h2
  exact gp_icmp_ge (gdec2 hck) ht (fun e => hgo.jm (h.1 e)) (fun e => hgo.nx hsuf hck (h.2 e))
theorem gs_icmp_gt {off : Int} (hgo : gGo E y cd Q X go) (hsuf : ∃ pre, cd = pre ++ (pc, len, .if_icmp .gt off, a, b, v) :: rest) (hck : gck1 y (pc, len, .if_icmp .gt off, a, b, v) rest = true) (h : gsem (gC E) cd hs (hmc y) (hms y) (gL E) (gXs E) bo Q X (pc, len, .if_icmp .gt off, a, b, v) rest go ls st I J B c w)  : gG E y pc ls st I J B c w Q X := by
  replace h := gpi_e h; obtain ⟨z, r, rfl, h⟩ := h
  replace h := gpi_e h; obtain ⟨x, r, rfl, h⟩ := h
  obtain ⟨hl, h2⟩ := gband (gband (gband hck).2).2
  have hl := Nat.eq_of_beq_eq_true hl
  subst hl
  have ht := gtgt_e h2
  exact gp_icmp_gt (gdec2 hck) ht (fun e => hgo.jm (h.1 e)) (fun e => hgo.nx hsuf hck (h.2 e))
theorem gs_icmp_le {off : Int} (hgo : gGo E y cd Q X go) (hsuf : ∃ pre, cd = pre ++ (pc, len, .if_icmp .le off, a, b, v) :: rest) (hck : gck1 y (pc, len, .if_icmp .le off, a, b, v) rest = true) (h : gsem (gC E) cd hs (hmc y) (hms y) (gL E) (gXs E) bo Q X (pc, len, .if_icmp .le off, a, b, v) rest go ls st I J B c w)  : gG E y pc ls st I J B c w Q X := by
  replace h := gpi_e h; obtain ⟨z, r, rfl, h⟩ := h
  replace h := gpi_e h; obtain ⟨x, r, rfl, h⟩ := h
  obtain ⟨hl, h2⟩ := gband (gband (gband hck).2).2
  have hl := Nat.eq_of_beq_eq_true hl
  subst hl
  have ht := gtgt_e h2
  exact gp_icmp_le (gdec2 hck) ht (fun e => hgo.jm (h.1 e)) (fun e => hgo.nx hsuf hck (h.2 e))
theorem gs_goto {off : Int} (hgo : gGo E y cd Q X go) (hsuf : ∃ pre, cd = pre ++ (pc, len, .goto off, a, b, v) :: rest) (hck : gck1 y (pc, len, .goto off, a, b, v) rest = true) (h : gsem (gC E) cd hs (hmc y) (hms y) (gL E) (gXs E) bo Q X (pc, len, .goto off, a, b, v) rest go ls st I J B c w)  : gG E y pc ls st I J B c w Q X := by
  obtain ⟨hl, h2⟩ := gband (gband (gband hck).2).2
  have hl := Nat.eq_of_beq_eq_true hl
  subst hl
  have ht := gtgt_e h2
  exact gp_goto (gdec2 hck) ht (hgo.jm h)
theorem gs_ifnull {off : Int} (hgo : gGo E y cd Q X go) (hsuf : ∃ pre, cd = pre ++ (pc, len, .ifnull off, a, b, v) :: rest) (hck : gck1 y (pc, len, .ifnull off, a, b, v) rest = true) (h : gsem (gC E) cd hs (hmc y) (hms y) (gL E) (gXs E) bo Q X (pc, len, .ifnull off, a, b, v) rest go ls st I J B c w)  : gG E y pc ls st I J B c w Q X := by
  replace h := gtop_e h; obtain ⟨u, r, rfl, h⟩ := h
  obtain ⟨hl, h2⟩ := gband (gband (gband hck).2).2
  have hl := Nat.eq_of_beq_eq_true hl
  subst hl
  have ht := gtgt_e h2
  replace h := gvn_e h; rcases h with ⟨rfl, h⟩ | ⟨x, rfl, h⟩
  · exact gp_ifnull_n (gdec2 hck) ht (hgo.jm h)
  · exact gp_ifnull_r (gdec2 hck) (hgo.nx hsuf hck h)
theorem gs_ifnonnull {off : Int} (hgo : gGo E y cd Q X go) (hsuf : ∃ pre, cd = pre ++ (pc, len, .ifnonnull off, a, b, v) :: rest) (hck : gck1 y (pc, len, .ifnonnull off, a, b, v) rest = true) (h : gsem (gC E) cd hs (hmc y) (hms y) (gL E) (gXs E) bo Q X (pc, len, .ifnonnull off, a, b, v) rest go ls st I J B c w)  : gG E y pc ls st I J B c w Q X := by
  replace h := gtop_e h; obtain ⟨u, r, rfl, h⟩ := h
  obtain ⟨hl, h2⟩ := gband (gband (gband hck).2).2
  have hl := Nat.eq_of_beq_eq_true hl
  subst hl
  have ht := gtgt_e h2
  replace h := gvn_e h; rcases h with ⟨rfl, h⟩ | ⟨x, rfl, h⟩
  · exact gp_ifnonnull_n (gdec2 hck) (hgo.nx hsuf hck h)
  · exact gp_ifnonnull_r (gdec2 hck) ht (hgo.jm h)
theorem gial_m {L : Nat} {xs : Nat → Int32} {q : gR} {i : Int32} {k k2 : Int32 → Prop} (hk : ∀ x, k x → k2 x) (h : gial L xs I q i k) : gial L xs I q i k2 := by
  unfold gial at h ⊢
  split at h
  · exact ⟨h.1, hk _ h.2⟩
  · exact ⟨h.1, hk _ h.2⟩
  · split at h
    · exact ⟨h.1, hk _ h.2⟩
    · exact absurd h id
theorem gbal_m {q : gR} {i : Int32} {k k2 : Int32 → Prop} (hk : ∀ x, k x → k2 x) (h : gbal I q i k) : gbal I q i k2 := by
  unfold gbal at h ⊢
  split at h
  · exact ⟨h.1, hk _ h.2⟩
  · exact ⟨h.1, hk _ h.2⟩
  · exact absurd h id
theorem glal_m {q : gR} {i : Int32} {k k2 : Int64 → Prop} (hk : ∀ x, k x → k2 x) (h : glal J q i k) : glal J q i k2 := by
  unfold glal at h ⊢
  split at h
  · exact ⟨h.1, hk _ h.2⟩
  · exact absurd h id
theorem gdal_m {q : gR} {i : Int32} {k k2 : UInt64 → Prop} (hk : ∀ x, k x → k2 x) (h : gdal J q i k) : gdal J q i k2 := by
  unfold gdal at h ⊢
  split at h
  · exact ⟨h.1, hk _ h.2⟩
  · exact absurd h id
theorem gaal_m {q : gR} {i : Int32} {k k2 : gV → Prop} (hk : ∀ x, k x → k2 x) (h : gaal B q i k) : gaal B q i k2 := by
  unfold gaal at h ⊢
  split at h
  · exact ⟨h.1, hk _ h.2⟩
  · exact ⟨h.1, fun e => hk _ (h.2.1 e), fun e => hk _ (h.2.2 e)⟩
  · exact absurd h id
theorem gias_m {q : gR} {i x : Int32} {k k2 : gI → Prop} (hk : ∀ x, k x → k2 x) (h : gias I q i x k) : gias I q i x k2 := by
  unfold gias at h ⊢
  split at h
  · exact ⟨h.1, hk _ h.2⟩
  · exact absurd h id
theorem gbas_m {q : gR} {i x : Int32} {k k2 : gI → Prop} (hk : ∀ x, k x → k2 x) (h : gbas I q i x k) : gbas I q i x k2 := by
  unfold gbas at h ⊢
  split at h
  · exact ⟨h.1, hk _ h.2⟩
  · exact ⟨h.1, hk _ h.2⟩
  · exact absurd h id
theorem glas_m {q : gR} {i : Int32} {x : Int64} {k k2 : gJ → Prop} (hk : ∀ x, k x → k2 x) (h : glas J q i x k) : glas J q i x k2 := by
  unfold glas at h ⊢
  split at h
  · exact ⟨h.1, hk _ h.2⟩
  · exact absurd h id
theorem gdas_m {q : gR} {i : Int32} {x : UInt64} {k k2 : gJ → Prop} (hk : ∀ x, k x → k2 x) (h : gdas J q i x k) : gdas J q i x k2 := by
  unfold gdas at h ⊢
  split at h
  · exact ⟨h.1, hk _ h.2⟩
  · exact absurd h id
theorem gaas_m {q u : gR} {i : Int32} {k k2 : gB → Prop} (hk : ∀ x, k x → k2 x) (h : gaas B q u i k) : gaas B q u i k2 := by
  unfold gaas at h ⊢
  split at h
  · exact ⟨h.1, h.2.1, hk _ h.2.2⟩
  · exact absurd h id
theorem gln_m {L : Nat} {q : gR} {k k2 : Int32 → Prop} (hk : ∀ x, k x → k2 x) (h : gln L q k) : gln L q k2 := by
  unfold gln at h ⊢
  split at h
  · exact hk _ h
  · exact hk _ h
  · split at h
    · exact hk _ h
    · exact absurd h id
theorem gfg_m {q : gR} {a b : Nat} {k k2 : gV → Prop} (hk : ∀ x, k x → k2 x) (h : gfg I J q a b k) : gfg I J q a b k2 := by
  unfold gfg at h ⊢
  split at h
  · split at h
    · exact hk _ h
    · exact hk _ h
    · exact hk _ h
    · exact absurd h id
    · exact hk _ h
    · exact absurd h id
  · exact absurd h id
theorem gvi_m {v : gV} {k k2 : Int32 → Prop} (hk : ∀ x, k x → k2 x) (h : gvi v k) : gvi v k2 := by
  replace h := gvi_e h; obtain ⟨x, rfl, h⟩ := h
  exact hk _ h
theorem gvl_m {v : gV} {k k2 : Int64 → Prop} (hk : ∀ x, k x → k2 x) (h : gvl v k) : gvl v k2 := by
  replace h := gvl_e h; obtain ⟨x, rfl, h⟩ := h
  exact hk _ h
theorem gfp_m {q : gR} {a b : Nat} {v : gV} {k k2 : gI → gJ → Prop} (hk : ∀ x z, k x z → k2 x z) (h : gfp I J q a b v k) : gfp I J q a b v k2 := by
  unfold gfp at h ⊢
  split at h
  · split at h
    · exact gvi_m (fun x h => hk _ _ h) h
    · exact gvl_m (fun x h => hk _ _ h) h
    · exact gvi_m (fun x h => ⟨h.1, hk _ _ h.2⟩) h
    · exact absurd h id
  · exact absurd h id
theorem gcpy_m {s0 d : gR} {sp dp n : Int32} {k k2 : gI → gJ → Prop} (hk : ∀ x z, k x z → k2 x z) (h : gcpy I J s0 d sp dp n k) : gcpy I J s0 d sp dp n k2 := by
  unfold gcpy at h ⊢
  split at h
  · exact ⟨h.1, hk _ _ h.2⟩
  · exact ⟨h.1, hk _ _ h.2⟩
  · exact absurd h id
theorem gs_iaload  (hgo : gGo E y cd Q X go) (hsuf : ∃ pre, cd = pre ++ (pc, len, .iaload, a, b, v) :: rest) (hck : gck1 y (pc, len, .iaload, a, b, v) rest = true) (h : gsem (gC E) cd hs (hmc y) (hms y) (gL E) (gXs E) bo Q X (pc, len, .iaload, a, b, v) rest go ls st I J B c w)  : gG E y pc ls st I J B c w Q X := by
  replace h := gpi_e h; obtain ⟨i, r, rfl, h⟩ := h
  replace h := gpr_e h; obtain ⟨q, r, rfl, h⟩ := h
  have hl : len = 1 := Nat.eq_of_beq_eq_true (gband (gband hck).2).2
  subst hl
  exact gp_iaload (gdec2 hck) (gial_m (fun x h => hgo.nx hsuf hck h) h)
theorem gs_baload  (hgo : gGo E y cd Q X go) (hsuf : ∃ pre, cd = pre ++ (pc, len, .baload, a, b, v) :: rest) (hck : gck1 y (pc, len, .baload, a, b, v) rest = true) (h : gsem (gC E) cd hs (hmc y) (hms y) (gL E) (gXs E) bo Q X (pc, len, .baload, a, b, v) rest go ls st I J B c w)  : gG E y pc ls st I J B c w Q X := by
  replace h := gpi_e h; obtain ⟨i, r, rfl, h⟩ := h
  replace h := gpr_e h; obtain ⟨q, r, rfl, h⟩ := h
  have hl : len = 1 := Nat.eq_of_beq_eq_true (gband (gband hck).2).2
  subst hl
  exact gp_baload (gdec2 hck) (gbal_m (fun x h => hgo.nx hsuf hck h) h)
theorem gs_laload  (hgo : gGo E y cd Q X go) (hsuf : ∃ pre, cd = pre ++ (pc, len, .laload, a, b, v) :: rest) (hck : gck1 y (pc, len, .laload, a, b, v) rest = true) (h : gsem (gC E) cd hs (hmc y) (hms y) (gL E) (gXs E) bo Q X (pc, len, .laload, a, b, v) rest go ls st I J B c w)  : gG E y pc ls st I J B c w Q X := by
  replace h := gpi_e h; obtain ⟨i, r, rfl, h⟩ := h
  replace h := gpr_e h; obtain ⟨q, r, rfl, h⟩ := h
  have hl : len = 1 := Nat.eq_of_beq_eq_true (gband (gband hck).2).2
  subst hl
  exact gp_laload (gdec2 hck) (glal_m (fun x h => hgo.nx hsuf hck h) h)
theorem gs_daload  (hgo : gGo E y cd Q X go) (hsuf : ∃ pre, cd = pre ++ (pc, len, .daload, a, b, v) :: rest) (hck : gck1 y (pc, len, .daload, a, b, v) rest = true) (h : gsem (gC E) cd hs (hmc y) (hms y) (gL E) (gXs E) bo Q X (pc, len, .daload, a, b, v) rest go ls st I J B c w)  : gG E y pc ls st I J B c w Q X := by
  replace h := gpi_e h; obtain ⟨i, r, rfl, h⟩ := h
  replace h := gpr_e h; obtain ⟨q, r, rfl, h⟩ := h
  have hl : len = 1 := Nat.eq_of_beq_eq_true (gband (gband hck).2).2
  subst hl
  exact gp_daload (gdec2 hck) (gdal_m (fun x h => hgo.nx hsuf hck h) h)
theorem gs_aaload  (hgo : gGo E y cd Q X go) (hsuf : ∃ pre, cd = pre ++ (pc, len, .aaload, a, b, v) :: rest) (hck : gck1 y (pc, len, .aaload, a, b, v) rest = true) (h : gsem (gC E) cd hs (hmc y) (hms y) (gL E) (gXs E) bo Q X (pc, len, .aaload, a, b, v) rest go ls st I J B c w)  : gG E y pc ls st I J B c w Q X := by
  replace h := gpi_e h; obtain ⟨i, r, rfl, h⟩ := h
  replace h := gpr_e h; obtain ⟨q, r, rfl, h⟩ := h
  have hl : len = 1 := Nat.eq_of_beq_eq_true (gband (gband hck).2).2
  subst hl
  exact gp_aaload (gdec2 hck) (gaal_m (fun x h => hgo.nx hsuf hck h) h)
theorem gs_iastore  (hgo : gGo E y cd Q X go) (hsuf : ∃ pre, cd = pre ++ (pc, len, .iastore, a, b, v) :: rest) (hck : gck1 y (pc, len, .iastore, a, b, v) rest = true) (h : gsem (gC E) cd hs (hmc y) (hms y) (gL E) (gXs E) bo Q X (pc, len, .iastore, a, b, v) rest go ls st I J B c w)  : gG E y pc ls st I J B c w Q X := by
  replace h := gpi_e h; obtain ⟨x, r, rfl, h⟩ := h
  replace h := gpi_e h; obtain ⟨i, r, rfl, h⟩ := h
  replace h := gpr_e h; obtain ⟨q, r, rfl, h⟩ := h
  have hl : len = 1 := Nat.eq_of_beq_eq_true (gband (gband hck).2).2
  subst hl
  exact gp_iastore (gdec2 hck) (gias_m (fun x h => hgo.nx hsuf hck h) h)
theorem gs_bastore  (hgo : gGo E y cd Q X go) (hsuf : ∃ pre, cd = pre ++ (pc, len, .bastore, a, b, v) :: rest) (hck : gck1 y (pc, len, .bastore, a, b, v) rest = true) (h : gsem (gC E) cd hs (hmc y) (hms y) (gL E) (gXs E) bo Q X (pc, len, .bastore, a, b, v) rest go ls st I J B c w)  : gG E y pc ls st I J B c w Q X := by
  replace h := gpi_e h; obtain ⟨x, r, rfl, h⟩ := h
  replace h := gpi_e h; obtain ⟨i, r, rfl, h⟩ := h
  replace h := gpr_e h; obtain ⟨q, r, rfl, h⟩ := h
  have hl : len = 1 := Nat.eq_of_beq_eq_true (gband (gband hck).2).2
  subst hl
  exact gp_bastore (gdec2 hck) (gbas_m (fun x h => hgo.nx hsuf hck h) h)
theorem gs_lastore  (hgo : gGo E y cd Q X go) (hsuf : ∃ pre, cd = pre ++ (pc, len, .lastore, a, b, v) :: rest) (hck : gck1 y (pc, len, .lastore, a, b, v) rest = true) (h : gsem (gC E) cd hs (hmc y) (hms y) (gL E) (gXs E) bo Q X (pc, len, .lastore, a, b, v) rest go ls st I J B c w)  : gG E y pc ls st I J B c w Q X := by
  replace h := gpl_e h; obtain ⟨x, r, rfl, h⟩ := h
  replace h := gpi_e h; obtain ⟨i, r, rfl, h⟩ := h
  replace h := gpr_e h; obtain ⟨q, r, rfl, h⟩ := h
  have hl : len = 1 := Nat.eq_of_beq_eq_true (gband (gband hck).2).2
  subst hl
  exact gp_lastore (gdec2 hck) (glas_m (fun x h => hgo.nx hsuf hck h) h)
theorem gs_dastore  (hgo : gGo E y cd Q X go) (hsuf : ∃ pre, cd = pre ++ (pc, len, .dastore, a, b, v) :: rest) (hck : gck1 y (pc, len, .dastore, a, b, v) rest = true) (h : gsem (gC E) cd hs (hmc y) (hms y) (gL E) (gXs E) bo Q X (pc, len, .dastore, a, b, v) rest go ls st I J B c w)  : gG E y pc ls st I J B c w Q X := by
  replace h := gpd_e h; obtain ⟨x, r, rfl, h⟩ := h
  replace h := gpi_e h; obtain ⟨i, r, rfl, h⟩ := h
  replace h := gpr_e h; obtain ⟨q, r, rfl, h⟩ := h
  have hl : len = 1 := Nat.eq_of_beq_eq_true (gband (gband hck).2).2
  subst hl
  exact gp_dastore (gdec2 hck) (gdas_m (fun x h => hgo.nx hsuf hck h) h)
theorem gs_aastore  (hgo : gGo E y cd Q X go) (hsuf : ∃ pre, cd = pre ++ (pc, len, .aastore, a, b, v) :: rest) (hck : gck1 y (pc, len, .aastore, a, b, v) rest = true) (h : gsem (gC E) cd hs (hmc y) (hms y) (gL E) (gXs E) bo Q X (pc, len, .aastore, a, b, v) rest go ls st I J B c w)  : gG E y pc ls st I J B c w Q X := by
  replace h := gpr_e h; obtain ⟨x, r, rfl, h⟩ := h
  replace h := gpi_e h; obtain ⟨i, r, rfl, h⟩ := h
  replace h := gpr_e h; obtain ⟨q, r, rfl, h⟩ := h
  have hl : len = 1 := Nat.eq_of_beq_eq_true (gband (gband hck).2).2
  subst hl
  exact gp_aastore (gdec2 hck) (gaas_m (fun x h => hgo.nx hsuf hck h) h)
theorem gs_arraylength  (hgo : gGo E y cd Q X go) (hsuf : ∃ pre, cd = pre ++ (pc, len, .arraylength, a, b, v) :: rest) (hck : gck1 y (pc, len, .arraylength, a, b, v) rest = true) (h : gsem (gC E) cd hs (hmc y) (hms y) (gL E) (gXs E) bo Q X (pc, len, .arraylength, a, b, v) rest go ls st I J B c w)  : gG E y pc ls st I J B c w Q X := by
  replace h := gpr_e h; obtain ⟨q, r, rfl, h⟩ := h
  have hl : len = 1 := Nat.eq_of_beq_eq_true (gband (gband hck).2).2
  subst hl
  exact gp_arraylength (gdec2 hck) (gln_m (fun x h => hgo.nx hsuf hck h) h)
theorem gfl_of {n ci b : Nat} {own : Nat} (hci : ci < 10) (hb2 : b < gsz ci) (h : (gFT.contains (own, n, ci, b) || gFN.contains (own, n, ci, b)) = true) : gFl (gcls own) n ci b := by
  refine gFl_of hci hb2 ?_
  rcases Bool.or_eq_true_iff.mp h with h | h
  · exact Or.inl (gFT_ok _ (List.contains_iff_mem.mp h))
  · exact Or.inr (gFN_ok _ (List.contains_iff_mem.mp h))
theorem gs_getfield {n : Nat} (hgo : gGo E y cd Q X go) (hsuf : ∃ pre, cd = pre ++ (pc, len, .getfield n, a, b, v) :: rest) (hck : gck1 y (pc, len, .getfield n, a, b, v) rest = true) (h : gsem (gC E) cd hs (hmc y) (hms y) (gL E) (gXs E) bo Q X (pc, len, .getfield n, a, b, v) rest go ls st I J B c w) (hcl2 : (hy y).cls = gcls (hcl y)) : gG E y pc ls st I J B c w Q X := by
  replace h := gpr_e h; obtain ⟨q, r, rfl, h⟩ := h
  obtain ⟨hl, h2⟩ := gband (gband (gband hck).2).2
  have hl := Nat.eq_of_beq_eq_true hl
  subst hl
  refine gp_getfield (a := a) (b := b) (gdec2 hck) ?_ (gfg_m (fun x h => hgo.nx hsuf hck h) h)
  intro z hz
  rw [hz] at h2
  obtain ⟨ci, fl⟩ := z
  obtain ⟨h2, h3⟩ := gband h2
  obtain ⟨h3, h4⟩ := gband h3
  rw [hcl2]
  exact gfl_of (Nat.le_of_ble_eq_true h2) (Nat.le_of_ble_eq_true h3) h4
theorem gs_putfield {n : Nat} (hgo : gGo E y cd Q X go) (hsuf : ∃ pre, cd = pre ++ (pc, len, .putfield n, a, b, v) :: rest) (hck : gck1 y (pc, len, .putfield n, a, b, v) rest = true) (h : gsem (gC E) cd hs (hmc y) (hms y) (gL E) (gXs E) bo Q X (pc, len, .putfield n, a, b, v) rest go ls st I J B c w) (hcl2 : (hy y).cls = gcls (hcl y)) : gG E y pc ls st I J B c w Q X := by
  replace h := gtop_e h; obtain ⟨x, r, rfl, h⟩ := h
  replace h := gpr_e h; obtain ⟨q, r, rfl, h⟩ := h
  obtain ⟨hl, h2⟩ := gband (gband (gband hck).2).2
  have hl := Nat.eq_of_beq_eq_true hl
  subst hl
  refine gp_putfield (a := a) (b := b) (gdec2 hck) ?_ (gfp_m (fun x z h => hgo.nx hsuf hck h) h)
  intro z hz
  rw [hz] at h2
  obtain ⟨ci, fl⟩ := z
  obtain ⟨h2, h3⟩ := gband h2
  obtain ⟨h3, h4⟩ := gband h3
  obtain ⟨h4, h5⟩ := gband h4
  rw [hcl2]
  refine ⟨gfl_of (Nat.le_of_ble_eq_true h2) (Nat.le_of_ble_eq_true h3) h4, fun u hu hu2 => ?_⟩
  simp only at hu h5
  rw [hu] at h5
  rcases Bool.or_eq_true_iff.mp h5 with h6 | h6
  · exact absurd (Nat.le_of_ble_eq_true h6) (by omega)
  · exact gFWt_ok _ (List.contains_iff_mem.mp h6)
theorem gs_ireturn  (hgo : gGo E y cd Q X go) (hsuf : ∃ pre, cd = pre ++ (pc, len, .ireturn, a, b, v) :: rest) (hck : gck1 y (pc, len, .ireturn, a, b, v) rest = true) (h : gsem (gC E) cd hs (hmc y) (hms y) (gL E) (gXs E) bo Q X (pc, len, .ireturn, a, b, v) rest go ls st I J B c w) (hbo : bo = true ↔ hr y = some .boolean) : gG E y pc ls st I J B c w Q X := by
  replace h := gpi_e h; obtain ⟨x, r, rfl, h⟩ := h
  replace h := gno_e h; obtain ⟨rfl, h⟩ := h
  obtain ⟨hl, h2⟩ := gband (gband (gband hck).2).2
  have hl := Nat.eq_of_beq_eq_true hl
  subst hl
  cases bo with
  | true =>
    have e := hbo.mp rfl
    refine gp_zreturn (gdec2 hck) e ?_ h.2
    rcases h.1 with rfl | rfl <;> rfl
  | false =>
    rcases Bool.or_eq_true_iff.mp h2 with h3 | h3
    · exact gp_ireturn (gdec2 hck) (of_decide_eq_true h3) h
    · exact absurd (hbo.mpr (of_decide_eq_true h3)) (by simp)
theorem gs_lreturn  (hgo : gGo E y cd Q X go) (hsuf : ∃ pre, cd = pre ++ (pc, len, .lreturn, a, b, v) :: rest) (hck : gck1 y (pc, len, .lreturn, a, b, v) rest = true) (h : gsem (gC E) cd hs (hmc y) (hms y) (gL E) (gXs E) bo Q X (pc, len, .lreturn, a, b, v) rest go ls st I J B c w)  : gG E y pc ls st I J B c w Q X := by
  replace h := gpl_e h; obtain ⟨x, r, rfl, h⟩ := h
  replace h := gno_e h; obtain ⟨rfl, h⟩ := h
  obtain ⟨hl, h2⟩ := gband (gband (gband hck).2).2
  have hl := Nat.eq_of_beq_eq_true hl
  subst hl
  exact gp_lreturn (gdec2 hck) (of_decide_eq_true h2) h
theorem gs_dreturn  (hgo : gGo E y cd Q X go) (hsuf : ∃ pre, cd = pre ++ (pc, len, .dreturn, a, b, v) :: rest) (hck : gck1 y (pc, len, .dreturn, a, b, v) rest = true) (h : gsem (gC E) cd hs (hmc y) (hms y) (gL E) (gXs E) bo Q X (pc, len, .dreturn, a, b, v) rest go ls st I J B c w)  : gG E y pc ls st I J B c w Q X := by
  replace h := gpd_e h; obtain ⟨x, r, rfl, h⟩ := h
  replace h := gno_e h; obtain ⟨rfl, h⟩ := h
  obtain ⟨hl, h2⟩ := gband (gband (gband hck).2).2
  have hl := Nat.eq_of_beq_eq_true hl
  subst hl
  exact gp_dreturn (gdec2 hck) (of_decide_eq_true h2) h
theorem gs_areturn  (hgo : gGo E y cd Q X go) (hsuf : ∃ pre, cd = pre ++ (pc, len, .areturn, a, b, v) :: rest) (hck : gck1 y (pc, len, .areturn, a, b, v) rest = true) (h : gsem (gC E) cd hs (hmc y) (hms y) (gL E) (gXs E) bo Q X (pc, len, .areturn, a, b, v) rest go ls st I J B c w)  : gG E y pc ls st I J B c w Q X := by
  replace h := gtop_e h; obtain ⟨u, r, rfl, h⟩ := h
  replace h := gno_e h; obtain ⟨rfl, h⟩ := h
  obtain ⟨hl, h2⟩ := gband (gband (gband hck).2).2
  have hl := Nat.eq_of_beq_eq_true hl
  subst hl
  replace h := gvn_e h; rcases h with ⟨rfl, h⟩ | ⟨x, rfl, h⟩
  · exact gp_areturn (gdec2 hck) (of_decide_eq_true h2) (Or.inl rfl) h
  · exact gp_areturn (gdec2 hck) (of_decide_eq_true h2) (Or.inr ⟨x, rfl⟩) h
theorem gs_return  (hgo : gGo E y cd Q X go) (hsuf : ∃ pre, cd = pre ++ (pc, len, .return_, a, b, v) :: rest) (hck : gck1 y (pc, len, .return_, a, b, v) rest = true) (h : gsem (gC E) cd hs (hmc y) (hms y) (gL E) (gXs E) bo Q X (pc, len, .return_, a, b, v) rest go ls st I J B c w)  : gG E y pc ls st I J B c w Q X := by
  replace h := gno_e h; obtain ⟨rfl, h⟩ := h
  obtain ⟨hl, h2⟩ := gband (gband (gband hck).2).2
  have hl := Nat.eq_of_beq_eq_true hl
  subst hl
  exact gp_vreturn (gdec2 hck) (of_decide_eq_true h2) h
theorem ggkd_e {k : Nat} {args : List gV} (hk : 0 < k) (h : gkd k args = true) : ∃ q as, args = .inr q :: as ∧ q.1 = k := by
  unfold gkd at h
  split at h
  · exact absurd hk (by omega)
  · split at h
    · exact ⟨_, _, rfl, Nat.eq_of_beq_eq_true h⟩
    · cases h
theorem grev {st : List gV} {n : Nat} {as : List gV} (h : (st.take n).reverse = as) : st = as.reverse ++ st.drop n := by
  rw [← h, List.reverse_reverse, List.take_append_drop]
/-- what stands behind a call, as the small machine says it -/
abbrev gQ2 (tag : Nat) (rest : List gE) (go : List gE → gM) (ls : List (Nat × gV)) (r : List gV) (c w : Nat) : gQt := fun v I' J' B' => match tag with
  | 0 => go rest ls r I' J' B' c w
  | 1 => gvi v fun x => go rest ls (.inl (.int x) :: r) I' J' B' c w
  | 2 => gvl v fun x => go rest ls (.inl (.long x) :: r) I' J' B' c w
  | 3 => gvd v fun x => go rest ls (.inl (.double x) :: r) I' J' B' c w
  | _ => gvn v (go rest ls (.inl .null :: r) I' J' B' c w) fun r2 => go rest ls (.inr r2 :: r) I' J' B' c w
theorem gQ2_e {tag : Nat} {r : List gV} {u : gV} {I2 : gI} {J2 : gJ} {B2 : gB} (ht : (Nat.beq tag 0 == (hr a).isNone) = true) (h : gQ2 tag rest go ls r c w u I2 J2 B2) : go rest ls (gpush a u r) I2 J2 B2 c w := by
  have ht := eq_of_beq ht
  unfold gpush
  cases hn : hr a with
  | none =>
    rw [hn] at ht
    have h0 := Nat.eq_of_beq_eq_true (ht.trans rfl)
    subst h0
    exact h
  | some ty =>
    rw [hn] at ht
    have h0 : tag ≠ 0 := by
      intro e
      subst e
      cases ht
    match tag, h0 with
    | 0, h0 => exact absurd rfl h0
    | 1, _ =>
      replace h := gvi_e h; obtain ⟨x, rfl, h⟩ := h
      exact h
    | 2, _ =>
      replace h := gvl_e h; obtain ⟨x, rfl, h⟩ := h
      exact h
    | 3, _ =>
      replace h := gvd_e h; obtain ⟨x, rfl, h⟩ := h
      exact h
    | n + 4, _ =>
      replace h := gvn_e h; rcases h with ⟨rfl, h⟩ | ⟨x, rfl, h⟩
      · exact h
      · exact h
abbrev gX2 (cd : List gE) (hs : gH) (X : gXt) (pc : Nat) (go : List gE → gM) (ls : List (Nat × gV)) (c w : Nat) : gXt := match hs with
  | [] => X
  | _ => fun k I' J' B' => gx3 k
    (match ghf hs pc 0 with
      | some h => ghg cd h (fun r ls' => go r ls' [] I' J' B' c w) ls
      | none => X 0 I' J' B')
    (match ghf hs pc 1 with
      | some h => ghg cd h (fun r ls' => go r ls' [] I' J' B' c w) ls
      | none => X 1 I' J' B')
    (match ghf hs pc 2 with
      | some h => ghg cd h (fun r ls' => go r ls' [] I' J' B' c w) ls
      | none => X 2 I' J' B')
theorem gX2_e {k : Nat} (hgo : gGo E y cd Q X go) (hcd : gckL y cd = true) (hcl2 : (hy y).cls = gcls (hcl y)) (hH : gckH y cd hs = true) (hk : k < 3) (h : gX2 cd hs X pc go ls c w k I J B) : gGx E y pc ls k I J B c w Q X := by
  cases hs with
  | nil => exact gx_out (List.isEmpty_iff.mp hH) hk h
  | cons z zs =>
    have hne : z :: zs ≠ [] := by simp
    have key : ∀ j, j < 3 → (match ghf (z :: zs) pc j with
      | some h => ghg cd h (fun r ls' => go r ls' [] I J B c w) ls
      | none => X j I J B) → gGx E y pc ls j I J B c w Q X := by
      intro j hj hm
      cases hf : ghf (z :: zs) pc j with
      | none =>
        rw [hf] at hm
        exact gh_no hcl2 hne hH hj hf hm
      | some t =>
        rw [hf] at hm
        exact gh_go hgo hcd hcl2 hne hH hj hf hm
    rcases (show k = 0 ∨ k = 1 ∨ k = 2 by omega) with rfl | rfl | rfl
    · exact key 0 (by decide) h
    · exact key 1 (by decide) h
    · exact key 2 (by decide) h
theorem gcal_e {e : gE} (hc : c ≤ hmc y) (hw : w ≤ hms y) (hg : gcalc y e.2.2.2.1 e.2.2.2.2.2 = true) (h : gcal (gC E) cd hs (hmc y) (hms y) X e rest go ls st I J B c w) : ∃ tag, (gsum (st.drop (e.2.2.2.2.1 % 16)) ≤ 8 ∧ gkd (e.2.2.2.2.1 / 16) (st.take (e.2.2.2.2.1 % 16)).reverse = true ∧ (st.take (e.2.2.2.2.1 % 16)).length = e.2.2.2.2.1 % 16) ∧ (Nat.beq tag 0 == (hr e.2.2.2.1).isNone) = true ∧ gRm y e.2.2.2.1 ∧
    (c + hmc e.2.2.2.1 ≤ hmc y ∧ w + hms e.2.2.2.1 ≤ hms y) ∧ gC E e.2.2.2.1 (st.take (e.2.2.2.2.1 % 16)).reverse I J B (gQ2 tag rest go ls (st.drop (e.2.2.2.2.1 % 16)) (c + hmc e.2.2.2.1) (w + hms e.2.2.2.1)) (gX2 cd hs X e.1 go ls (c + hmc e.2.2.2.1) (w + hms e.2.2.2.1)) := by
  unfold gcal at h
  split at h
  · rename_i tag m1 m2 h1 h2
    rw [h2] at hg
    obtain ⟨g1, hg⟩ := gband hg
    obtain ⟨g2, hg⟩ := gband hg
    obtain ⟨g3, hg⟩ := gband hg
    obtain ⟨g4, hg⟩ := gband hg
    obtain ⟨g5, g6⟩ := gband hg
    obtain ⟨k1, k2⟩ := gband h1
    obtain ⟨k2, k3⟩ := gband k2
    have g1 := Nat.eq_of_beq_eq_true g1
    have g2 := Nat.eq_of_beq_eq_true g2
    subst g1
    subst g2
    refine ⟨tag, ⟨Nat.le_of_ble_eq_true k1, k2, Nat.eq_of_beq_eq_true k3⟩, g4, ⟨Nat.le_of_ble_eq_true g5, Nat.le_of_ble_eq_true g6⟩, ?_⟩
    split at h
    · rename_i h0
      rcases Bool.or_eq_true_iff.mp g3 with g7 | g7
      · have := Nat.le_of_ble_eq_true g7
        omega
      · have := Nat.eq_of_beq_eq_true g7
        exact ⟨⟨by omega, by omega⟩, h⟩
    · exact h
  · exact absurd h id
theorem glen {e : Nat} {as : List gV} {q : gV} (h : (st.take e).reverse = q :: as) (hl : (st.take e).length = e) {n : Nat} (hn : e = n + 1) : as.length = n := by
  have h1 := congrArg List.length h
  rw [List.length_reverse, hl, hn, List.length_cons] at h1
  omega

theorem gs_invokevirtual {n : Nat} (hgo : gGo E y cd Q X go) (hsuf : ∃ pre, cd = pre ++ (pc, len, .invokevirtual n, a, b, v) :: rest) (hck : gck1 y (pc, len, .invokevirtual n, a, b, v) rest = true) (h : gsem (gC E) cd hs (hmc y) (hms y) (gL E) (gXs E) bo Q X (pc, len, .invokevirtual n, a, b, v) rest go ls st I J B c w) (hcd : gckL y cd = true) (hcl2 : (hy y).cls = gcls (hcl y)) (hH : gckH y cd hs = true) : gG E y pc ls st I J B c w Q X := by
  obtain ⟨hl, h2⟩ := gband (gband (gband hck).2).2
  have hl := Nat.eq_of_beq_eq_true hl
  subst hl
  cases v with
  | inl z =>
    unfold gsem at h
    simp only at h
    unfold gcal at h
    split at h
    · rename_i heq
      cases heq
    · exact absurd h id
  | inr v =>
    have h2 := h2
    refine gG_in fun hc hw => ?_
    obtain ⟨ha, h2⟩ := gband h2
    obtain ⟨k1, h2⟩ := gband h2
    obtain ⟨k2, h2⟩ := gband h2
    obtain ⟨k3, h2⟩ := gband h2
    obtain ⟨k4, h2⟩ := gband h2
    obtain ⟨k5, h2⟩ := gband h2
    obtain ⟨k6, k8⟩ := gband h2
    obtain ⟨k6, k7⟩ := gband k6
    obtain ⟨tag, ⟨s1, s2, s3⟩, s4, s5, ⟨s6, s7⟩, s8⟩ := gcal_e hc hw k8 h
    simp only at s1 s2 s3 s4 s5 s6 s7 s8
    obtain ⟨q, as, hq, hqk⟩ := ggkd_e (Nat.le_of_ble_eq_true k6) s2
    have ha : a < 314 := Nat.le_of_ble_eq_true ha
    have hst := grev hq
    have hll := glen hq s3 (Nat.eq_of_beq_eq_true k5)
    have hsel : Cond.selects (hy a).cls (hy a) (hy a) ∈ gBig := by
      rcases Bool.or_eq_true_iff.mp k4 with k | k
      · exact gYp_ok a (List.contains_iff_mem.mp k)
      · exact gYq_ok a (List.contains_iff_mem.mp k)
    have hcv : gCV (hy y).cls n a (hnp a) := ⟨gCe_ok ha, gYc_t a (List.contains_iff_mem.mp k1), gYc_ok a (List.contains_iff_mem.mp k1), by rw [hcl2]; exact gML_ok (hcl y, n, a) (List.contains_iff_mem.mp k2), gYi_ok a (List.contains_iff_mem.mp k3), hsel, gin_y ha⟩
    rw [hq] at s8
    rw [hst, List.reverse_cons, List.append_assoc, List.singleton_append]
    have kk := fun u I2 J2 B2 (hu : gQ2 tag rest go ls (st.drop (b % 16)) (c + hmc a) (w + hms a) u I2 J2 B2) => hgo.nx hsuf hck (gQ2_e s4 hu)
    have kx := fun k I2 J2 B2 (hk : k < 3) (hu : gX2 cd hs X pc go ls (c + hmc a) (w + hms a) k I2 J2 B2) => gX2_e hgo hcd hcl2 hH hk hu
    unfold gclc at k7
    cases ho : gobj (b / 16) with
    | none =>
      rw [ho] at k7
      obtain ⟨k8, k9⟩ := gband k7
      exact gp_callT (gdec2 hck) hcv s5 hll (hqk.trans (Nat.eq_of_beq_eq_true k8)) (by rw [hcl_ok ha, Nat.eq_of_beq_eq_true k9]; rfl) s1 s6 s7 s8 kk kx
    | some z =>
      obtain ⟨ci, fl⟩ := z
      rw [ho] at k7
      simp only at k7
      cases hz : vwCl[ci]? with
      | none => rw [hz] at k7; cases k7
      | some z =>
        rw [hz] at k7
        exact gp_callV (gdec2 hck) hcv s5 hll (by rw [hqk]; exact ho) hz (by rw [hcl_ok ha]; exact of_decide_eq_true k7) s1 s6 s7 s8 kk kx
theorem gs_invokestatic {n : Nat} (hgo : gGo E y cd Q X go) (hsuf : ∃ pre, cd = pre ++ (pc, len, .invokestatic n, a, b, v) :: rest) (hck : gck1 y (pc, len, .invokestatic n, a, b, v) rest = true) (h : gsem (gC E) cd hs (hmc y) (hms y) (gL E) (gXs E) bo Q X (pc, len, .invokestatic n, a, b, v) rest go ls st I J B c w) (hcd : gckL y cd = true) (hcl2 : (hy y).cls = gcls (hcl y)) (hH : gckH y cd hs = true) : gG E y pc ls st I J B c w Q X := by
  obtain ⟨hl, h2⟩ := gband (gband (gband hck).2).2
  have hl := Nat.eq_of_beq_eq_true hl
  subst hl
  refine gG_in fun hc hw => ?_
  by_cases hb9 : b = 9
  · subst hb9
    obtain ⟨h2, h3⟩ := gband h2
    have h2 := of_decide_eq_true h2
    obtain ⟨h3, h4⟩ := gband h3
    obtain ⟨rfl, h6⟩ := h2
    replace h := gpi_e h; obtain ⟨k0, r, rfl, h⟩ := h
    replace h := gpi_e h; obtain ⟨dp, r, rfl, h⟩ := h
    replace h := gpr_e h; obtain ⟨d, r, rfl, h⟩ := h
    replace h := gpi_e h; obtain ⟨sp, r, rfl, h⟩ := h
    replace h := gpr_e h; obtain ⟨s0, r, rfl, h⟩ := h
    split at h
    · rename_i hsm
      have hcc : (hy y).cls = "ToeplitzLab$State" := by rw [hcl2, h6]; rfl
      exact gp_copy (gdec2 hck) ⟨by rw [hcc]; exact gw_cpl, gw_cpn, gw_cps, gIn_ok "java/lang/System" (by decide +kernel)⟩ (Nat.le_of_ble_eq_true h3) (Nat.le_of_ble_eq_true h4) (Nat.le_of_ble_eq_true hsm) (gcpy_m (fun x z h => hgo.nx hsuf hck h) h)
    · exact absurd h id
  have h2 := (congrArg (fun z : Bool => z = true) (if_neg hb9)).mp h2
  have h : gcal (gC E) cd hs (hmc y) (hms y) X (pc, 3, .invokestatic n, a, b, v) rest go ls st I J B c w := by
    unfold gsem at h
    simp only at h
    exact h
  obtain ⟨h2, k9⟩ := gband h2
  obtain ⟨ha, h2⟩ := gband h2
  obtain ⟨k1, h2⟩ := gband h2
  obtain ⟨k5, h2⟩ := gband h2
  obtain ⟨k6, k8⟩ := gband h2
  obtain ⟨tag, ⟨s1, s2, s3⟩, s4, s5, ⟨s6, s7⟩, s8⟩ := gcal_e hc hw k8 h
  simp only at s1 s2 s3 s4 s5 s6 s7 s8
  have ha : a < 314 := Nat.le_of_ble_eq_true ha
  have hll : (st.take (b % 16)).reverse.length = hnp a := by
    rw [List.length_reverse, s3]
    exact Nat.eq_of_beq_eq_true k5
  have hst := grev (st := st) (n := b % 16) rfl
  have kk := fun u I2 J2 B2 (hu : gQ2 tag rest go ls (st.drop (b % 16)) (c + hmc a) (w + hms a) u I2 J2 B2) => hgo.nx hsuf hck (gQ2_e s4 hu)
  have kx := fun k I2 J2 B2 (hk : k < 3) (hu : gX2 cd hs X pc go ls (c + hmc a) (w + hms a) k I2 J2 B2) => gX2_e hgo hcd hcl2 hH hk hu
  have hs1 := gYs_ok a (List.contains_iff_mem.mp k1)
  generalize hgen : st.drop (b % 16) = r at *
  generalize hgen2 : (st.take (b % 16)).reverse = as at *
  rw [hst]
  rcases Bool.or_eq_true_iff.mp k9 with k | k
  · obtain ⟨j1, j2⟩ := gband k
    rcases Bool.or_eq_true_iff.mp j2 with j | j
    · exact gp_callS (gdec2 hck) ⟨gCe_ok ha, gYc_t a (List.contains_iff_mem.mp j1), gYc_ok a (List.contains_iff_mem.mp j1), by rw [hcl2]; exact gML_ok (hcl y, n, a) (List.contains_iff_mem.mp j), hs1, gin_y ha⟩ s5 hll s1 s6 s7 s8 kk kx
    · exact gp_callSN (gdec2 hck) ⟨gCe_ok ha, gYc_t a (List.contains_iff_mem.mp j1), gYc_ok a (List.contains_iff_mem.mp j1), by rw [hcl2]; exact gNlink_ok (hcl y, n, a) (List.contains_iff_mem.mp j), hs1, gin_y ha⟩ s5 hll s1 s6 s7 s8 kk kx
  · obtain ⟨j1, j2⟩ := gband k
    have hx := gYx_t a (List.contains_iff_mem.mp j1)
    have hcw2 : hcw a ∈ gBig := by
      have h3 := gYx_ok a (List.contains_iff_mem.mp j1)
      unfold hcw
      split
      · rename_i h4
        exact absurd h4 hx
      · exact h3
    exact gp_callSX (gdec2 hck) ⟨gCe_ok ha, hx, hcw2, by rw [hcl2]; exact gML_ok (hcl y, n, a) (List.contains_iff_mem.mp j2), hs1, gin_y ha⟩ s5 hll s1 s6 s7 s8 kk kx
end GZ
