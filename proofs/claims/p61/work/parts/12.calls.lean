/-! ===== throws and calls ===== -/
theorem gNst_tab : ∀ w ∈ gNst, w.onTables = true := by decide +kernel
section GH
variable {E : gEn} {y pc : Nat} {ls : List (Nat × gV)} {st r : List gV} {I : gI} {J : gJ} {B : gB} {c w : Nat} {Q : gQt} {X : gXt}
theorem gRep.kept {ad : gR → Nat} {H H1 : Heap} (h : gRep E ad I J B H) (hq : ∀ q : Nat, q < H.size → H1[q]? = H[q]?) : gRep E ad I J B H1 :=
  ⟨h.1.kept (fun k q hk => hq q.1 (h.1 k q hk).lt), h.2⟩
def gnames : List String := ["java/lang/RuntimeException", "java/lang/Exception"]
/-- what a throw's numbers in the pool name -/
def gThr (own : String) (ik is ic k : Nat) : Prop :=
  Cond.classLink own ik (gxn k) ∈ gBig ∧ Cond.initialized (gxn k) ∈ gBig ∧ (∃ tx, (own, is, tx) ∈ gTxt) ∧ (∀ w ∈ vx_atS own ic (gxn k) gnames, w ∈ gBig ∨ w ∈ gNst) ∧
  (∀ w ∈ Cond.classLink own ik (gxn k) :: Cond.initialized (gxn k) :: vx_atS own ic (gxn k) gnames, vx_ot w = true) ∧ Bundle.fit (gxn k) = true ∧ (∀ n ∈ gnames, Bundle.fit n = true) ∧ k < 3
theorem gp_throw {ik is ic k : Nat} (d0 : decode (hb y) pc = .ok (.new ik, 3)) (d3 : decode (hb y) (pc + 3) = .ok (.dup, 1)) (d4 : decode (hb y) (pc + 4) = .ok (.ldc is, 2)) (d6 : decode (hb y) (pc + 6) = .ok (.invokespecial ic, 3)) (d9 : decode (hb y) (pc + 9) = .ok (.athrow, 1))
    (hl : gThr (hy y).cls ik is ic k) (ht : hht y = []) (hfc : 5 < hfr y) (hlc : 82 ≤ hlo y) (hr1 : c + 1 ≤ hmc y) (hr2 : w + 6 ≤ hms y) (kx : X k I J B) : gG E y pc ls [] I J B c w Q X := by
  intro hc hw p e s m args below meth cc ad0 Bs hC hT H locs LS ad hS
  obtain ⟨hx, hb, hr, hml, hown, hts, hlk, hE⟩ := id hC
  obtain ⟨l1, l2, ⟨tx, l3⟩, l4, l5, l6, l7, l8⟩ := hl
  have hTx := hE.2.2.2.2.2.2.2.2.2.2.1 _ l3
  obtain ⟨sa, hsa⟩ := hTx
  have hU := hE.2.2.1
  have hN := hE.2.2.2.1
  have htr : (gl E).stackTraces = false := hE.2.2.2.2.2.2.2.2.2.2.2.2.2.2.2.2.1
  refine vx_throwS (names := gnames) (text := tx) (sa := sa) hx hb htr hown l6 l7 (hts _ l1) (hts _ l2) hsa (fun w hw => ?_) l5 hU hN hS.2.1 (hS.2.2.1.1.trans hml.symm) d0 d3 d4 d6 d9 ?_ hfc ?_ hr1 hr2 hlk ?_ (gfree hS.2.1) hr1 hr2
  · rcases l4 w hw with h | h
    · exact hts _ h
    · exact va_Nw.use (gNst_tab w h) (hE.2.1 _ h)
  · intro x hx
    rw [hT, ht] at hx
    cases hx
  · show 0 + 82 ≤ hlo y
    omega
  · intro t ht hz hq
    exact ⟨⟨k, I, J, B, ad, ⟨l8, rfl⟩, kx, hS.1.kept hq, hS.2.2.2.1, hS.2.2.2.2.1⟩, Nat.le_trans hS.2.1.1 hz, fun q h1 h2 => (hq q (Nat.lt_of_lt_of_le h1 hS.2.1.1)).trans (hS.2.1.2.1 q h1 h2)⟩
theorem gp_throwW {ik is ic k : Nat} (d0 : decode (hb y) pc = .ok (.new ik, 3)) (d3 : decode (hb y) (pc + 3) = .ok (.dup, 1)) (d4 : decode (hb y) (pc + 4) = .ok (.ldc_w is, 3)) (d6 : decode (hb y) (pc + 7) = .ok (.invokespecial ic, 3)) (d9 : decode (hb y) (pc + 10) = .ok (.athrow, 1))
    (hl : gThr (hy y).cls ik is ic k) (ht : hht y = []) (hfc : 5 < hfr y) (hlc : 82 ≤ hlo y) (hr1 : c + 1 ≤ hmc y) (hr2 : w + 6 ≤ hms y) (kx : X k I J B) : gG E y pc ls [] I J B c w Q X := by
  intro hc hw p e s m args below meth cc ad0 Bs hC hT H locs LS ad hS
  obtain ⟨hx, hb, hr, hml, hown, hts, hlk, hE⟩ := id hC
  obtain ⟨l1, l2, ⟨tx, l3⟩, l4, l5, l6, l7, l8⟩ := hl
  have hTx := hE.2.2.2.2.2.2.2.2.2.2.1 _ l3
  obtain ⟨sa, hsa⟩ := hTx
  have hU := hE.2.2.1
  have hN := hE.2.2.2.1
  have htr : (gl E).stackTraces = false := hE.2.2.2.2.2.2.2.2.2.2.2.2.2.2.2.2.1
  refine vx_throwSW (names := gnames) (text := tx) (sa := sa) hx hb htr hown l6 l7 (hts _ l1) (hts _ l2) hsa (fun w hw => ?_) l5 hU hN hS.2.1 (hS.2.2.1.1.trans hml.symm) d0 d3 d4 d6 d9 ?_ hfc ?_ hr1 hr2 hlk ?_ (gfree hS.2.1) hr1 hr2
  · rcases l4 w hw with h | h
    · exact hts _ h
    · exact va_Nw.use (gNst_tab w h) (hE.2.1 _ h)
  · intro x hx
    rw [hT, ht] at hx
    cases hx
  · show 0 + 82 ≤ hlo y
    omega
  · intro t ht hz hq
    exact ⟨⟨k, I, J, B, ad, ⟨l8, rfl⟩, kx, hS.1.kept hq, hS.2.2.2.1, hS.2.2.2.2.1⟩, Nat.le_trans hS.2.1.1 hz, fun q h1 h2 => (hq q (Nat.lt_of_lt_of_le h1 hS.2.1.1)).trans (hS.2.1.2.1 q h1 h2)⟩
end GH
