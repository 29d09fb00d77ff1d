/-! ===== the text constants ===== -/
theorem gws_sv : Cond.fieldLink "java/lang/String" 9 "java/lang/String" "value" "[B" ∈ gBig := gBig_of (gpc8 (List.mem_of_getElem? (i := 115) rfl)) rfl
theorem gws_sc : Cond.fieldLink "java/lang/String" 15 "java/lang/String" "coder" "B" ∈ gBig := gBig_of (gpc8 (List.mem_of_getElem? (i := 116) rfl)) rfl
theorem gws_cs : Cond.fieldLink "java/lang/String" 38 "java/lang/String" "COMPACT_STRINGS" "Z" ∈ gBig := gBig_of (gpc2 (List.mem_of_getElem? (i := 213) rfl)) rfl
section YSV
variable {E : gEn} {Q : gQt} {X : gXt} {I : gI} {J : gJ} {B : gB} {c w m : Nat}
theorem gp_slen3 (hm : m < 6) (h : gG E 311 5 [(0, .inr (2, m, 0))] [.inl (.int (Int32.ofNat (gTl.getD m 0)))] I J B c w Q X) : gG E 311 0 [(0, .inr (2, m, 0))] [] I J B c w Q X := by
  refine gp_aload_n (j := 0) (a := 0) (x := (2, m, 0)) (by decide +kernel) rfl rfl ?_
  intro hc hw p e s m' args below meth cc ad0 Bs hC hT H locs LS ad hS
  obtain ⟨hx, hb', hret, hml', hown, hbig, hlk, hEv⟩ := hC
  have hC : gCx E 311 p e s m' args below meth cc := ⟨hx, hb', hret, hml', hown, hbig, hlk, hEv⟩
  obtain ⟨g1, g2, g3, g4, g5, g6, g7, g8, g10, g11, g12, g13, g14, g17, g15, g16⟩ := hEv
  have hV := g12.1 m hm
  have ha : ad (2, m, 0) = gax E (2, m, 0) := hS.1.2.2.1 (2, m, 0) (Nat.le_refl 2)
  show W p (gl E) e (hrm 311) s m' args below meth cc H locs c w _ (F0 m' 1 LS [.ref (ad (2, m, 0))])
  rw [ha]
  refine vk_getf hx hb' hV.2.2.1 hS.2.1 hown (hbig _ gws_sv) (fun _ h => h) (by decide +kernel) ?_
  refine va_tlen hx hb' hV.2.2.2 hS.2.1 rfl (by decide +kernel) ?_
  exact h hc hw p e s m' args below meth cc ad0 Bs hC hT H locs LS ad (hS.tk (gvs_n (fun _ h => by cases h)))
end YSV
