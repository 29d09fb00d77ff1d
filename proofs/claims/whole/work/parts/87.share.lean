/-! ===== the law's cases: what they share ===== -/
def Ly (E : gEn) (y5 : Int32) : Prop := vp_in (y5 + (gi 1)) (gL E) ∧ vp_in (y5 + (gi 2)) (gL E) ∧ vp_in (y5 + (gi 3)) (gL E) ∧ vp_in (y5 + (gi 4)) (gL E) ∧ vp_in (y5 + (gi 5)) (gL E)
/-- the relation, and that no system has no slot -/
def Rl (I : gI) (J : gJ) (B : gB) : Prop := Rel I J B ∧ (I 31 0 0 1 = gi 0 → ∀ s, s < 2 → I 34 0 0 s = gi 0)
theorem Rl.q {I I' : gI} {J J' : gJ} {B : gB} (hR : Rl I J B) (q : QF I I') (j : J6 J J') : Rl I' J' B :=
  ⟨hR.1.q q j, fun z s hs => (q 34 0 0 s (by unfold KQ; omega)).trans (hR.2 ((q 31 0 0 1 (by unfold KQ; omega)).symm.trans z) s hs)⟩
theorem Rl.chg {I I1 I2 : gI} {J J1 J2 : gJ} {B B' : gB} {f' : Nat → Int} {c' nx' : Nat} {h' : Nat → Nat → Int} (hF : Buf I) (hT : Slt I J B) (cf : CF I I1) (cj : CJ J J1) (hBl : ∀ m, B m = true → B' m = true) (hB : Bk B') (hv : Vf f') (hR : Rst f' I1 J1 0) (hC : Clh I1 J1 B' c' nx' h') (mf : MF I1 I2) (fx : FX J1 J2) (hs : I 31 0 0 1 = gi 1) (hM : Mrow f' I2) (hD : Mdh I2 c' h') : Rl I2 J2 B' :=
  ⟨Rel.chg hF hT cf cj hBl hB hv hR hC mf fx hs hM hD, fun z => absurd (((mf 31 0 0 1 (by omega)).trans ((cf 31 0 0 1 (by omega)).trans hs)).symm.trans z) (by decide)⟩
def Kx (E : gEn) (Q : gQt) (X : gXt) (y5 : Int32) (c w : Nat) : Prop := ∀ I' J' B', Rl I' J' B' → ∀ c' w', c' ≤ c + 12 → w' ≤ w + 172 → gG E 313 3355 (lls y5) [] I' J' B' c' w' Q X
theorem gi_ex (x : Int32) : ∃ a : Int, -2147483648 ≤ a ∧ a < 2147483648 ∧ x = gi a :=
  ⟨x.toInt, Int32.le_toInt x, Int32.toInt_lt x, (Int32.ofInt_toInt x).symm⟩
theorem lg_self (x : Int64) : lg_cmp x x = gi 0 := by
  unfold lg_cmp
  simp
  try rfl
theorem gi_le4 {e : Nat} (h : e ≤ 3) (z : gi e = gi 0) : e = 0 := by
  have : e = 0 ∨ e = 1 ∨ e = 2 ∨ e = 3 := by omega
  rcases this with rfl | rfl | rfl | rfl
  · rfl
  · exact absurd z (by decide)
  · exact absurd z (by decide)
  · exact absurd z (by decide)
theorem Sys.j6 {o : Option (Nat → Int)} {I I' : gI} {J J' : gJ} (h1 : Sys o I J) (q : QF I I') (j : J6 J J') : Sys o I' J' := by
  cases o with
  | none =>
    obtain ⟨g1, g2, g3, g4, g5⟩ := h1
    exact ⟨(q _ _ _ _ (by unfold KQ; omega)).trans g1, (q _ _ _ _ (by unfold KQ; omega)).trans g2, (q _ _ _ _ (by unfold KQ; omega)).trans g3, (q _ _ _ _ (by unfold KQ; omega)).trans g4, (q _ _ _ _ (by unfold KQ; omega)).trans g5⟩
  | some f =>
    obtain ⟨g1, g2, g3, g4⟩ := h1
    exact ⟨(q _ _ _ _ (by unfold KQ; omega)).trans g1, g2, g3.to (fun a d z1 z2 => q a 0 0 d (by unfold KQ; omega)) (fun a d z1 => j a 0 d z1 (by decide)), q.mrow g4⟩
theorem eM_le {o : Option (Nat → Int)} {g : (Nat → Int) → Nat} {m : Nat} (h : ∀ f, g f ≤ m) (hm : 1 ≤ m) : eM o g ≤ m := by
  cases o with
  | none => exact hm
  | some f => exact h f
theorem fre_le {f : Nat → Int} {i : Nat} : fre f i ≤ 3 := by
  unfold fre
  split <;> omega

theorem vp0 : vp_in (gi 0) 1 := gvp (by decide) (by decide) (by decide)
section YL
variable {E : gEn} {Q : gQt} {X : gXt} {I : gI} {J : gJ} {B : gB} {e : Nat} {y : Nat} {args : List gV}
theorem JQ.l46 {J' : gJ} (h : JQ J J') : J' 46 0 0 = J 46 0 0 := h 46 0 0 (by decide) (by decide)
theorem JQ.l47 {J' : gJ} (h : JQ J J') : J' 47 0 0 = J 47 0 0 := h 47 0 0 (by decide) (by decide)
theorem Cl.w {r : Int32} (h : Cl E y args I J B e (.inl (.int r))) {A0 A1 A2 : gI → gJ → gB → Prop} (m : Nat) (hm : e ≤ m) (hm3 : m ≤ 3) (a0 : 1 ≤ m → ∀ I' J', Q (.inl (.int (gi 1))) I' J' B → A0 I' J' B) (a1 : 2 ≤ m → ∀ I' J', Q (.inl (.int (gi 2))) I' J' B → A1 I' J' B) (a2 : 3 ≤ m → ∀ I' J', Q (.inl (.int (gi 3))) I' J' B → A2 I' J' B) (k : ∀ I' J', QF I I' → J6 J J' → (e = 0 → J' 46 0 0 = Int32.toInt64 r) → Q (.inl (.int (gi e))) I' J' B) : gC E y args I J B (fun v1 I2 J3 B4 => gvi v1 fun r5 => (vp_in (gi 0) 1 ∧ (Q (.inl (.int (gi 0))) I2 (gUJ J3 46 0 0 (Int32.toInt64 r5)) B4))) (fun k9 I6 J7 B8 => gx3 k9 (A0 I6 J7 B8) (A1 I6 J7 B8) (A2 I6 J7 B8)) := by
  refine h _ _ (fun he I' J' q j => And.intro vp0 ?_) (fun n he I' J' q j => ?_)
  · subst he
    exact k _ _ q (j.j6.up (by decide)) fun _ => if_pos ⟨rfl, rfl, rfl⟩
  · have k2 := k _ _ q j.j6 fun z => absurd (he.symm.trans z) (by omega)
    subst he
    have : n = 0 ∨ n = 1 ∨ n = 2 := by omega
    rcases this with rfl | rfl | rfl
    · exact a0 (by omega) _ _ k2
    · exact a1 (by omega) _ _ k2
    · exact a2 (by omega) _ _ k2
theorem Cl.wl {r : Int64} (h : Cl E y args I J B e (.inl (.long r))) {A0 A1 A2 : gI → gJ → gB → Prop} (m : Nat) (hm : e ≤ m) (hm3 : m ≤ 3) (a0 : 1 ≤ m → ∀ I' J', Q (.inl (.int (gi 1))) I' J' B → A0 I' J' B) (a1 : 2 ≤ m → ∀ I' J', Q (.inl (.int (gi 2))) I' J' B → A1 I' J' B) (a2 : 3 ≤ m → ∀ I' J', Q (.inl (.int (gi 3))) I' J' B → A2 I' J' B) (k : ∀ I' J', QF I I' → J6 J J' → (e = 0 → J' 46 0 0 = r) → Q (.inl (.int (gi e))) I' J' B) : gC E y args I J B (fun v1 I2 J3 B4 => gvl v1 fun r5 => (vp_in (gi 0) 1 ∧ (Q (.inl (.int (gi 0))) I2 (gUJ J3 46 0 0 r5) B4))) (fun k9 I6 J7 B8 => gx3 k9 (A0 I6 J7 B8) (A1 I6 J7 B8) (A2 I6 J7 B8)) := by
  refine h _ _ (fun he I' J' q j => And.intro vp0 ?_) (fun n he I' J' q j => ?_)
  · subst he
    exact k _ _ q (j.j6.up (by decide)) fun _ => if_pos ⟨rfl, rfl, rfl⟩
  · have k2 := k _ _ q j.j6 fun z => absurd (he.symm.trans z) (by omega)
    subst he
    have : n = 0 ∨ n = 1 ∨ n = 2 := by omega
    rcases this with rfl | rfl | rfl
    · exact a0 (by omega) _ _ k2
    · exact a1 (by omega) _ _ k2
    · exact a2 (by omega) _ _ k2
theorem Cl.wd {r : UInt64} (h : Cl E y args I J B e (.inl (.double r))) {A0 A1 A2 : gI → gJ → gB → Prop} (m : Nat) (hm : e ≤ m) (hm3 : m ≤ 3) (a0 : 1 ≤ m → ∀ I' J', Q (.inl (.int (gi 1))) I' J' B → A0 I' J' B) (a1 : 2 ≤ m → ∀ I' J', Q (.inl (.int (gi 2))) I' J' B → A1 I' J' B) (a2 : 3 ≤ m → ∀ I' J', Q (.inl (.int (gi 3))) I' J' B → A2 I' J' B) (k : ∀ I' J', QF I I' → J6 J J' → (e = 0 → J' 47 0 0 = UInt64.toInt64 r) → Q (.inl (.int (gi e))) I' J' B) : gC E y args I J B (fun v1 I2 J3 B4 => gvd v1 fun r5 => (vp_in (gi 0) 1 ∧ (Q (.inl (.int (gi 0))) I2 (gUJ J3 47 0 0 (UInt64.toInt64 r5)) B4))) (fun k9 I6 J7 B8 => gx3 k9 (A0 I6 J7 B8) (A1 I6 J7 B8) (A2 I6 J7 B8)) := by
  refine h _ _ (fun he I' J' q j => And.intro vp0 ?_) (fun n he I' J' q j => ?_)
  · subst he
    exact k _ _ q (j.j6.up (by decide)) fun _ => if_pos ⟨rfl, rfl, rfl⟩
  · have k2 := k _ _ q j.j6 fun z => absurd (he.symm.trans z) (by omega)
    subst he
    have : n = 0 ∨ n = 1 ∨ n = 2 := by omega
    rcases this with rfl | rfl | rfl
    · exact a0 (by omega) _ _ k2
    · exact a1 (by omega) _ _ k2
    · exact a2 (by omega) _ _ k2
theorem Cl.wb {r : Int32} (h : Cl E y args I J B e (.inl (.int r))) {A0 A1 A2 : gI → gJ → gB → Prop} (m : Nat) (hm : e ≤ m) (hm3 : m ≤ 3) (a0 : 1 ≤ m → ∀ I' J', Q (.inl (.int (gi 1))) I' J' B → A0 I' J' B) (a1 : 2 ≤ m → ∀ I' J', Q (.inl (.int (gi 2))) I' J' B → A1 I' J' B) (a2 : 3 ≤ m → ∀ I' J', Q (.inl (.int (gi 3))) I' J' B → A2 I' J' B) (k : ∀ I' J', QF I I' → J6 J J' → (e = 0 → J' 46 0 0 = (if r = gi 0 then gj 0 else gj 1)) → Q (.inl (.int (gi e))) I' J' B) : gC E y args I J B (fun v1 I2 J3 B4 => gvi v1 fun r5 => ((r5 = gi 0 → (vp_in (gi 0) 1 ∧ (Q (.inl (.int (gi 0))) I2 (gUJ J3 46 0 0 (gj 0)) B4))) ∧ (¬ r5 = gi 0 → (vp_in (gi 0) 1 ∧ (Q (.inl (.int (gi 0))) I2 (gUJ J3 46 0 0 (gj 1)) B4))))) (fun k9 I6 J7 B8 => gx3 k9 (A0 I6 J7 B8) (A1 I6 J7 B8) (A2 I6 J7 B8)) := by
  refine h _ _ (fun he I' J' q j => And.intro (fun z => And.intro vp0 ?_) (fun z => And.intro vp0 ?_)) (fun n he I' J' q j => ?_)
  · subst he
    refine k _ _ q (j.j6.up (by decide)) fun _ => ?_
    rw [if_pos z]
    exact if_pos ⟨rfl, rfl, rfl⟩
  · subst he
    refine k _ _ q (j.j6.up (by decide)) fun _ => ?_
    rw [if_neg z]
    exact if_pos ⟨rfl, rfl, rfl⟩
  · have k2 := k _ _ q j.j6 fun z => absurd (he.symm.trans z) (by omega)
    subst he
    have : n = 0 ∨ n = 1 ∨ n = 2 := by omega
    rcases this with rfl | rfl | rfl
    · exact a0 (by omega) _ _ k2
    · exact a1 (by omega) _ _ k2
    · exact a2 (by omega) _ _ k2
theorem lt_ok {K Z : gI → gJ → gB → Prop} {r : Int64} (he : e ≤ 3) (g : I 31 0 0 0 = gi e) (hv : e = 0 → J 46 0 0 = r) (k : K I J B) : gC E 130 [.inr (31, 0, 0)] I J B (fun v I J B => gvi v fun r3 => ((r3 = gi e → ((¬ gi e = gi 0 → K I J B) ∧ (gi e = gi 0 → (vp_in (gi 0) 1 ∧ ((lg_cmp (J 46 0 0) r = gi 0 → K I J B) ∧ (¬ lg_cmp (J 46 0 0) r = gi 0 → Z I J B)))))) ∧ (¬ r3 = gi e → Z I J B))) X :=
  e_X8_thrown (And.intro (fun _ => ⟨fun _ => k, fun z => ⟨vp0, fun _ => k, fun z2 => absurd ((congrArg (fun x => lg_cmp x r) (hv (gi_le4 he z))).trans (lg_self r)) z2⟩⟩) (fun z => absurd g z))
theorem lt_okd {K Z : gI → gJ → gB → Prop} {r : UInt64} (he : e ≤ 3) (g : I 31 0 0 0 = gi e) (hv : e = 0 → J 47 0 0 = UInt64.toInt64 r) (k : K I J B) : gC E 130 [.inr (31, 0, 0)] I J B (fun v I J B => gvi v fun r3 => ((r3 = gi e → ((¬ gi e = gi 0 → K I J B) ∧ (gi e = gi 0 → (vp_in (gi 0) 1 ∧ ((Op.cmpValue (FP.dcmp (Int64.toUInt64 (J 47 0 0)) r) .l = gi 0 → K I J B) ∧ (¬ Op.cmpValue (FP.dcmp (Int64.toUInt64 (J 47 0 0)) r) .l = gi 0 → (vp_in (gi 0) 1 ∧ (vp_in (gi 0) 1 ∧ ((Op.cmpValue (FP.dcmp (Int64.toUInt64 (J 47 0 0)) (Int64.toUInt64 (J 47 0 0))) .l = gi 0 → Z I J B) ∧ (¬ Op.cmpValue (FP.dcmp (Int64.toUInt64 (J 47 0 0)) (Int64.toUInt64 (J 47 0 0))) .l = gi 0 → ((¬ Op.cmpValue (FP.dcmp r r) .l = gi 0 → K I J B) ∧ (Op.cmpValue (FP.dcmp r r) .l = gi 0 → Z I J B)))))))))))) ∧ (¬ r3 = gi e → Z I J B))) X := by
  refine e_X8_thrown (And.intro (fun _ => ⟨fun _ => k, fun z => ⟨vp0, fun _ => k, fun z2 => ⟨vp0, vp0, ?_⟩⟩⟩) (fun z => absurd g z))
  have e1 : Int64.toUInt64 (J 47 0 0) = r := by rw [hv (gi_le4 he z)]; exact UInt64.toUInt64_toInt64 r
  rw [e1] at z2 ⊢
  exact ⟨fun z3 => absurd z3 z2, fun _ => ⟨fun _ => k, fun z3 => absurd z3 z2⟩⟩
theorem lt_okb {K Z : gI → gJ → gB → Prop} {r : Int32} (he : e ≤ 3) (g : I 31 0 0 0 = gi e) (hv : e = 0 → J 46 0 0 = (if r = gi 0 then gj 0 else gj 1)) (k : K I J B) : gC E 130 [.inr (31, 0, 0)] I J B (fun v I J B => gvi v fun r3 => ((r3 = gi e → ((¬ gi e = gi 0 → K I J B) ∧ (gi e = gi 0 → (vp_in (gi 0) 1 ∧ ((r = gi 0 → ((lg_cmp (J 46 0 0) (gj 0) = gi 0 → K I J B) ∧ (¬ lg_cmp (J 46 0 0) (gj 0) = gi 0 → Z I J B))) ∧ (¬ r = gi 0 → ((lg_cmp (J 46 0 0) (gj 1) = gi 0 → K I J B) ∧ (¬ lg_cmp (J 46 0 0) (gj 1) = gi 0 → Z I J B)))))))) ∧ (¬ r3 = gi e → Z I J B))) X :=
  e_X8_thrown (And.intro (fun _ => ⟨fun _ => k, fun z => ⟨vp0, fun z3 => ⟨fun _ => k, fun z2 => absurd ((congrArg (fun x => lg_cmp x (gj 0)) ((hv (gi_le4 he z)).trans (if_pos z3))).trans (lg_self _)) z2⟩, fun z3 => ⟨fun _ => k, fun z2 => absurd ((congrArg (fun x => lg_cmp x (gj 1)) ((hv (gi_le4 he z)).trans (if_neg z3))).trans (lg_self _)) z2⟩⟩⟩) (fun z => absurd g z))
theorem vint {x r : Int32} (h : (Sum.inl (Value.int x) : gV) = .inl (.int r)) : x = r := by
  injection h with h
  injection h
end YL
