/-! ===== one row of code does what gsem says ===== -/
/-- a new state: from 'new' over its constructor (proved in another part) -/
def gNewOK (E : gEn) : Prop := ∀ (y pc : Nat) (ls : List (Nat × gV)) (st : List gV) (I : gI) (J : gJ) (B : gB) (c w : Nat) (Q : gQt) (X : gXt) (ik ic m : Nat), ((hcl y, ik, ic) = ((2, 9, 21) : Nat × Nat × Nat) ∨ (hcl y, ik, ic) = ((7, 16, 18) : Nat × Nat × Nat)) → (hy y).cls = gcls (hcl y) →
  decode (hb y) pc = .ok (.new ik, 3) → decode (hb y) (pc + 3) = .ok (.dup, 1) → decode (hb y) (pc + 4) = .ok (.invokespecial ic, 3) → 3 ≤ hfr y → 40 ≤ hlo y → gsum st ≤ 6 → (3 ≤ m ∧ m ≤ 12 ∧ B m = false) → (c + 7 ≤ hmc y ∧ w + 142 ≤ hms y) →
  gG E y (pc + 7) ls (.inr (6, m, 0) :: st) (gnwI I m) (gnwJ J m) (gUB B m) (c + 7) (w + 142) Q X → gG E y pc ls st I J B c w Q X
theorem gtop_e {st : List gV} {k : gV → List gV → Prop} (h : gtop st k) : ∃ v r, st = v :: r ∧ k v r := by
  unfold gtop at h
  split at h
  · exact ⟨_, _, rfl, h⟩
  · exact absurd h id
theorem gpi_e {st : List gV} {k : Int32 → List gV → Prop} (h : gpi st k) : ∃ x r, st = .inl (.int x) :: r ∧ k x r := by
  obtain ⟨v, r, rfl, h⟩ := gtop_e h
  obtain ⟨x, rfl, h⟩ := gvi_e h
  exact ⟨x, r, rfl, h⟩
theorem gpl_e {st : List gV} {k : Int64 → List gV → Prop} (h : gpl st k) : ∃ x r, st = .inl (.long x) :: r ∧ k x r := by
  obtain ⟨v, r, rfl, h⟩ := gtop_e h
  obtain ⟨x, rfl, h⟩ := gvl_e h
  exact ⟨x, r, rfl, h⟩
theorem gpd_e {st : List gV} {k : UInt64 → List gV → Prop} (h : gpd st k) : ∃ x r, st = .inl (.double x) :: r ∧ k x r := by
  obtain ⟨v, r, rfl, h⟩ := gtop_e h
  obtain ⟨x, rfl, h⟩ := gvd_e h
  exact ⟨x, r, rfl, h⟩
theorem gpr_e {st : List gV} {k : gR → List gV → Prop} (h : gpr st k) : ∃ x r, st = .inr x :: r ∧ k x r := by
  obtain ⟨v, r, rfl, h⟩ := gtop_e h
  obtain ⟨x, rfl, h⟩ := gvr_e h
  exact ⟨x, r, rfl, h⟩
theorem gno_e {st : List gV} {k : Prop} (h : gno st k) : st = [] ∧ k := by
  unfold gno at h
  split at h
  · exact ⟨rfl, h⟩
  · exact absurd h id
theorem gldv_e {ls : List (Nat × gV)} {a : Nat} {k : gV → Prop} (h : gldv ls a k) : ∃ v, ls.lookup a = some v ∧ k v := by
  unfold gldv at h
  split at h
  · rename_i v e
    exact ⟨v, e, h⟩
  · exact absurd h id
theorem gvI_e {v : gV} {k : Int32 → Bool} (h : gvI v k = true) {x : Int32} (e : v = .inl (.int x)) : k x = true := by
  subst e
  exact h
theorem gvL_e {v : gV} {k : Int64 → Bool} (h : gvL v k = true) {x : Int64} (e : v = .inl (.long x)) : k x = true := by
  subst e
  exact h
theorem gband {a b : Bool} (h : (a && b) = true) : a = true ∧ b = true := Bool.and_eq_true_iff.mp h
theorem gto_h {cd : List gE} {t : Nat} {e : gE} {r : List gE} (h : gto cd t = e :: r) : e.1 = t := by
  unfold gto at h
  have h1 := List.head?_dropWhile_not (fun e : gE => !(Nat.beq e.1 t)) cd
  rw [h] at h1
  simp only [List.head?_cons] at h1
  exact Nat.eq_of_beq_eq_true (by simpa using h1)
theorem gto_s {cd : List gE} {t : Nat} : ∃ pre, cd = pre ++ gto cd t := ⟨cd.takeWhile (fun e => !(Nat.beq e.1 t)), (List.takeWhile_append_dropWhile).symm⟩
theorem gckL_at {y : Nat} : ∀ {pre : List gE} {e : gE} {rest : List gE}, gckL y (pre ++ e :: rest) = true → gck1 y e rest = true
  | [], e, rest, h => (gband h).1
  | _ :: pre, e, rest, h => gckL_at (pre := pre) (gband h).2
section GS
variable {E : gEn} {y : Nat} {cd : List gE} {hs : gH} {bo : Bool} {Q : gQt} {X : gXt} {e : gE} {rest : List gE} {go : List gE → gM} {ls : List (Nat × gV)} {st : List gV} {I : gI} {J : gJ} {B : gB} {c w : Nat}
/-- going on to a row that stands in the code -/
def gGo (E : gEn) (y : Nat) (cd : List gE) (Q : gQt) (X : gXt) (go : List gE → gM) : Prop := ∀ (cur : List gE) (ls : List (Nat × gV)) (st : List gV) (I : gI) (J : gJ) (B : gB) (c w : Nat), (∃ pre, cd = pre ++ cur) → go cur ls st I J B c w → ∃ e r, cur = e :: r ∧ gG E y e.1 ls st I J B c w Q X
theorem gGo.nx (hgo : gGo E y cd Q X go) (hsuf : ∃ pre, cd = pre ++ e :: rest) (hck : gck1 y e rest = true) (h : go rest ls st I J B c w) : gG E y (e.1 + e.2.1) ls st I J B c w Q X := by
  obtain ⟨pre, hp⟩ := hsuf
  obtain ⟨e2, r2, rfl, hG⟩ := hgo rest ls st I J B c w ⟨pre ++ [e], by rw [hp]; simp⟩ h
  have h2 := (gband (gband hck).2).1
  rw [← Nat.eq_of_beq_eq_true h2]
  exact hG
theorem gGo.jm {t : Nat} (hgo : gGo E y cd Q X go) (h : go (gto cd t) ls st I J B c w) : gG E y t ls st I J B c w Q X := by
  obtain ⟨e2, r2, he, hG⟩ := hgo (gto cd t) ls st I J B c w gto_s h
  rw [← gto_h he]
  exact hG
theorem gdec (hck : gck1 y e rest = true) : decode (hb y) e.1 = .ok (e.2.2.1, e.2.1) := of_decide_eq_true (gband hck).1

end GS
