/-! ===== the changes kept ===== -/
def Bk (B : gB) : Prop := ∀ m, 3 ≤ m → m ≤ 12 → B m = B (m + 17)
def Clh (I : gI) (J : gJ) (B : gB) (c nx : Nat) (h : Nat → Nat → Int) : Prop := I 13 0 0 2 = gi c ∧ I 13 0 0 1 = gi nx ∧ c ≤ 8 ∧ nx < 8 ∧ ∀ j, j < c → Vf (h j) ∧ Rst (h j) I J (3 + (nx + 8 - c + j) % 8) ∧ B (3 + (nx + 8 - c + j) % 8 + 17) = true
def nwH (c : Nat) (h : Nat → Nat → Int) (f : Nat → Int) : Nat → Nat → Int := fun j => if c < 8 then (if j < c then h j else f) else if j < 7 then h (j + 1) else f
def gBl (B B' : gB) : Prop := (∀ m, B m = true → B' m = true) ∧ ∀ m, 100 ≤ m → B' m = B m
def CR (I I' : gI) : Prop := ∀ a b c d, a ≠ 13 → ¬ (6 ≤ a ∧ a ≤ 12 ∧ 3 ≤ b ∧ b ≤ 10) → I' a b c d = I a b c d
def JR (J J' : gJ) : Prop := ∀ a b d, ¬ ((a = 6 ∨ a = 10) ∧ 3 ≤ b ∧ b ≤ 10) → J' a b d = J a b d
def CR1 (nx : Nat) (I I' : gI) : Prop := ∀ a b c d, a ≠ 13 → ¬ (6 ≤ a ∧ a ≤ 12 ∧ b = 3 + nx) → I' a b c d = I a b c d
def JR1 (nx : Nat) (J J' : gJ) : Prop := ∀ a b d, ¬ ((a = 6 ∨ a = 10) ∧ b = 3 + nx) → J' a b d = J a b d
theorem CR1.to {nx : Nat} {I I' : gI} (h : CR1 nx I I') (hn : nx < 8) : CR I I' := fun a b c d h1 h2 => h a b c d h1 (by omega)
theorem JR1.to {nx : Nat} {J J' : gJ} (h : JR1 nx J J') (hn : nx < 8) : JR J J' := fun a b d h1 => h a b d (by omega)
section YK
variable {E : gEn} {Q : gQt} {X : gXt} {I : gI} {J : gJ} {B : gB} {cc w : Nat} {f : Nat → Int} {c nx : Nat} {h : Nat → Nat → Int}
theorem CR1.rst {g : Nat → Int} {n : Nat} {I' : gI} {J' : gJ} (hI : CR1 nx I I') (hJ : JR1 nx J J') (hR : Rst g I J n) (hn : n ≠ 3 + nx) : Rst g I' J' n := hR.to (fun a d h1 h2 => hI a n 0 d (by omega) (by omega)) (fun a d h1 => hJ a n d (by omega))
theorem nwH_f (hc : c ≤ 8) : nwH c h f (min (c + 1) 8 - 1) = f := by
  unfold nwH
  split
  · rw [if_neg (by omega)]
  · rw [if_neg (by omega)]
theorem Clh.new {I' : gI} {J' : gJ} {B' : gB} (hC : Clh I J B c nx h) (hv : Vf f) (hI : CR1 nx I I') (hJ : JR1 nx J J') (hR : Rst f I' J' (3 + nx)) (e1 : I' 13 0 0 1 = gi (((nx + 1) % 8 : Nat) : Int)) (e2 : I' 13 0 0 2 = gi ((min (c + 1) 8 : Nat) : Int)) (hB : ∀ m, B m = true → B' m = true) (hBn : B' (3 + nx + 17) = true) : Clh I' J' B' (min (c + 1) 8) ((nx + 1) % 8) (nwH c h f) := by
  obtain ⟨h1, h2, h3, h4, h5⟩ := hC
  refine ⟨e2, e1, by omega, Nat.mod_lt _ (by decide), fun j hj => ?_⟩
  unfold nwH
  by_cases h8 : c < 8
  · rw [if_pos h8]
    by_cases hjc : j < c
    · rw [if_pos hjc, show ((nx + 1) % 8 + 8 - min (c + 1) 8 + j) % 8 = (nx + 8 - c + j) % 8 by omega]
      obtain ⟨g1, g2, g3⟩ := h5 j hjc
      exact ⟨g1, hI.rst hJ g2 (by omega), hB _ g3⟩
    · rw [if_neg hjc, show ((nx + 1) % 8 + 8 - min (c + 1) 8 + j) % 8 = nx by omega]
      exact ⟨hv, hR, hBn⟩
  · rw [if_neg h8]
    by_cases hjc : j < 7
    · rw [if_pos hjc, show ((nx + 1) % 8 + 8 - min (c + 1) 8 + j) % 8 = (nx + 8 - c + (j + 1)) % 8 by omega]
      obtain ⟨g1, g2, g3⟩ := h5 (j + 1) (by omega)
      exact ⟨g1, hI.rst hJ g2 (by omega), hB _ g3⟩
    · rw [if_neg hjc, show ((nx + 1) % 8 + 8 - min (c + 1) 8 + j) % 8 = nx by omega]
      exact ⟨hv, hR, hBn⟩
theorem z_rem_b (hv : Vf f) (hR : Rst f I J 0) (e1 : I 13 0 0 1 = gi nx) (e2 : I 13 0 0 2 = gi c) (hc : c ≤ 8) (hn : nx < 8) (k : ∀ I' J', CR1 nx I I' → JR1 nx J J' → Rst f I' J' (3 + nx) → I' 13 0 0 1 = gi (((nx + 1) % 8 : Nat) : Int) → I' 13 0 0 2 = gi ((min (c + 1) 8 : Nat) : Int) → Q (.inl .null) I' J' B) :
    gC E 45 [.inr (6, 3 + nx, 0), .inr (6, 0, 0)] I J B (fun v20 I21 J22 B23 => ((¬ (gi 8) = gi 0) ∧ (gC E 308 [.inl (.int ((I21 13 0 0 2) + (gi 1))), .inl (.int (gi 8))] (gUI I21 13 0 0 1 (((I21 13 0 0 1) + (gi 1)) - ((I21 13 0 0 1) + (gi 1)) / (gi 8) * (gi 8))) J22 B23 (fun v24 I25 J26 B27 => gvi v24 fun r28 => (Q (.inl .null) (gUI I25 13 0 0 2 r28) J26 B27)) X))) X := by
  refine z_become (by omega) fun I2 J2 fs fj hb => ⟨by decide, ?_⟩
  have hR2 := hb f hv hR
  rw [fs 13 0 0 1 (by omega), fs 13 0 0 2 (by omega), e1, e2, gi_add, gi_add, gi_rem (by omega) (by omega) (by decide) (by decide), Int.tmod_eq_emod_of_nonneg (by omega)]
  refine z_min (by omega) (by omega) (by decide) (by decide) ?_
  show Q (.inl .null) (gUI _ 13 0 0 2 (gi _)) J2 B
  have hI2 : CR1 nx I (gUI (gUI I2 13 0 0 1 (gi (((nx : Int) + 1) % 8))) 13 0 0 2 (gi (min ((c : Int) + 1) 8))) := fun a b c d h1 h2 => by
    rw [gUI_at, if_neg (fun z => h1 z.1), gUI_at, if_neg (fun z => h1 z.1)]
    exact fs a b c d h2
  refine k _ _ hI2 (fun a b d h1 => fj a b d h1) (hR2.to (fun a d h1 h2 => ?_) (fun _ _ _ => rfl)) ?_ ?_
  · rw [gUI_at, if_neg (fun z => by omega), gUI_at, if_neg (fun z => by omega)]
  · rw [gUI_at, if_neg (fun z => absurd z.2.2.2 (by decide)), gUI_at, if_pos ⟨rfl, rfl, rfl, rfl⟩]
    congr 1
  · rw [gUI_at, if_pos ⟨rfl, rfl, rfl, rfl⟩]
    congr 1
    omega
theorem gUB_t {B : gB} {n m : Nat} : gUB B n m = true ↔ m = n ∨ B m = true := by
  unfold gUB
  by_cases h : m = n
  · rw [if_pos h]
    exact ⟨fun _ => Or.inl h, fun _ => rfl⟩
  · rw [if_neg h]
    exact ⟨fun z => Or.inr z, fun z => z.elim (fun y => absurd y h) id⟩
theorem Bk.up {m : Nat} (hB : Bk B) (h1 : 3 ≤ m) (h2 : m ≤ 12) : Bk (gUB (gUB B m) (m + 17)) := fun n h3 h4 => by
  unfold gUB
  by_cases h : n = m
  · subst h
    rw [if_neg (by omega), if_pos rfl, if_pos rfl]
  · rw [if_neg (by omega), if_neg h, if_neg (by omega), if_neg (by omega)]
    exact hB n h3 h4
theorem gnw_rst {m n : Nat} (hR : Rst f I J n) (h : n ≠ m) : Rst f (gnwI I m) (gnwJ J m) n := hR.to (fun a d h1 h2 => if_neg (fun z => h z.1)) (fun a d h1 => by
  unfold gnwJ
  rw [if_neg (fun z => h z.1), if_neg (fun z => h z.1)])
theorem z_rem (hv : Vf f) (hR : Rst f I J 0) (hC : Clh I J B c nx h) (hB : Bk B) (k : ∀ I' J' B', CR I I' → JR J J' → Clh I' J' B' (min (c + 1) 8) ((nx + 1) % 8) (nwH c h f) → Bk B' → gBl B B' → Q (.inl .null) I' J' B') : gC E 18 [.inr (13, 0, 0), .inr (6, 0, 0)] I J B Q X := by
  obtain ⟨h1, h2, h3, h4, h5⟩ := id hC
  refine e_X2_remember ?_
  rw [h2, gi_c (by omega) (by omega), gtn, gi_lt (by omega) (by omega) (by decide) (by decide), gi_lt (by omega) (by omega) (by decide) (by decide)]
  have pn : vp_in (gi (nx : Int)) 8 := gvp (by omega) (by omega) (by decide)
  refine ⟨fun z => by omega, fun _ => ⟨fun _ => ⟨pn, fun hb => ⟨pn, fun _ => ?_, fun z => by rw [hb] at z; cases z⟩, fun hb => ⟨rfl, 3 + nx, ⟨by omega, by omega, (hB (3 + nx) (by omega) (by omega)).trans hb⟩, ⟨by decide, by decide⟩, pn, rfl, ?_⟩⟩, fun z => by omega⟩⟩
  · exact z_rem_b hv hR h2 h1 h3 h4 fun I' J' f1 f2 g1 g2 g3 => k I' J' B (f1.to h4) (f2.to h4) (hC.new hv f1 f2 g1 g2 g3 (fun _ z => z) hb) hB ⟨fun _ z => z, fun _ _ => rfl⟩
  · have e1 : (gnwI I (3 + nx)) 13 0 0 1 = gi nx := (if_neg (fun z => by omega)).trans h2
    have e2 : (gnwI I (3 + nx)) 13 0 0 2 = gi c := (if_neg (fun z => by omega)).trans h1
    have hBt : gUB (gUB B (3 + nx)) (3 + nx + 17) (3 + nx + 17) = true := gUB_t.mpr (Or.inl rfl)
    have hBl : ∀ m, B m = true → gUB (gUB B (3 + nx)) (3 + nx + 17) m = true := fun m hm => gUB_t.mpr (Or.inr (gUB_t.mpr (Or.inr hm)))
    rw [e1, gi_c (by omega) (by omega), gtn]
    refine ⟨pn, fun _ => ?_, fun z => by rw [hBt] at z; cases z⟩
    have n1 : CR1 nx I (gnwI I (3 + nx)) := fun a b c d z1 z2 => if_neg (fun z => z2 ⟨z.2.1, z.2.2, z.1⟩)
    have n2 : JR1 nx J (gnwJ J (3 + nx)) := fun a b d z1 => by
      unfold gnwJ
      rw [if_neg (fun z => z1 ⟨Or.inl z.2.1, z.1⟩), if_neg (fun z => z1 ⟨Or.inr z.2, z.1⟩)]
    refine z_rem_b hv (gnw_rst hR (by omega)) e1 e2 h3 h4 fun I' J' f1 f2 g1 g2 g3 => ?_
    have f3 : CR1 nx I I' := fun a b c d z1 z2 => (f1 a b c d z1 z2).trans (n1 a b c d z1 z2)
    have f4 : JR1 nx J J' := fun a b d z1 => (f2 a b d z1).trans (n2 a b d z1)
    exact k I' J' _ (f3.to h4) (f4.to h4) (hC.new hv f3 f4 g1 g2 g3 hBl hBt) (hB.up (by omega) (by omega)) ⟨hBl, fun m hm => (if_neg (by omega)).trans (if_neg (by omega))⟩
/-! the reference's -/
def FK (I I' : gI) : Prop := ∀ a x y d, ¬ (a = 31 ∧ d = 4) → ¬ (a = 33 ∧ 408 ≤ d ∧ d < 3672) → I' a x y d = I a x y d
theorem FK.rf {I : gI} : FK I I := fun _ _ _ _ _ _ => rfl
theorem FK.tr {I I' I2 : gI} (h : FK I I') (h2 : FK I' I2) : FK I I2 := fun a b c d h3 h4 => (h2 a b c d h3 h4).trans (h a b c d h3 h4)
theorem F33.k {b : Nat} {I' : gI} (h : F33 b I I') (h1 : 1 ≤ b) (h2 : b ≤ 8) : FK I I' := fun a x y d h3 h4 => h a x y d (by omega)
theorem FK.up {I' : gI} {x : Int32} (h : FK I I') : FK I (gUI I' 31 0 0 4 x) := fun a b c d h1 h2 => by
  rw [gUI_at, if_neg (fun z => h1 ⟨z.1, z.2.2.2⟩)]
  exact h a b c d h1 h2
theorem FK.mrow {I' : gI} (h : FK I I') (hM : Mrow f I) : Mrow f I' := hM.to fun k _ => h 32 0 0 k (fun z => absurd z.1 (by decide)) (fun z => absurd z.1 (by decide))
end YK
