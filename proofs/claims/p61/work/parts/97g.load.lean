/-! ===== load ===== -/
def FL2 (I I' : gI) : Prop := ∀ a b c d, a ≠ 4 → ¬ (6 ≤ a ∧ a ≤ 12 ∧ (b = 0 ∨ b = 2)) → ¬ (a = 13 ∧ d = 2) → a ≠ 16 → I' a b c d = I a b c d
def FJ2 (J J' : gJ) : Prop := ∀ a b d, (a = 6 ∨ a = 10) → ¬ (b = 0 ∨ b = 2) → J' a b d = J a b d
def FBe (I I' : gI) : Prop := ∀ a b c d, a ≠ 4 → ¬ (6 ≤ a ∧ a ≤ 12 ∧ b = 2) → ¬ (a = 31 ∧ (d = 0 ∨ (7 ≤ d ∧ d ≤ 16) ∨ d = 19)) → a ≠ 36 → a ≠ 37 → I' a b c d = I a b c d
section YF
variable {E : gEn} {Q : gQt} {X : gXt} {I : gI} {J : gJ} {B : gB} {y5 : Int32} {cc w n m nb : Nat} {t : Nat → Int} {a : Int} {f : Nat → Int}
theorem and255 (x : Int32) : ∃ j : Nat, j < 256 ∧ x &&& gi 255 = gi (j : Int) := by
  obtain ⟨j, h1, h2⟩ := pk_andE x (m := gi 255) 8 (by decide)
  exact ⟨j, h1, h2⟩
theorem c_load (h1 : -2147483648 ≤ a) (h2 : a < 2147483648) (hnb : nb ≤ 700) (e1 : I 4 0 0 1 = gi nb) (ht : ∀ k, k < nb → (0 ≤ t k ∧ t k < 256) ∧ I 5 0 0 k &&& gi 255 = gi (t k)) (k0 : ¬ (0 ≤ a ∧ a ≤ nb) → X 1 I J B) (kE : ∀ m : Nat, a = m → m ≤ nb → ∀ er pos, parseF t m = .inl (er, pos) → ∀ I' J', FPz I I' → FJ 2 J J' → I' 4 0 0 3 = gi er → I' 4 0 0 4 = gi pos → I' 4 0 0 1 = gi 0 → X 2 I' J' B) (kO : ∀ m : Nat, a = m → m ≤ nb → ∀ f, parseF t m = .inr f → ∀ I' J', FL2 I I' → FJ2 J J' → Rst (bgF f) I' J' 0 → I' 13 0 0 2 = gi 0 → I' 16 0 0 0 = gi 0 → I' 16 0 0 1 = gi 0 → I' 4 0 0 3 = gi 0 → I' 4 0 0 1 = gi 0 → Q (.inl (.int (gi (bgF f 0)))) I' J' B) : gC E 53 [.inr (3, 0, 0), .inl (.int (gi a))] I J B Q X := by
  refine e_X7_load ⟨fun z => ⟨⟨by decide, by decide⟩, k0 ?_⟩, fun z => ⟨fun z2 => ?_, fun z2 => ⟨⟨by decide, by decide⟩, k0 ?_⟩⟩⟩
  · rw [gi_lt h1 h2 (by omega) (by omega)] at z; omega
  · rw [gi_lt h1 h2 (by omega) (by omega)] at z
    rw [e1, gi_le h1 h2 (by omega) (by omega)] at z2
    obtain ⟨m, rfl⟩ : ∃ m : Nat, a = m := ⟨a.toNat, by omega⟩
    refine z_parse (t := t) hnb (by omega) e1 ht (fun f hf I1 J1 fp fj hRs c3 c1 => And.intro (fun _ => ?_) (fun y => absurd y g10)) (fun er pos hf I1 J1 fp fj c3 c4 c1 => And.intro (fun y => absurd rfl y) (fun _ => ⟨⟨by decide, by decide⟩, kE m rfl (by omega) er pos hf I1 J1 fp fj c3 c4 c1⟩))
    have hv := (parseF_ok hf).1
    refine z_become (by decide) fun I2 J2 fs fj2 hb => e_X2_forget ?_
    have hR2 := hb _ hv hRs
    have step : ∀ {i : Nat} {I3 : gI}, i < 2 → gG E 53 69 [(0, .inr (3, 0, 0)), (2, .inl (.int (gi ((i + 1 : Nat) : Int))))] [] (gUI I3 16 0 0 i (gi 0)) J2 B 0 0 Q X → gG E 53 69 [(0, .inr (3, 0, 0)), (2, .inl (.int (gi ((i : Nat) : Int))))] [] I3 J2 B 0 0 Q X := fun {i I3} hi g => by
      refine s_X7_load_69 ⟨fun z => by rw [gi_le (by omega) (by omega) (by omega) (by omega)] at z; omega, fun _ => ⟨gvp (by omega) (by omega) (by decide), ?_⟩⟩
      rw [nar0, gi_c (by omega) (by omega), gtn, show gi (i : Int) + gi 1 = gi ((i + 1 : Nat) : Int) from gi_add _ _]
      exact g
    refine step (i := 0) (by decide) (step (i := 1) (by decide) (s_X7_load_69 ⟨fun _ => ?_, fun z => absurd (by decide) z⟩))
    have hR3 : Rst (bgF f) (gUI (gUI (gUI I2 13 0 0 2 (gi 0)) 16 0 0 0 (gi 0)) 16 0 0 1 (gi 0)) J2 0 := hR2.to (fun a d z1 z2 => (if_neg (by omega)).trans ((if_neg (by omega)).trans (if_neg (by omega)))) (fun _ _ _ => rfl)
    rw [hR3.1.1]
    refine kO m rfl (by omega) f hf _ J2 (fun a b c d z1 z2 z3 z4 => ?_) (fun a b d z z2 => (fj2 a b d (by omega)).trans (fj a b d (by omega))) hR3 ?_ ?_ ?_ ?_ ?_
    · rw [gUI_at, if_neg (by omega), gUI_at, if_neg (by omega), gUI_at, if_neg (by omega), fs a b c d (by omega), fp a b c d (by omega) (by omega)]
    · rw [gUI_at, if_neg (by omega), gUI_at, if_neg (by omega), gu_s]
    · rw [gu_o (by decide), gu_s]
    · rw [gu_s]
    · rw [gUI_at, if_neg (by omega), gUI_at, if_neg (by omega), gUI_at, if_neg (by omega), fs 4 0 0 3 (by omega)]; exact c3
    · rw [gUI_at, if_neg (by omega), gUI_at, if_neg (by omega), gUI_at, if_neg (by omega), fs 4 0 0 1 (by omega)]; exact c1
  · rw [e1, gi_le h1 h2 (by omega) (by omega)] at z2; omega
end YF
