/-! ===== the reference's load ===== -/
def FLE (I I' : gI) : Prop := ∀ a b c d, ¬ (a = 31 ∧ (d = 0 ∨ (7 ≤ d ∧ d ≤ 16) ∨ d = 19)) → a ≠ 36 → a ≠ 37 → I' a b c d = I a b c d
def FLO (I I' : gI) : Prop := ∀ a b c d, (a ≤ 30 ∨ a = 33 ∨ a = 35) → I' a b c d = I a b c d
section YP
variable {E : gEn} {Q : gQt} {X : gXt} {I : gI} {J : gJ} {B : gB} {c w n nb : Nat} {t : Nat → Int} {a : Int} {f : Nat → Int}
theorem m_l98 {I0 : gI} (h0 : 0 ≤ f 0 ∧ f 0 ≤ 7) (e1 : I0 31 0 0 0 = gi 0) (e2 : I0 31 0 0 1 = gi 1) (e7 : I0 31 0 0 7 = gi 0) (e8 : I0 31 0 0 8 = gi 0) (e9 : I0 31 0 0 9 = gi (-1)) (hz : ∀ q, q < 408 → I0 36 0 0 q = gi (f q)) (kO : ∀ I', FLO I0 I' → I' 31 0 0 0 = gi 0 → I' 31 0 0 1 = gi 1 → I' 31 0 0 4 = gi 0 → I' 31 0 0 7 = gi 0 → I' 31 0 0 8 = gi 0 → I' 31 0 0 9 = gi (-1) → Mrow (bgF f) I' → I' 34 0 0 0 = gi 0 → I' 34 0 0 1 = gi 0 → Q (.inl (.int (gi (bgF f 0)))) I' J B) : ∀ (j i : Nat) (I1 : gI), 408 - i = j → i ≤ 408 → (∀ a b c d, a ≠ 32 → I1 a b c d = I0 a b c d) → (∀ q, q < i → I1 32 0 0 q = gi (f q)) → gG E 156 98 [(0, .inr (31, 0, 0)), (2, .inl (.int (gi i)))] [] I1 J B c w Q X := by
  intro j
  induction j with
  | zero =>
    intro i I1 h1 h2 fr hM
    refine s_X8_load_98 ⟨fun _ => ?_, fun z => by rw [gi_le (by omega) (by omega) (by omega) (by omega)] at z; omega⟩
    refine z_bg h0 (fun q hq => hM q (by omega)) fun I2 f2 hM2 => ?_
    show _ ∧ _
    rw [nar0, hM2 0 (by decide)]
    have g : ∀ a b c d, a ≠ 32 → a ≠ 38 → a ≠ 39 → ¬ (a = 31 ∧ d = 21) → I2 a b c d = I0 a b c d := fun a b c d z1 z2 z3 z4 => (f2 a b c d z1 z2 z3 z4).trans (fr a b c d z1)
    refine ⟨gvp (by decide) (by decide) (by decide), gvp (by decide) (by decide) (by decide), vq0, kO _ (fun a b c d z => ?_) ?_ ?_ ?_ ?_ ?_ ?_ (fun q hq => ?_) ?_ ?_⟩
    · rw [gUI_at, if_neg (by omega), gUI_at, if_neg (by omega), gUI_at, if_neg (by omega)]
      exact g a b c d (by omega) (by omega) (by omega) (by omega)
    · rw [gUI_at, if_neg (by omega), gUI_at, if_neg (by omega), gUI_at, if_neg (by omega), g _ _ _ _ (by omega) (by omega) (by omega) (by omega)]; exact e1
    · rw [gUI_at, if_neg (by omega), gUI_at, if_neg (by omega), gUI_at, if_neg (by omega), g _ _ _ _ (by omega) (by omega) (by omega) (by omega)]; exact e2
    · rw [gUI_at, if_neg (by omega), gUI_at, if_neg (by omega), gu_s]
    · rw [gUI_at, if_neg (by omega), gUI_at, if_neg (by omega), gUI_at, if_neg (by omega), g _ _ _ _ (by omega) (by omega) (by omega) (by omega)]; exact e7
    · rw [gUI_at, if_neg (by omega), gUI_at, if_neg (by omega), gUI_at, if_neg (by omega), g _ _ _ _ (by omega) (by omega) (by omega) (by omega)]; exact e8
    · rw [gUI_at, if_neg (by omega), gUI_at, if_neg (by omega), gUI_at, if_neg (by omega), g _ _ _ _ (by omega) (by omega) (by omega) (by omega)]; exact e9
    · rw [gUI_at, if_neg (by omega), gUI_at, if_neg (by omega), gUI_at, if_neg (by omega)]; exact hM2 q hq
    · rw [gUI_at, if_neg (by omega), gu_s]
    · rw [gu_s]
  | succ j ih =>
    intro i I1 h1 h2 fr hM
    refine s_X8_load_98 ⟨fun z => by rw [gi_le (by omega) (by omega) (by omega) (by omega)] at z; omega, fun _ => ⟨gvp (by omega) (by omega) (by decide), gvp (by omega) (by omega) (by decide), ?_⟩⟩
    rw [gi_c (by omega) (by omega), gtn, fr 36 0 0 i (by decide), hz i (by omega), show gi (i : Int) + gi 1 = gi ((i + 1 : Nat) : Int) from gi_add _ _]
    refine ih (i + 1) _ (by omega) (by omega) (fun a b c d z => (if_neg (by omega)).trans (fr a b c d z)) (fun q hq => ?_)
    rw [gUI_at]
    by_cases y : q = i
    · rw [if_pos ⟨rfl, rfl, rfl, y⟩, y]
    · rw [if_neg (fun z => y z.2.2.2)]
      exact hM q (by omega)
theorem m_load (h1 : -2147483648 ≤ a) (h2 : a < 2147483648) (hnb : nb ≤ 700) (e7 : I 31 0 0 7 = gi nb) (ht : ∀ k, k < nb → (0 ≤ t k ∧ t k < 256) ∧ I 35 0 0 k = gi (t k)) (hpF : ∀ m f, m ≤ nb → parseF t m = .inr f → 0 ≤ f 0 ∧ f 0 ≤ 7) (k0 : ¬ (0 ≤ a ∧ a ≤ nb) → ∀ I', T0 I I' → I' 31 0 0 0 = gi 1 → Q (.inl (.int (gi 0))) I' J B) (kE : ∀ m : Nat, a = m → m ≤ nb → ∀ er pos, parseF t m = .inl (er, pos) → 1 ≤ er → er ≤ 4 → ∀ I', FLE I I' → I' 31 0 0 0 = gi 2 → I' 31 0 0 7 = gi 0 → I' 31 0 0 8 = gi er → I' 31 0 0 9 = gi pos → Q (.inl (.int (gi 0))) I' J B) (kO : ∀ m : Nat, a = m → m ≤ nb → ∀ f, parseF t m = .inr f → ∀ I', FLO I I' → I' 31 0 0 0 = gi 0 → I' 31 0 0 1 = gi 1 → I' 31 0 0 4 = gi 0 → I' 31 0 0 7 = gi 0 → I' 31 0 0 8 = gi 0 → I' 31 0 0 9 = gi (-1) → Mrow (bgF f) I' → I' 34 0 0 0 = gi 0 → I' 34 0 0 1 = gi 0 → Q (.inl (.int (gi (bgF f 0)))) I' J B) : gC E 156 [.inr (31, 0, 0), .inl (.int (gi a))] I J B Q X := by
  refine e_X8_load ?_
  rw [e7]
  have t0 : T0 I (gUI I 31 0 0 0 (gi 0)) := T0.rf.up
  refine z_in h1 h2 (by decide) (by decide) (by omega) (by omega) (fun z1 z2 => And.intro (fun _ => ?_) (fun y => absurd y g10)) (fun z => And.intro (fun y => absurd rfl y) (fun _ => ?_))
  · obtain ⟨m, rfl⟩ : ∃ m : Nat, a = m := ⟨a.toNat, by omega⟩
    refine z_rf0 th_up (And.intro (fun _ => ?_) (fun y => absurd rfl y))
    have hb : Tb t m := ⟨by omega, fun k hk => (ht k (by omega)).1⟩
    have fr0 : ∀ a b c d, ¬ (a = 31 ∧ (d = 0 ∨ d = 7)) → (gUI (gUI I 31 0 0 0 (gi 0)) 31 0 0 7 (gi 0)) a b c d = I a b c d := fun a b c d z => by
      rw [gUI_at, if_neg (by omega), gUI_at, if_neg (by omega)]
    refine m_reads hb (fun k hk => (fr0 35 0 0 k (by omega)).trans (ht k (by omega)).2) fun I2 f2 hP => ?_
    have c0 : I2 31 0 0 0 = gi 0 := (f2 31 0 0 0 (by omega) (by decide) (by decide)).trans ((gu_o (by decide)).trans gu_s)
    have c7 : I2 31 0 0 7 = gi 0 := (f2 31 0 0 7 (by omega) (by decide) (by decide)).trans gu_s
    cases hL : parseF t m with
    | inl er =>
      obtain ⟨er, pos⟩ := er
      rw [hL] at hP
      obtain ⟨p1, p2, p3, p4⟩ := hP
      have hn : ¬ I2 31 0 0 15 = gi 0 := by rw [p3]; exact gi_n0 p1 p2
      refine And.intro (fun _ => ⟨fun y => absurd y hn, fun _ => ?_⟩) (fun y => absurd y hn)
      refine z_rf1 ?_ (by decide) (And.intro (fun y => absurd y g10) (fun _ => kE m rfl (by omega) er pos hL p1 p2 _ (fun a b c d z z2 z3 => ?_) th_up ?_ ?_ ?_))
      · rw [gu_o (by decide), gu_o (by decide)]; exact c0
      · rw [gUI_at, if_neg (by omega), gUI_at, if_neg (by omega), gUI_at, if_neg (by omega), f2 a b c d (by omega) z2 z3]
        exact fr0 a b c d (by omega)
      · rw [gu_o (by decide), gu_o (by decide), gu_o (by decide)]; exact c7
      · rw [gu_o (by decide), gu_o (by decide), gu_s]; exact p3
      · rw [gu_o (by decide), gu_s]; exact p4
    | inr f =>
      rw [hL] at hP
      obtain ⟨p1, p2⟩ := hP
      refine And.intro (fun y => absurd p2 y) (fun _ => ⟨fun _ => ?_, fun y => absurd p2 y⟩)
      refine z_rf0 ?_ (And.intro (fun _ => ⟨Or.inr rfl, ?_⟩) (fun y => absurd rfl y))
      · rw [gu_o (by decide), gu_o (by decide)]; exact c0
      · refine m_l98 (f := f) (hpF m f (by omega) hL) ?_ ?_ ?_ ?_ ?_ (fun q hq => ?_) (fun I' fo => kO m rfl (by omega) f hL I' (fun a b c d z => (fo a b c d z).trans ?_)) 408 0 _ rfl (Nat.zero_le _) (fun _ _ _ _ _ => rfl) (fun q hq => absurd hq (Nat.not_lt_zero q))
        · rw [gu_o (by decide), gu_o (by decide), gu_o (by decide)]; exact c0
        · rw [gu_s]
        · rw [gu_o (by decide), gu_o (by decide), gu_o (by decide)]; exact c7
        · rw [gu_o (by decide), gu_o (by decide), gu_s]; exact p2
        · rw [gu_o (by decide), gu_s]
        · rw [gUI_at, if_neg (by omega), gUI_at, if_neg (by omega), gUI_at, if_neg (by omega)]; exact p1 q hq
        · rw [gUI_at, if_neg (by omega), gUI_at, if_neg (by omega), gUI_at, if_neg (by omega), f2 a b c d (by omega) (by omega) (by omega)]
          exact fr0 a b c d (by omega)
  · refine z_rf1 th_up (by decide) (And.intro (fun y => absurd y g10) (fun _ => k0 (fun y => z (by omega)) _ t0.up th_up))
end YP
