/-! ===== numbers ===== -/
def nx (t : Nat → Int) (n : Nat) (k : Tok) : Tok := tokF t n k.2.1
def nk (t : Nat → Int) (n : Nat) (k : Tok) (sg : Bool) : Tok := if sg = true ∧ k.2.2.1 = 3 then nx t n k else k
def nv (t : Nat → Int) (n : Nat) (k : Tok) (sg : Bool) : Int := if sg = true ∧ k.2.2.1 = 3 then -(nx t n k).2.2.2 else k.2.2.2
def ner (t : Nat → Int) (n : Nat) (k : Tok) (sg : Bool) (lo hi : Int) : Nat := if (nk t n k sg).2.2.1 = 2 then (if lo ≤ nv t n k sg ∧ nv t n k sg ≤ hi then 0 else 2) else 1
def F43 (I I' : gI) : Prop := ∀ a b c d, ¬ (a = 4 ∧ 3 ≤ d ∧ d ≤ 8) → I' a b c d = I a b c d
def WR (I : gI) (er : Nat) : gI := gUI (gUI I 31 0 0 15 (gi er)) 31 0 0 16 (I 31 0 0 12)
section YV
variable {E : gEn} {Q : gQt} {X : gXt} {I : gI} {J : gJ} {B : gB} {c w n e p st m : Nat} {t : Nat → Int} {lo hi x v : Int} {k : Tok}
theorem nx_ok (hk : Tkk n k) : Tkk n (nx t n k) := tokF_ok hk.2.1
theorem F4.wi {I' : gI} (h : F4 I I') : F43 I I' := fun a b c d z => h a b c d (by omega)
theorem F43.up {I' : gI} {d : Nat} {x : Int32} (h : F43 I I') (hd : 3 ≤ d ∧ d ≤ 8) : F43 I (gUI I' 4 0 0 d x) := fun a b c d2 h1 => by
  rw [gUI_at, if_neg (fun z => h1 ⟨z.1, by omega⟩)]
  exact h a b c d2 h1
theorem z_fl2 {x0 : Int32} (k : Q (.inl (.int (gi 0))) (gUI I 4 0 0 3 x0) J B) : gC E 30 [.inr (4, 0, 0), .inl (.int x0)] I J B (fun v I J B => gvi v fun r => ((r = gi 0 → (((gi 0) = gi 0 ∨ (gi 0) = gi 1) ∧ Q (.inl (.int (gi 0))) I J B)) ∧ (¬ r = gi 0 → (((gi 1) = gi 0 ∨ (gi 1) = gi 1) ∧ Q (.inl (.int (gi 1))) I J B)))) X :=
  e_X3_fail ⟨Or.inl rfl, And.intro (fun _ => ⟨Or.inl rfl, k⟩) (fun z => absurd rfl z)⟩
theorem z_fl1 {x0 : Int32} (k : Q (.inl (.int (gi 0))) (gUI I 4 0 0 3 x0) J B) : gC E 30 [.inr (4, 0, 0), .inl (.int x0)] I J B (fun v I J B => gvi v fun r => ((r = gi 0 ∨ r = gi 1) ∧ Q (.inl (.int r)) I J B)) X :=
  e_X3_fail ⟨Or.inl rfl, And.intro (Or.inl rfl) k⟩
theorem z_rg {V : Int32} (hV : V = gi v) (h1 : -100000 ≤ v) (h2 : v ≤ 100000) (h3 : -100000 ≤ lo) (h4 : lo ≤ 100000) (h5 : -100000 ≤ hi) (h6 : hi ≤ 100000) (k1 : lo ≤ v ∧ v ≤ hi → Q (.inl (.int (gi 1))) I J B) (k0 : ¬ (lo ≤ v ∧ v ≤ hi) → Q (.inl (.int (gi 0))) (gUI I 4 0 0 3 (gi 2)) J B) : (V < gi lo → gC E 30 [.inr (4, 0, 0), .inl (.int (gi 2))] I J B (fun v I J B => gvi v fun r => ((r = gi 0 → (((gi 0) = gi 0 ∨ (gi 0) = gi 1) ∧ Q (.inl (.int (gi 0))) I J B)) ∧ (¬ r = gi 0 → (((gi 1) = gi 0 ∨ (gi 1) = gi 1) ∧ Q (.inl (.int (gi 1))) I J B)))) X) ∧ (¬ V < gi lo → ((V ≤ gi hi → (((gi 1) = gi 0 ∨ (gi 1) = gi 1) ∧ Q (.inl (.int (gi 1))) I J B)) ∧ (¬ V ≤ gi hi → gC E 30 [.inr (4, 0, 0), .inl (.int (gi 2))] I J B (fun v I J B => gvi v fun r => ((r = gi 0 → (((gi 0) = gi 0 ∨ (gi 0) = gi 1) ∧ Q (.inl (.int (gi 0))) I J B)) ∧ (¬ r = gi 0 → (((gi 1) = gi 0 ∨ (gi 1) = gi 1) ∧ Q (.inl (.int (gi 1))) I J B)))) X))) := by
  subst hV
  refine ⟨fun z => z_fl2 (k0 ?_), fun z => ⟨fun z2 => ⟨Or.inr rfl, k1 ?_⟩, fun z2 => z_fl2 (k0 ?_)⟩⟩
  · rw [gi_lt (by omega) (by omega) (by omega) (by omega)] at z; omega
  · rw [gi_lt (by omega) (by omega) (by omega) (by omega)] at z
    rw [gi_le (by omega) (by omega) (by omega) (by omega)] at z2; omega
  · rw [gi_le (by omega) (by omega) (by omega) (by omega)] at z2; omega
theorem z_rn (sg : Bool) (hb : Tb t n) (hT : Ti t n I) (hk : Tkk n k) (hK : Tk k I) (h3 : -100000 ≤ lo) (h4 : lo ≤ 100000) (h5 : -100000 ≤ hi) (h6 : hi ≤ 100000) (k1 : ner t n k sg lo hi = 0 → ∀ I', F4 I I' → I' 4 0 0 4 = gi (nk t n k sg).1 → I' 4 0 0 7 = gi (nk t n k sg).2.1 → I' 4 0 0 8 = gi (nv t n k sg) → Q (.inl (.int (gi 1))) I' J B) (k0 : ∀ er, er ≠ 0 → ner t n k sg lo hi = er → ∀ I', F43 I I' → I' 4 0 0 3 = gi er → I' 4 0 0 4 = gi (nk t n k sg).1 → Q (.inl (.int (gi 0))) I' J B) : gC E 28 [.inr (4, 0, 0), .inl (.int (gi lo)), .inl (.int (gi hi)), .inl (.int (if sg = true then gi 1 else gi 0))] I J B Q X := by
  obtain ⟨g1, g2, g3, g4, g5⟩ := hk
  -- without a sign
  have plain : ∀ (neg : ¬ (sg = true ∧ k.2.2.1 = 3)) , (I 4 0 0 6 = gi 2 → (((I 4 0 0 8) < gi lo → gC E 30 [.inr (4, 0, 0), .inl (.int (gi 2))] I J B (fun v I J B => gvi v fun r => ((r = gi 0 → (((gi 0) = gi 0 ∨ (gi 0) = gi 1) ∧ Q (.inl (.int (gi 0))) I J B)) ∧ (¬ r = gi 0 → (((gi 1) = gi 0 ∨ (gi 1) = gi 1) ∧ Q (.inl (.int (gi 1))) I J B)))) X) ∧ (¬ (I 4 0 0 8) < gi lo → (((I 4 0 0 8) ≤ gi hi → (((gi 1) = gi 0 ∨ (gi 1) = gi 1) ∧ Q (.inl (.int (gi 1))) I J B)) ∧ (¬ (I 4 0 0 8) ≤ gi hi → gC E 30 [.inr (4, 0, 0), .inl (.int (gi 2))] I J B (fun v I J B => gvi v fun r => ((r = gi 0 → (((gi 0) = gi 0 ∨ (gi 0) = gi 1) ∧ Q (.inl (.int (gi 0))) I J B)) ∧ (¬ r = gi 0 → (((gi 1) = gi 0 ∨ (gi 1) = gi 1) ∧ Q (.inl (.int (gi 1))) I J B)))) X))))) ∧ (¬ I 4 0 0 6 = gi 2 → gC E 30 [.inr (4, 0, 0), .inl (.int (gi 1))] I J B (fun v I J B => gvi v fun r => ((r = gi 0 ∨ r = gi 1) ∧ Q (.inl (.int r)) I J B)) X) := fun neg => by
    have en : nk t n k sg = k := if_neg neg
    have ev : nv t n k sg = k.2.2.2 := if_neg neg
    unfold ner at k1 k0
    rw [en, ev] at k1 k0
    obtain ⟨q1, q2, q3, q4⟩ := hK
    have e2 : (I 4 0 0 6 = gi 2) = (k.2.2.1 = 2) := by
      rw [q3, show (gi 2 : Int32) = gi ((2 : Nat) : Int) from rfl, gi_k (by omega) (by omega)]
    rw [e2]
    refine ⟨fun z => z_rg (q4 z) (by omega) (by omega) h3 h4 h5 h6 (fun z2 => ?_) (fun z2 => ?_), fun z => z_fl1 ?_⟩
    · rw [if_pos z, if_pos z2] at k1
      exact k1 rfl I F4.rf q1 q2 (q4 z)
    · rw [if_pos z, if_neg z2] at k0
      exact k0 2 (by decide) rfl _ (F4.rf.wi.up (by omega)) gu_s ((gu_o (by decide)).trans q1)
    · rw [if_neg z] at k0
      exact k0 1 (by decide) rfl _ (F4.rf.wi.up (by omega)) gu_s ((gu_o (by decide)).trans q1)
  have e3 : (I 4 0 0 6 = gi 3) = (k.2.2.1 = 3) := by
    rw [hK.2.2.1, show (gi 3 : Int32) = gi ((3 : Nat) : Int) from rfl, gi_k (by omega) (by omega)]
  refine e_X3_reachNumber ⟨fun z => ?_, fun z => ⟨fun z2 => ?_, fun z2 => ?_⟩⟩
  · have hs : ¬ (sg = true ∧ k.2.2.1 = 3) := fun h => by
      rw [if_pos h.1] at z
      exact absurd z (by decide)
    have P := plain hs
    exact ⟨fun _ => ⟨fun q => ⟨fun _ => P.1 q, fun z => absurd rfl z⟩, P.2⟩, fun z => absurd rfl z⟩
  · rw [e3] at z2
    have P := plain (fun h => z2 h.2)
    exact ⟨fun _ => ⟨fun q => ⟨fun _ => P.1 q, fun z => absurd rfl z⟩, P.2⟩, fun z => absurd rfl z⟩
  · rw [e3] at z2
    have hs : sg = true := by
      cases sg with
      | true => rfl
      | false => exact absurd rfl z
    refine ⟨fun z3 => absurd z3 (by decide), fun _ => z_adv hb hT hK.2.1 g2 fun I' f hK' => ?_⟩
    have en : nk t n k sg = nx t n k := if_pos ⟨hs, z2⟩
    have ev : nv t n k sg = -(nx t n k).2.2.2 := if_pos ⟨hs, z2⟩
    unfold ner at k1 k0
    rw [en, ev] at k1 k0
    have hk' : Tkk n (nx t n k) := tokF_ok g2
    change Tk (nx t n k) I' at hK'
    obtain ⟨q1, q2, q3, q4⟩ := hK'
    obtain ⟨r1, r2, r3, r4, r5⟩ := hk'
    generalize nx t n k = k' at q1 q2 q3 q4 r1 r2 r3 r4 r5 k1 k0
    have e2 : (I' 4 0 0 6 = gi 2) = (k'.2.2.1 = 2) := by
      rw [q3, show (gi 2 : Int32) = gi ((2 : Nat) : Int) from rfl, gi_k (by omega) (by omega)]
    show (_ → _) ∧ _
    rw [e2]
    refine ⟨fun z => ⟨fun z3 => absurd z3 (by decide), fun _ => ?_⟩, fun z => z_fl1 ?_⟩
    · refine z_rg (v := -k'.2.2.2) (by rw [q4 z, gi_neg]) (by omega) (by omega) h3 h4 h5 h6 (fun z2 => ?_) (fun z2 => ?_)
      · rw [if_pos z, if_pos z2] at k1
        exact k1 rfl _ (f.up (by omega)) ((gu_o (by decide)).trans q1) ((gu_o (by decide)).trans q2) (by rw [gu_s, q4 z, gi_neg])
      · rw [if_pos z, if_neg z2] at k0
        exact k0 2 (by decide) rfl _ ((f.wi.up (by omega)).up (by omega)) gu_s ((gu_o (by decide)).trans ((gu_o (by decide)).trans q1))
    · rw [if_neg z] at k0
      exact k0 1 (by decide) rfl _ (f.wi.up (by omega)) gu_s ((gu_o (by decide)).trans q1)
/-! the reference's -/
theorem km2 (hk : Tkk n k) (hK : Mt k I) : (I 31 0 0 13 = gi 2) = (k.2.2.1 = 2) := by
  have g3 := hk.2.2.1
  rw [hK.2.2.1, show (gi 2 : Int32) = gi ((2 : Nat) : Int) from rfl, gi_k (by unfold km; split; omega; split <;> omega) (by omega)]
  unfold km
  refine propext ⟨fun h => ?_, fun h => ?_⟩
  · split at h
    · omega
    · split at h <;> omega
  · rw [h]; rfl
theorem km4 (hk : Tkk n k) (hK : Mt k I) : (I 31 0 0 13 = gi 4) = (k.2.2.1 = 3) := by
  have g3 := hk.2.2.1
  rw [hK.2.2.1, show (gi 4 : Int32) = gi ((4 : Nat) : Int) from rfl, gi_k (by unfold km; split; omega; split <;> omega) (by omega)]
  unfold km
  refine propext ⟨fun h => ?_, fun h => ?_⟩
  · split at h
    · omega
    · split at h <;> omega
  · rw [h]; rfl
end YV
