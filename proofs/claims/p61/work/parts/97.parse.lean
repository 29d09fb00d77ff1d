/-! ===== the parse as a function; the reference's reading ===== -/
def lineF (t : Nat → Int) (n : Nat) (s : PS) : PR := if isWF t s.1 2 = true then diagL t n s else if isWF t s.1 3 = true then bandL t n s else if isWF t s.1 4 = true then partL t n 15 13 s else if isWF t s.1 5 = true then partL t n 22 20 s else .inl (1, s.1.1)
abbrev PF : Type := (Nat × Nat) ⊕ (Nat → Int)
def loopP (t : Nat → Int) (n : Nat) : Nat → PS → PF
  | 0, s => .inl (1, s.1.1)
  | j + 1, s => if s.1.2.2.1 = 4 then (match lineF t n (nx t n s.1, s.2) with
      | .inl e => .inl e
      | .inr s' => loopP t n j s') else if s.1.2.2.1 = 0 then .inr s.2.1 else .inl (1, s.1.1)
def f0P (N p : Int) : Nat → Int := upF (upF (fun _ => 0) 0 N) 1 p
def head3 (t : Nat → Int) (n : Nat) (N : Int) (k3 : Tok) : PF := if k3.2.2.1 = 2 then (if k3.2.2.2 ∈ primesL then loopP t n 701 (nx t n k3, f0P N k3.2.2.2, fun _ => false, 0) else .inl (2, k3.1)) else .inl (1, k3.1)
def head2 (t : Nat → Int) (n : Nat) (N : Int) (k2 : Tok) : PF := if isWF t k2 1 = true then head3 t n N (nx t n k2) else .inl (1, k2.1)
def head1 (t : Nat → Int) (n : Nat) (k1 : Tok) : PF := if ner t n k1 false 1 7 = 0 then head2 t n k1.2.2.2 (nx t n k1) else .inl (ner t n k1 false 1 7, k1.1)
def parseF (t : Nat → Int) (n : Nat) : PF := if isWF t (tokF t n 0) 0 = true then head1 t n (nx t n (tokF t n 0)) else .inl (1, (tokF t n 0).1)
def Vp (s : PS) : Prop := (1 ≤ s.2.1 0 ∧ s.2.1 0 ≤ 7) ∧ s.2.1 1 ∈ primesL ∧ (∀ k, k < 13 → -50 ≤ s.2.1 (2 + k) ∧ s.2.1 (2 + k) ≤ 50) ∧ (∀ i, i < 7 → -999 ≤ s.2.1 (15 + i) ∧ s.2.1 (15 + i) ≤ 999) ∧ (∀ i, i < 7 → -999 ≤ s.2.1 (22 + i) ∧ s.2.1 (22 + i) ≤ 999) ∧ (∀ i, i < 7 → s.2.1 (29 + i) = 0) ∧ s.2.1 317 = 0 ∧ s.2.2.2 ≤ 8
def PE (R : PF) (I : gI) : Prop := match R with
  | .inl (er, pos) => 1 ≤ er ∧ er ≤ 4 ∧ I 31 0 0 15 = gi er ∧ I 31 0 0 16 = gi pos
  | .inr f => (∀ q, q < 408 → I 36 0 0 q = gi (f q)) ∧ I 31 0 0 15 = gi 0
section YR
variable {E : gEn} {Q : gQt} {X : gXt} {I : gI} {J : gJ} {B : gB} {c w n e p st m bb : Nat} {t : Nat → Int} {lo hi x v : Int} {k : Tok} {f : Nat → Int} {tD : Nat → Bool} {s s' : PS}
theorem nm_inr {sg : Bool} {go : Tok → Int → PR} (h : nm t n k sg lo hi go = .inr s') : ner t n k sg lo hi = 0 ∧ go (nk t n k sg) (nv t n k sg) = .inr s' := by
  unfold nm at h
  by_cases z : ner t n k sg lo hi = 0
  · rw [if_pos z] at h
    exact ⟨z, h⟩
  · rw [if_neg z] at h
    cases h
theorem nx_le (hk : Tkk n k) : k.2.1 ≤ (nx t n k).2.1 := (tokF_go hk.2.1).1
theorem nk_le {sg : Bool} (hk : Tkk n k) : k.2.1 ≤ (nk t n k sg).2.1 := by
  unfold nk
  split
  · exact nx_le hk
  · exact Nat.le_refl _
theorem fillF_i {p c : Nat} {v : Int} (h : ¬ (2 + p ≤ m ∧ m < 2 + p + c)) : fillF f p c v m = f m := if_neg h
theorem rngV_ok {p c : Nat} (hV : Vp (k, f, tD, bb)) (hk : Tkk n k) (hp : p + c ≤ 13) (h : rngV t n f tD bb k p c = .inr s') : Vp s' ∧ Tkk n s'.1 ∧ k.2.1 ≤ s'.1.2.1 := by
  unfold rngV at h
  by_cases z : anB tD p c = true
  · rw [if_pos z] at h
    cases h
  · rw [if_neg z] at h
    obtain ⟨z1, h⟩ := nm_inr h
    have hq := (ner0 z1).2
    cases h
    obtain ⟨v1, v2, v3, v4, v5, v6, v7, v8⟩ := hV
    have hf : ∀ m, ¬ (2 + p ≤ m ∧ m < 2 + p + c) → fillF f p c (nv t n (nx t n k) true) m = f m := fun m => fillF_i
    refine ⟨⟨?_, ?_, fun i hi => ?_, fun i hi => ?_, fun i hi => ?_, fun i hi => ?_, ?_, v8⟩, nx_ok (nk_ok (nx_ok hk)), Nat.le_trans (nx_le hk) (Nat.le_trans (nk_le (nx_ok hk)) (nx_le (nk_ok (nx_ok hk))))⟩
    · show 1 ≤ fillF _ _ _ _ 0 ∧ fillF _ _ _ _ 0 ≤ 7
      rw [hf 0 (by omega)]; exact v1
    · show fillF _ _ _ _ 1 ∈ primesL
      rw [hf 1 (by omega)]; exact v2
    · show -50 ≤ fillF _ _ _ _ (2 + i) ∧ fillF _ _ _ _ (2 + i) ≤ 50
      by_cases y : 2 + p ≤ 2 + i ∧ 2 + i < 2 + p + c
      · rw [show fillF f p c (nv t n (nx t n k) true) (2 + i) = nv t n (nx t n k) true from if_pos y]; exact hq
      · rw [hf _ y]; exact v3 i hi
    · show -999 ≤ fillF _ _ _ _ (15 + i) ∧ fillF _ _ _ _ (15 + i) ≤ 999
      rw [hf _ (by omega)]; exact v4 i hi
    · show -999 ≤ fillF _ _ _ _ (22 + i) ∧ fillF _ _ _ _ (22 + i) ≤ 999
      rw [hf _ (by omega)]; exact v5 i hi
    · show fillF _ _ _ _ (29 + i) = 0
      rw [hf _ (by omega)]; exact v6 i hi
    · show fillF _ _ _ _ 317 = 0
      rw [hf _ (by omega)]; exact v7
theorem Vp.tok {k' : Tok} (h : Vp (k, f, tD, bb)) : Vp (k', f, tD, bb) := h
theorem diagL_ok (hV : Vp s) (hk : Tkk n s.1) (h : diagL t n s = .inr s') : Vp s' ∧ Tkk n s'.1 ∧ s.1.2.1 ≤ s'.1.2.1 := by
  obtain ⟨ks, f, tD, bb⟩ := s
  unfold diagL at h
  obtain ⟨z1, h⟩ := nm_inr h
  have hq := (ner0 z1).2
  have h7 := hV.1
  change 1 ≤ f 0 ∧ f 0 ≤ 7 at h7
  change 1 - f 0 ≤ _ ∧ _ ≤ f 0 - 1 at hq
  obtain ⟨g1, g2, g3⟩ := rngV_ok (k := nk t n (nx t n ks) true) hV (nk_ok (nx_ok hk)) (by omega) h
  exact ⟨g1, g2, Nat.le_trans (Nat.le_trans (nx_le hk) (nk_le (nx_ok hk))) g3⟩
theorem bandL_ok (hV : Vp s) (hk : Tkk n s.1) (h : bandL t n s = .inr s') : Vp s' ∧ Tkk n s'.1 ∧ s.1.2.1 ≤ s'.1.2.1 := by
  obtain ⟨ks, f, tD, bb⟩ := s
  unfold bandL at h
  by_cases z : bb = 8
  · rw [if_pos z] at h
    cases h
  · rw [if_neg z] at h
    obtain ⟨z1, h⟩ := nm_inr h
    obtain ⟨z2, h⟩ := nm_inr h
    have hq := (ner0 z1).2
    have hq2 := (ner0 z2).2
    obtain ⟨v1, v2, v3, v4, v5, v6, v7, v8⟩ := hV
    change 1 ≤ f 0 ∧ f 0 ≤ 7 at v1
    change bb ≤ 8 at v8
    change 1 - f 0 ≤ _ ∧ _ ≤ f 0 - 1 at hq
    change _ ≤ _ ∧ _ ≤ f 0 - 1 at hq2
    have o1 := nx_ok (t := t) hk
    have o2 := nk_ok (t := t) (sg := true) o1
    have o3 := nx_ok (t := t) o2
    have hV2 : Vp (nk t n (nx t n (nk t n (nx t n ks) true)) true, f, tD, bb + 1) := ⟨v1, v2, v3, v4, v5, v6, v7, by show bb + 1 ≤ 8; omega⟩
    obtain ⟨g1, g2, g3⟩ := rngV_ok hV2 (nk_ok o3) (by omega) h
    exact ⟨g1, g2, Nat.le_trans (Nat.le_trans (Nat.le_trans (nx_le hk) (nk_le o1)) (Nat.le_trans (nx_le o2) (nk_le o3))) g3⟩
theorem partL_ok {r l : Nat} (hr : r = 15 ∨ r = 22) (hV : Vp s) (hk : Tkk n s.1) (h : partL t n r l s = .inr s') : Vp s' ∧ Tkk n s'.1 ∧ s.1.2.1 ≤ s'.1.2.1 := by
  obtain ⟨ks, f, tD, bb⟩ := s
  unfold partL at h
  obtain ⟨z1, h⟩ := nm_inr h
  have hq := (ner0 z1).2
  change 0 ≤ _ ∧ _ ≤ f 0 - 1 at hq
  by_cases z : tD (l + (nv t n (nx t n ks) false).toNat) = true
  · rw [if_pos z] at h
    cases h
  · rw [if_neg z] at h
    obtain ⟨z2, h⟩ := nm_inr h
    have hq2 := (ner0 z2).2
    have o1 := nx_ok (t := t) hk
    have o2 := nk_ok (t := t) (sg := false) o1
    have o3 := nx_ok (t := t) o2
    have o4 : Tkk n (nx t n (nk t n (nx t n (nk t n (nx t n ks) false)) true)) := nx_ok (nk_ok o3)
    have mn : ks.2.1 ≤ (nx t n (nk t n (nx t n (nk t n (nx t n ks) false)) true)).2.1 := Nat.le_trans (Nat.le_trans (nx_le hk) (nk_le o1)) (Nat.le_trans (Nat.le_trans (nx_le o2) (nk_le o3)) (nx_le (nk_ok o3)))
    have h3 : (Sum.inr (nx t n (nk t n (nx t n (nk t n (nx t n ks) false)) true), upF f (r + (nv t n (nx t n ks) false).toNat) (nv t n (nx t n (nk t n (nx t n ks) false)) true), fillB tD (l + (nv t n (nx t n ks) false).toNat) 1, bb) : PR) = .inr s' := h
    change -999 ≤ nv t n (nx t n (nk t n (nx t n ks) false)) true ∧ nv t n (nx t n (nk t n (nx t n ks) false)) true ≤ 999 at hq2
    change 0 ≤ nv t n (nx t n ks) false ∧ nv t n (nx t n ks) false ≤ f 0 - 1 at hq
    clear h z1 z2
    generalize nx t n (nk t n (nx t n (nk t n (nx t n ks) false)) true) = K at o4 mn h3
    generalize nv t n (nx t n (nk t n (nx t n ks) false)) true = v at hq2 h3
    generalize nv t n (nx t n ks) false = q at hq h3
    have h2 := Sum.inr.inj h3
    subst h2
    obtain ⟨v1, v2, v3, v4, v5, v6, v7, v8⟩ := hV
    change 1 ≤ f 0 ∧ f 0 ≤ 7 at v1
    have hf : ∀ m, ¬ m = r + q.toNat → upF f (r + q.toNat) v m = f m := fun m hm => if_neg hm
    have he : ∀ m, m = r + q.toNat → upF f (r + q.toNat) v m = v := fun m hm => if_pos hm
    refine ⟨⟨?_, ?_, fun i hi => ?_, fun i hi => ?_, fun i hi => ?_, fun i hi => ?_, ?_, v8⟩, o4, mn⟩
    · show 1 ≤ upF _ _ _ 0 ∧ upF _ _ _ 0 ≤ 7
      rw [hf 0 (by omega)]; exact v1
    · show upF _ _ _ 1 ∈ primesL
      rw [hf 1 (by omega)]; exact v2
    · show -50 ≤ upF _ _ _ (2 + i) ∧ upF _ _ _ (2 + i) ≤ 50
      rw [hf _ (by omega)]; exact v3 i hi
    · show -999 ≤ upF _ _ _ (15 + i) ∧ upF _ _ _ (15 + i) ≤ 999
      by_cases y : 15 + i = r + q.toNat
      · rw [he _ y]; exact hq2
      · rw [hf _ y]; exact v4 i hi
    · show -999 ≤ upF _ _ _ (22 + i) ∧ upF _ _ _ (22 + i) ≤ 999
      by_cases y : 22 + i = r + q.toNat
      · rw [he _ y]; exact hq2
      · rw [hf _ y]; exact v5 i hi
    · show upF _ _ _ (29 + i) = 0
      rw [hf _ (by omega)]; exact v6 i hi
    · show upF _ _ _ 317 = 0
      rw [hf _ (by omega)]; exact v7
theorem isWF_1 (h : isWF t k m = true) : k.2.2.1 = 1 := by
  unfold isWF at h
  rw [Bool.and_eq_true] at h
  exact of_decide_eq_true h.1
theorem lineF_ok (hV : Vp s) (hk : Tkk n s.1) (h : lineF t n s = .inr s') : Vp s' ∧ Tkk n s'.1 ∧ s.1.2.1 ≤ s'.1.2.1 ∧ s.1.2.2.1 = 1 := by
  unfold lineF at h
  by_cases z2 : isWF t s.1 2 = true
  · rw [if_pos z2] at h
    obtain ⟨g1, g2, g3⟩ := diagL_ok hV hk h
    exact ⟨g1, g2, g3, isWF_1 z2⟩
  · rw [if_neg z2] at h
    by_cases z3 : isWF t s.1 3 = true
    · rw [if_pos z3] at h
      obtain ⟨g1, g2, g3⟩ := bandL_ok hV hk h
      exact ⟨g1, g2, g3, isWF_1 z3⟩
    · rw [if_neg z3] at h
      by_cases z4 : isWF t s.1 4 = true
      · rw [if_pos z4] at h
        obtain ⟨g1, g2, g3⟩ := partL_ok (Or.inl rfl) hV hk h
        exact ⟨g1, g2, g3, isWF_1 z4⟩
      · rw [if_neg z4] at h
        by_cases z5 : isWF t s.1 5 = true
        · rw [if_pos z5] at h
          obtain ⟨g1, g2, g3⟩ := partL_ok (Or.inr rfl) hV hk h
          exact ⟨g1, g2, g3, isWF_1 z5⟩
        · rw [if_neg z5] at h
          cases h
/-! the reference's loop over the lines -/
theorem km_0 {a : Nat} (h : km a = 0) : a = 0 := by
  unfold km at h
  by_cases y : a = 3
  · rw [if_pos y] at h; omega
  · rw [if_neg y] at h
    by_cases y2 : a = 4
    · rw [if_pos y2] at h; omega
    · rw [if_neg y2] at h; exact h
theorem km_3 {a : Nat} (h : km a = 3) : a = 4 := by
  unfold km at h
  by_cases y : a = 3
  · rw [if_pos y] at h; omega
  · rw [if_neg y] at h
    by_cases y2 : a = 4
    · exact y2
    · rw [if_neg y2] at h; exact absurd h y
theorem kmx (hk : Tkk n k) (hK : Mt k I) {a : Nat} (ha : a ≤ 5) : (I 31 0 0 13 = gi a) = (km k.2.2.1 = a) := by
  have g3 := hk.2.2.1
  rw [hK.2.2.1, gi_k (by unfold km; split; omega; split <;> omega) (by omega)]
end YR
