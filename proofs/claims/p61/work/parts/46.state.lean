/-! ===== a state and its row of numbers ===== -/
def primesL : List Int := [2, 3, 5, 7, 11, 13, 17, 19, 23, 29, 31]
def vXs (f : Nat → Int) (i : Nat) : Nat → Int
  | 0 => 0
  | k + 1 => vXs f i k + f (37 + 7 * k + i) * (f 1) ^ k
def vX (f : Nat → Int) (i : Nat) : Int := vXs f i (f 36).toNat
def Vf (f : Nat → Int) : Prop := (1 ≤ f 0 ∧ f 0 ≤ 7) ∧ f 1 ∈ primesL ∧ (∀ k, k < 13 → -50 ≤ f (2 + k) ∧ f (2 + k) ≤ 50) ∧ (∀ i, i < 7 → -999 ≤ f (15 + i) ∧ f (15 + i) ≤ 999) ∧ (∀ i, i < 7 → -999 ≤ f (22 + i) ∧ f (22 + i) ≤ 999) ∧ (∀ i, i < 7 → -999 ≤ f (29 + i) ∧ f (29 + i) ≤ 999) ∧
  (0 ≤ f 36 ∧ (f 1) ^ (f 36).toNat ≤ 1000000000000) ∧ (∀ k i, k < (f 36).toNat → i < (f 0).toNat → 0 ≤ f (37 + 7 * k + i) ∧ f (37 + 7 * k + i) < f 1) ∧ (0 ≤ f 317 ∧ f 317 ≤ 30)
def Rs0 (f : Nat → Int) (I : gI) (n : Nat) : Prop := I 6 n 0 0 = gi (f 0) ∧ I 6 n 0 1 = gi (f 1) ∧ (∀ k, k < 13 → I 7 n 0 k = gi (f (2 + k))) ∧ (∀ i, i < 7 → I 8 n 0 i = gi (f (15 + i))) ∧ (∀ i, i < 7 → I 9 n 0 i = gi (f (22 + i))) ∧ I 6 n 0 9 = gi (f 317) ∧ (∀ k, k < 3 * (f 317).toNat → I 12 n 0 k = gi (f (318 + k)))
def Rs1 (f : Nat → Int) (I : gI) (J : gJ) (n : Nat) : Prop := I 6 n 0 5 = gi (f 36) ∧ J 6 n 6 = gj ((f 1) ^ (f 36).toNat) ∧ (∀ i, i < (f 0).toNat → J 10 n i = gj (vX f i)) ∧ (∀ i, i < (f 0).toNat → I 11 n 0 i = gi (f (29 + i)))
def Rst (f : Nat → Int) (I : gI) (J : gJ) (n : Nat) : Prop := Rs0 f I n ∧ Rs1 f I J n
def FS (n : Nat) (I I' : gI) : Prop := ∀ a b c d, ¬ (6 ≤ a ∧ a ≤ 12 ∧ b = n) → I' a b c d = I a b c d
def FJ (n : Nat) (J J' : gJ) : Prop := ∀ a b d, ¬ ((a = 6 ∨ a = 10) ∧ b = n) → J' a b d = J a b d
theorem Rs0.to {f : Nat → Int} {I I' : gI} {n : Nat} (h : Rs0 f I n) (hI : ∀ a d, 6 ≤ a → a ≤ 12 → I' a n 0 d = I a n 0 d) : Rs0 f I' n := by
  obtain ⟨h1, h2, h3, h4, h5, h6, h7⟩ := h
  exact ⟨(hI 6 0 (by decide) (by decide)).trans h1, (hI 6 1 (by decide) (by decide)).trans h2, fun k hk => (hI 7 k (by decide) (by decide)).trans (h3 k hk), fun k hk => (hI 8 k (by decide) (by decide)).trans (h4 k hk), fun k hk => (hI 9 k (by decide) (by decide)).trans (h5 k hk), (hI 6 9 (by decide) (by decide)).trans h6, fun k hk => (hI 12 k (by decide) (by decide)).trans (h7 k hk)⟩
theorem Rst.to {f : Nat → Int} {I I' : gI} {J J' : gJ} {n : Nat} (h : Rst f I J n) (hI : ∀ a d, 6 ≤ a → a ≤ 12 → I' a n 0 d = I a n 0 d) (hJ : ∀ a d, a = 6 ∨ a = 10 → J' a n d = J a n d) : Rst f I' J' n := by
  obtain ⟨h0, h1, h2, h3, h4⟩ := h
  exact ⟨h0.to hI, (hI 6 5 (by decide) (by decide)).trans h1, (hJ 6 6 (Or.inl rfl)).trans h2, fun i hi => (hJ 10 i (Or.inr rfl)).trans (h3 i hi), fun i hi => (hI 11 i (by decide) (by decide)).trans (h4 i hi)⟩
theorem FS.rf {n : Nat} {I : gI} : FS n I I := fun _ _ _ _ _ => rfl
theorem FJ.rf {n : Nat} {J : gJ} : FJ n J J := fun _ _ _ _ => rfl
theorem FS.tr {n : Nat} {I I' I2 : gI} (h : FS n I I') (h2 : FS n I' I2) : FS n I I2 := fun a b c d h1 => (h2 a b c d h1).trans (h a b c d h1)
theorem FJ.tr {n : Nat} {J J' J2 : gJ} (h : FJ n J J') (h2 : FJ n J' J2) : FJ n J J2 := fun a b d h1 => (h2 a b d h1).trans (h a b d h1)
theorem FS.up {k n a b : Nat} {x : Int32} {I I' : gI} (h : FS n I I') (h1 : 6 ≤ k) (h2 : k ≤ 12) : FS n I (gUI I' k n a b x) := fun a2 b2 c d h3 => by
  unfold gUI
  rw [if_neg (fun h4 => h3 ⟨by omega, by omega, h4.2.1⟩)]
  exact h a2 b2 c d h3
theorem FS.wr {k n i lo hi : Nat} {g : Nat → Int32} {I I' : gI} (h : FS n I I') (h1 : 6 ≤ k) (h2 : k ≤ 12) : FS n I (gwr I' k n i g lo hi) := fun a2 b2 c d h3 => by
  unfold gwr
  rw [if_neg (fun h4 => h3 ⟨by omega, by omega, h4.2.1⟩)]
  exact h a2 b2 c d h3
theorem FJ.wr {k n lo hi : Nat} {g : Nat → Int64} {J J' : gJ} (h : FJ n J J') (h1 : k = 6 ∨ k = 10) : FJ n J (gwj J' k n g lo hi) := fun a2 b2 d h3 => by
  unfold gwj
  rw [if_neg (fun h4 => h3 ⟨by omega, h4.2.1⟩)]
  exact h a2 b2 d h3
theorem FJ.up {k n b : Nat} {x : Int64} {J J' : gJ} (h : FJ n J J') (h1 : k = 6 ∨ k = 10) : FJ n J (gUJ J' k n b x) := fun a2 b2 d h3 => by
  unfold gUJ
  rw [if_neg (fun h4 => h3 ⟨by omega, h4.2.1⟩)]
  exact h a2 b2 d h3
theorem FS.cp {s : gR} {k n sp dp l : Nat} {I I' : gI} (h : FS n I I') (h1 : 6 ≤ k) (h2 : k ≤ 12) : FS n I (gcpI I' s (k, n, 0) sp dp l) := fun a2 b2 c d h3 => by
  unfold gcpI
  rw [if_neg (fun h4 => h3 ⟨by have := h4.1; simp only at this; omega, by have := h4.1; simp only at this; omega, h4.2.1⟩)]
  exact h a2 b2 c d h3
theorem FJ.cp {s : gR} {k n sp dp l : Nat} {J J' : gJ} (h : FJ n J J') (h1 : k = 6 ∨ k = 10) : FJ n J (gcpJ J' s (k, n, 0) sp dp l) := fun a2 b2 d h3 => by
  unfold gcpJ
  rw [if_neg (fun h4 => h3 ⟨by have := h4.1; simp only at this; omega, h4.2⟩)]
  exact h a2 b2 d h3
/-- what stands behind a copy and other writes, place by place -/
theorem gcp_at {I : gI} {k k2 m n l a b d : Nat} : gcpI I (k, m, 0) (k2, n, 0) 0 0 l a b 0 d = if a = k2 ∧ b = n ∧ d < l then I k m 0 d else I a b 0 d := by
  unfold gcpI va_cpy
  by_cases h : a = k2 ∧ b = n
  · obtain ⟨rfl, rfl⟩ := h
    rw [if_pos (show a = a ∧ b = b ∧ 0 = 0 from ⟨rfl, rfl, rfl⟩)]
    by_cases h2 : d < l
    · rw [if_pos (show 0 ≤ d ∧ d < 0 + l by omega), if_pos (show a = a ∧ b = b ∧ d < l from ⟨rfl, rfl, h2⟩), show 0 + (d - 0) = d by omega]
    · rw [if_neg (show ¬ (0 ≤ d ∧ d < 0 + l) by omega), if_neg (fun h3 => h2 h3.2.2)]
  · rw [if_neg (fun h3 => h ⟨h3.1, h3.2.1⟩), if_neg (fun h3 => h ⟨h3.1, h3.2.1⟩)]
theorem gcj_at {J : gJ} {k m n l a b d : Nat} : gcpJ J (k, m, 0) (k, n, 0) 0 0 l a b d = if a = k ∧ b = n ∧ d < l then J k m d else J a b d := by
  unfold gcpJ va_cpy
  by_cases h : a = k ∧ b = n
  · obtain ⟨rfl, rfl⟩ := h
    rw [if_pos (show a = a ∧ b = b from ⟨rfl, rfl⟩)]
    by_cases h2 : d < l
    · rw [if_pos (show 0 ≤ d ∧ d < 0 + l by omega), if_pos (show a = a ∧ b = b ∧ d < l from ⟨rfl, rfl, h2⟩), show 0 + (d - 0) = d by omega]
    · rw [if_neg (show ¬ (0 ≤ d ∧ d < 0 + l) by omega), if_neg (fun h3 => h2 h3.2.2)]
  · rw [if_neg (fun h3 => h ⟨h3.1, h3.2⟩), if_neg (fun h3 => h ⟨h3.1, h3.2.1⟩)]
theorem gUI_at {I : gI} {k n i j a b c d : Nat} {x : Int32} : gUI I k n i j x a b c d = if a = k ∧ b = n ∧ c = i ∧ d = j then x else I a b c d := rfl
theorem gUJ_at {J : gJ} {k n j a b d : Nat} {x : Int64} : gUJ J k n j x a b d = if a = k ∧ b = n ∧ d = j then x else J a b d := rfl
section ZF
variable {E : gEn} {Q : gQt} {X : gXt} {I : gI} {J : gJ} {B : gB} {c w : Nat} {n m : Nat} {f : Nat → Int}
theorem z_become (hne : m ≠ n) (k : ∀ I' J', FS n I I' → FJ n J J' → (∀ f, Vf f → Rst f I J m → Rst f I' J' n) → Q (.inl .null) I' J' B) : gC E 45 [.inr (6, n, 0), .inr (6, m, 0)] I J B Q X := by
  have g0 : ¬ gi 0 < gi 0 := by decide
  have g7 : ¬ gi 7 < gi 0 := by decide
  have g13 : ¬ gi 13 < gi 0 := by decide
  have g90 : ¬ gi 90 < gi 0 := by decide
  refine e_X6_become ⟨⟨g0, g0, g13, by decide, by decide, fun h => hne (by simpa using h)⟩, ⟨g0, g0, g7, by decide, by decide, fun h => hne (by simpa using h)⟩, ⟨g0, g0, g7, by decide, by decide, fun h => hne (by simpa using h)⟩, ⟨g0, g0, g7, by decide, by decide, fun h => hne (by simpa using h)⟩, ⟨g0, g0, g7, by decide, by decide, fun h => hne (by simpa using h)⟩, ⟨g0, g0, g90, by decide, by decide, fun h => hne (by simpa using h)⟩, ?_⟩
  have e1 : (gUI I 6 n 0 0 (I 6 m 0 0)) 6 m 0 1 = I 6 m 0 1 := by rw [gUI_at, if_neg (fun h => by omega)]
  have e2 : ∀ x : Int32, (gcpI (gcpI (gcpI (gUI (gUI I 6 n 0 0 (I 6 m 0 0)) 6 n 0 1 x) (7, m, 0) (7, n, 0) 0 0 13) (8, m, 0) (8, n, 0) 0 0 7) (9, m, 0) (9, n, 0) 0 0 7) 6 m 0 5 = I 6 m 0 5 := fun x => by
    simp only [gcp_at, gUI_at, hne]
    simp
  have e3 : ∀ x z : Int32, (gcpI (gUI (gcpI (gcpI (gcpI (gUI (gUI I 6 n 0 0 (I 6 m 0 0)) 6 n 0 1 x) (7, m, 0) (7, n, 0) 0 0 13) (8, m, 0) (8, n, 0) 0 0 7) (9, m, 0) (9, n, 0) 0 0 7) 6 n 0 5 z) (11, m, 0) (11, n, 0) 0 0 7) 6 m 0 9 = I 6 m 0 9 := fun x z => by
    simp only [gcp_at, gUI_at, hne]
    simp
  rw [e1, e2, e3]
  refine k _ _ ?_ ?_ ?_
  · exact (((((((((FS.rf.up (by decide) (by decide)).up (by decide) (by decide)).cp (by decide) (by decide)).cp (by decide) (by decide)).cp (by decide) (by decide)).up (by decide) (by decide)).cp (by decide) (by decide)).up (by decide) (by decide)).cp (by decide) (by decide))
  · exact ((FJ.rf.up (Or.inl rfl)).cp (Or.inr rfl))
  · intro f hv ⟨⟨h1, h2, h3, h4, h5, h6, h7⟩, h8, h9, h10, h11⟩
    obtain ⟨⟨v1, v2⟩, -, -, -, -, -, -, -, v3, v4⟩ := hv
    refine ⟨⟨?_, ?_, fun i hi => ?_, fun i hi => ?_, fun i hi => ?_, ?_, fun i hi => ?_⟩, ?_, ?_, fun i hi => ?_, fun i hi => ?_⟩
    · simp only [gcp_at, gUI_at]
      simpa using h1
    · simp only [gcp_at, gUI_at]
      simpa using h2
    · simp only [gcp_at, gUI_at, hne, hi]
      simpa using h3 i hi
    · simp only [gcp_at, gUI_at, hne, hi]
      simpa using h4 i hi
    · simp only [gcp_at, gUI_at, hne, hi]
      simpa using h5 i hi
    · simp only [gcp_at, gUI_at]
      simpa using h6
    · have hi2 : i < 90 := by omega
      simp only [gcp_at, gUI_at, hne, hi2]
      simpa using h7 i hi
    · simp only [gcp_at, gUI_at]
      simpa using h8
    · simp only [gcj_at, gUJ_at]
      simpa using h9
    · have hi2 : i < 7 := by omega
      simp only [gcj_at, gUJ_at, hne, hi2]
      simpa using h10 i hi
    · have hi2 : i < 7 := by omega
      simp only [gcp_at, gUI_at, hne, hi2]
      simpa using h11 i hi
end ZF
