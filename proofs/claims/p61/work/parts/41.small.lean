/-! ===== the small methods ===== -/
section ZA
variable {E : gEn} {Q : gQt} {X : gXt} {I : gI} {J : gJ} {B : gB} {c w : Nat}
theorem gmsb (x : Int32) : (0 ≤ x.toInt) ↔ x.toBitVec.msb = false := by
  rw [BitVec.msb_eq_toInt]
  show 0 ≤ x.toBitVec.toInt ↔ _
  simp
theorem gxor {a b : Int} (h1 : -2147483648 ≤ a) (h2 : a < 2147483648) (h3 : 0 ≤ b) (h4 : b < 2147483648) : (gi 0 ≤ (gi a ^^^ gi b)) = (0 ≤ a) := by
  have hb := (gmsb (gi b)).mp (by rw [gi_t (by omega) h4]; exact h3)
  have ha := gmsb (gi a)
  rw [gi_t h1 h2] at ha
  have h := gmsb (gi a ^^^ gi b)
  rw [Int32.toBitVec_xor, BitVec.msb_xor, hb, Bool.xor_false] at h
  rw [Int32.le_iff_toInt_le]
  apply propext
  show (0 : Int) ≤ _ ↔ _
  rw [h, ha]
theorem z_fmod {a b : Int} (h1 : -2147483648 ≤ a) (h2 : a < 2147483648) (h3 : 1 ≤ b) (h4 : b < 2147483648) (h : Q (.inl (.int (gi (a % b)))) I J B) : gC E 304 [.inl (.int (gi a)), .inl (.int (gi b))] I J B Q X := by
  have e1 := Int.emod_nonneg a (show b ≠ 0 by omega)
  have e2 := Int.emod_lt_of_pos a (show 0 < b by omega)
  have key : a.tmod b = if 0 ≤ a ∨ a % b = 0 then a % b else a % b - b := by
    rw [Int.tmod_eq_emod]
    have hd : (b ∣ a) ↔ a % b = 0 := Int.dvd_iff_emod_eq_zero
    simp only [hd]
    split
    · simp
    · rw [Int.natAbs_of_nonneg (by omega)]
  refine e_J9_floorMod_7cf53 ?_
  rw [gxor h1 h2 (by omega) h4, gi_rem h1 h2 (by omega) h4, key, gi_add]
  have hb0 : ¬ gi b = gi 0 := by
    rw [gi_eq (by omega) h4 (by decide) (by decide)]
    omega
  refine ⟨hb0, fun ha => ?_, fun ha => ⟨fun h0 => ?_, fun h0 => ?_⟩⟩
  · rw [if_pos (Or.inl ha)]
    exact h
  · split at h0
    · rename_i hc
      rw [if_pos hc]
      exact h
    · rw [gi_eq (by omega) (by omega) (by decide) (by decide)] at h0
      omega
  · rw [gi_eq (by split <;> omega) (by split <;> omega) (by decide) (by decide)] at h0
    split at h0
    · rename_i hc
      rcases hc with hc | hc
      · exact absurd hc ha
      · exact absurd hc h0
    · rename_i hc
      rw [if_neg hc, show a % b - b + b = a % b by omega]
      exact h
theorem z_red {a b : Int} (h1 : -2147483648 ≤ a) (h2 : a < 2147483648) (h3 : 1 ≤ b) (h4 : b < 2147483648) (h : Q (.inl (.int (gi (a % b)))) I J B) : gC E 121 [.inl (.int (gi a)), .inl (.int (gi b))] I J B Q X := by
  refine e_X7_reduced ⟨fun _ => z_fmod h1 h2 h3 h4 h, fun h0 => ?_⟩
  rw [gi_le (by decide) (by decide) (by omega) h4] at h0
  omega
theorem z_abs {a : Int} (h1 : -2147483647 ≤ a) (h2 : a < 2147483648) (h : Q (.inl (.int (gi (Int.natAbs a)))) I J B) : gC E 305 [.inl (.int (gi a))] I J B Q X := by
  refine e_J9_abs_0f7a4 ?_
  rw [gi_le (by decide) (by decide) (by omega) h2, gi_neg]
  refine ⟨fun h0 => ?_, fun h0 => ?_⟩
  · rw [show ((a.natAbs : Nat) : Int) = a by omega] at h
    exact h
  · rw [show ((a.natAbs : Nat) : Int) = -a by omega] at h
    exact h
theorem z_absl {a : Int} (h1 : -9223372036854775807 ≤ a) (h2 : a < 9223372036854775808) (h : Q (.inl (.long (gj (Int.natAbs a)))) I J B) : gC E 306 [.inl (.long (gj a))] I J B Q X := by
  refine e_J9_abs_067f4 ?_
  rw [lg_cj (by omega) h2 (by decide) (by decide), gi_le (by decide) (by decide) (by split <;> (try split) <;> omega) (by split <;> (try split) <;> omega), gj_neg]
  refine ⟨fun h0 => ?_, fun h0 => ?_⟩
  · rw [show ((a.natAbs : Nat) : Int) = a by split at h0 <;> (try split at h0) <;> omega] at h
    exact h
  · rw [show ((a.natAbs : Nat) : Int) = -a by split at h0 <;> (try split at h0) <;> omega] at h
    exact h
theorem z_max {a b : Int} (h1 : -2147483648 ≤ a) (h2 : a < 2147483648) (h3 : -2147483648 ≤ b) (h4 : b < 2147483648) (h : Q (.inl (.int (gi (max a b)))) I J B) : gC E 307 [.inl (.int (gi a)), .inl (.int (gi b))] I J B Q X := by
  refine e_J9_max_7cf53 ?_
  rw [gi_lt h1 h2 h3 h4]
  refine ⟨fun h0 => ?_, fun h0 => ?_⟩
  · rw [show max a b = b by omega] at h
    exact h
  · rw [show max a b = a by omega] at h
    exact h
theorem z_min {a b : Int} (h1 : -2147483648 ≤ a) (h2 : a < 2147483648) (h3 : -2147483648 ≤ b) (h4 : b < 2147483648) (h : Q (.inl (.int (gi (min a b)))) I J B) : gC E 308 [.inl (.int (gi a)), .inl (.int (gi b))] I J B Q X := by
  refine e_J9_min_7cf53 ?_
  rw [gi_lt h3 h4 h1 h2]
  refine ⟨fun h0 => ?_, fun h0 => ?_⟩
  · rw [show min a b = b by omega] at h
    exact h
  · rw [show min a b = a by omega] at h
    exact h
/-- writing a stretch -/
def gwr (I : gI) (k n i : Nat) (f : Nat → Int32) (lo hi : Nat) : gI := fun a b c d => if a = k ∧ b = n ∧ c = i ∧ lo ≤ d ∧ d < hi then f d else I a b c d
def gwj (J : gJ) (k n : Nat) (f : Nat → Int64) (lo hi : Nat) : gJ := fun a b d => if a = k ∧ b = n ∧ lo ≤ d ∧ d < hi then f d else J a b d
theorem gwr_0 {k n i lo : Nat} {f : Nat → Int32} : gwr I k n i f lo lo = I := by
  funext a b c d
  unfold gwr
  rw [if_neg (fun h => by omega)]
theorem gwj_0 {k n lo : Nat} {f : Nat → Int64} : gwj J k n f lo lo = J := by
  funext a b d
  unfold gwj
  rw [if_neg (fun h => by omega)]
theorem gwr_s {k n i lo hi : Nat} {f : Nat → Int32} {x : Int32} (hx : x = f hi) (h : lo ≤ hi) : gUI (gwr I k n i f lo hi) k n i hi x = gwr I k n i f lo (hi + 1) := by
  funext a b c d
  unfold gUI gwr
  by_cases h1 : a = k ∧ b = n ∧ c = i ∧ d = hi
  · rw [if_pos h1, if_pos ⟨h1.1, h1.2.1, h1.2.2.1, by omega, by omega⟩, hx, h1.2.2.2]
  · rw [if_neg h1]
    by_cases h2 : a = k ∧ b = n ∧ c = i ∧ lo ≤ d ∧ d < hi
    · rw [if_pos h2, if_pos ⟨h2.1, h2.2.1, h2.2.2.1, by omega, by omega⟩]
    · rw [if_neg h2, if_neg (fun h3 => by
        by_cases e : d = hi
        · exact h1 ⟨h3.1, h3.2.1, h3.2.2.1, e⟩
        · exact h2 ⟨h3.1, h3.2.1, h3.2.2.1, h3.2.2.2.1, by omega⟩)]
theorem gwj_s {k n lo hi : Nat} {f : Nat → Int64} {x : Int64} (hx : x = f hi) (h : lo ≤ hi) : gUJ (gwj J k n f lo hi) k n hi x = gwj J k n f lo (hi + 1) := by
  funext a b d
  unfold gUJ gwj
  by_cases h1 : a = k ∧ b = n ∧ d = hi
  · rw [if_pos h1, if_pos ⟨h1.1, h1.2.1, by omega, by omega⟩, hx, h1.2.2]
  · rw [if_neg h1]
    by_cases h2 : a = k ∧ b = n ∧ lo ≤ d ∧ d < hi
    · rw [if_pos h2, if_pos ⟨h2.1, h2.2.1, by omega, by omega⟩]
    · rw [if_neg h2, if_neg (fun h3 => by
        by_cases e : d = hi
        · exact h1 ⟨h3.1, h3.2.1, e⟩
        · exact h2 ⟨h3.1, h3.2.1, h3.2.2.1, by omega⟩)]
theorem gsuc (k : Nat) : ((k : Int) + 1) = ((k + 1 : Nat) : Int) := rfl
theorem gtn (k : Nat) : ((k : Int)).toNat = k := rfl
theorem z_fill7_l {n L : Nat} {x : Int32} (h : Q (.inl .null) (gwr I 7 n 0 (fun _ => x) 0 13) J B) : ∀ d k : Nat, k + d = 13 → gG E 310 5 [(0, .inr (7, n, 0)), (1, .inl (.int x)), (2, .inl (.int (gi k))), (3, .inl (.int (gi 13)))] [] (gwr I 7 n 0 (fun _ => x) 0 k) J B c w Q X
  | 0, k, hk => by
    obtain rfl : k = 13 := hk
    exact s_J7_fill_53178_7_5 ⟨fun _ => h, fun h0 => absurd (Int32.le_refl _) h0⟩
  | d + 1, k, hk => by
    refine s_J7_fill_53178_7_5 ?_
    rw [gi_le (by decide) (by decide) (by omega) (by omega), gi_c (by omega) (by omega), gtn, gwr_s rfl (by omega), gi_add]
    exact ⟨fun h0 => by omega, fun _ => ⟨gvp (by omega) (by omega) (by decide), z_fill7_l (L := L) h d (k + 1) (by omega)⟩⟩
theorem z_fill7 {n : Nat} {x : Int32} (h : Q (.inl .null) (gwr I 7 n 0 (fun _ => x) 0 13) J B) : gC E 310 [.inr (7, n, 0), .inl (.int x)] I J B Q X := by
  have h1 := z_fill7_l (E := E) (X := X) (c := 0) (w := 0) (L := 13) h 13 0 rfl
  rw [gwr_0] at h1
  exact e_J7_fill_53178_7 h1
end ZA
