/-! ===== numbers as sets of rows and columns ===== -/
def ml (n m : Nat) : List Nat := (List.range n).filter (fun j => m.testBit j)
def mpre (m j : Nat) : List Nat := (List.range j).filter (fun j => m.testBit j)
def mrest (m j d : Nat) : List Nat := ((List.range d).map (fun i => j + i)).filter (fun j => m.testBit j)
def mclr (m j : Nat) : Nat := if m.testBit j then m - 2 ^ j else m
theorem ml_bc : ∀ m : Nat, m < 32 → (((((((((gi (m : Int)) - ((UInt32.toInt32 (Int32.toUInt32 (gi (m : Int)) >>> (Int32.toUInt32 (gi 1) &&& Int32.toUInt32 31))) &&& (gi 1431655765))) &&& (gi 858993459)) + ((UInt32.toInt32 (Int32.toUInt32 ((gi (m : Int)) - ((UInt32.toInt32 (Int32.toUInt32 (gi (m : Int)) >>> (Int32.toUInt32 (gi 1) &&& Int32.toUInt32 31))) &&& (gi 1431655765))) >>> (Int32.toUInt32 (gi 2) &&& Int32.toUInt32 31))) &&& (gi 858993459))) + (UInt32.toInt32 (Int32.toUInt32 ((((gi (m : Int)) - ((UInt32.toInt32 (Int32.toUInt32 (gi (m : Int)) >>> (Int32.toUInt32 (gi 1) &&& Int32.toUInt32 31))) &&& (gi 1431655765))) &&& (gi 858993459)) + ((UInt32.toInt32 (Int32.toUInt32 ((gi (m : Int)) - ((UInt32.toInt32 (Int32.toUInt32 (gi (m : Int)) >>> (Int32.toUInt32 (gi 1) &&& Int32.toUInt32 31))) &&& (gi 1431655765))) >>> (Int32.toUInt32 (gi 2) &&& Int32.toUInt32 31))) &&& (gi 858993459))) >>> (Int32.toUInt32 (gi 4) &&& Int32.toUInt32 31)))) &&& (gi 252645135)) + (UInt32.toInt32 (Int32.toUInt32 ((((((gi (m : Int)) - ((UInt32.toInt32 (Int32.toUInt32 (gi (m : Int)) >>> (Int32.toUInt32 (gi 1) &&& Int32.toUInt32 31))) &&& (gi 1431655765))) &&& (gi 858993459)) + ((UInt32.toInt32 (Int32.toUInt32 ((gi (m : Int)) - ((UInt32.toInt32 (Int32.toUInt32 (gi (m : Int)) >>> (Int32.toUInt32 (gi 1) &&& Int32.toUInt32 31))) &&& (gi 1431655765))) >>> (Int32.toUInt32 (gi 2) &&& Int32.toUInt32 31))) &&& (gi 858993459))) + (UInt32.toInt32 (Int32.toUInt32 ((((gi (m : Int)) - ((UInt32.toInt32 (Int32.toUInt32 (gi (m : Int)) >>> (Int32.toUInt32 (gi 1) &&& Int32.toUInt32 31))) &&& (gi 1431655765))) &&& (gi 858993459)) + ((UInt32.toInt32 (Int32.toUInt32 ((gi (m : Int)) - ((UInt32.toInt32 (Int32.toUInt32 (gi (m : Int)) >>> (Int32.toUInt32 (gi 1) &&& Int32.toUInt32 31))) &&& (gi 1431655765))) >>> (Int32.toUInt32 (gi 2) &&& Int32.toUInt32 31))) &&& (gi 858993459))) >>> (Int32.toUInt32 (gi 4) &&& Int32.toUInt32 31)))) &&& (gi 252645135)) >>> (Int32.toUInt32 (gi 8) &&& Int32.toUInt32 31)))) + (UInt32.toInt32 (Int32.toUInt32 (((((((gi (m : Int)) - ((UInt32.toInt32 (Int32.toUInt32 (gi (m : Int)) >>> (Int32.toUInt32 (gi 1) &&& Int32.toUInt32 31))) &&& (gi 1431655765))) &&& (gi 858993459)) + ((UInt32.toInt32 (Int32.toUInt32 ((gi (m : Int)) - ((UInt32.toInt32 (Int32.toUInt32 (gi (m : Int)) >>> (Int32.toUInt32 (gi 1) &&& Int32.toUInt32 31))) &&& (gi 1431655765))) >>> (Int32.toUInt32 (gi 2) &&& Int32.toUInt32 31))) &&& (gi 858993459))) + (UInt32.toInt32 (Int32.toUInt32 ((((gi (m : Int)) - ((UInt32.toInt32 (Int32.toUInt32 (gi (m : Int)) >>> (Int32.toUInt32 (gi 1) &&& Int32.toUInt32 31))) &&& (gi 1431655765))) &&& (gi 858993459)) + ((UInt32.toInt32 (Int32.toUInt32 ((gi (m : Int)) - ((UInt32.toInt32 (Int32.toUInt32 (gi (m : Int)) >>> (Int32.toUInt32 (gi 1) &&& Int32.toUInt32 31))) &&& (gi 1431655765))) >>> (Int32.toUInt32 (gi 2) &&& Int32.toUInt32 31))) &&& (gi 858993459))) >>> (Int32.toUInt32 (gi 4) &&& Int32.toUInt32 31)))) &&& (gi 252645135)) + (UInt32.toInt32 (Int32.toUInt32 ((((((gi (m : Int)) - ((UInt32.toInt32 (Int32.toUInt32 (gi (m : Int)) >>> (Int32.toUInt32 (gi 1) &&& Int32.toUInt32 31))) &&& (gi 1431655765))) &&& (gi 858993459)) + ((UInt32.toInt32 (Int32.toUInt32 ((gi (m : Int)) - ((UInt32.toInt32 (Int32.toUInt32 (gi (m : Int)) >>> (Int32.toUInt32 (gi 1) &&& Int32.toUInt32 31))) &&& (gi 1431655765))) >>> (Int32.toUInt32 (gi 2) &&& Int32.toUInt32 31))) &&& (gi 858993459))) + (UInt32.toInt32 (Int32.toUInt32 ((((gi (m : Int)) - ((UInt32.toInt32 (Int32.toUInt32 (gi (m : Int)) >>> (Int32.toUInt32 (gi 1) &&& Int32.toUInt32 31))) &&& (gi 1431655765))) &&& (gi 858993459)) + ((UInt32.toInt32 (Int32.toUInt32 ((gi (m : Int)) - ((UInt32.toInt32 (Int32.toUInt32 (gi (m : Int)) >>> (Int32.toUInt32 (gi 1) &&& Int32.toUInt32 31))) &&& (gi 1431655765))) >>> (Int32.toUInt32 (gi 2) &&& Int32.toUInt32 31))) &&& (gi 858993459))) >>> (Int32.toUInt32 (gi 4) &&& Int32.toUInt32 31)))) &&& (gi 252645135)) >>> (Int32.toUInt32 (gi 8) &&& Int32.toUInt32 31)))) >>> (Int32.toUInt32 (gi 16) &&& Int32.toUInt32 31)))) &&& (gi 63)) = gi ((ml 5 m).length : Nat) := by decide +kernel
theorem z_bc {E : gEn} {Q : gQt} {X : gXt} {I : gI} {J : gJ} {B : gB} {m : Nat} (hm : m < 32) (k : Q (.inl (.int (gi ((ml 5 m).length : Nat)))) I J B) : gC E 170 [.inl (.int (gi (m : Int)))] I J B Q X := by
  refine e_J6_bitCount_0f7a4 ?_
  rw [ml_bc m hm]
  exact k
def mlow (m : Nat) : Nat := (ml 5 m).headD 0
theorem z_tz {E : gEn} {Q : gQt} {X : gXt} {I : gI} {J : gJ} {B : gB} : ∀ {m : Nat}, 0 < m → m < 32 → Q (.inl (.int (gi (mlow m : Nat)))) I J B → gC E 171 [.inl (.int (gi (m : Int)))] I J B Q X
  | 1, _, _, k => e_J6_numberOfTrailingZeros_0f7a4 (by
      refine ⟨fun z => ?_, fun z => ?_⟩
      · exact absurd z (by decide)
      · exact k)
  | 2, _, _, k => e_J6_numberOfTrailingZeros_0f7a4 (by
      refine ⟨fun z => ?_, fun z => ?_⟩
      · refine ⟨fun _ => ⟨fun _ => ⟨fun _ => ?_, fun y => absurd (by decide) y⟩, fun y => absurd (by decide) y⟩, fun y => absurd (by decide) y⟩
        exact ⟨fun _ => k, fun y => absurd (by decide) y⟩
      · exact absurd (by decide) z)
  | 3, _, _, k => e_J6_numberOfTrailingZeros_0f7a4 (by
      refine ⟨fun z => ?_, fun z => ?_⟩
      · exact absurd z (by decide)
      · exact k)
  | 4, _, _, k => e_J6_numberOfTrailingZeros_0f7a4 (by
      refine ⟨fun z => ?_, fun z => ?_⟩
      · refine ⟨fun _ => ⟨fun _ => ⟨fun _ => ?_, fun y => absurd (by decide) y⟩, fun y => absurd (by decide) y⟩, fun y => absurd (by decide) y⟩
        exact ⟨fun _ => k, fun y => absurd (by decide) y⟩
      · exact absurd (by decide) z)
  | 5, _, _, k => e_J6_numberOfTrailingZeros_0f7a4 (by
      refine ⟨fun z => ?_, fun z => ?_⟩
      · exact absurd z (by decide)
      · exact k)
  | 6, _, _, k => e_J6_numberOfTrailingZeros_0f7a4 (by
      refine ⟨fun z => ?_, fun z => ?_⟩
      · refine ⟨fun _ => ⟨fun _ => ⟨fun _ => ?_, fun y => absurd (by decide) y⟩, fun y => absurd (by decide) y⟩, fun y => absurd (by decide) y⟩
        exact ⟨fun _ => k, fun y => absurd (by decide) y⟩
      · exact absurd (by decide) z)
  | 7, _, _, k => e_J6_numberOfTrailingZeros_0f7a4 (by
      refine ⟨fun z => ?_, fun z => ?_⟩
      · exact absurd z (by decide)
      · exact k)
  | 8, _, _, k => e_J6_numberOfTrailingZeros_0f7a4 (by
      refine ⟨fun z => ?_, fun z => ?_⟩
      · refine ⟨fun _ => ⟨fun _ => ⟨fun _ => ?_, fun y => absurd (by decide) y⟩, fun y => absurd (by decide) y⟩, fun y => absurd (by decide) y⟩
        exact ⟨fun y => absurd y (by decide), fun _ => k⟩
      · exact absurd (by decide) z)
  | 9, _, _, k => e_J6_numberOfTrailingZeros_0f7a4 (by
      refine ⟨fun z => ?_, fun z => ?_⟩
      · exact absurd z (by decide)
      · exact k)
  | 10, _, _, k => e_J6_numberOfTrailingZeros_0f7a4 (by
      refine ⟨fun z => ?_, fun z => ?_⟩
      · refine ⟨fun _ => ⟨fun _ => ⟨fun _ => ?_, fun y => absurd (by decide) y⟩, fun y => absurd (by decide) y⟩, fun y => absurd (by decide) y⟩
        exact ⟨fun _ => k, fun y => absurd (by decide) y⟩
      · exact absurd (by decide) z)
  | 11, _, _, k => e_J6_numberOfTrailingZeros_0f7a4 (by
      refine ⟨fun z => ?_, fun z => ?_⟩
      · exact absurd z (by decide)
      · exact k)
  | 12, _, _, k => e_J6_numberOfTrailingZeros_0f7a4 (by
      refine ⟨fun z => ?_, fun z => ?_⟩
      · refine ⟨fun _ => ⟨fun _ => ⟨fun _ => ?_, fun y => absurd (by decide) y⟩, fun y => absurd (by decide) y⟩, fun y => absurd (by decide) y⟩
        exact ⟨fun _ => k, fun y => absurd (by decide) y⟩
      · exact absurd (by decide) z)
  | 13, _, _, k => e_J6_numberOfTrailingZeros_0f7a4 (by
      refine ⟨fun z => ?_, fun z => ?_⟩
      · exact absurd z (by decide)
      · exact k)
  | 14, _, _, k => e_J6_numberOfTrailingZeros_0f7a4 (by
      refine ⟨fun z => ?_, fun z => ?_⟩
      · refine ⟨fun _ => ⟨fun _ => ⟨fun _ => ?_, fun y => absurd (by decide) y⟩, fun y => absurd (by decide) y⟩, fun y => absurd (by decide) y⟩
        exact ⟨fun _ => k, fun y => absurd (by decide) y⟩
      · exact absurd (by decide) z)
  | 15, _, _, k => e_J6_numberOfTrailingZeros_0f7a4 (by
      refine ⟨fun z => ?_, fun z => ?_⟩
      · exact absurd z (by decide)
      · exact k)
  | 16, _, _, k => e_J6_numberOfTrailingZeros_0f7a4 (by
      refine ⟨fun z => ?_, fun z => ?_⟩
      · refine ⟨fun _ => ⟨fun _ => ⟨fun _ => ?_, fun y => absurd (by decide) y⟩, fun y => absurd (by decide) y⟩, fun y => absurd (by decide) y⟩
        exact ⟨fun y => absurd y (by decide), fun _ => k⟩
      · exact absurd (by decide) z)
  | 17, _, _, k => e_J6_numberOfTrailingZeros_0f7a4 (by
      refine ⟨fun z => ?_, fun z => ?_⟩
      · exact absurd z (by decide)
      · exact k)
  | 18, _, _, k => e_J6_numberOfTrailingZeros_0f7a4 (by
      refine ⟨fun z => ?_, fun z => ?_⟩
      · refine ⟨fun _ => ⟨fun _ => ⟨fun _ => ?_, fun y => absurd (by decide) y⟩, fun y => absurd (by decide) y⟩, fun y => absurd (by decide) y⟩
        exact ⟨fun _ => k, fun y => absurd (by decide) y⟩
      · exact absurd (by decide) z)
  | 19, _, _, k => e_J6_numberOfTrailingZeros_0f7a4 (by
      refine ⟨fun z => ?_, fun z => ?_⟩
      · exact absurd z (by decide)
      · exact k)
  | 20, _, _, k => e_J6_numberOfTrailingZeros_0f7a4 (by
      refine ⟨fun z => ?_, fun z => ?_⟩
      · refine ⟨fun _ => ⟨fun _ => ⟨fun _ => ?_, fun y => absurd (by decide) y⟩, fun y => absurd (by decide) y⟩, fun y => absurd (by decide) y⟩
        exact ⟨fun _ => k, fun y => absurd (by decide) y⟩
      · exact absurd (by decide) z)
  | 21, _, _, k => e_J6_numberOfTrailingZeros_0f7a4 (by
      refine ⟨fun z => ?_, fun z => ?_⟩
      · exact absurd z (by decide)
      · exact k)
  | 22, _, _, k => e_J6_numberOfTrailingZeros_0f7a4 (by
      refine ⟨fun z => ?_, fun z => ?_⟩
      · refine ⟨fun _ => ⟨fun _ => ⟨fun _ => ?_, fun y => absurd (by decide) y⟩, fun y => absurd (by decide) y⟩, fun y => absurd (by decide) y⟩
        exact ⟨fun _ => k, fun y => absurd (by decide) y⟩
      · exact absurd (by decide) z)
  | 23, _, _, k => e_J6_numberOfTrailingZeros_0f7a4 (by
      refine ⟨fun z => ?_, fun z => ?_⟩
      · exact absurd z (by decide)
      · exact k)
  | 24, _, _, k => e_J6_numberOfTrailingZeros_0f7a4 (by
      refine ⟨fun z => ?_, fun z => ?_⟩
      · refine ⟨fun _ => ⟨fun _ => ⟨fun _ => ?_, fun y => absurd (by decide) y⟩, fun y => absurd (by decide) y⟩, fun y => absurd (by decide) y⟩
        exact ⟨fun y => absurd y (by decide), fun _ => k⟩
      · exact absurd (by decide) z)
  | 25, _, _, k => e_J6_numberOfTrailingZeros_0f7a4 (by
      refine ⟨fun z => ?_, fun z => ?_⟩
      · exact absurd z (by decide)
      · exact k)
  | 26, _, _, k => e_J6_numberOfTrailingZeros_0f7a4 (by
      refine ⟨fun z => ?_, fun z => ?_⟩
      · refine ⟨fun _ => ⟨fun _ => ⟨fun _ => ?_, fun y => absurd (by decide) y⟩, fun y => absurd (by decide) y⟩, fun y => absurd (by decide) y⟩
        exact ⟨fun _ => k, fun y => absurd (by decide) y⟩
      · exact absurd (by decide) z)
  | 27, _, _, k => e_J6_numberOfTrailingZeros_0f7a4 (by
      refine ⟨fun z => ?_, fun z => ?_⟩
      · exact absurd z (by decide)
      · exact k)
  | 28, _, _, k => e_J6_numberOfTrailingZeros_0f7a4 (by
      refine ⟨fun z => ?_, fun z => ?_⟩
      · refine ⟨fun _ => ⟨fun _ => ⟨fun _ => ?_, fun y => absurd (by decide) y⟩, fun y => absurd (by decide) y⟩, fun y => absurd (by decide) y⟩
        exact ⟨fun _ => k, fun y => absurd (by decide) y⟩
      · exact absurd (by decide) z)
  | 29, _, _, k => e_J6_numberOfTrailingZeros_0f7a4 (by
      refine ⟨fun z => ?_, fun z => ?_⟩
      · exact absurd z (by decide)
      · exact k)
  | 30, _, _, k => e_J6_numberOfTrailingZeros_0f7a4 (by
      refine ⟨fun z => ?_, fun z => ?_⟩
      · refine ⟨fun _ => ⟨fun _ => ⟨fun _ => ?_, fun y => absurd (by decide) y⟩, fun y => absurd (by decide) y⟩, fun y => absurd (by decide) y⟩
        exact ⟨fun _ => k, fun y => absurd (by decide) y⟩
      · exact absurd (by decide) z)
  | 31, _, _, k => e_J6_numberOfTrailingZeros_0f7a4 (by
      refine ⟨fun z => ?_, fun z => ?_⟩
      · exact absurd z (by decide)
      · exact k)
  | n + 32, _, h, _ => by omega
theorem ml_bit : ∀ m : Nat, m < 32 → ∀ j : Nat, j < 5 → (((gi (m : Int)) >>> ((gi (j : Int)) &&& 31)) &&& (gi 1)) = gi (if m.testBit j then 1 else 0) := by decide +kernel
theorem ml_low : ∀ m : Nat, m < 32 → ((gi (m : Int)) &&& ((gi (m : Int)) - (gi 1))) = gi ((m &&& (m - 1) : Nat) : Int) ∧ (m &&& (m - 1)) < 32 := by decide +kernel
theorem ml_cl : ∀ m : Nat, m < 32 → ∀ j : Nat, j < 5 → ((gi (m : Int)) &&& (((gi 1) <<< ((gi (j : Int)) &&& 31)) ^^^ (gi (-1)))) = gi (mclr m j : Nat) ∧ mclr m j < 32 := by decide +kernel
theorem ml_head : ∀ n : Nat, n < 6 → ∀ m : Nat, m < 2 ^ n → 0 < m → ml n m = mlow m :: ml n (m &&& (m - 1)) ∧ (m &&& (m - 1)) < 2 ^ n ∧ mlow m < n := by decide +kernel
theorem ml_zero : ∀ n : Nat, n < 6 → ml n 0 = [] := by decide +kernel
theorem ml_5 : ∀ n : Nat, n < 6 → ∀ m : Nat, m < 2 ^ n → ml 5 m = ml n m := by decide +kernel
theorem ml_clr : ∀ n : Nat, n < 6 → ∀ m : Nat, m < 2 ^ n → ∀ j : Nat, j < n → m.testBit j = true → ml n (mclr m j) = mpre m j ++ mrest m (j + 1) (n - j - 1) ∧ mclr m j < 2 ^ n := by decide +kernel
theorem ml_first : ∀ k : Nat, k < 6 → ((gi 1) <<< ((gi (k : Int)) &&& 31)) - (gi 1) = gi ((2 ^ k - 1 : Nat) : Int) ∧ ((gi 1) <<< ((gi (k : Int)) &&& 31)) = gi ((2 ^ k : Nat) : Int) := by decide +kernel
theorem ml_all : ∀ n : Nat, n < 6 → ∀ k : Nat, k ≤ n → ml n (2 ^ k - 1) = List.range k ∧ 2 ^ k - 1 < 2 ^ n := by decide +kernel
theorem ml_rem : ∀ n : Nat, n < 6 → ∀ i : Nat, i < n → ml n (mclr (2 ^ n - 1) i) = (List.range n).filter (fun x => x != i) ∧ mclr (2 ^ n - 1) i < 2 ^ n := by decide +kernel
theorem pow32 : ∀ n : Nat, n < 6 → 2 ^ n ≤ 32 := by decide +kernel
theorem mrest_t {m j d : Nat} (h : m.testBit j = true) : mrest m j (d + 1) = j :: mrest m (j + 1) d := by
  unfold mrest
  rw [List.range_succ_eq_map, List.map_cons, List.map_map, List.filter_cons_of_pos (by simpa using h)]
  congr 2
  apply List.map_congr_left
  intro i _
  show j + (i + 1) = j + 1 + i
  omega
theorem mrest_f {m j d : Nat} (h : m.testBit j = false) : mrest m j (d + 1) = mrest m (j + 1) d := by
  unfold mrest
  rw [List.range_succ_eq_map, List.map_cons, List.map_map, List.filter_cons_of_neg (by simp [h])]
  congr 1
  apply List.map_congr_left
  intro i _
  show j + (i + 1) = j + 1 + i
  omega
theorem mpre_t {m j : Nat} (h : m.testBit j = true) : mpre m (j + 1) = mpre m j ++ [j] := by
  unfold mpre
  rw [List.range_succ, List.filter_append, List.filter_cons_of_pos h, List.filter_nil]
theorem mpre_f {m j : Nat} (h : m.testBit j = false) : mpre m (j + 1) = mpre m j := by
  unfold mpre
  rw [List.range_succ, List.filter_append, List.filter_cons_of_neg (by rw [h]; decide), List.filter_nil, List.append_nil]
theorem ml_rest {n m : Nat} : mrest m 0 n = ml n m := by
  unfold mrest ml
  congr 1
  rw [List.map_congr_left (g := id) (fun i _ => Nat.zero_add i), List.map_id]
