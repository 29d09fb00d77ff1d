/-! ===== the law's loop ===== -/
section YZ
variable {E : gEn} {Q : gQt} {X : gXt} {I : gI} {J : gJ} {B : gB} {y5 : Int32} {cc w : Nat}
theorem law_case (hR : Rl I J B) (y : Ly E y5) (hc : cc + 12 ≤ 601024) (hw : w + 172 ≤ 7293034) (k : Kx E Q X y5 cc w) (q : Nat) (hq : q < 58) : gG E 313 (lcs.getD q 0) (lls y5) [] I J B cc w Q X := by
  match q, hq with
  | 0, _ => exact k_append hR y k
  | 1, _ => exact k_load hR y hc hw k
  | 2, _ => exact k_parseError hR k
  | 3, _ => exact k_errorPosition hR k
  | 4, _ => exact k_buffered hR k
  | 5, _ => exact k_size hR k
  | 6, _ => exact k_prime hR k
  | 7, _ => exact k_diagonal hR y hc hw k
  | 8, _ => exact k_entry hR y hc hw k
  | 9, _ => exact k_side hR y hc hw k
  | 10, _ => exact k_probe hR y hc hw k
  | 11, _ => exact k_minor hR y hc hw k
  | 12, _ => exact k_rank hR y hc hw k
  | 13, _ => exact k_isRegular hR y hc hw k
  | 14, _ => exact k_steps hR y hc hw k
  | 15, _ => exact k_stepEnd hR y hc hw k
  | 16, _ => exact k_longestJump hR y hc hw k
  | 17, _ => exact k_tail hR y hc hw k
  | 18, _ => exact k_regularPrimes hR y hc hw k
  | 19, _ => exact k_minorIf hR y hc hw k
  | 20, _ => exact k_schur hR y hc hw k
  | 21, _ => exact k_displacement hR y hc hw k
  | 22, _ => exact k_generators hR y hc hw k
  | 23, _ => exact k_generator hR y hc hw k
  | 24, _ => exact k_mostGenerators hR y hc hw k
  | 25, _ => exact k_solution hR y hc hw k
  | 26, _ => exact k_inverse hR y hc hw k
  | 27, _ => exact k_kernel hR y hc hw k
  | 28, _ => exact k_isSolvable hR y hc hw k
  | 29, _ => exact k_digits hR y hc hw k
  | 30, _ => exact k_mostDigits hR y hc hw k
  | 31, _ => exact k_digit hR y hc hw k
  | 32, _ => exact k_residual hR y hc hw k
  | 33, _ => exact k_value hR y hc hw k
  | 34, _ => exact k_centred hR y hc hw k
  | 35, _ => exact k_numerator hR y hc hw k
  | 36, _ => exact k_denominator hR y hc hw k
  | 37, _ => exact k_quotient hR y hc hw k
  | 38, _ => exact k_isExact hR y hc hw k
  | 39, _ => exact k_liftsTo hR y hc hw k
  | 40, _ => exact k_product hR y hc hw k
  | 41, _ => exact k_circulant hR y hc hw k
  | 42, _ => exact k_wrapped hR y hc hw k
  | 43, _ => exact k_probeSolves hR y hc hw k
  | 44, _ => exact k_entries hR k
  | 45, _ => exact k_accountOf hR y hc hw k
  | 46, _ => exact k_setDiagonal hR y hc hw k
  | 47, _ => exact k_setSide hR y hc hw k
  | 48, _ => exact k_setProbe hR y hc hw k
  | 49, _ => exact k_setPrime hR y hc hw k
  | 50, _ => exact k_grow hR y hc hw k
  | 51, _ => exact k_shrink hR y hc hw k
  | 52, _ => exact k_lift hR y hc hw k
  | 53, _ => exact k_refine hR y hc hw k
  | 54, _ => exact k_undo hR hc hw k
  | 55, _ => exact k_undoable hR k
  | 56, _ => exact k_save hR y hc hw k
  | 57, _ => exact k_restore hR y hc hw k
  | q + 58, h => exact absurd h (by omega)
theorem gi_nat (n : Nat) : Int32.ofNat n = gi (n : Int) := by
  apply Int32.toBitVec_inj.mp
  show BitVec.ofNat 32 n = BitVec.ofInt 32 (n : Int)
  rw [BitVec.ofInt_natCast]
theorem law_loop (hL : gL E ≤ 3072) (kq : ∀ I J B, Q (.inl (.int (gi 1))) I J B) (c0 w0 : Nat) (hc0 : c0 ≤ 500000) (hw0 : w0 ≤ 7000000) : ∀ (j t : Nat) (I : gI) (J : gJ) (B : gB) (cc w : Nat), 513 - t = j → t ≤ 513 → 6 * t ≤ gL E + 5 → Rl I J B → cc ≤ c0 + 12 * t → w ≤ w0 + 172 * t → gG E 313 28 (lls (gi ((6 * t : Nat) : Int))) [] I J B cc w Q X := by
  intro j
  induction j with
  | zero => intro t I J B cc w h1 h2 h3; omega
  | succ j ih =>
    intro t I J B cc w h1 h2 h3 hR hc hw
    refine s_L_law_28 ⟨fun _ => ⟨Or.inr rfl, kq I J B⟩, fun z => ?_⟩
    rw [gi_nat, gi_sub, gi_lt (by omega) (by omega) (by omega) (by omega)] at z
    have ht : 6 * t + 6 ≤ gL E := by omega
    have y : Ly E (gi ((6 * t : Nat) : Int)) := by
      refine ⟨?_, ?_, ?_, ?_, ?_⟩ <;> rw [gi_add] <;> exact gvp (by omega) (by omega) (by omega)
    have k : Kx E Q X (gi ((6 * t : Nat) : Int)) cc w := fun I' J' B' hR' c' w' hc' hw' => by
      refine s_L_law_3355 ?_
      rw [show gi ((6 * t : Nat) : Int) + gi 6 = gi ((6 * (t + 1) : Nat) : Int) by rw [gi_add]; exact congrArg gi (by omega)]
      exact ih (t + 1) I' J' B' c' w' (by omega) (by omega) (by omega) hR' (by omega) (by omega)
    refine ⟨gvp (by omega) (by omega) (by omega), s_L_law_45 (fun q hq _ => law_case hR y (by omega) (by omega) k q hq) (fun _ => k I J B hR cc w (by omega) (by omega))⟩
end YZ
