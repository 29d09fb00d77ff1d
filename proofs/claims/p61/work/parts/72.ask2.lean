section YE
variable {E : gEn} {Q : gQt} {X : gXt} {I : gI} {J : gJ} {B : gB} {c w : Nat} {f : Nat → Int} {o : Option (Nat → Int)} {a b d : Int}
theorem c_steps (hS : Sys o I J) : Cl E 66 [.inr (3, 0, 0)] I J B (eM o fun _ => 0) (.inl (.int (gi (rM o fun f => (((ess f).length - 1 : Nat) : Int))))) :=
  Cl.of hS (fun h Q X k => e_X7_steps ⟨⟨by decide, by decide⟩, z_rs0 h k⟩) fun f hv hR Q X k1 k2 => e_X7_steps ⟨⟨by decide, by decide⟩, z_rs hv hR (z_fs hv hR fun I' fe _ => k1 rfl I' J fe.q JQ.rf)⟩
theorem ess_l {f : Nat → Int} (hv : Vf f) : 1 ≤ (ess f).length ∧ (ess f).length ≤ 8 := by
  have := esL_len (f := f) ((f 0).toNat)
  have h0 := hv.1
  exact ⟨this.1, by have := this.2; show (esL f ((f 0).toNat)).length ≤ 8; omega⟩
theorem ess_g {f : Nat → Int} {j : Nat} (hv : Vf f) : (ess f).getD j 0 ≤ (f 0).toNat := by
  by_cases h : j < (ess f).length
  · exact esL_le _ _ (getD_mem h)
  · rw [List.getD_eq_getElem?_getD, List.getElem?_eq_none (by omega)]
    exact Nat.zero_le _
theorem ess_m {l : Int} : gi l - gi 1 = gi (l - 1) := gi_sub l 1
theorem c_stepEnd (h1 : -2147483648 ≤ a) (h2 : a < 2147483648) (hS : Sys o I J) : Cl E 67 [.inr (3, 0, 0), .inl (.int (gi a))] I J B (eM o fun f => if 0 ≤ a ∧ a < (ess f).length then 0 else 2) (.inl (.int (gi (rM o fun f => (stE f a : Nat))))) :=
  Cl.of hS (fun h Q X k => e_X7_stepEnd ⟨⟨by decide, by decide⟩, z_rs0 h k⟩) fun f hv hR Q X k1 k2 => e_X7_stepEnd ⟨⟨by decide, by decide⟩, z_rs hv hR ⟨⟨by decide, by decide⟩, z_sb h1 h2 hv hR (fun g1 g2 I' fe _ => k1 (if_pos ⟨g1, g2⟩) I' J fe.q JQ.rf) (fun g I' fe => k2 1 (if_neg g) I' J fe.q JQ.rf)⟩⟩
theorem z_en {I' : gI} (hv : Vf f) (g1 : 0 ≤ a) (g2 : a < (ess f).length) (e : ∀ j, j < (ess f).length → I' 40 0 0 j = gi ((ess f).getD j 0 : Nat)) : vp_in (gi a) 8 ∧ I' 40 0 0 (Int32.toNatClampNeg (gi a)) = gi (stE f a : Nat) := by
  have hl := ess_l hv
  rw [gi_c (by omega) (by omega), e _ (by omega)]
  exact ⟨gvp g1 (by omega) (by decide), rfl⟩
theorem c_tail (hS : Sys o I J) : Cl E 69 [.inr (3, 0, 0)] I J B (eM o fun _ => 0) (.inl (.int (gi (rM o fun f => f 0 - ((ess f).getD ((ess f).length - 1) 0 : Nat))))) :=
  Cl.of hS (fun h Q X k => e_X7_tail ⟨⟨by decide, by decide⟩, z_rs0 h k⟩) fun f hv hR Q X k1 k2 => e_X7_tail ⟨⟨by decide, by decide⟩, z_rs hv hR (z_fs hv hR fun I' fe e => by
    have hl := ess_l hv
    show vp_in _ 8 ∧ Q (.inl (.int (I 6 0 0 0 - I' 30 0 0 _))) I' J B
    rw [hR.1.1, gi_c (by omega) (by omega), gtn, e _ (by omega), gi_sub]
    exact ⟨gvp (by omega) (by omega) (by decide), k1 rfl I' J fe.q JQ.rf⟩)⟩
def ljF (l : List Nat) : Nat → Int
  | 0 => 0
  | k + 1 => max (ljF l k) ((l.getD (k + 1) 0 : Nat) - (l.getD k 0 : Nat))
theorem ljF_b {l : List Nat} (h : ∀ j, l.getD j 0 ≤ 7) : ∀ k, 0 ≤ ljF l k ∧ ljF l k ≤ 7
  | 0 => ⟨Int.le_refl 0, by show (0 : Int) ≤ 7; decide⟩
  | k + 1 => by
    have := ljF_b h k
    have h1 := h k
    have h2 := h (k + 1)
    show 0 ≤ max _ _ ∧ max _ _ ≤ (7 : Int)
    omega
theorem ess_7 {f : Nat → Int} (hv : Vf f) (j : Nat) : (ess f).getD j 0 ≤ 7 := Nat.le_trans (ess_g hv) (by have := hv.1; omega)
theorem c_lj_l {I : gI} (hv : Vf f) (he : ∀ j, j < (ess f).length → I 30 0 0 j = gi ((ess f).getD j 0 : Nat)) (h : Q (.inl (.int (gi (ljF (ess f) ((ess f).length - 1))))) I J B) : ∀ d k : Nat, k + d + 1 = (ess f).length → gG E 68 13 [(0, .inr (3, 0, 0)), (1, .inl (.int (gi (((ess f).length - 1 : Nat) : Int)))), (2, .inl (.int (gi (ljF (ess f) k)))), (3, .inl (.int (gi ((k + 1 : Nat) : Int))))] [] I J B c w Q X
  | 0, k, hk => by
    have hl := ess_l hv
    refine s_X7_longestJump_13 ?_
    rw [gi_lt (by omega) (by omega) (by omega) (by omega)]
    obtain rfl : k = (ess f).length - 1 := by omega
    exact ⟨fun _ => h, fun z => by omega⟩
  | d + 1, k, hk => by
    have hl := ess_l hv
    have hb := ljF_b (ess_7 hv) k
    have h1 := ess_7 hv k
    have h2 := ess_7 hv (k + 1)
    refine s_X7_longestJump_13 ?_
    rw [gi_lt (by omega) (by omega) (by omega) (by omega), gi_sub, show ((k + 1 : Nat) : Int) - 1 = (k : Int) by omega, gi_c (by omega) (by omega), gtn, gi_c (by omega) (by omega), gtn, he _ (by omega), he _ (by omega), gi_sub]
    refine ⟨fun z => by omega, fun _ => ⟨gvp (by omega) (by omega) (by decide), gvp (by omega) (by omega) (by decide), z_max (by omega) (by omega) (by omega) (by omega) ?_⟩⟩
    show gG _ _ _ _ _ _ _ _ _ _ _ _
    rw [gi_add]
    exact c_lj_l hv he h d (k + 1) (by omega)
theorem c_longestJump (hS : Sys o I J) : Cl E 68 [.inr (3, 0, 0)] I J B (eM o fun _ => 0) (.inl (.int (gi (rM o fun f => ljF (ess f) ((ess f).length - 1))))) :=
  Cl.of hS (fun h Q X k => e_X7_longestJump ⟨⟨by decide, by decide⟩, z_rs0 h k⟩) fun f hv hR Q X k1 k2 => e_X7_longestJump ⟨⟨by decide, by decide⟩, z_rs hv hR (z_fs hv hR fun I' fe e => c_lj_l hv e (k1 rfl I' J fe.q JQ.rf) ((ess f).length - 1) 0 (by have := ess_l hv; omega))⟩
/-! the primes by their numbers -/
end YE
