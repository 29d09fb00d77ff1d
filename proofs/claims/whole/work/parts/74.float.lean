/-! ===== a quotient of whole numbers is a number ===== -/
abbrev Dt : Type := FP.Core.Datum
theorem qb_le {n : Nat} (h : n % 2 ^ 63 ≤ 2047 * 2 ^ 52) : vf_n64 (UInt64.ofNat n) := by
  unfold vf_n64
  rw [UInt64.le_iff_toNat_le, UInt64.toNat_and, UInt64.toNat_ofNat', show (0x7fffffffffffffff : UInt64).toNat = 2 ^ 63 - 1 from rfl, Nat.and_two_pow_sub_one_eq_mod, show (0x7ff0000000000000 : UInt64).toNat = 2047 * 2 ^ 52 from rfl]
  omega
def gdat (d : Dt) : Prop := match d with
  | .nan => False
  | .inf _ => True
  | .fin _ c q => c < 2 ^ 53 ∧ q ≤ 971
theorem b64_t : FP.Core.b64.tails = 2 ^ 52 := rfl
theorem b64_e : FP.Core.b64.exps = 2048 := rfl
theorem b64_q : FP.Core.b64.qmin = -1074 := rfl
theorem b64_m : FP.Core.b64.qmax = 971 := rfl
theorem gd_bound {s : Bool} {c : Nat} {q : Int} (h : c < 2 ^ 53) : gdat (FP.Core.bound FP.Core.b64 s c q) := by
  unfold FP.Core.bound
  rw [b64_m]
  split
  · exact ⟨h, by assumption⟩
  · exact trivial
theorem gd_round {s : Bool} {a b : Nat} {e : Int} : gdat (FP.Core.roundRatio FP.Core.b64 s a b e) := by
  unfold FP.Core.roundRatio
  split
  · refine ⟨by decide, ?_⟩
    rw [b64_q]
    decide
  · unfold FP.Core.roundAt FP.Core.settle
    split
    · exact gd_bound (by assumption)
    · exact gd_bound (by rw [b64_t]; decide)
/-- the bits without the sign -/
theorem gd_enc {d : Dt} (h : gdat d) : FP.Core.encode FP.Core.b64 d % 2 ^ 63 ≤ 2047 * 2 ^ 52 ∧ (∀ s c q, d = .fin s c q → c ≠ 0 → 0 < FP.Core.encode FP.Core.b64 d % 2 ^ 63 ∧ FP.Core.encode FP.Core.b64 d % 2 ^ 63 < 2047 * 2 ^ 52) := by
  have hs : ∀ s : Bool, s.toNat ≤ 1 := fun s => by cases s <;> decide
  cases d with
  | nan => exact absurd h id
  | inf s =>
    have := hs s
    refine ⟨?_, fun _ _ _ hh => by cases hh⟩
    unfold FP.Core.encode FP.Core.assemble
    rw [b64_t, b64_e]
    dsimp only
    omega
  | fin s c q =>
    obtain ⟨h1, h2⟩ := h
    have := hs s
    have key : FP.Core.encode FP.Core.b64 (.fin s c q) % 2 ^ 63 < 2047 * 2 ^ 52 ∧ (c ≠ 0 → 0 < FP.Core.encode FP.Core.b64 (.fin s c q) % 2 ^ 63) := by
      unfold FP.Core.encode FP.Core.assemble
      rw [b64_t, b64_e, b64_q]
      dsimp only
      split
      · omega
      · have : (q - -1074).toNat + 1 ≤ 2046 := by omega
        omega
    exact ⟨Nat.le_of_lt key.1, fun s' c' q' hh hc => by cases hh; exact ⟨key.2 hc, key.1⟩⟩
theorem dec_nn {n : Nat} (h : n % 2 ^ 63 ≤ 2047 * 2 ^ 52) : FP.Core.decode FP.Core.b64 n ≠ .nan := by
  unfold FP.Core.decode FP.Core.fieldE FP.Core.fieldT
  rw [b64_t, b64_e]
  split
  · rename_i h1
    split
    · exact fun z => by cases z
    · rename_i h2
      omega
  · split
    · exact fun z => by cases z
    · exact fun z => by cases z
theorem dec_fin {n : Nat} (h0 : 0 < n % 2 ^ 63) (h : n % 2 ^ 63 < 2047 * 2 ^ 52) : ∃ s c q, FP.Core.decode FP.Core.b64 n = .fin s c q ∧ c ≠ 0 := by
  unfold FP.Core.decode
  generalize hS : FP.Core.fieldS FP.Core.b64 n = S
  unfold FP.Core.fieldE FP.Core.fieldT
  rw [b64_t, b64_e]
  split
  · omega
  · split
    · exact ⟨_, _, _, rfl, by omega⟩
    · exact ⟨_, _, _, rfl, by omega⟩
theorem l2d_enc {x : Int64} : FP.l2d x = UInt64.ofNat (FP.Core.encode FP.Core.b64 (FP.Core.roundRatio FP.Core.b64 (decide (x.toInt < 0)) x.toInt.natAbs 1 0)) := rfl
theorem l2d_fin {b : Int} (h1 : 1 ≤ b) (h2 : b ≤ 1000000) : ∃ s c q, FP.Core.roundRatio FP.Core.b64 s b.natAbs 1 0 = .fin s c q ∧ c ≠ 0 ∧ s = false := by
  refine ⟨false, ?_⟩
  have hn : b.natAbs ≠ 0 := by omega
  have hl : b.natAbs.log2 < 20 := (Nat.log2_lt hn).mpr (by omega)
  have hq : FP.Core.quantum FP.Core.b64 b.natAbs 1 0 ≤ -33 := by
    unfold FP.Core.quantum FP.Core.leading
    rw [b64_q, show ((FP.Core.b64.p : Nat) : Int) = 53 from rfl, show (1 : Nat).log2 = 0 by decide]
    dsimp only
    split <;> omega
  unfold FP.Core.roundRatio
  rw [if_neg hn]
  unfold FP.Core.roundAt
  generalize FP.Core.quantum FP.Core.b64 b.natAbs 1 0 = q at hq
  have hm : FP.Core.nearest (FP.Core.unitsNum b.natAbs 0 q) (FP.Core.unitsDen 1 0 q) ≠ 0 := by
    have hd : FP.Core.unitsDen 1 0 q = 1 := by
      unfold FP.Core.unitsDen
      rw [show (q - 0).toNat = 0 by omega]
    have hu : 0 < FP.Core.unitsNum b.natAbs 0 q := by
      unfold FP.Core.unitsNum
      exact Nat.mul_pos (by omega) (Nat.two_pow_pos _)
    unfold FP.Core.nearest
    rw [hd, if_pos (by rw [Nat.mod_one]; decide), Nat.div_one]
    omega
  generalize FP.Core.nearest (FP.Core.unitsNum b.natAbs 0 q) (FP.Core.unitsDen 1 0 q) = m at hm
  unfold FP.Core.settle
  split
  · unfold FP.Core.bound
    rw [b64_m, if_pos (by omega)]
    exact ⟨_, _, rfl, hm, rfl⟩
  · unfold FP.Core.bound
    rw [b64_m, if_pos (by omega)]
    exact ⟨_, _, rfl, by rw [b64_t]; decide, rfl⟩
theorem z_quo {x : Int64} {b : Int} (h1 : 1 ≤ b) (h2 : b ≤ 1000000) : vf_n64 (FP.ddiv (FP.l2d x) (FP.l2d (gj b))) := by
  have e1 := (gd_enc (gd_round (s := decide (x.toInt < 0)) (a := x.toInt.natAbs) (b := 1) (e := 0))).1
  obtain ⟨s, c, q, e2, hc, hs⟩ := l2d_fin h1 h2
  subst hs
  have e3 := (gd_enc (gd_round (s := false) (a := b.natAbs) (b := 1) (e := 0))).2 _ _ _ e2 hc
  have hx : FP.Core.decode FP.Core.b64 (FP.l2d x).toNat ≠ .nan := by
    refine dec_nn ?_
    rw [l2d_enc, UInt64.toNat_ofNat']
    omega
  have hb : ∃ s c q, FP.Core.decode FP.Core.b64 (FP.l2d (gj b)).toNat = .fin s c q ∧ c ≠ 0 := by
    have hd : FP.l2d (gj b) = UInt64.ofNat (FP.Core.encode FP.Core.b64 (FP.Core.roundRatio FP.Core.b64 false b.natAbs 1 0)) := by
      rw [l2d_enc, gj_t (by omega) (by omega), decide_eq_false (by omega)]
    refine dec_fin ?_ ?_
    · rw [hd, UInt64.toNat_ofNat']
      omega
    · rw [hd, UInt64.toNat_ofNat']
      omega
  obtain ⟨s2, c2, q2, e4, hc2⟩ := hb
  show vf_n64 (UInt64.ofNat (FP.Core.encode FP.Core.b64 (FP.Core.quotient FP.Core.b64 (FP.Core.decode FP.Core.b64 (FP.l2d x).toNat) (FP.Core.decode FP.Core.b64 (FP.l2d (gj b)).toNat))))
  rw [e4]
  have hg : gdat (FP.Core.quotient FP.Core.b64 (FP.Core.decode FP.Core.b64 (FP.l2d x).toNat) (.fin s2 c2 q2)) := by
    cases hX : FP.Core.decode FP.Core.b64 (FP.l2d x).toNat with
    | nan => exact absurd hX hx
    | inf s => exact trivial
    | fin s c q =>
      unfold FP.Core.quotient
      dsimp only
      rw [if_neg hc2]
      exact gd_round
  exact qb_le (gd_enc hg).1
