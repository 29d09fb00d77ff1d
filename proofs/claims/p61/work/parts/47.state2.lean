section ZG
variable {E : gEn} {Q : gQt} {X : gXt} {I : gI} {J : gJ} {B : gB} {c w : Nat}
theorem z_fill8_l {n L : Nat} {x : Int32} (h : Q (.inl .null) (gwr I 8 n 0 (fun _ => x) 0 7) J B) : ∀ d k : Nat, k + d = 7 → gG E 310 5 [(0, .inr (8, n, 0)), (1, .inl (.int x)), (2, .inl (.int (gi k))), (3, .inl (.int (gi 7)))] [] (gwr I 8 n 0 (fun _ => x) 0 k) J B c w Q X
  | 0, k, hk => by
    obtain rfl : k = 7 := hk
    exact s_J7_fill_53178_8_5 ⟨fun _ => h, fun h0 => absurd (Int32.le_refl _) h0⟩
  | d + 1, k, hk => by
    refine s_J7_fill_53178_8_5 ?_
    rw [gi_le (by decide) (by decide) (by omega) (by omega), gi_c (by omega) (by omega), gtn, gwr_s rfl (by omega), gi_add]
    exact ⟨fun h0 => by omega, fun _ => ⟨gvp (by omega) (by omega) (by decide), z_fill8_l (L := L) h d (k + 1) (by omega)⟩⟩
theorem z_fill8 {n : Nat} {x : Int32} (h : Q (.inl .null) (gwr I 8 n 0 (fun _ => x) 0 7) J B) : gC E 310 [.inr (8, n, 0), .inl (.int x)] I J B Q X := by
  have h1 := z_fill8_l (E := E) (X := X) (c := 0) (w := 0) (L := 7) h 7 0 rfl
  rw [gwr_0] at h1
  exact e_J7_fill_53178_8 h1
theorem z_fill9_l {n L : Nat} {x : Int32} (h : Q (.inl .null) (gwr I 9 n 0 (fun _ => x) 0 7) J B) : ∀ d k : Nat, k + d = 7 → gG E 310 5 [(0, .inr (9, n, 0)), (1, .inl (.int x)), (2, .inl (.int (gi k))), (3, .inl (.int (gi 7)))] [] (gwr I 9 n 0 (fun _ => x) 0 k) J B c w Q X
  | 0, k, hk => by
    obtain rfl : k = 7 := hk
    exact s_J7_fill_53178_9_5 ⟨fun _ => h, fun h0 => absurd (Int32.le_refl _) h0⟩
  | d + 1, k, hk => by
    refine s_J7_fill_53178_9_5 ?_
    rw [gi_le (by decide) (by decide) (by omega) (by omega), gi_c (by omega) (by omega), gtn, gwr_s rfl (by omega), gi_add]
    exact ⟨fun h0 => by omega, fun _ => ⟨gvp (by omega) (by omega) (by decide), z_fill9_l (L := L) h d (k + 1) (by omega)⟩⟩
theorem z_fill9 {n : Nat} {x : Int32} (h : Q (.inl .null) (gwr I 9 n 0 (fun _ => x) 0 7) J B) : gC E 310 [.inr (9, n, 0), .inl (.int x)] I J B Q X := by
  have h1 := z_fill9_l (E := E) (X := X) (c := 0) (w := 0) (L := 7) h 7 0 rfl
  rw [gwr_0] at h1
  exact e_J7_fill_53178_9 h1
theorem z_fill10_l {n L : Nat} {x : Int64} (h : Q (.inl .null) I (gwj J 10 n (fun _ => x) 0 7) B) : ∀ d k : Nat, k + d = 7 → gG E 309 6 [(0, .inr (10, n, 0)), (1, .inl (.long x)), (3, .inl (.int (gi k))), (4, .inl (.int (gi 7)))] [] I (gwj J 10 n (fun _ => x) 0 k) B c w Q X
  | 0, k, hk => by
    obtain rfl : k = 7 := hk
    exact s_J7_fill_d0a16_10_6 ⟨fun _ => h, fun h0 => absurd (Int32.le_refl _) h0⟩
  | d + 1, k, hk => by
    refine s_J7_fill_d0a16_10_6 ?_
    rw [gi_le (by decide) (by decide) (by omega) (by omega), gi_c (by omega) (by omega), gtn, gwj_s rfl (by omega), gi_add]
    exact ⟨fun h0 => by omega, fun _ => ⟨gvp (by omega) (by omega) (by decide), z_fill10_l (L := L) h d (k + 1) (by omega)⟩⟩
theorem z_fill10 {n : Nat} {x : Int64} (h : Q (.inl .null) I (gwj J 10 n (fun _ => x) 0 7) B) : gC E 309 [.inr (10, n, 0), .inl (.long x)] I J B Q X := by
  have h1 := z_fill10_l (E := E) (X := X) (c := 0) (w := 0) (L := 7) h 7 0 rfl
  rw [gwj_0] at h1
  exact e_J7_fill_d0a16_10 h1
theorem gwr_at {k n i lo hi a b c d : Nat} {g : Nat → Int32} : gwr I k n i g lo hi a b c d = if a = k ∧ b = n ∧ c = i ∧ lo ≤ d ∧ d < hi then g d else I a b c d := rfl
theorem gwj_at {k n lo hi a b d : Nat} {g : Nat → Int64} : gwj J k n g lo hi a b d = if a = k ∧ b = n ∧ lo ≤ d ∧ d < hi then g d else J a b d := rfl
def bgF (f : Nat → Int) : Nat → Int := fun j => if j = 36 then 0 else if 29 ≤ j ∧ j < 29 + (f 0).toNat then f (j - 14) else f j
theorem bgF_ne {f : Nat → Int} {j : Nat} (h7 : f 0 ≤ 7) (h : j < 29 ∨ 36 < j) : bgF f j = f j := by
  unfold bgF
  rw [if_neg (by omega), if_neg (by omega)]
theorem z_begin {n : Nat} {f : Nat → Int} (h7 : f 0 ≤ 7) (h0 : Rs0 f I n) (k : ∀ I' J', FS n I I' → FJ n J J' → Rst (bgF f) I' J' n → Q (.inl .null) I' J' B) : gC E 48 [.inr (6, n, 0)] I J B Q X := by
  refine e_X6_beginRefinement (z_fill10 ⟨⟨by decide, by decide, by decide, by decide, by decide, fun h => absurd (congrArg (fun z : gR => z.1) h) (show ¬ (8 = 11) by decide)⟩, k _ _ ?_ ?_ ?_⟩)
  · exact (FS.rf.up (by decide) (by decide)).cp (by decide) (by decide)
  · exact (FJ.rf.up (Or.inl rfl)).wr (Or.inr rfl)
  · obtain ⟨h1, h2, h3, h4, h5, h6, h7b⟩ := h0
    have b36 : bgF f 36 = 0 := rfl
    refine ⟨⟨?_, ?_, fun i hi => ?_, fun i hi => ?_, fun i hi => ?_, ?_, fun i hi => ?_⟩, ?_, ?_, fun i hi => ?_, fun i hi => ?_⟩
    · rw [bgF_ne h7 (by omega)]
      simp only [gcp_at, gUI_at]
      simpa using h1
    · rw [bgF_ne h7 (by omega)]
      simp only [gcp_at, gUI_at]
      simpa using h2
    · rw [bgF_ne h7 (by omega)]
      simp only [gcp_at, gUI_at]
      simpa using h3 i hi
    · rw [bgF_ne h7 (by omega)]
      simp only [gcp_at, gUI_at]
      simpa using h4 i hi
    · rw [bgF_ne h7 (by omega)]
      simp only [gcp_at, gUI_at]
      simpa using h5 i hi
    · rw [bgF_ne h7 (by omega)]
      simp only [gcp_at, gUI_at]
      simpa using h6
    · rw [bgF_ne h7 (by omega)] at hi ⊢
      simp only [gcp_at, gUI_at]
      simpa using h7b i hi
    · rw [b36]
      simp only [gcp_at, gUI_at]
      simp
    · rw [b36]
      simp only [gwj_at, gUJ_at]
      simp
    · rw [bgF_ne h7 (by omega)] at hi
      have hi2 : i < 7 := by omega
      unfold vX
      rw [b36]
      simp only [gwj_at, gUJ_at, hi2]
      simp [vXs]
    · rw [bgF_ne h7 (by omega)] at hi
      have hi2 : i < 7 := by omega
      have e : bgF f (29 + i) = f (15 + i) := by
        unfold bgF
        rw [if_neg (by omega), if_pos (by omega), show 29 + i - 14 = 15 + i by omega]
      rw [e]
      simp only [gcp_at, gUI_at, hi2]
      simpa using h4 i hi2
end ZG
section ZH
variable {E : gEn} {Q : gQt} {X : gXt} {I : gI} {J : gJ} {B : gB} {c w : Nat} {n : Nat} {f : Nat → Int} {p : Int}
theorem z_clear (k : ∀ I' J', FS n I I' → FJ n J J' → Rs0 (fun _ => 0) I' n → Q (.inl .null) I' J' B) : gC E 44 [.inr (6, n, 0)] I J B Q X := by
  refine e_X6_clear (z_fill7 (z_fill8 (z_fill9 ?_)))
  have hR : Rs0 (fun _ => 0) (gUI (gwr (gwr (gwr (gUI (gUI I 6 n 0 0 (gi 0)) 6 n 0 1 (gi 0)) 7 n 0 (fun _ => gi 0) 0 13) 8 n 0 (fun _ => gi 0) 0 7) 9 n 0 (fun _ => gi 0) 0 7) 6 n 0 9 (gi 0)) n := by
    refine ⟨?_, ?_, fun i hi => ?_, fun i hi => ?_, fun i hi => ?_, ?_, fun i hi => absurd hi (Nat.not_lt_zero _)⟩
    · simp only [gwr_at, gUI_at]
      simp
    · simp only [gwr_at, gUI_at]
      simp
    · simp only [gwr_at, gUI_at, hi]
      simp
    · simp only [gwr_at, gUI_at, hi]
      simp
    · simp only [gwr_at, gUI_at, hi]
      simp
    · simp only [gwr_at, gUI_at]
      simp
  have hF := ((((((FS.rf (n := n) (I := I)).up (k := 6) (a := 0) (b := 0) (x := gi 0) (by decide) (by decide)).up (k := 6) (a := 0) (b := 1) (x := gi 0) (by decide) (by decide)).wr (k := 7) (i := 0) (g := fun _ => gi 0) (lo := 0) (hi := 13) (by decide) (by decide)).wr (k := 8) (i := 0) (g := fun _ => gi 0) (lo := 0) (hi := 7) (by decide) (by decide)).wr (k := 9) (i := 0) (g := fun _ => gi 0) (lo := 0) (hi := 7) (by decide) (by decide)).up (k := 6) (a := 0) (b := 9) (x := gi 0) (by decide) (by decide)
  refine z_begin (f := fun _ => 0) (by decide) hR fun I' J' h1 h2 h3 => k I' J' (hF.tr h1) h2 ?_
  have e : bgF (fun _ => 0) = fun _ => 0 := by
    funext j
    unfold bgF
    split
    · rfl
    · split <;> rfl
  rw [e] at h3
  exact h3.1
theorem pow_one {p : Int} (hp : 2 ≤ p) : ∀ k : Nat, (2 : Int) ^ k ≤ p ^ k ∧ 1 ≤ p ^ k
  | 0 => ⟨by rw [Int.pow_zero, Int.pow_zero]; decide, by rw [Int.pow_zero]; decide⟩
  | k + 1 => by
    obtain ⟨h1, h2⟩ := pow_one hp k
    rw [Int.pow_succ, Int.pow_succ]
    have a1 := Int.mul_le_mul h1 hp (by decide) (by omega)
    have a2 := Int.mul_le_mul h2 (show 1 ≤ p by omega) (by decide) (by omega)
    omega
theorem pow_lim {p : Int} {k : Nat} (hp : 2 ≤ p) (h : p ^ k ≤ 1000000000000) : k ≤ 39 := by
  apply Classical.byContradiction
  intro hk
  have h1 := (pow_one hp (k - 40)).2
  have h2 := (pow_one hp 40).1
  have h3 : p ^ k = p ^ 40 * p ^ (k - 40) := by
    rw [← Int.pow_add, show 40 + (k - 40) = k by omega]
  have h4 := Int.mul_le_mul h2 h1 (by decide) (by omega)
  have h5 : (2 : Int) ^ 40 = 1099511627776 := by decide
  omega
/-- how many digits there may be -/
def mdF (p : Int) : Nat → Nat → Nat
  | 0, k => k
  | d + 1, k => if p ^ (k + 1) ≤ 1000000000000 then mdF p d (k + 1) else k
def md (p : Int) : Nat := mdF p 40 0
theorem mdF_s {p : Int} (hp : 2 ≤ p) : ∀ d k, k + d = 40 → p ^ k ≤ 1000000000000 → p ^ (mdF p d k) ≤ 1000000000000 ∧ ¬ p ^ (mdF p d k + 1) ≤ 1000000000000
  | 0, k, h, h2 => by
    have := pow_lim hp h2
    omega
  | d + 1, k, h, h2 => by
    unfold mdF
    split
    · rename_i h3
      exact mdF_s hp d (k + 1) (by omega) h3
    · rename_i h3
      exact ⟨h2, h3⟩
theorem md_s {p : Int} (hp : 2 ≤ p) : p ^ (md p) ≤ 1000000000000 ∧ ¬ p ^ (md p + 1) ≤ 1000000000000 := mdF_s hp 40 0 rfl (by rw [Int.pow_zero]; decide)
theorem pow_mono {p : Int} (hp : 2 ≤ p) (a : Nat) : ∀ d, p ^ a ≤ p ^ (a + d)
  | 0 => Int.le_refl _
  | d + 1 => by
    have h := pow_mono hp a d
    have h1 := (pow_one hp (a + d)).2
    have h2 := Int.mul_le_mul (Int.le_refl (p ^ (a + d))) (show 1 ≤ p by omega) (by decide) (by omega)
    rw [← Nat.add_assoc, Int.pow_succ]
    omega
theorem md_le {p : Int} (hp : 2 ≤ p) {k : Nat} : p ^ k ≤ 1000000000000 ↔ k ≤ md p := by
  obtain ⟨h1, h2⟩ := md_s hp
  constructor
  · intro h
    apply Classical.byContradiction
    intro hk
    have := pow_mono hp (md p + 1) (k - (md p + 1))
    rw [show md p + 1 + (k - (md p + 1)) = k by omega] at this
    omega
  · intro h
    have := pow_mono hp k (md p - k)
    rw [show k + (md p - k) = md p by omega] at this
    omega
theorem pr_b {p : Int} (h : p ∈ primesL) : 2 ≤ p ∧ p ≤ 31 := by
  simp only [primesL, List.mem_cons, List.not_mem_nil, or_false] at h
  omega
theorem z_lim_l (hp : p ∈ primesL) (h1 : I 6 n 0 1 = gi p) (h : Q (.inl (.int (gi (md p : Nat)))) I J B) : ∀ d k : Nat, k + d = 40 → p ^ k ≤ 1000000000000 → mdF p d k = md p → gG E 49 8 [(0, .inr (6, n, 0)), (1, .inl (.int (gi k))), (2, .inl (.long (gj (p ^ (k + 1)))))] [] I J B c w Q X
  | 0, k, hk, hl, _ => by
    have := pow_lim (pr_b hp).1 hl
    omega
  | d + 1, k, hk, hl, hm => by
    have hb := pr_b hp
    have e1 := (pow_one hb.1 k).2
    have e2 : p ^ (k + 1) = p ^ k * p := Int.pow_succ p k
    have e3 := Int.mul_le_mul hl hb.2 (by omega) (by decide)
    have e5 := Int.mul_le_mul e1 hb.1 (by decide) (by omega)
    refine s_X6_digitLimit_8 ?_
    rw [h1, gij (by omega) (by omega), lg_cj (by omega) (by omega) (by decide) (by decide), lg_cj (by omega) (by omega) (by decide) (by decide), gi_le (by decide) (by decide) (by omega) (by omega), gi_le (by split <;> (try split) <;> omega) (by split <;> (try split) <;> omega) (by decide) (by decide), gi_lt (by decide) (by decide) (by split <;> (try split) <;> omega) (by split <;> (try split) <;> omega), gj_mul, gi_add]
    unfold mdF at hm
    refine ⟨fun h0 => by omega, fun _ => ⟨fun h0 => ?_, fun _ => ⟨fun h0 => ?_, fun h0 => ?_⟩⟩⟩
    · exfalso
      rw [if_pos (by omega)] at h0
      omega
    · rw [if_neg (show ¬ p ^ (k + 1) ≤ 1000000000000 by split at h0 <;> (try split at h0) <;> omega)] at hm
      rw [← hm] at h
      exact h
    · have h3 : p ^ (k + 1) ≤ 1000000000000 := by split at h0 <;> (try split at h0) <;> omega
      rw [if_pos h3] at hm
      have hh := z_lim_l hp h1 h d (k + 1) (by omega) h3 hm
      rw [Int.pow_succ p (k + 1)] at hh
      exact hh
theorem z_lim (hp : p ∈ primesL) (h1 : I 6 n 0 1 = gi p) (h : Q (.inl (.int (gi (md p : Nat)))) I J B) : gC E 49 [.inr (6, n, 0)] I J B Q X := by
  have hb := pr_b hp
  refine e_X6_digitLimit ?_
  have hh := z_lim_l (c := 0) (w := 0) (X := X) (E := E) hp h1 h 40 0 rfl (by rw [Int.pow_zero]; decide) rfl
  rw [h1, gij (by omega) (by omega)]
  rw [show p ^ (0 + 1) = p by rw [Int.pow_succ]; simp] at hh
  exact hh
end ZH
