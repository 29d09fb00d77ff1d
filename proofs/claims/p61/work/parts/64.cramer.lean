/-! ===== systems of equations: what the elimination keeps, Cramer's rule, solvability ===== -/
def sm (u x : Nat → Int) : Nat → Int
  | 0 => 0
  | k + 1 => sm u x k + u k * x k
theorem sm_lin {u v x : Nat → Int} {a b : Int} : ∀ k, sm (fun c => a * u c + b * v c) x k = a * sm u x k + b * sm v x k
  | 0 => by
    show (0 : Int) = a * 0 + b * 0
    omega
  | k + 1 => by
    show sm (fun c => a * u c + b * v c) x k + (a * u k + b * v k) * x k = a * (sm u x k + u k * x k) + b * (sm v x k + v k * x k)
    rw [sm_lin k]
    grind
theorem sm_cg {p : Int} {u v x y : Nat → Int} : ∀ {k : Nat}, (∀ c, c < k → Cg p (u c) (v c)) → (∀ c, c < k → Cg p (x c) (y c)) → Cg p (sm u x k) (sm v y k)
  | 0, _, _ => Cg.rf
  | k + 1, h, h2 => (sm_cg (fun c hc => h c (by omega)) (fun c hc => h2 c (by omega))).add ((h k (by omega)).mul (h2 k (by omega)))
theorem sm_unit {u x : Nat → Int} {a : Nat} : ∀ {k : Nat}, (∀ t, t < k → u t = if t = a then 1 else 0) → sm u x k = if a < k then x a else 0
  | 0, _ => rfl
  | k + 1, h => by
    show sm u x k + u k * x k = _
    rw [sm_unit (a := a) (fun t ht => h t (by omega)), h k (by omega)]
    by_cases e : k = a
    · subst e
      rw [if_neg (by omega), if_pos rfl, if_pos (by omega)]
      omega
    · rw [if_neg e]
      by_cases e2 : a < k
      · rw [if_pos e2, if_pos (by omega)]
        omega
      · rw [if_neg e2, if_neg (by omega)]
        omega
theorem sm_zero {u x : Nat → Int} : ∀ {k : Nat}, (∀ t, t < k → u t * x t = 0) → sm u x k = 0
  | 0, _ => rfl
  | k + 1, h => by
    show sm u x k + u k * x k = 0
    rw [sm_zero (fun t ht => h t (by omega)), h k (by omega)]
    rfl
theorem sm_tail {u x : Nat → Int} {k : Nat} : ∀ {d : Nat}, (∀ c, k ≤ c → c < k + d → x c = 0) → sm u x (k + d) = sm u x k
  | 0, _ => rfl
  | d + 1, h => by
    show sm u x (k + d) + u (k + d) * x (k + d) = _
    rw [sm_tail (fun c h1 h2 => h c h1 (by omega)), h (k + d) (by omega) (by omega)]
    omega
def Sl (p : Int) (n W : Nat) (x : Nat → Int) (M : gMx) : Prop := ∀ i, i < n → Cg p (sm (M i) x W) 0
theorem Sl.kp {p : Int} {n W : Nat} {x : Nat → Int} (hW : W ≤ n + 1) : Kp p n (Sl p n W x) := fun M N h1 _ hs i hi => by
  obtain ⟨s, t, a, b, hs1, ht1, hN⟩ := h1 i hi
  refine (sm_cg (v := fun c => a * M s c + b * M t c) (y := x) (fun c hc => hN c (by omega)) (fun c _ => Cg.rf)).tr ?_
  rw [sm_lin]
  have h3 := ((Cg.rf (p := p) (x := a)).mul (hs s hs1)).add ((Cg.rf (p := p) (x := b)).mul (hs t ht1))
  rw [Int.mul_zero, Int.mul_zero] at h3
  exact h3
section MN
variable {p : Int} {n : Nat} {M : gMx}
/-- the kernel's vector -/
theorem el_ker (hp : p ∈ primesL) (hM : Rg p M) {f : Nat} (hf : f < n) (h : ∀ c, c < f → isP p n M c = true) (h1 : isP p n M f = false) (h2 : (elF p n M f).1 = f) {x : Nat → Int} (hx : ∀ c, c < f → Cg p (x c) (-((elF p n M n).2.2.2 c f))) (hxf : x f = 1) (hx0 : ∀ c, f < c → c < n → x c = 0) : Sl p n n x M := by
  refine (elF_kp hp hM (Sl.kp (p := p) (n := n) (W := n) (x := x) (by omega)) n).mpr ?_
  intro a ha
  have hu := el_unit hp hM (Nat.le_of_lt hf) h
  have e1 : sm ((elF p n M n).2.2.2 a) x n = sm ((elF p n M n).2.2.2 a) x f + (elF p n M n).2.2.2 a f * 1 := by
    have h3 := sm_tail (u := (elF p n M n).2.2.2 a) (x := x) (k := f + 1) (d := n - f - 1) (fun c h1 h2 => hx0 c (by omega) (by omega))
    rw [show f + 1 + (n - f - 1) = n by omega] at h3
    rw [h3]
    show _ + _ * x f = _
    rw [hxf]
  rw [e1, sm_unit (a := a) (fun t ht => ?_)]
  · by_cases e : a < f
    · rw [if_pos e, Int.mul_one]
      exact ((hx a e).add Cg.rf).tr (Cg.of (by omega))
    · rw [if_neg e]
      have h3 := (elF_zc h1 h2 (n - f - 1)).2 a (by omega) ha
      rw [show f + 1 + (n - f - 1) = n by omega] at h3
      rw [h3]
      exact Cg.rf
  · obtain ⟨u1, u2⟩ := hu t ht
    by_cases e : t = a
    · subst e
      rw [if_pos rfl]
      exact u1
    · rw [if_neg e]
      exact u2 a (Ne.symm e)
/-- a regular system's solution -/
theorem el_sol (hp : p ∈ primesL) (hM : Rg p M) (h : (elF p n M n).1 = n) : ∀ i, i < n → Cg p (M i n) (sm (M i) (fun c => (elF p n M n).2.2.2 c n) n) := by
  have hall : ∀ c, c < n → isP p n M c = true := by
    rcases elF_first (p := p) (M := M) n (Nat.le_refl n) with ⟨h1, -, -⟩ | ⟨-, -, -, -, h5⟩
    · exact h1
    · omega
  have hu := el_unit hp hM (Nat.le_refl n) hall
  have key : Sl p n (n + 1) (fun c => if c < n then (elF p n M n).2.2.2 c n else -1) M := by
    refine (elF_kp hp hM (Sl.kp (p := p) (n := n) (W := n + 1) (by omega)) n).mpr ?_
    intro a ha
    show Cg p (sm ((elF p n M n).2.2.2 a) _ n + (elF p n M n).2.2.2 a n * (if n < n then (elF p n M n).2.2.2 n n else -1)) 0
    rw [if_neg (Nat.lt_irrefl n), sm_unit (a := a) (fun t ht => ?_), if_pos ha, if_pos ha]
    · exact Cg.of (by omega)
    · obtain ⟨u1, u2⟩ := hu t ht
      by_cases e : t = a
      · subst e
        rw [if_pos rfl]
        exact u1
      · rw [if_neg e]
        exact u2 a (Ne.symm e)
  intro i hi
  have h1 := key i hi
  have h2 : sm (M i) (fun c => if c < n then (elF p n M n).2.2.2 c n else -1) (n + 1) = sm (M i) (fun c => (elF p n M n).2.2.2 c n) n - M i n := by
    show sm (M i) _ n + M i n * (if n < n then (elF p n M n).2.2.2 n n else -1) = _
    rw [if_neg (Nat.lt_irrefl n)]
    have h3 : ∀ k, k ≤ n → sm (M i) (fun c => if c < n then (elF p n M n).2.2.2 c n else -1) k = sm (M i) (fun c => (elF p n M n).2.2.2 c n) k := by
      intro k
      induction k with
      | zero => intro _; rfl
      | succ k ih =>
        intro hk
        show sm (M i) _ k + M i k * (if k < n then _ else _) = sm (M i) _ k + M i k * _
        rw [ih (by omega), if_pos (show k < n by omega)]
    rw [h3 n (Nat.le_refl n)]
    omega
  rw [h2] at h1
  have h4 := h1.add (Cg.rf (p := p) (x := M i n))
  rw [Int.sub_add_cancel, Int.zero_add] at h4
  exact h4.sy
/-! Cramer's rule -/
def rem (n i : Nat) : List Nat := List.range i ++ (List.range (n - i - 1)).map (fun j => i + 1 + j)
theorem rem_mem {n i j : Nat} (hj : j < n) (h : j ≠ i) : j ∈ rem n i := by
  unfold rem
  by_cases e : j < i
  · exact List.mem_append_left _ (List.mem_range.mpr e)
  · exact List.mem_append_right _ (List.mem_map.mpr ⟨j - i - 1, List.mem_range.mpr (by omega), by omega⟩)
theorem rem_len {n i : Nat} (hi : i < n) : (rem n i).length + 1 = n := by
  unfold rem
  rw [List.length_append, List.length_map, List.length_range, List.length_range]
  omega
theorem rem_lt {n i : Nat} (hi : i < n) : ∀ j ∈ rem n i, j < n := by
  intro j hj
  unfold rem at hj
  rcases List.mem_append.mp hj with h | h
  · have := List.mem_range.mp h
    omega
  · obtain ⟨k, hk, rfl⟩ := List.mem_map.mp h
    have := List.mem_range.mp hk
    omega
theorem clA_sm {us : List (Nat → Int)} {G : List (Nat → Int) → Int} {x : Nat → Int} : ∀ k, clA (fun u => sm u x k) G us = sm (fun j => clA (fun u => u j) G us) x k
  | 0 => clA_zero
  | k + 1 => by
    show clA (fun u => sm u x k + u k * x k) G us = sm (fun j => clA (fun u => u j) G us) x k + clA (fun u => u k) G us * x k
    have h := clA_lin (f := fun u => sm u x k) (g := fun u : Nat → Int => u k) (a := 1) (b := x k) (us := us) (G := G)
    rw [show (fun u : Nat → Int => 1 * sm u x k + x k * u k) = fun u => sm u x k + u k * x k from funext fun u => by rw [Int.one_mul, Int.mul_comm (x k)], clA_sm k] at h
    rw [h, Int.one_mul, Int.mul_comm (x k)]
theorem cramer {x : Nat → Int} {i : Nat} (hi : i < n) (hx : ∀ a, a < n → Cg p (M a n) (sm (M a) x n)) : Cg p (sgn i * dtm ((List.range n).map M) (n :: rem n i)) (x i * Dn n M (List.range n)) := by
  have hl : ((List.range n).map M).length = (rem n i).length + 1 := by rw [List.length_map, List.length_range, rem_len hi]
  have h1 : Cg p (dtm ((List.range n).map M) (n :: rem n i)) (clA (fun u => sm u x n) (fun l => dtm l (rem n i)) ((List.range n).map M)) := by
    rw [dtm_col hl]
    refine clA_cg fun u hu => ?_
    obtain ⟨a, ha, rfl⟩ := List.mem_map.mp hu
    exact hx a (List.mem_range.mp ha)
  rw [clA_sm] at h1
  have h2 : sm (fun j => clA (fun u => u j) (fun l => dtm l (rem n i)) ((List.range n).map M)) x n = (dtm ((List.range n).map M) (i :: rem n i)) * x i := by
    have key : ∀ k, k ≤ n → sm (fun j => clA (fun u => u j) (fun l => dtm l (rem n i)) ((List.range n).map M)) x k = if i < k then (dtm ((List.range n).map M) (i :: rem n i)) * x i else 0 := by
      intro k
      induction k with
      | zero => intro _; rfl
      | succ k ih =>
        intro hk
        show sm _ x k + clA (fun u => u k) (fun l => dtm l (rem n i)) ((List.range n).map M) * x k = _
        rw [ih (by omega), ← dtm_col hl]
        by_cases e : k = i
        · subst e
          rw [if_neg (by omega), if_pos (by omega)]
          omega
        · obtain ⟨l1, l2, e2⟩ := List.append_of_mem (rem_mem (show k < n by omega) e)
          have h3 : dtm ((List.range n).map M) (k :: rem n i) = 0 := by
            have hll := hl
            rw [e2] at hll ⊢
            exact dtm_cdup (l1 := []) (m := l1) (by simp only [List.length_append, List.length_cons, List.length_nil] at hll ⊢; omega)
          rw [h3]
          by_cases e3 : i < k
          · rw [if_pos e3, if_pos (by omega)]
            omega
          · rw [if_neg e3, if_neg (by omega)]
            omega
    rw [key n (Nat.le_refl n), if_pos hi]
  rw [h2] at h1
  have h4 : dtm ((List.range n).map M) (List.range n) = sgn i * dtm ((List.range n).map M) (i :: rem n i) := by
    have h5 := dtm_front (a := i) (l2 := (List.range (n - i - 1)).map (fun j => i + 1 + j)) (l1 := List.range i) (l0 := []) (us := (List.range n).map M) (by
      simp only [List.length_map, List.length_range, List.length_nil]
      omega)
    rw [List.length_range] at h5
    have h6 : dtm ((List.range n).map M) ([] ++ List.range i ++ i :: (List.range (n - i - 1)).map (fun j => i + 1 + j)) = dtm ((List.range n).map M) (List.range n) := by
      show dtm _ (List.range i ++ i :: (List.range (n - i - 1)).map (fun j => i + 1 + j)) = _
      rw [← range_split hi]
    exact h6.symm.trans h5
  unfold Dn
  rw [h4]
  have h6 := (Cg.rf (p := p) (x := sgn i)).mul h1
  refine h6.tr (Cg.of ?_)
  grind
/-! solvability: N the grid of the n columns and one more -/
theorem clA_snoc {f : (Nat → Int) → Int} {x : Nat → Int} : ∀ {us : List (Nat → Int)} {G : List (Nat → Int) → Int}, clA f G (us ++ [x]) = clA f (fun l => G (l ++ [x])) us + sgn us.length * (f x * G us)
  | [], G => by
    show f x * G [] - 0 = 0 + 1 * (f x * G [])
    omega
  | u :: us, G => by
    show f u * G (us ++ [x]) - clA f (fun l => G (u :: l)) (us ++ [x]) = f u * G (us ++ [x]) - clA f (fun l => G (u :: (l ++ [x]))) us + -sgn us.length * (f x * G (u :: us))
    rw [clA_snoc (G := fun l => G (u :: l)), Int.neg_mul]
    show _ - (clA f (fun l => G (u :: (l ++ [x]))) us + sgn us.length * (f x * G (u :: us))) = _
    omega
theorem clA_zG {f : (Nat → Int) → Int} : ∀ {us : List (Nat → Int)} {G : List (Nat → Int) → Int}, (∀ l, Cg p (G l) 0) → Cg p (clA f G us) 0
  | [], _, _ => Cg.rf
  | u :: us, G, h => by
    have h1 := ((Cg.rf (p := p) (x := f u)).mul (h us)).sub (clA_zG (f := f) (us := us) (G := fun l => G (u :: l)) (fun l => h (u :: l)))
    rw [Int.mul_zero, Int.sub_zero] at h1
    exact h1
theorem el_solv (hp : p ∈ primesL) (hM : Rg p M) (h : ∀ q, (elF p n M n).1 ≤ q → q < n → (elF p n M n).2.2.2 q n = 0) {cs : List Nat} (hc : ∀ c ∈ cs, c < n) (hl : cs.length = (elF p n M n).1) : Zv p n M (n :: cs) := by
  obtain ⟨e1, e2, e3⟩ := Ech.ok (lim := n) hp hM n
  refine (elF_kp hp hM (Zv.kp (p := p) (n := n) (cs := n :: cs) fun c hc2 => ?_) n).mpr ?_
  · rcases List.mem_cons.mp hc2 with rfl | hc2
    · omega
    · have := hc c hc2
      omega
  · refine Zv.few (r := (elF p n M n).1) (fun a ha hl2 c hc2 => ?_) (by rw [List.length_cons]; omega)
    rcases List.mem_cons.mp hc2 with rfl | hc2
    · rw [h a ha hl2]
      exact Cg.rf
    · rw [e3 a c ha hl2 (hc c hc2)]
      exact Cg.rf
theorem el_unsolv (hp : p ∈ primesL) (hM : Rg p M) {q : Nat} (h1 : (elF p n M n).1 ≤ q) (h2 : q < n) (h3 : (elF p n M n).2.2.2 q n ≠ 0) : ¬ Zv p n M (n :: pvL p n M n) := by
  obtain ⟨e1, e2, e3⟩ := Ech.ok (lim := n) hp hM n
  have hb := pr_b hp
  obtain ⟨b1, b2, b3, b4⟩ := elF_b (lim := n) (show 1 ≤ p by omega) hM n
  intro hz
  have hz2 := (elF_kp hp hM (Zv.kp (p := p) (n := n) (cs := n :: pvL p n M n) fun c hc2 => by
    rcases List.mem_cons.mp hc2 with rfl | hc2
    · omega
    · have := pvL_lt c hc2
      omega) n).mp hz
  have h4 := hz2 (List.range (pvL p n M n).length ++ [q]) (by rw [List.length_append, List.length_range]; rfl) (fun i hi => by
    have hlim := elF_lim (p := p) (lim := n) (M := M) n
    rcases List.mem_append.mp hi with hi | hi
    · have := List.mem_range.mp hi
      omega
    · rw [List.mem_singleton.mp hi]
      exact h2)
  rw [List.map_append, List.map_singleton, dtm_col (by rw [List.length_append, List.length_map, List.length_range]; rfl), clA_snoc] at h4
  have h5 : Cg p (clA (fun u => u n) (fun l => dtm (l ++ [(elF p n M n).2.2.2 q]) (pvL p n M n)) ((List.range (pvL p n M n).length).map (elF p n M n).2.2.2)) 0 :=
    clA_zG fun l => dtm_z (ws := []) fun c hc => by
      rw [e3 q c h1 h2 (pvL_lt c hc)]
      exact Cg.rf
  rw [dtm_one0 e2, Int.mul_one] at h4
  have h6 := h4.sub h5
  rw [Int.add_comm, Int.add_sub_cancel, Int.sub_zero] at h6
  have h7 := (Cg.rf (p := p) (x := sgn ((List.range (pvL p n M n).length).map (elF p n M n).2.2.2).length)).mul h6
  rw [← Int.mul_assoc, sgn_sq, Int.one_mul, Int.mul_zero] at h7
  have h8 := Cg.z.mp h7
  rw [Int.emod_eq_of_lt (b4 q n).1 (b4 q n).2] at h8
  exact h3 h8
end MN
