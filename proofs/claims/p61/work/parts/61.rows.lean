/-! ===== rows by their numbers: what the elimination's steps do to determinants ===== -/
def updR (M : gMx) (r : Nat) (u : Nat → Int) : gMx := fun i => if i = r then u else M i
theorem updR_e {M : gMx} {r : Nat} {u : Nat → Int} : updR M r u r = u := if_pos rfl
theorem updR_n {M : gMx} {r i : Nat} {u : Nat → Int} (h : i ≠ r) : updR M r u i = M i := if_neg h
def Dn (n : Nat) (M : gMx) (cs : List Nat) : Int := dtm ((List.range n).map M) cs
theorem range_split {r n : Nat} (h : r < n) : List.range n = List.range r ++ r :: (List.range (n - r - 1)).map (fun j => r + 1 + j) := by
  have e : n = r + ((n - r - 1) + 1) := by omega
  conv => lhs; rw [e, List.range_add, List.range_succ_eq_map, List.map_cons, List.map_map]
  congr 2
  apply List.map_congr_left
  intro j _
  show r + (j + 1) = r + 1 + j
  omega
theorem map_split {α : Type} {r n : Nat} (M : Nat → α) (h : r < n) : (List.range n).map M = (List.range r).map M ++ M r :: (List.range (n - r - 1)).map (fun j => M (r + 1 + j)) := by
  conv => lhs; rw [range_split h, List.map_append, List.map_cons, List.map_map]
  rfl
theorem Dn_upd {n r : Nat} {M : gMx} {u : Nat → Int} {cs : List Nat} (h : r < n) : Dn n (updR M r u) cs = dtm ((List.range r).map M ++ u :: (List.range (n - r - 1)).map (fun j => M (r + 1 + j))) cs := by
  unfold Dn
  rw [map_split _ h, updR_e]
  congr 2
  · apply List.map_congr_left
    intro a ha
    exact updR_n (by have := List.mem_range.mp ha; omega)
  · congr 1
    apply List.map_congr_left
    intro a ha
    exact updR_n (by omega)
theorem updR_self {M : gMx} {r : Nat} : updR M r (M r) = M := funext fun i => by
  unfold updR
  split
  · rename_i e
    rw [e]
  · rfl
theorem Dn_lin {n r : Nat} {M : gMx} {u v : Nat → Int} {a b : Int} {cs : List Nat} (h : r < n) : Dn n (updR M r (fun c => a * u c + b * v c)) cs = a * Dn n (updR M r u) cs + b * Dn n (updR M r v) cs := by
  rw [Dn_upd h, Dn_upd h, Dn_upd h]
  exact dtm_lin
theorem Dn_dup {n r s : Nat} {M : gMx} {cs : List Nat} (h1 : r < s) (h2 : s < n) (h : M r = M s) : Dn n M cs = 0 := by
  unfold Dn
  rw [map_split M (show r < n by omega), map_split (fun j => M (r + 1 + j)) (show s - r - 1 < n - r - 1 by omega)]
  have e : M (r + 1 + (s - r - 1)) = M r := by rw [h]; congr 1; omega
  rw [e]
  exact dtm_dup
theorem Dn_dup2 {n r s : Nat} {M : gMx} {cs : List Nat} (h0 : r ≠ s) (h1 : r < n) (h2 : s < n) (h : M r = M s) : Dn n M cs = 0 := by
  rcases Nat.lt_or_gt_of_ne h0 with h3 | h3
  · exact Dn_dup h3 h2 h
  · exact Dn_dup h3 h1 h.symm
/-- a multiple of another row, added -/
theorem Dn_add {n r s : Nat} {M : gMx} {t : Int} {cs : List Nat} (h0 : r ≠ s) (h1 : r < n) (h2 : s < n) : Dn n (updR M r (fun c => M r c + t * M s c)) cs = Dn n M cs := by
  have h := Dn_lin (n := n) (r := r) (M := M) (u := M r) (v := M s) (a := 1) (b := t) (cs := cs) h1
  rw [show (fun c => 1 * M r c + t * M s c) = fun c => M r c + t * M s c from funext fun c => by rw [Int.one_mul], updR_self] at h
  rw [h, Dn_dup2 (M := updR M r (M s)) (r := r) (s := s) h0 h1 h2 (by rw [updR_e, updR_n (Ne.symm h0)])]
  omega
theorem Dn_scale {n r : Nat} {M : gMx} {t : Int} {cs : List Nat} {u : Nat → Int} (h1 : r < n) : Dn n (updR M r (fun c => t * u c)) cs = t * Dn n (updR M r u) cs := by
  have h := Dn_lin (n := n) (r := r) (M := M) (u := u) (v := u) (a := t) (b := 0) (cs := cs) h1
  rw [show (fun c => t * u c + 0 * u c) = fun c => t * u c from funext fun c => by omega] at h
  omega
theorem Dn_swap {n r s : Nat} {M : gMx} {cs : List Nat} (h0 : r ≠ s) (h1 : r < n) (h2 : s < n) : Dn n (updR (updR M r (M s)) s (M r)) cs = - Dn n M cs := by
  -- both rows the sum: 0
  let u : Nat → Int := fun c => 1 * M r c + 1 * M s c
  have z : Dn n (updR (updR M r u) s u) cs = 0 := Dn_dup2 h0 h1 h2 (by rw [updR_e, updR_n h0, updR_e])
  have e1 := Dn_lin (n := n) (r := s) (M := updR M r u) (u := M r) (v := M s) (a := 1) (b := 1) (cs := cs) h2
  have cm : ∀ x y : Nat → Int, updR (updR M r x) s y = updR (updR M s y) r x := fun x y => funext fun i => by
    unfold updR
    by_cases a : i = s
    · rw [if_pos a, if_neg (by omega), if_pos a]
    · rw [if_neg a, if_neg a]
  have e2 := Dn_lin (n := n) (r := r) (M := updR M s (M r)) (u := M r) (v := M s) (a := 1) (b := 1) (cs := cs) h1
  have e3 := Dn_lin (n := n) (r := r) (M := updR M s (M s)) (u := M r) (v := M s) (a := 1) (b := 1) (cs := cs) h1
  have z1 : Dn n (updR (updR M s (M r)) r (M r)) cs = 0 := Dn_dup2 h0 h1 h2 (by rw [updR_e, updR_n (Ne.symm h0), updR_e])
  have z2 : Dn n (updR (updR M s (M s)) r (M s)) cs = 0 := Dn_dup2 h0 h1 h2 (by rw [updR_e, updR_n (Ne.symm h0), updR_e])
  have i1 : updR (updR M s (M s)) r (M r) = M := by rw [updR_self, updR_self]
  have e1' : Dn n (updR (updR M r u) s u) cs = 1 * Dn n (updR (updR M r u) s (M r)) cs + 1 * Dn n (updR (updR M r u) s (M s)) cs := e1
  rw [cm u (M r), cm u (M s)] at e1'
  have e2' : Dn n (updR (updR M s (M r)) r u) cs = 1 * Dn n (updR (updR M s (M r)) r (M r)) cs + 1 * Dn n (updR (updR M s (M r)) r (M s)) cs := e2
  have e3' : Dn n (updR (updR M s (M s)) r u) cs = 1 * Dn n (updR (updR M s (M s)) r (M r)) cs + 1 * Dn n (updR (updR M s (M s)) r (M s)) cs := e3
  rw [i1] at e3'
  rw [cm (M s) (M r)]
  omega
theorem Dn_cg {p : Int} {n : Nat} {M N : gMx} {cs : List Nat} (h : ∀ i, i < n → ∀ c ∈ cs, Cg p (M i c) (N i c)) : Cg p (Dn n M cs) (Dn n N cs) := by
  have h1 := dtm_cg (p := p) (M := M) (N := N) (ks := List.range n) (us := []) (cs := cs) (fun i hi => h i (List.mem_range.mp hi))
  rw [List.append_nil, List.append_nil] at h1
  exact h1
/-- the row that leads: put in its place, divided -/
theorem Dn_ld {p : Int} {n i r c : Nat} {M : gMx} {cs : List Nat} (hp : p ∈ primesL) (hM : Rg p M) (hi : i < n) (hr : r < n) (h0 : M i c ≠ 0) : Cg p (Dn n M cs) ((if i = r then M i c else - M i c) * Dn n (ldF p M i r c) cs) := by
  have hb := hM i c
  obtain ⟨g1, g2, g3⟩ := pr_inv p hp (M i c) (by omega) hb.2
  have hv : Cg p (M i c * inv p (M i c)) 1 := by
    have hpb := pr_b hp
    refine Cg.of_md ?_
    rw [Int.mul_comm, g1, Int.emod_eq_of_lt (by decide) (by omega)]
  by_cases e : i = r
  · subst e
    rw [if_pos rfl]
    have h1 : Cg p (Dn n (ldF p M i i c) cs) (Dn n (updR M i (fun b => inv p (M i c) * M i b)) cs) := Dn_cg fun a ha b _ => by
      unfold ldF updR
      by_cases e : a = i
      · rw [if_pos e, if_pos e]
        exact Cg.md
      · rw [if_neg e, if_neg e, if_neg e]
        exact Cg.rf
    rw [Dn_scale hi, updR_self] at h1
    refine (Cg.sy ?_)
    refine (Cg.rf.mul h1).tr ?_
    rw [← Int.mul_assoc]
    have h2 := hv.mul (Cg.rf (p := p) (x := Dn n M cs))
    rw [Int.one_mul] at h2
    exact h2
  · rw [if_neg e]
    have h1 : Cg p (Dn n (ldF p M i r c) cs) (Dn n (updR (updR M i (M r)) r (fun b => inv p (M i c) * M i b)) cs) := Dn_cg fun a ha b _ => by
      unfold ldF updR
      by_cases e1 : a = r
      · rw [if_pos e1, if_pos e1]
        exact Cg.md
      · rw [if_neg e1, if_neg e1]
        by_cases e2 : a = i
        · rw [if_pos e2, if_pos e2]
          exact Cg.rf
        · rw [if_neg e2, if_neg e2]
          exact Cg.rf
    rw [Dn_scale hr, Dn_swap e hi hr] at h1
    refine (Cg.sy ?_)
    refine (Cg.rf.mul h1).tr ?_
    rw [show -M i c * (inv p (M i c) * -Dn n M cs) = (M i c * inv p (M i c)) * Dn n M cs by grind]
    have h2 := hv.mul (Cg.rf (p := p) (x := Dn n M cs))
    rw [Int.one_mul] at h2
    exact h2
/-- the column cleared -/
theorem Dn_cl {p : Int} {n r c : Nat} {M : gMx} {cs : List Nat} (hr : r < n) : Cg p (Dn n (clF p M r c) cs) (Dn n M cs) := by
  have key : ∀ k, k ≤ n → Dn n (fun a => if a < k ∧ a ≠ r then (fun b => M a b + (- M a c) * M r b) else M a) cs = Dn n M cs := by
    intro k
    induction k with
    | zero =>
      intro _
      exact congrArg (fun z => Dn n z cs) (funext fun a => if_neg (fun z => absurd z.1 (Nat.not_lt_zero a)))
    | succ k ih =>
      intro hk
      by_cases e : k = r
      · rw [← ih (by omega)]
        congr 1
        funext a
        by_cases h : a < k ∧ a ≠ r
        · rw [if_pos h, if_pos ⟨by omega, h.2⟩]
        · rw [if_neg h, if_neg (by omega)]
      · have h1 := Dn_add (n := n) (r := k) (s := r) (M := fun a => if a < k ∧ a ≠ r then (fun b => M a b + (- M a c) * M r b) else M a) (t := - M k c) (cs := cs) e (by omega) hr
        rw [ih (by omega)] at h1
        rw [← h1]
        congr 1
        funext a
        unfold updR
        by_cases h : a = k
        · subst h
          rw [if_pos rfl, if_pos ⟨by omega, e⟩, if_neg (by omega), if_neg (by omega)]
        · rw [if_neg h]
          show (if a < k + 1 ∧ a ≠ r then (fun b => M a b + -M a c * M r b) else M a) = (if a < k ∧ a ≠ r then (fun b => M a b + -M a c * M r b) else M a)
          by_cases h2 : a < k ∧ a ≠ r
          · rw [if_pos h2, if_pos ⟨by omega, h2.2⟩]
          · rw [if_neg h2, if_neg (by omega)]
  rw [← key n (Nat.le_refl n)]
  refine Dn_cg fun a ha b _ => ?_
  unfold clF
  by_cases e : a = r
  · rw [if_pos e, if_neg (fun z => z.2 e)]
    exact Cg.rf
  · rw [if_neg e, if_pos ⟨ha, e⟩]
    refine Cg.md.tr (Cg.of ?_)
    rw [Int.neg_mul, Int.sub_eq_add_neg]
/-! ===== which minors vanish ===== -/
def Rc (p : Int) (n W : Nat) (M N : gMx) : Prop := ∀ i, i < n → ∃ (s t : Nat) (a b : Int), s < n ∧ t < n ∧ ∀ c, c < W → Cg p (N i c) (a * M s c + b * M t c)
theorem Rc.rf {p : Int} {n W : Nat} {M : gMx} : Rc p n W M M := fun i hi => ⟨i, i, 1, 0, hi, hi, fun c _ => Cg.of (by omega)⟩
def Zv (p : Int) (n : Nat) (M : gMx) (cs : List Nat) : Prop := ∀ rs : List Nat, rs.length = cs.length → (∀ i ∈ rs, i < n) → Cg p (dtm (rs.map M) cs) 0
theorem Zv.rc {p : Int} {n W : Nat} {M N : gMx} {cs : List Nat} (h : Zv p n M cs) (hR : Rc p n W M N) (hc : ∀ c ∈ cs, c < W) : Zv p n N cs := by
  have key : ∀ (ws us : List Nat), us.length + ws.length = cs.length → (∀ i ∈ us, i < n) → (∀ i ∈ ws, i < n) → Cg p (dtm (us.map M ++ ws.map N) cs) 0 := by
    intro ws
    induction ws with
    | nil =>
      intro us hl hu _
      rw [List.map_nil, List.append_nil]
      exact h us (by simpa using hl) hu
    | cons w ws ih =>
      intro us hl hu hw
      obtain ⟨s, t, a, b, hs, ht, hN⟩ := hR w (hw w List.mem_cons_self)
      have h1 : Cg p (dtm (us.map M ++ N w :: ws.map N) cs) (dtm (us.map M ++ (fun c => a * M s c + b * M t c) :: ws.map N) cs) := dtm_cg1 (fun c hc2 => hN c (hc c hc2))
      rw [dtm_lin] at h1
      have h2 : ∀ x, x < n → Cg p (dtm (us.map M ++ M x :: ws.map N) cs) 0 := fun x hx => by
        have := ih (us ++ [x]) (by simp only [List.length_append, List.length_cons, List.length_nil] at hl ⊢; omega) (fun i hi => by
          rcases List.mem_append.mp hi with hi | hi
          · exact hu i hi
          · rw [List.mem_singleton.mp hi]; exact hx) (fun i hi => hw i (List.mem_cons_of_mem _ hi))
        rw [List.map_append, List.append_assoc] at this
        exact this
      refine h1.tr ?_
      have h3 := ((Cg.rf (p := p) (x := a)).mul (h2 s hs)).add ((Cg.rf (p := p) (x := b)).mul (h2 t ht))
      rw [Int.mul_zero, Int.mul_zero] at h3
      exact h3
  intro rs hl hr
  have := key rs [] (by simpa using hl) (fun i hi => absurd hi (List.not_mem_nil)) hr
  exact this
