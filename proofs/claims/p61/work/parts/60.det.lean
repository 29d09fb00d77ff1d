/-! ===== determinants: rows are functions of the column, expanded by the first row ===== -/
def exA (u : Nat → Int) : (List Nat → Int) → List Nat → Int
  | _, [] => 0
  | F, c :: cs => u c * F cs - exA u (fun l => F (c :: l)) cs
def dtm : List (Nat → Int) → List Nat → Int
  | [], _ => 1
  | u :: us, cs => exA u (dtm us) cs
theorem exA_cong {u v : Nat → Int} : ∀ {cs : List Nat} {F G : List Nat → Int}, (∀ c ∈ cs, u c = v c) → (∀ l, l.length + 1 = cs.length → F l = G l) → exA u F cs = exA v G cs
  | [], _, _, _, _ => rfl
  | c :: cs, F, G, hu, hF => by
    show u c * F cs - exA u (fun l => F (c :: l)) cs = v c * G cs - exA v (fun l => G (c :: l)) cs
    rw [hu c List.mem_cons_self, hF cs rfl, exA_cong (fun d hd => hu d (List.mem_cons_of_mem _ hd)) (fun l hl => hF (c :: l) (by simp only [List.length_cons]; omega))]
theorem exA_zero {u : Nat → Int} : ∀ {cs : List Nat}, exA u (fun _ => 0) cs = 0
  | [] => rfl
  | c :: cs => by
    show u c * 0 - exA u (fun _ => 0) cs = 0
    rw [exA_zero]
    omega
theorem exA_lin {u : Nat → Int} {a b : Int} : ∀ {cs : List Nat} {F G : List Nat → Int}, exA u (fun l => a * F l + b * G l) cs = a * exA u F cs + b * exA u G cs
  | [], _, _ => by
    show (0 : Int) = a * 0 + b * 0
    omega
  | c :: cs, F, G => by
    show u c * (a * F cs + b * G cs) - exA u (fun l => a * F (c :: l) + b * G (c :: l)) cs = a * (u c * F cs - exA u (fun l => F (c :: l)) cs) + b * (u c * G cs - exA u (fun l => G (c :: l)) cs)
    rw [exA_lin (F := fun l => F (c :: l)) (G := fun l => G (c :: l))]
    grind
theorem exA_neg {u : Nat → Int} {cs : List Nat} {F : List Nat → Int} : exA u (fun l => - F l) cs = - exA u F cs := by
  have h := exA_lin (u := u) (a := -1) (b := 0) (cs := cs) (F := F) (G := F)
  rw [show (fun l => -1 * F l + 0 * F l) = fun l => - F l from funext fun l => by omega] at h
  omega
theorem exA_row {u v : Nat → Int} {a b : Int} : ∀ {cs : List Nat} {F : List Nat → Int}, exA (fun c => a * u c + b * v c) F cs = a * exA u F cs + b * exA v F cs
  | [], _ => by
    show (0 : Int) = a * 0 + b * 0
    omega
  | c :: cs, F => by
    show (a * u c + b * v c) * F cs - exA (fun c => a * u c + b * v c) (fun l => F (c :: l)) cs = a * (u c * F cs - exA u (fun l => F (c :: l)) cs) + b * (v c * F cs - exA v (fun l => F (c :: l)) cs)
    rw [exA_row (F := fun l => F (c :: l))]
    grind
theorem exA_swap {u v : Nat → Int} : ∀ {cs : List Nat} {F : List Nat → Int}, exA u (exA v F) cs = - exA v (exA u F) cs
  | [], _ => rfl
  | c :: cs, F => by
    have h1 : ∀ (x y : Nat → Int), exA x (exA y F) (c :: cs) = x c * exA y F cs - (y c * exA x F cs - exA x (exA y (fun l => F (c :: l))) cs) := by
      intro x y
      show x c * exA y F cs - exA x (fun l => exA y F (c :: l)) cs = _
      have h2 := exA_lin (u := x) (a := y c) (b := -1) (cs := cs) (F := F) (G := exA y (fun l => F (c :: l)))
      rw [show (fun l => exA y F (c :: l)) = fun l => y c * F l + -1 * exA y (fun m => F (c :: m)) l from funext fun l => by
        show y c * F l - exA y (fun m => F (c :: m)) l = _
        omega, h2]
      omega
    rw [h1 u v, h1 v u, exA_swap (F := fun l => F (c :: l))]
    omega
theorem dtm_swap {u v : Nat → Int} {ws : List (Nat → Int)} : ∀ {us : List (Nat → Int)} {cs : List Nat}, dtm (us ++ u :: v :: ws) cs = - dtm (us ++ v :: u :: ws) cs
  | [], _ => exA_swap
  | x :: us, cs => by
    show exA x (dtm (us ++ u :: v :: ws)) cs = - exA x (dtm (us ++ v :: u :: ws)) cs
    rw [← exA_neg]
    exact exA_cong (fun _ _ => rfl) (fun l _ => dtm_swap)
theorem dtm_dup {u : Nat → Int} {ws : List (Nat → Int)} : ∀ {vs us : List (Nat → Int)} {cs : List Nat}, dtm (us ++ u :: (vs ++ u :: ws)) cs = 0
  | [], us, cs => by
    have h := dtm_swap (u := u) (v := u) (ws := ws) (us := us) (cs := cs)
    show dtm (us ++ u :: u :: ws) cs = 0
    omega
  | v :: vs, us, cs => by
    show dtm (us ++ u :: v :: (vs ++ u :: ws)) cs = 0
    rw [dtm_swap]
    have h := dtm_dup (u := u) (ws := ws) (vs := vs) (us := us ++ [v]) (cs := cs)
    rw [List.append_assoc] at h
    have h2 : dtm (us ++ v :: u :: (vs ++ u :: ws)) cs = 0 := h
    omega
theorem dtm_lin {u v : Nat → Int} {a b : Int} {ws : List (Nat → Int)} : ∀ {us : List (Nat → Int)} {cs : List Nat}, dtm (us ++ (fun c => a * u c + b * v c) :: ws) cs = a * dtm (us ++ u :: ws) cs + b * dtm (us ++ v :: ws) cs
  | [], _ => exA_row
  | x :: us, cs => by
    show exA x (dtm (us ++ (fun c => a * u c + b * v c) :: ws)) cs = a * exA x (dtm (us ++ u :: ws)) cs + b * exA x (dtm (us ++ v :: ws)) cs
    rw [← exA_lin]
    exact exA_cong (fun _ _ => rfl) (fun l _ => dtm_lin)
/-! ===== alike for a modulus ===== -/
def Cg (p x y : Int) : Prop := ∃ k : Int, x = y + p * k
theorem Cg.rf {p x : Int} : Cg p x x := ⟨0, by omega⟩
theorem Cg.of {p x y : Int} (h : x = y) : Cg p x y := h ▸ Cg.rf
theorem Cg.sy {p x y : Int} (h : Cg p x y) : Cg p y x := by
  obtain ⟨k, hk⟩ := h
  exact ⟨-k, by rw [Int.mul_neg]; omega⟩
theorem Cg.tr {p x y z : Int} (h : Cg p x y) (h2 : Cg p y z) : Cg p x z := by
  obtain ⟨k, hk⟩ := h
  obtain ⟨j, hj⟩ := h2
  exact ⟨k + j, by rw [Int.mul_add]; omega⟩
theorem Cg.add {p x y x2 y2 : Int} (h : Cg p x y) (h2 : Cg p x2 y2) : Cg p (x + x2) (y + y2) := by
  obtain ⟨k, hk⟩ := h
  obtain ⟨j, hj⟩ := h2
  exact ⟨k + j, by rw [Int.mul_add]; omega⟩
theorem Cg.neg {p x y : Int} (h : Cg p x y) : Cg p (-x) (-y) := by
  obtain ⟨k, hk⟩ := h
  exact ⟨-k, by rw [Int.mul_neg]; omega⟩
theorem Cg.sub {p x y x2 y2 : Int} (h : Cg p x y) (h2 : Cg p x2 y2) : Cg p (x - x2) (y - y2) := by
  rw [Int.sub_eq_add_neg, Int.sub_eq_add_neg]
  exact h.add h2.neg
theorem Cg.mul {p x y x2 y2 : Int} (h : Cg p x y) (h2 : Cg p x2 y2) : Cg p (x * x2) (y * y2) := by
  obtain ⟨k, hk⟩ := h
  obtain ⟨j, hj⟩ := h2
  exact ⟨k * y2 + y * j + p * k * j, by subst hk; subst hj; grind⟩
theorem Cg.md {p x : Int} : Cg p (x % p) x := ⟨-(x / p), by
  have := Int.emod_add_mul_ediv x p
  rw [Int.mul_neg]
  omega⟩
theorem Cg.eq {p x y : Int} (h : Cg p x y) : x % p = y % p := by
  obtain ⟨k, hk⟩ := h
  rw [hk, Int.add_mul_emod_self_left]
theorem Cg.of_md {p x y : Int} (h : x % p = y % p) : Cg p x y := (Cg.sy Cg.md).tr ((Cg.of h).tr Cg.md)
theorem Cg.z {p x : Int} : Cg p x 0 ↔ x % p = 0 := ⟨fun h => by rw [h.eq]; exact Int.zero_emod p, fun h => Cg.of_md (by rw [h, Int.zero_emod])⟩
theorem exA_cg {p : Int} {u v : Nat → Int} : ∀ {cs : List Nat} {F G : List Nat → Int}, (∀ c ∈ cs, Cg p (u c) (v c)) → (∀ l, (∀ c ∈ l, c ∈ cs) → Cg p (F l) (G l)) → Cg p (exA u F cs) (exA v G cs)
  | [], _, _, _, _ => Cg.rf
  | c :: cs, F, G, hu, hF => by
    show Cg p (u c * F cs - exA u (fun l => F (c :: l)) cs) (v c * G cs - exA v (fun l => G (c :: l)) cs)
    refine ((hu c List.mem_cons_self).mul (hF cs (fun d hd => List.mem_cons_of_mem _ hd))).sub (exA_cg (fun d hd => hu d (List.mem_cons_of_mem _ hd)) (fun l hl => hF (c :: l) ?_))
    intro d hd
    rcases List.mem_cons.mp hd with rfl | hd
    · exact List.mem_cons_self
    · exact List.mem_cons_of_mem _ (hl d hd)
theorem dtm_cg {p : Int} {M N : Nat → Nat → Int} : ∀ {ks : List Nat} {us : List (Nat → Int)} {cs : List Nat}, (∀ i ∈ ks, ∀ c ∈ cs, Cg p (M i c) (N i c)) → Cg p (dtm (ks.map M ++ us) cs) (dtm (ks.map N ++ us) cs)
  | [], _, _, _ => Cg.rf
  | k :: ks, us, cs, h => by
    show Cg p (exA (M k) (dtm (ks.map M ++ us)) cs) (exA (N k) (dtm (ks.map N ++ us)) cs)
    exact exA_cg (h k List.mem_cons_self) (fun l hl => dtm_cg (fun i hi c hc => h i (List.mem_cons_of_mem _ hi) c (hl c hc)))
/-- one row of a list, taken for another that is alike -/
theorem dtm_cg1 {p : Int} {u v : Nat → Int} {ws : List (Nat → Int)} : ∀ {us : List (Nat → Int)} {cs : List Nat}, (∀ c ∈ cs, Cg p (u c) (v c)) → Cg p (dtm (us ++ u :: ws) cs) (dtm (us ++ v :: ws) cs)
  | [], cs, h => exA_cg h (fun _ _ => Cg.rf)
  | x :: us, cs, h => exA_cg (fun _ _ => Cg.rf) (fun l hl => dtm_cg1 (fun c hc => h c (hl c hc)))
/-! ===== columns ===== -/
theorem exA_csw {u : Nat → Int} {a b : Nat} {l2 : List Nat} : ∀ {l1 : List Nat} {F : List Nat → Int}, (∀ m1 m2 : List Nat, m1.length + m2.length + 1 = l1.length + l2.length → F (m1 ++ a :: b :: m2) = - F (m1 ++ b :: a :: m2)) → exA u F (l1 ++ a :: b :: l2) = - exA u F (l1 ++ b :: a :: l2)
  | [], F, h => by
    show u a * F (b :: l2) - (u b * F (a :: l2) - exA u (fun l => F (a :: b :: l)) l2) = - (u b * F (a :: l2) - (u a * F (b :: l2) - exA u (fun l => F (b :: a :: l)) l2))
    have h1 : exA u (fun l => F (a :: b :: l)) l2 = exA u (fun l => - F (b :: a :: l)) l2 := exA_cong (fun _ _ => rfl) (fun l hl => h [] l (by simp only [List.length_nil]; omega))
    rw [exA_neg] at h1
    omega
  | c :: l1, F, h => by
    show u c * F (l1 ++ a :: b :: l2) - exA u (fun l => F (c :: l)) (l1 ++ a :: b :: l2) = - (u c * F (l1 ++ b :: a :: l2) - exA u (fun l => F (c :: l)) (l1 ++ b :: a :: l2))
    have h1 := exA_csw (u := u) (a := a) (b := b) (l2 := l2) (l1 := l1) (F := fun l => F (c :: l)) (fun m1 m2 hm => h (c :: m1) m2 (by simp only [List.length_cons]; omega))
    have h2 := h l1 l2 (by simp only [List.length_cons]; omega)
    rw [h1, h2, Int.mul_neg]
    omega
theorem dtm_csw {a b : Nat} : ∀ {us : List (Nat → Int)} {l1 l2 : List Nat}, us.length = l1.length + l2.length + 2 → dtm us (l1 ++ a :: b :: l2) = - dtm us (l1 ++ b :: a :: l2)
  | [], l1, l2, h => by simp only [List.length_nil] at h; omega
  | u :: us, l1, l2, h => by
    show exA u (dtm us) _ = - exA u (dtm us) _
    exact exA_csw (fun m1 m2 hm => dtm_csw (by simp only [List.length_cons] at h; omega))
theorem dtm_cdup {a : Nat} {l2 : List Nat} : ∀ {m l1 : List Nat} {us : List (Nat → Int)}, us.length = l1.length + m.length + l2.length + 2 → dtm us (l1 ++ a :: (m ++ a :: l2)) = 0
  | [], l1, us, h => by
    have h1 := dtm_csw (a := a) (b := a) (us := us) (l1 := l1) (l2 := l2) (by simp only [List.length_nil] at h; omega)
    show dtm us (l1 ++ a :: a :: l2) = 0
    omega
  | c :: m, l1, us, h => by
    have h1 := dtm_csw (a := a) (b := c) (us := us) (l1 := l1) (l2 := m ++ a :: l2) (by simp only [List.length_cons, List.length_append] at h ⊢; omega)
    have h2 := dtm_cdup (a := a) (l2 := l2) (m := m) (l1 := l1 ++ [c]) (us := us) (by simp only [List.length_cons, List.length_append, List.length_nil] at h ⊢; omega)
    rw [List.append_assoc] at h2
    have h3 : dtm us (l1 ++ c :: a :: (m ++ a :: l2)) = 0 := h2
    show dtm us (l1 ++ a :: c :: (m ++ a :: l2)) = 0
    omega
/-- a column to the front -/
def sgn : Nat → Int
  | 0 => 1
  | k + 1 => - sgn k
theorem dtm_front {a : Nat} {l2 : List Nat} : ∀ {l1 : List Nat} {l0 : List Nat} {us : List (Nat → Int)}, us.length = l0.length + l1.length + l2.length + 1 → dtm us (l0 ++ l1 ++ a :: l2) = sgn l1.length * dtm us (l0 ++ a :: (l1 ++ l2))
  | [], l0, us, _ => by
    show dtm us (l0 ++ [] ++ a :: l2) = 1 * dtm us (l0 ++ a :: l2)
    rw [List.append_nil]
    omega
  | c :: l1, l0, us, h => by
    have h1 := dtm_front (a := a) (l2 := l2) (l1 := l1) (l0 := l0 ++ [c]) (us := us) (by simp only [List.length_cons, List.length_append, List.length_nil] at h ⊢; omega)
    have h2 := dtm_csw (a := c) (b := a) (us := us) (l1 := l0) (l2 := l1 ++ l2) (by simp only [List.length_cons, List.length_append] at h ⊢; omega)
    have e1 : l0 ++ c :: l1 ++ a :: l2 = l0 ++ [c] ++ l1 ++ a :: l2 := by simp
    have e2 : l0 ++ [c] ++ a :: (l1 ++ l2) = l0 ++ c :: a :: (l1 ++ l2) := by simp
    rw [e1, h1, e2, h2]
    show sgn l1.length * -dtm us (l0 ++ a :: (c :: l1 ++ l2)) = -sgn l1.length * dtm us (l0 ++ a :: (c :: l1 ++ l2))
    rw [Int.mul_neg, Int.neg_mul]
theorem sgn_sq : ∀ k, sgn k * sgn k = 1
  | 0 => rfl
  | k + 1 => by
    show -sgn k * -sgn k = 1
    rw [Int.neg_mul_neg]
    exact sgn_sq k
/-! expansion by a column -/
def clA (f : (Nat → Int) → Int) : (List (Nat → Int) → Int) → List (Nat → Int) → Int
  | _, [] => 0
  | G, u :: us => f u * G us - clA f (fun l => G (u :: l)) us
theorem exA_clA {f : (Nat → Int) → Int} : ∀ {us : List (Nat → Int)} {v : Nat → Int} {cs : List Nat} {K : List (Nat → Int) → List Nat → Int}, exA v (fun l => clA f (fun m => K m l) us) cs = clA f (fun m => exA v (K m) cs) us
  | [], _, _, _ => exA_zero
  | u :: us, v, cs, K => by
    have h := exA_lin (u := v) (a := f u) (b := -1) (cs := cs) (F := K us) (G := fun l => clA f (fun m => K (u :: m) l) us)
    rw [exA_clA (K := fun m => K (u :: m))] at h
    show exA v (fun l => f u * K us l - clA f (fun m => K (u :: m) l) us) cs = f u * exA v (K us) cs - clA f (fun m => exA v (K (u :: m)) cs) us
    rw [show (fun l => f u * K us l - clA f (fun m => K (u :: m) l) us) = fun l => f u * K us l + -1 * clA f (fun m => K (u :: m) l) us from funext fun l => by omega, h]
    omega
theorem dtm_col {c : Nat} : ∀ {us : List (Nat → Int)} {cs : List Nat}, us.length = cs.length + 1 → dtm us (c :: cs) = clA (fun u => u c) (fun l => dtm l cs) us
  | [], cs, h => by simp only [List.length_nil] at h; omega
  | u :: us, cs, h => by
    show u c * dtm us cs - exA u (fun l => dtm us (c :: l)) cs = u c * dtm us cs - clA (fun u => u c) (fun l => dtm (u :: l) cs) us
    have h1 : exA u (fun l => dtm us (c :: l)) cs = exA u (fun l => clA (fun u => u c) (fun m => dtm m l) us) cs := exA_cong (fun _ _ => rfl) (fun l hl => dtm_col (by simp only [List.length_cons] at h; omega))
    rw [h1, exA_clA]
    rfl
theorem clA_lin {f g : (Nat → Int) → Int} {a b : Int} : ∀ {us : List (Nat → Int)} {G : List (Nat → Int) → Int}, clA (fun u => a * f u + b * g u) G us = a * clA f G us + b * clA g G us
  | [], _ => by
    show (0 : Int) = a * 0 + b * 0
    omega
  | u :: us, G => by
    show (a * f u + b * g u) * G us - clA (fun u => a * f u + b * g u) (fun l => G (u :: l)) us = a * (f u * G us - clA f (fun l => G (u :: l)) us) + b * (g u * G us - clA g (fun l => G (u :: l)) us)
    rw [clA_lin (G := fun l => G (u :: l))]
    grind
theorem clA_zero : ∀ {us : List (Nat → Int)} {G : List (Nat → Int) → Int}, clA (fun _ => 0) G us = 0
  | [], _ => rfl
  | u :: us, G => by
    show 0 * G us - clA (fun _ => 0) (fun l => G (u :: l)) us = 0
    rw [clA_zero]
    omega
theorem clA_cg {p : Int} {f g : (Nat → Int) → Int} : ∀ {us : List (Nat → Int)} {G : List (Nat → Int) → Int}, (∀ u ∈ us, Cg p (f u) (g u)) → Cg p (clA f G us) (clA g G us)
  | [], _, _ => Cg.rf
  | u :: us, G, h => ((h u List.mem_cons_self).mul Cg.rf).sub (clA_cg (fun x hx => h x (List.mem_cons_of_mem _ hx)))
