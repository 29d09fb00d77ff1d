/-! ===== minors, ranks, columns that depend ===== -/
theorem exA_z {u : Nat → Int} : ∀ {cs : List Nat} {F : List Nat → Int}, (∀ c ∈ cs, u c = 0) → exA u F cs = 0
  | [], _, _ => rfl
  | c :: cs, F, h => by
    show u c * F cs - exA u (fun l => F (c :: l)) cs = 0
    rw [h c List.mem_cons_self, exA_z (fun d hd => h d (List.mem_cons_of_mem _ hd))]
    omega
theorem dtm_z {p : Int} {u : Nat → Int} {us ws : List (Nat → Int)} {cs : List Nat} (h : ∀ c ∈ cs, Cg p (u c) 0) : Cg p (dtm (us ++ u :: ws) cs) 0 :=
  (dtm_cg1 (v := fun c => 0 * u c + 0 * u c) (fun c hc => (h c hc).tr (Cg.of (by omega)))).tr (Cg.of (by rw [dtm_lin]; omega))
theorem not_nd {l : List Nat} (h : ¬ l.Nodup) : ∃ (x : Nat) (l1 l2 l3 : List Nat), l = l1 ++ x :: (l2 ++ x :: l3) := by
  induction l with
  | nil => exact absurd List.nodup_nil h
  | cons a l ih =>
    by_cases ha : a ∈ l
    · obtain ⟨l2, l3, e⟩ := List.append_of_mem ha
      exact ⟨a, [], l2, l3, by rw [e]; rfl⟩
    · have h2 : ¬ l.Nodup := fun z => h (List.nodup_cons.mpr ⟨ha, z⟩)
      obtain ⟨x, l1, l2, l3, e⟩ := ih h2
      exact ⟨x, a :: l1, l2, l3, by rw [e]; rfl⟩
theorem dtm_nnd {M : gMx} {rs cs : List Nat} (h : ¬ rs.Nodup) : dtm (rs.map M) cs = 0 := by
  obtain ⟨x, l1, l2, l3, e⟩ := not_nd h
  rw [e, List.map_append, List.map_cons, List.map_append, List.map_cons]
  exact dtm_dup
theorem nd_len {l : List Nat} {r : Nat} (h : l.Nodup) (h2 : ∀ x ∈ l, x < r) : l.length ≤ r := by
  have := List.Nodup.length_le_of_subset h (l₂ := List.range r) (fun x hx => List.mem_range.mpr (h2 x hx))
  simpa using this
/-- few rows that aren't 0: the greater minors vanish -/
theorem Zv.few {p : Int} {n r : Nat} {N : gMx} {cs : List Nat} (h : ∀ a, r ≤ a → a < n → ∀ c ∈ cs, Cg p (N a c) 0) (hl : r < cs.length) : Zv p n N cs := by
  intro rs hrs hn
  by_cases hex : ∃ i ∈ rs, r ≤ i
  · obtain ⟨i, hi, hri⟩ := hex
    have hin := hn i hi
    obtain ⟨l1, l2, e⟩ := List.append_of_mem hi
    rw [e, List.map_append, List.map_cons]
    exact dtm_z (h i hri hin)
  · by_cases hnd : rs.Nodup
    · have := nd_len hnd (r := r) (fun x hx => Nat.lt_of_not_le fun z => hex ⟨x, hx, z⟩)
      omega
    · exact Cg.of (dtm_nnd hnd)
/-- rows that are units -/
theorem dtm_one {N : gMx} : ∀ {cs : List Nat} {j : Nat}, (∀ t c, cs[t]? = some c → N (j + t) c = 1 ∧ ∀ a, a ≠ j + t → N a c = 0) → dtm ((List.range cs.length).map (fun t => N (j + t))) cs = 1
  | [], _, _ => rfl
  | c :: cs, j, h => by
    have e : (List.range (c :: cs).length).map (fun t => N (j + t)) = N j :: (List.range cs.length).map (fun t => N (j + 1 + t)) := by
      rw [List.length_cons, List.range_succ_eq_map, List.map_cons, List.map_map]
      congr 1
      apply List.map_congr_left
      intro t _
      show N (j + (t + 1)) = N (j + 1 + t)
      congr 1
      omega
    rw [e]
    show N j c * dtm ((List.range cs.length).map (fun t => N (j + 1 + t))) cs - exA (N j) (fun l => dtm ((List.range cs.length).map (fun t => N (j + 1 + t))) (c :: l)) cs = 1
    have h0 := (h 0 c rfl).1
    rw [Nat.add_zero] at h0
    rw [h0, dtm_one (cs := cs) (j := j + 1) (fun t c2 ht => ?_), exA_z (fun c2 hc2 => ?_)]
    · rfl
    · obtain ⟨t, ht⟩ := List.getElem?_of_mem hc2
      exact (h (t + 1) c2 ht).2 j (by omega)
    · obtain ⟨h1, h2⟩ := h (t + 1) c2 ht
      rw [show j + (t + 1) = j + 1 + t by omega] at h1 h2
      exact ⟨h1, h2⟩
theorem dtm_one0 {N : gMx} {cs : List Nat} (h : ∀ t c, cs[t]? = some c → N t c = 1 ∧ ∀ a, a ≠ t → N a c = 0) : dtm ((List.range cs.length).map N) cs = 1 := by
  have h1 := dtm_one (N := N) (cs := cs) (j := 0) (fun t c ht => by
    rw [Nat.zero_add]
    exact h t c ht)
  rw [show (fun t => N (0 + t)) = N from funext fun t => by rw [Nat.zero_add]] at h1
  exact h1
/-! sets of rows in their order are enough -/
theorem dtm_perm {l1 l2 : List (Nat → Int)} (h : l1.Perm l2) : (∀ cs, dtm l1 cs = dtm l2 cs) ∨ (∀ cs, dtm l1 cs = - dtm l2 cs) := by
  induction h with
  | nil => exact Or.inl fun _ => rfl
  | cons u _ ih =>
    rcases ih with ih | ih
    · exact Or.inl fun cs => exA_cong (fun _ _ => rfl) (fun l _ => ih l)
    · refine Or.inr fun cs => ?_
      show exA u _ cs = - exA u _ cs
      rw [← exA_neg]
      exact exA_cong (fun _ _ => rfl) (fun l _ => ih l)
  | swap u v l => exact Or.inr fun cs => dtm_swap (us := []) (ws := l)
  | trans _ _ ih1 ih2 =>
    rcases ih1 with h1 | h1
    · rcases ih2 with h2 | h2
      · exact Or.inl fun cs => (h1 cs).trans (h2 cs)
      · exact Or.inr fun cs => (h1 cs).trans (h2 cs)
    · rcases ih2 with h2 | h2
      · exact Or.inr fun cs => (h1 cs).trans (by rw [h2 cs])
      · exact Or.inl fun cs => (h1 cs).trans (by rw [h2 cs, Int.neg_neg])
/-- the minors of rows in their order -/
def Zs (p : Int) (n : Nat) (M : gMx) (cs : List Nat) : Prop := ∀ P : Nat → Bool, ((List.range n).filter P).length = cs.length → Cg p (dtm (((List.range n).filter P).map M) cs) 0
theorem Zs.iff {p : Int} {n : Nat} {M : gMx} {cs : List Nat} : Zs p n M cs ↔ Zv p n M cs := by
  constructor
  · intro h rs hl hn
    by_cases hnd : rs.Nodup
    · have hp : rs.Perm ((List.range n).filter (fun x => rs.contains x)) := (List.perm_ext_iff_of_nodup hnd (List.Pairwise.filter _ List.nodup_range)).mpr fun x => by
        rw [List.mem_filter, List.mem_range, List.contains_iff_mem]
        exact ⟨fun hx => ⟨hn x hx, hx⟩, fun hx => hx.2⟩
      have h1 := h (fun x => rs.contains x) (by rw [← hp.length_eq, hl])
      rcases dtm_perm (hp.map M) with h2 | h2
      · rw [h2]
        exact h1
      · rw [h2]
        exact h1.neg
    · exact Cg.of (dtm_nnd hnd)
  · intro h P hl
    exact h _ hl fun i hi => List.mem_range.mp (List.mem_filter.mp hi).1
/-! ===== the first column that depends on those before it ===== -/
theorem elF_first {p : Int} {lim : Nat} {M : gMx} : ∀ k, k ≤ lim → ((∀ c, c < k → isP p lim M c = true) ∧ (elF p lim M k).2.2.1 = lim ∧ (elF p lim M k).1 = k) ∨ ((elF p lim M k).2.2.1 < k ∧ (∀ c, c < (elF p lim M k).2.2.1 → isP p lim M c = true) ∧ isP p lim M (elF p lim M k).2.2.1 = false ∧ (elF p lim M (elF p lim M k).2.2.1).1 = (elF p lim M k).2.2.1 ∧ (elF p lim M k).1 < k)
  | 0, _ => Or.inl ⟨fun c h => absurd h (Nat.not_lt_zero c), rfl, rfl⟩
  | k + 1, hk => by
    have ih := elF_first (p := p) (lim := lim) (M := M) k (by omega)
    cases hv : pvF (elF p lim M k).2.2.2 k (lim - (elF p lim M k).1) (elF p lim M k).1 with
    | none =>
      have hP : isP p lim M k = false := by unfold isP; rw [hv]; rfl
      rw [elF_k, esF_n hv]
      rcases ih with ⟨h1, h2, h3⟩ | ⟨h1, h2, h3, h4, h5⟩
      · refine Or.inr ?_
        rw [h2]
        show min lim k < k + 1 ∧ (∀ c, c < min lim k → isP p lim M c = true) ∧ isP p lim M (min lim k) = false ∧ (elF p lim M (min lim k)).1 = min lim k ∧ (elF p lim M k).1 < k + 1
        rw [show min lim k = k by omega]
        exact ⟨by omega, h1, hP, h3, by omega⟩
      · refine Or.inr ?_
        show min (elF p lim M k).2.2.1 k < k + 1 ∧ (∀ c, c < min (elF p lim M k).2.2.1 k → isP p lim M c = true) ∧ isP p lim M (min (elF p lim M k).2.2.1 k) = false ∧ (elF p lim M (min (elF p lim M k).2.2.1 k)).1 = min (elF p lim M k).2.2.1 k ∧ (elF p lim M k).1 < k + 1
        rw [show min (elF p lim M k).2.2.1 k = (elF p lim M k).2.2.1 by omega]
        exact ⟨by omega, h2, h3, h4, by omega⟩
    | some i =>
      have hP : isP p lim M k = true := by unfold isP; rw [hv]; rfl
      rw [elF_k, esF_s hv]
      rcases ih with ⟨h1, h2, h3⟩ | ⟨h1, h2, h3, h4, h5⟩
      · refine Or.inl ⟨fun c hc => ?_, h2, by show _ + 1 = _ + 1; rw [h3]⟩
        by_cases e : c = k
        · rw [e]; exact hP
        · exact h1 c (by omega)
      · exact Or.inr ⟨by show (elF p lim M k).2.2.1 < k + 1; omega, h2, h3, h4, by show (elF p lim M k).1 + 1 < k + 1; omega⟩
/-- a column without a pivot stays 0 below -/
theorem elF_zc {p : Int} {n f : Nat} {M : gMx} (h1 : isP p n M f = false) (h2 : (elF p n M f).1 = f) : ∀ d, f ≤ (elF p n M (f + 1 + d)).1 ∧ ∀ a, f ≤ a → a < n → (elF p n M (f + 1 + d)).2.2.2 a f = 0
  | 0 => by
    have hv : pvF (elF p n M f).2.2.2 f (n - (elF p n M f).1) (elF p n M f).1 = none := by
      unfold isP at h1
      cases hv : pvF (elF p n M f).2.2.2 f (n - (elF p n M f).1) (elF p n M f).1 with
      | none => rfl
      | some i => rw [hv] at h1; cases h1
    rw [Nat.add_zero, elF_k, esF_n hv]
    refine ⟨by show f ≤ (elF p n M f).1; omega, fun a ha hl => ?_⟩
    exact pvF_n hv a (by omega) (by omega)
  | d + 1 => by
    obtain ⟨i1, i2⟩ := elF_zc h1 h2 d
    rw [show f + 1 + (d + 1) = (f + 1 + d) + 1 by omega, elF_k]
    cases hv : pvF (elF p n M (f + 1 + d)).2.2.2 (f + 1 + d) (n - (elF p n M (f + 1 + d)).1) (elF p n M (f + 1 + d)).1 with
    | none =>
      rw [esF_n hv]
      exact ⟨i1, i2⟩
    | some i =>
      obtain ⟨s1, s2, s3⟩ := pvF_s hv
      have hl := elF_lim (p := p) (lim := n) (M := M) (f + 1 + d)
      rw [esF_s hv]
      generalize elF p n M (f + 1 + d) = S at *
      obtain ⟨r, dt, ff, N⟩ := S
      simp only at i1 i2 s1 s2 s3 hl ⊢
      have l3 : ∀ a, f ≤ a → a < n → ldF p N i r (f + 1 + d) a f = 0 := by
        intro a ha hl2
        unfold ldF
        by_cases e : a = r
        · rw [if_pos e, i2 i (by omega) (by omega), Int.mul_zero, Int.zero_emod]
        · rw [if_neg e]
          by_cases e2 : a = i
          · rw [if_pos e2]
            exact i2 r i1 (by omega)
          · rw [if_neg e2]
            exact i2 a ha hl2
      refine ⟨by omega, fun a ha hl2 => ?_⟩
      unfold clF
      by_cases e : a = r
      · rw [if_pos e]
        exact l3 a ha hl2
      · rw [if_neg e, l3 a ha hl2, l3 r i1 (by omega), Int.mul_zero, Int.sub_zero, Int.zero_emod]
theorem pvL_pre {p : Int} {lim : Nat} {M : gMx} {f : Nat} (h : ∀ c, c < f → isP p lim M c = true) : ∀ d, ∃ l, pvL p lim M (f + d) = List.range f ++ l
  | 0 => ⟨[], by
    rw [Nat.add_zero, List.append_nil]
    exact List.filter_eq_self.mpr fun c hc => h c (List.mem_range.mp hc)⟩
  | d + 1 => by
    obtain ⟨l, hl⟩ := pvL_pre h d
    cases hP : isP p lim M (f + d) with
    | true => exact ⟨l ++ [f + d], by rw [show f + (d + 1) = (f + d) + 1 by omega, pvL_s hP, hl, List.append_assoc]⟩
    | false => exact ⟨l, by rw [show f + (d + 1) = (f + d) + 1 by omega, pvL_n hP, hl]⟩
/-! ===== what an elimination of n rows says: N the grid behind n columns ===== -/
section MN
variable {p : Int} {n : Nat} {M : gMx}
theorem el_unit (hp : p ∈ primesL) (hM : Rg p M) {f : Nat} (hf : f ≤ n) (h : ∀ c, c < f → isP p n M c = true) : ∀ t, t < f → (elF p n M n).2.2.2 t t = 1 ∧ ∀ a, a ≠ t → (elF p n M n).2.2.2 a t = 0 := by
  intro t ht
  obtain ⟨e1, e2, e3⟩ := Ech.ok (lim := n) hp hM n
  obtain ⟨l, hl⟩ := pvL_pre h (n - f)
  rw [show f + (n - f) = n by omega] at hl
  refine e2 t t ?_
  rw [hl, List.getElem?_append_left (by simpa using ht), List.getElem?_range ht]
/-- columns before the first free one are free of each other -/
theorem el_free (hp : p ∈ primesL) (hM : Rg p M) {f : Nat} (hf : f ≤ n) (h : ∀ c, c < f → isP p n M c = true) : ¬ Zv p n M (List.range f) := by
  intro hz
  have hz2 := (elF_kp hp hM (Zv.kp (p := p) (n := n) (cs := List.range f) fun c hc => by have := List.mem_range.mp hc; omega) n).mp hz
  have hu := el_unit hp hM hf h
  have h1 := dtm_one0 (N := (elF p n M n).2.2.2) (cs := List.range f) (fun t c ht => by
    have htl := (List.getElem?_eq_some_iff.mp ht).1
    rw [List.length_range] at htl
    rw [List.getElem?_range htl] at ht
    cases ht
    exact hu t htl)
  have h2 := hz2 (List.range f) rfl (fun i hi => by have := List.mem_range.mp hi; omega)
  rw [List.length_range] at h1
  rw [h1] at h2
  have h3 := Cg.z.mp h2
  have hb := pr_b hp
  rw [Int.emod_eq_of_lt (by decide) (by omega)] at h3
  cases h3
theorem el_dep (hp : p ∈ primesL) (hM : Rg p M) {f : Nat} (hf : f < n) (h : ∀ c, c < f → isP p n M c = true) (h1 : isP p n M f = false) (h2 : (elF p n M f).1 = f) : Zv p n M (List.range (f + 1)) := by
  refine (elF_kp hp hM (Zv.kp (p := p) (n := n) (cs := List.range (f + 1)) fun c hc => by have := List.mem_range.mp hc; omega) n).mpr ?_
  refine Zv.few (r := f) (fun a ha hl c hc => ?_) (by rw [List.length_range]; omega)
  have hc := List.mem_range.mp hc
  by_cases e : c = f
  · rw [e]
    have h3 := (elF_zc h1 h2 (n - f - 1)).2 a ha hl
    rw [show f + 1 + (n - f - 1) = n by omega] at h3
    rw [h3]
    exact Cg.rf
  · rw [(el_unit hp hM (by omega) h c (by omega)).2 a (by omega)]
    exact Cg.rf
/-- as many as there are pivots -/
theorem el_rank (hp : p ∈ primesL) (hM : Rg p M) : ¬ Zv p n M (pvL p n M n) ∧ ∀ cs : List Nat, (∀ c ∈ cs, c < n) → (elF p n M n).1 < cs.length → Zv p n M cs := by
  obtain ⟨e1, e2, e3⟩ := Ech.ok (lim := n) hp hM n
  refine ⟨fun hz => ?_, fun cs hc hl => ?_⟩
  · have hz2 := (elF_kp hp hM (Zv.kp (p := p) (n := n) (cs := pvL p n M n) fun c hc => by have := pvL_lt c hc; omega) n).mp hz
    have h1 := dtm_one0 (N := (elF p n M n).2.2.2) (cs := pvL p n M n) e2
    have h2 := hz2 (List.range (pvL p n M n).length) (List.length_range) (fun i hi => by
      have := List.mem_range.mp hi
      have := elF_lim (p := p) (lim := n) (M := M) n
      omega)
    rw [h1] at h2
    have h3 := Cg.z.mp h2
    have hb := pr_b hp
    rw [Int.emod_eq_of_lt (by decide) (by omega)] at h3
    cases h3
  · refine (elF_kp hp hM (Zv.kp (p := p) (n := n) (cs := cs) fun c h => by have := hc c h; omega) n).mpr ?_
    exact Zv.few (r := (elF p n M n).1) (fun a ha hl2 c h => by rw [e3 a c ha hl2 (hc c h)]; exact Cg.rf) hl
/-- the determinant -/
theorem el_det (hp : p ∈ primesL) (hM : Rg p M) : Cg p (Dn n M (List.range n)) (elF p n M n).2.1 := by
  obtain ⟨d1, d2⟩ := elF_det (lim := n) hp hM n
  have hl := elF_lim (p := p) (lim := n) (M := M) n
  by_cases h : (elF p n M n).1 = n
  · have hall : ∀ c, c < n → isP p n M c = true := by
      rcases elF_first (p := p) (M := M) n (Nat.le_refl n) with ⟨h1, -, -⟩ | ⟨-, -, -, -, h5⟩
      · exact h1
      · omega
    have hu := el_unit hp hM (Nat.le_refl n) hall
    have h1 := dtm_one0 (N := (elF p n M n).2.2.2) (cs := List.range n) (fun t c ht => by
      have htl := (List.getElem?_eq_some_iff.mp ht).1
      rw [List.length_range] at htl
      rw [List.getElem?_range htl] at ht
      cases ht
      exact hu t htl)
    rw [List.length_range] at h1
    have h2 := elF_Dn (n := n) (cs := List.range n) hp hM n h
    unfold Dn at h2 ⊢
    rw [h1, Int.mul_one] at h2
    exact h2
  · rw [d2 (by omega)]
    have hz := (el_rank hp hM).2 (List.range n) (fun c hc => List.mem_range.mp hc) (by rw [List.length_range]; omega)
    exact hz (List.range n) rfl (fun i hi => List.mem_range.mp hi)
end MN
