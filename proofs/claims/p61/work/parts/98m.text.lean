/-! ===== the law's text, and what it says ===== -/
def Tx (t : Nat → Int) (n q : Nat) (l : List Int) : Prop := q + l.length = n ∧ ∀ j, j < l.length → t (q + j) = l.getD j 0
def No (lo hi : Int) (l : List Int) : Prop := ∀ a l', l = a :: l' → ¬ (lo ≤ a ∧ a ≤ hi)
section TT
variable {t : Nat → Int} {n q : Nat} {l : List Int} {lo hi a b : Int}
theorem Tx.hd (h : Tx t n q (a :: l)) : t q = a ∧ q < n ∧ Tx t n (q + 1) l := by
  obtain ⟨h1, h2⟩ := h
  rw [List.length_cons] at h1
  refine ⟨h2 0 (by rw [List.length_cons]; omega), by omega, by omega, fun j hj => ?_⟩
  have := h2 (j + 1) (by rw [List.length_cons]; omega)
  rw [show q + 1 + j = q + (j + 1) by omega]
  exact this
theorem Tx.app {w : List Int} (h : Tx t n q (w ++ l)) : (∀ j, j < w.length → t (q + j) = w.getD j 0) ∧ q + w.length ≤ n ∧ Tx t n (q + w.length) l := by
  obtain ⟨h1, h2⟩ := h
  rw [List.length_append] at h1
  refine ⟨fun j hj => ?_, by omega, by omega, fun j hj => ?_⟩
  · have := h2 j (by rw [List.length_append]; omega)
    rw [this, List.getD_eq_getElem?_getD, List.getD_eq_getElem?_getD, List.getElem?_append_left hj]
  · have := h2 (w.length + j) (by rw [List.length_append]; omega)
    rw [show q + w.length + j = q + (w.length + j) by omega, this, List.getD_eq_getElem?_getD, List.getD_eq_getElem?_getD, List.getElem?_append_right (by omega), Nat.add_sub_cancel_left]
theorem Tx.no (h : Tx t n q l) (hn : No lo hi l) : ¬ (q < n ∧ lo ≤ t q ∧ t q ≤ hi) := by
  cases l with
  | nil =>
    have := h.1
    rw [List.length_nil] at this
    omega
  | cons a l =>
    obtain ⟨e, -, -⟩ := h.hd
    rw [e]
    exact fun z => hn a l rfl z.2
theorem rn_run : ∀ (len q : Nat), (∀ j, j < len → lo ≤ t (q + j) ∧ t (q + j) ≤ hi) → q + len ≤ n → ¬ (q + len < n ∧ lo ≤ t (q + len) ∧ t (q + len) ≤ hi) → rn t n lo hi q = q + len
  | 0, q, _, _, h3 => rn_stop h3
  | len + 1, q, h1, h2, h3 => by
    have g0 := h1 0 (by omega)
    rw [Nat.add_zero] at g0
    have g := rn_run len (q + 1) (fun j hj => by rw [show q + 1 + j = q + (j + 1) by omega]; exact h1 (j + 1) (by omega)) (by omega) (by rw [show q + 1 + len = q + (len + 1) by omega]; exact h3)
    rw [rn_go ⟨by omega, g0⟩, g]
    omega
theorem wdM_ok : ∀ (w : List Int) (q : Nat), (∀ j, j < w.length → t (q + j) = w.getD j 0) → wdM t q w = true
  | [], _, _ => rfl
  | a :: w, q, h => by
    show (decide (t q = a) && wdM t (q + 1) w) = true
    rw [Bool.and_eq_true]
    refine ⟨decide_eq_true (h 0 (by rw [List.length_cons]; omega)), wdM_ok w (q + 1) fun j hj => ?_⟩
    have := h (j + 1) (by rw [List.length_cons]; omega)
    rw [show q + 1 + j = q + (j + 1) by omega]
    exact this
theorem tok_sp (h : Tx t n q (32 :: l)) (hn : No 32 32 l) : tokF t n q = tokS t n (q + 1) ∧ Tx t n (q + 1) l := by
  obtain ⟨h1, h2, h3⟩ := h.hd
  refine ⟨?_, h3⟩
  unfold tokF
  rw [rn_run 1 q (fun j hj => by rw [show q + j = q by omega, h1]; decide) (by omega) (h3.no hn)]
theorem tok_ns (h : Tx t n q l) (hn : No 32 32 l) : tokF t n q = tokS t n q := by
  unfold tokF
  rw [rn_stop (h.no hn)]
theorem toS_word {w : List Int} (h : Tx t n q (w ++ l)) (hw : ∀ j, j < w.length → 97 ≤ w.getD j 0 ∧ w.getD j 0 ≤ 122) (h1 : 1 ≤ w.length) (h8 : w.length ≤ 8) (hn : No 97 122 l) : tokS t n q = (q, q + w.length, 1, 0) := by
  obtain ⟨g1, g2, g3⟩ := h.app
  have e : rn t n 97 122 q = q + w.length := rn_run w.length q (fun j hj => by rw [g1 j hj]; exact hw j hj) g2 (g3.no hn)
  unfold tokS
  rw [e, if_pos (by omega), if_pos (by omega)]
theorem toS_num1 (h : Tx t n q ((48 + a) :: l)) (h1 : 0 ≤ a) (h2 : a ≤ 9) (hn : No 48 57 l) : tokS t n q = (q, q + 1, 2, a) ∧ Tx t n (q + 1) l := by
  obtain ⟨g1, g2, g3⟩ := h.hd
  refine ⟨?_, g3⟩
  have e : rn t n 48 57 q = q + 1 := rn_run 1 q (fun j hj => by rw [show q + j = q by omega, g1]; omega) (by omega) (g3.no hn)
  unfold tokS
  rw [rn_stop (lo := 97) (by rw [g1]; omega), if_neg (by omega), e, if_pos (by omega), if_pos (by omega), show min 4 (q + 1 - q) = 1 by omega]
  congr 3
  show 10 * 0 + t (q + 0) - 48 = a
  rw [Nat.add_zero, g1]
  omega
theorem toS_num2 (h : Tx t n q ((48 + a) :: (48 + b) :: l)) (h1 : 0 ≤ a) (h2 : a ≤ 9) (h3 : 0 ≤ b) (h4 : b ≤ 9) (hn : No 48 57 l) : tokS t n q = (q, q + 2, 2, 10 * a + b) ∧ Tx t n (q + 2) l := by
  obtain ⟨g1, g2, g3⟩ := h.hd
  obtain ⟨k1, k2, k3⟩ := g3.hd
  refine ⟨?_, k3⟩
  have e : rn t n 48 57 q = q + 2 := rn_run 2 q (fun j hj => by
    rcases (show j = 0 ∨ j = 1 by omega) with rfl | rfl
    · rw [Nat.add_zero, g1]; omega
    · rw [k1]; omega) (by omega) (k3.no hn)
  unfold tokS
  rw [rn_stop (lo := 97) (by rw [g1]; omega), if_neg (by omega), e, if_pos (by omega), if_pos (by omega), show min 4 (q + 2 - q) = 2 by omega]
  congr 3
  show 10 * (10 * 0 + t (q + 0) - 48) + t (q + 1) - 48 = 10 * a + b
  rw [Nat.add_zero, g1, k1]
  omega
theorem toS_minus (h : Tx t n q (45 :: l)) : tokS t n q = (q, q + 1, 3, 0) ∧ Tx t n (q + 1) l := by
  obtain ⟨g1, g2, g3⟩ := h.hd
  refine ⟨?_, g3⟩
  unfold tokS
  rw [rn_stop (lo := 97) (by rw [g1]; omega), if_neg (by omega), rn_stop (lo := 48) (by rw [g1]; omega), if_neg (by omega), if_pos g2, if_pos g1]
theorem toS_semi (h : Tx t n q (59 :: l)) : tokS t n q = (q, q + 1, 4, 0) ∧ Tx t n (q + 1) l := by
  obtain ⟨g1, g2, g3⟩ := h.hd
  refine ⟨?_, g3⟩
  unfold tokS
  rw [rn_stop (lo := 97) (by rw [g1]; omega), if_neg (by omega), rn_stop (lo := 48) (by rw [g1]; omega), if_neg (by omega), if_pos g2, if_neg (by omega), if_pos g1]
theorem toS_end (h : Tx t n q []) : tokS t n q = (q, q, 0, 0) := by
  have e := h.1
  rw [List.length_nil] at e
  unfold tokS
  rw [rn_stop (lo := 97) (by omega), if_neg (by omega), rn_stop (lo := 48) (by omega), if_neg (by omega), if_neg (by omega)]
/-- what stands behind a line -/
def Sep (l : List Int) : Prop := l = [] ∨ ∃ l', l = 59 :: l'
theorem Sep.no (h : Sep l) (hh : hi < 59 ∨ 59 < lo) : No lo hi l := by
  intro a l' e
  rcases h with h | ⟨l2, h⟩
  · rw [h] at e
    cases e
  · rw [h] at e
    cases e
    omega
theorem no_sp (hh : hi < 32 ∨ 32 < lo) : No lo hi (32 :: l) := by
  intro a l' e
  cases e
  omega
/-- a number with its sign, behind a space -/
def sgL (v : Int) : List Int := if v < 0 then [45, 48 + (-v)] else [48 + v]
theorem num_s {v : Int} (h : Tx t n q (32 :: (sgL v ++ l))) (h1 : -9 ≤ v) (h2 : v ≤ 9) (hn : No 48 57 l) (hlo : lo ≤ v) (hhi : v ≤ hi) (go : Tok → Int → PR) : ∃ k : Tok, nm t n (tokF t n q) true lo hi go = go k v ∧ k.2.1 = q + 1 + (sgL v).length ∧ Tx t n (q + 1 + (sgL v).length) l := by
  unfold sgL at h ⊢
  by_cases hv : v < 0
  · rw [if_pos hv] at h ⊢
    obtain ⟨e1, h3⟩ := tok_sp (l := [45, 48 + -v] ++ l) h (by intro a l' e; cases e; omega)
    obtain ⟨e2, h4⟩ := toS_minus (l := (48 + -v) :: l) h3
    have e3 := tok_ns h4 (by intro a l' e; cases e; omega)
    obtain ⟨e4, h5⟩ := toS_num1 h4 (by omega) (by omega) hn
    have en : nx t n (tokF t n q) = (q + 1 + 1, q + 1 + 1 + 1, 2, -v) := by
      unfold nx
      rw [e1, e2]
      exact e3.trans e4
    have ek : nk t n (tokF t n q) true = (q + 1 + 1, q + 1 + 1 + 1, 2, -v) := by
      unfold nk
      rw [if_pos ⟨rfl, by rw [e1, e2]⟩]
      exact en
    have ev : nv t n (tokF t n q) true = v := by
      unfold nv
      rw [if_pos ⟨rfl, by rw [e1, e2]⟩, en]
      show -(-v) = v
      omega
    have er : ner t n (tokF t n q) true lo hi = 0 := by
      unfold ner
      rw [ek, ev, if_pos rfl, if_pos ⟨hlo, hhi⟩]
    refine ⟨(q + 1 + 1, q + 1 + 1 + 1, 2, -v), ?_, rfl, h5⟩
    unfold nm
    rw [er, ek, ev, if_pos rfl]
  · rw [if_neg hv] at h ⊢
    obtain ⟨e1, h3⟩ := tok_sp (l := [48 + v] ++ l) h (by intro a l' e; cases e; omega)
    obtain ⟨e4, h5⟩ := toS_num1 (l := l) h3 (by omega) (by omega) hn
    have ek : nk t n (tokF t n q) true = (q + 1, q + 1 + 1, 2, v) := by
      unfold nk
      rw [if_neg (by rw [e1, e4]; exact fun z => absurd z.2 (show ¬ (2 : Nat) = 3 by decide))]
      exact e1.trans e4
    have ev : nv t n (tokF t n q) true = v := by
      unfold nv
      rw [if_neg (by rw [e1, e4]; exact fun z => absurd z.2 (show ¬ (2 : Nat) = 3 by decide)), e1, e4]
    have er : ner t n (tokF t n q) true lo hi = 0 := by
      unfold ner
      rw [ek, ev, if_pos rfl, if_pos ⟨hlo, hhi⟩]
    refine ⟨(q + 1, q + 1 + 1, 2, v), ?_, rfl, h5⟩
    unfold nm
    rw [er, ek, ev, if_pos rfl]
theorem num_u {v : Int} (h : Tx t n q (32 :: (48 + v) :: l)) (h1 : 0 ≤ v) (h2 : v ≤ 9) (hn : No 48 57 l) (hlo : lo ≤ v) (hhi : v ≤ hi) (go : Tok → Int → PR) : ∃ k : Tok, nm t n (tokF t n q) false lo hi go = go k v ∧ k.2.1 = q + 2 ∧ nv t n (tokF t n q) false = v ∧ nk t n (tokF t n q) false = k ∧ ner t n (tokF t n q) false lo hi = 0 ∧ Tx t n (q + 2) l := by
  obtain ⟨e1, h3⟩ := tok_sp h (by intro a l' e; cases e; omega)
  obtain ⟨e4, h5⟩ := toS_num1 (l := l) h3 (by omega) (by omega) hn
  have ek : nk t n (tokF t n q) false = (q + 1, q + 1 + 1, 2, v) := by
    unfold nk
    rw [if_neg (fun z => absurd z.1 (by decide))]
    exact e1.trans e4
  have ev : nv t n (tokF t n q) false = v := by
    unfold nv
    rw [if_neg (fun z => absurd z.1 (by decide)), e1, e4]
  have er : ner t n (tokF t n q) false lo hi = 0 := by
    unfold ner
    rw [ek, ev, if_pos rfl, if_pos ⟨hlo, hhi⟩]
  refine ⟨(q + 1, q + 1 + 1, 2, v), ?_, rfl, ev, ek, er, h5⟩
  unfold nm
  rw [er, ek, ev, if_pos rfl]
/-- a word behind a sign or a space -/
theorem wd_ok : ∀ m, m < 6 → (∀ j, j < (wd m).length → 97 ≤ (wd m).getD j 0 ∧ (wd m).getD j 0 ≤ 122) ∧ 1 ≤ (wd m).length ∧ (wd m).length ≤ 8 := by decide
theorem word_t {m : Nat} (hm : m < 6) (h : Tx t n q (wd m ++ l)) (hn : No 97 122 l) : tokF t n q = (q, q + (wd m).length, 1, 0) ∧ isWF t (tokF t n q) m = true ∧ Tx t n (q + (wd m).length) l := by
  obtain ⟨w1, w2, w3⟩ := wd_ok m hm
  have e0 := h.app
  have hs : No 32 32 (wd m ++ l) := by
    intro a l' e
    have := (h.no (lo := 32) (hi := 32))
    intro z
    have e1 : (wd m ++ l).getD 0 0 = a := by rw [e]; rfl
    have e2 : (wd m ++ l).getD 0 0 = (wd m).getD 0 0 := by
      rw [List.getD_eq_getElem?_getD, List.getD_eq_getElem?_getD, List.getElem?_append_left (by omega)]
    have := w1 0 (by omega)
    omega
  have e1 := tok_ns h hs
  have e2 := toS_word h w1 w2 w3 hn
  refine ⟨e1.trans e2, ?_, e0.2.2⟩
  rw [e1, e2]
  unfold isWF
  rw [Bool.and_eq_true, Bool.and_eq_true]
  exact ⟨decide_eq_true rfl, decide_eq_true rfl, wdM_ok _ _ e0.1⟩
end TT
