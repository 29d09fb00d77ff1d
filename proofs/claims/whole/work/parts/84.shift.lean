def gckN (y : Nat) : Nat → List gE → Bool
  | 0, _ => true
  | _ + 1, [] => true
  | n + 1, e :: r => gck1 y e r && gckN y n r
theorem gckN_0 {y : Nat} : ∀ (n : Nat) (L : List gE), gckN y n L = true → gckL y (L.drop n) = true → gckL y L = true
  | 0, _, _, h => h
  | _ + 1, [], _, h => h
  | n + 1, e :: r, h, h2 => by
    unfold gckN at h
    unfold gckL
    rw [Bool.and_eq_true] at h ⊢
    exact ⟨h.1, gckN_0 n r h.2 h2⟩
theorem gckN_1 {y : Nat} (n k : Nat) (L : List gE) (h : gckN y n (L.drop k) = true) (h2 : gckL y (L.drop (k + n)) = true) : gckL y (L.drop k) = true :=
  gckN_0 n _ h (by rw [List.drop_drop]; exact h2)
/-! ===== instructions read from a piece of the code ===== -/
def Sh (b1 b2 : ByteArray) (d : Nat) : Prop := ∀ p (_ : p < b1.size), ∃ h2 : p + d < b2.size, b2[p + d] = b1[p]
def SS {α : Type} (r1 r2 : Reader DecodeError α) (b1 b2 : ByteArray) (d : Nat) : Prop := ∀ p x n, r1.runAt b1 p = .ok (x, n) → r2.runAt b2 (p + d) = .ok (x, n + d)
section SHI
variable {b1 b2 : ByteArray} {d : Nat}
theorem runAt_bind {α β : Type} (r : Reader DecodeError α) (f : α → Reader DecodeError β) (b : ByteArray) (p : Nat) : (r >>= f).runAt b p = (match r.runAt b p with
  | .error e => .error e
  | .ok (x, n) => (f x).runAt b n) := by
  show (r b p >>= fun q => f q.1 b q.2) = _
  unfold Reader.runAt
  show (r b p >>= fun q => f q.1 b q.2) = (match r b p with
  | .error e => .error e
  | .ok (x, n) => f x b n)
  cases r b p <;> rfl
theorem runAt_ok {α β : Type} {r : Reader DecodeError α} {f : α → Reader DecodeError β} {b : ByteArray} {p m : Nat} {x : α} (h : r.runAt b p = .ok (x, m)) : (r >>= f).runAt b p = (f x).runAt b m := by
  rw [runAt_bind, h]
theorem SS.pure {α : Type} (x : α) : SS (Pure.pure x) (Pure.pure x) b1 b2 d := fun p y n e => by
  have e2 : (Except.ok (x, p) : Except DecodeError (α × Nat)) = .ok (y, n) := e
  cases e2
  rfl
theorem SS.bind {α β : Type} {r1 r2 : Reader DecodeError α} {f1 f2 : α → Reader DecodeError β} (h : SS r1 r2 b1 b2 d) (h2 : ∀ x, SS (f1 x) (f2 x) b1 b2 d) : SS (r1 >>= f1) (r2 >>= f2) b1 b2 d := fun p y n e => by
  rw [runAt_bind] at e ⊢
  cases hr : r1.runAt b1 p with
  | error z => rw [hr] at e; cases e
  | ok q =>
    obtain ⟨x, m⟩ := q
    rw [hr] at e
    rw [h p x m hr]
    exact h2 x m y n e
theorem u1_eq {b : ByteArray} {p : Nat} : (Reader.u1 : Decoder Nat).runAt b p = (if h : p < b.size then Except.ok (b[p].toNat, p + 1) else .error (HasTruncated.truncated p)) := by
  unfold Reader.u1
  rw [runAt_bind, show (read : Reader DecodeError ByteArray).runAt b p = .ok (b, p) from rfl]
  dsimp only
  rw [runAt_bind, show (get : Reader DecodeError Nat).runAt b p = .ok (p, p) from rfl]
  dsimp only
  split
  · rfl
  · rfl
theorem u1_run {b : ByteArray} {p : Nat} (h : p < b.size) : (Reader.u1 : Decoder Nat).runAt b p = .ok (b[p].toNat, p + 1) := by
  rw [u1_eq, dif_pos h]
theorem u1_bad {b : ByteArray} {p : Nat} (h : ¬ p < b.size) : ∃ e, (Reader.u1 : Decoder Nat).runAt b p = .error e := by
  rw [u1_eq, dif_neg h]
  exact ⟨_, rfl⟩
theorem SS.u1 (hs : Sh b1 b2 d) : SS Reader.u1 Reader.u1 b1 b2 d := fun p x n e => by
  by_cases h : p < b1.size
  · rw [u1_run h] at e
    obtain ⟨h2, e2⟩ := hs p h
    rw [u1_run h2, e2]
    injection e with e
    injection e with e3 e4
    rw [e3, ← e4]
    congr 2
    omega
  · obtain ⟨z, ez⟩ := u1_bad h
    rw [ez] at e
    cases e
theorem SS.u2 (hs : Sh b1 b2 d) : SS Reader.u2 Reader.u2 b1 b2 d := (SS.u1 hs).bind fun _ => (SS.u1 hs).bind fun _ => SS.pure _
theorem SS.map {α β : Type} {g : α → β} {r1 r2 : Reader DecodeError α} (h : SS r1 r2 b1 b2 d) : SS (g <$> r1) (g <$> r2) b1 b2 d := fun p y n e => by
  have key : ∀ (r : Reader DecodeError α) (b : ByteArray) (p : Nat), (g <$> r).runAt b p = (match r.runAt b p with
      | .error e => .error e
      | .ok (x, n) => .ok (g x, n)) := fun r b p => by
    unfold Reader.runAt
    show ((fun q : α × Nat => (g q.1, q.2)) <$> r b p) = (match r b p with
      | .error e => .error e
      | .ok (x, n) => .ok (g x, n))
    cases r b p <;> rfl
  rw [key] at e ⊢
  cases hr : r1.runAt b1 p with
  | error z => rw [hr] at e; cases e
  | ok q =>
    obtain ⟨x, m⟩ := q
    rw [hr] at e
    rw [h p x m hr]
    cases e
    rfl
theorem SS.s1 (hs : Sh b1 b2 d) : SS Reader.s1 Reader.s1 b1 b2 d := (SS.u1 hs).map
theorem SS.s2 (hs : Sh b1 b2 d) : SS Reader.s2 Reader.s2 b1 b2 d := (SS.u2 hs).map
def opsL : List Nat := [2, 3, 4, 5, 6, 7, 8, 9, 10, 16, 21, 22, 24, 25, 42, 43, 44, 45, 46, 47, 49, 54, 55, 57, 96, 97, 100, 126, 132, 133, 148, 151, 153, 154, 159, 160, 163, 167, 172, 182, 184, 190]
theorem instr_ss (hs : Sh b1 b2 d) {p1 p2 p n : Nat} {x : Instr} (hp : p < b1.size) (hm : b1[p].toNat ∈ opsL) (e : (Decoder.instr p1).runAt b1 p = .ok (x, n)) : (Decoder.instr p2).runAt b2 (p + d) = .ok (x, n + d) := by
  unfold Decoder.instr at e ⊢
  obtain ⟨h2, e2⟩ := hs p hp
  rw [runAt_ok (u1_run hp)] at e
  rw [runAt_ok (u1_run h2), e2]
  rw [show p + d + 1 = p + 1 + d by omega]
  generalize b1[p].toNat = m at hm e ⊢
  revert e
  unfold opsL at hm
  simp only [List.mem_cons, List.not_mem_nil, or_false] at hm
  rcases hm with rfl | rfl | rfl | rfl | rfl | rfl | rfl | rfl | rfl | rfl | rfl | rfl | rfl | rfl | rfl | rfl | rfl | rfl | rfl | rfl | rfl | rfl | rfl | rfl | rfl | rfl | rfl | rfl | rfl | rfl | rfl | rfl | rfl | rfl | rfl | rfl | rfl | rfl | rfl | rfl | rfl | rfl
  · exact SS.pure _ _ _ _
  · exact SS.pure _ _ _ _
  · exact SS.pure _ _ _ _
  · exact SS.pure _ _ _ _
  · exact SS.pure _ _ _ _
  · exact SS.pure _ _ _ _
  · exact SS.pure _ _ _ _
  · exact SS.pure _ _ _ _
  · exact SS.pure _ _ _ _
  · exact ((SS.s1 hs).bind fun _ => SS.pure _) _ _ _
  · exact ((SS.u1 hs).bind fun _ => SS.pure _) _ _ _
  · exact ((SS.u1 hs).bind fun _ => SS.pure _) _ _ _
  · exact ((SS.u1 hs).bind fun _ => SS.pure _) _ _ _
  · exact ((SS.u1 hs).bind fun _ => SS.pure _) _ _ _
  · exact SS.pure _ _ _ _
  · exact SS.pure _ _ _ _
  · exact SS.pure _ _ _ _
  · exact SS.pure _ _ _ _
  · exact SS.pure _ _ _ _
  · exact SS.pure _ _ _ _
  · exact SS.pure _ _ _ _
  · exact ((SS.u1 hs).bind fun _ => SS.pure _) _ _ _
  · exact ((SS.u1 hs).bind fun _ => SS.pure _) _ _ _
  · exact ((SS.u1 hs).bind fun _ => SS.pure _) _ _ _
  · exact SS.pure _ _ _ _
  · exact SS.pure _ _ _ _
  · exact SS.pure _ _ _ _
  · exact SS.pure _ _ _ _
  · exact ((SS.u1 hs).bind fun _ => (SS.s1 hs).bind fun _ => SS.pure _) _ _ _
  · exact SS.pure _ _ _ _
  · exact SS.pure _ _ _ _
  · exact SS.pure _ _ _ _
  · exact ((SS.s2 hs).bind fun _ => SS.pure _) _ _ _
  · exact ((SS.s2 hs).bind fun _ => SS.pure _) _ _ _
  · exact ((SS.s2 hs).bind fun _ => SS.pure _) _ _ _
  · exact ((SS.s2 hs).bind fun _ => SS.pure _) _ _ _
  · exact ((SS.s2 hs).bind fun _ => SS.pure _) _ _ _
  · exact ((SS.s2 hs).bind fun _ => SS.pure _) _ _ _
  · exact SS.pure _ _ _ _
  · exact ((SS.u2 hs).bind fun _ => SS.pure _) _ _ _
  · exact ((SS.u2 hs).bind fun _ => SS.pure _) _ _ _
  · exact SS.pure _ _ _ _
theorem dec_ss (hs : Sh b1 b2 d) {p l : Nat} {x : Instr} (hp : p < b1.size) (hm : b1[p].toNat ∈ opsL) (e : decode b1 p = .ok (x, l)) (hl : 0 < l) : decode b2 (p + d) = .ok (x, l) := by
  unfold decode at e ⊢
  cases hr : (Decoder.instr p).runAt b1 p with
  | error z => rw [hr] at e; cases e
  | ok q =>
    obtain ⟨y, m⟩ := q
    rw [hr] at e
    rw [instr_ss hs hp hm hr]
    have e3 : (Except.ok (y, m - p) : Except DecodeError (Instr × Nat)) = .ok (x, l) := e
    injection e3 with e3
    injection e3 with e4 e5
    show (Except.ok (y, m + d - (p + d)) : Except DecodeError (Instr × Nat)) = .ok (x, l)
    rw [e4, ← e5, Nat.add_sub_add_right]
def opk (b : ByteArray) (p : Nat) : Bool := if h : p < b.size then opsL.contains b[p].toNat else false
def gckS (y : Nat) (b : ByteArray) (d : Nat) (e : gE) (rest : List gE) : Bool := Nat.ble d e.1 && (Nat.blt 0 e.2.1 && (decide (decode b (e.1 - d) = .ok (e.2.2.1, e.2.1)) && (opk b (e.1 - d) && ((match rest with
  | [] => true
  | e2 :: _ => Nat.beq e2.1 (e.1 + e.2.1)) && gck2 y e rest))))
theorem gckS_1 {y : Nat} {b : ByteArray} {e : gE} {rest : List gE} (hs : Sh b (hb y) d) (h : gckS y b d e rest = true) : gck1 y e rest = true := by
  unfold gckS at h
  rw [Bool.and_eq_true, Bool.and_eq_true, Bool.and_eq_true, Bool.and_eq_true] at h
  obtain ⟨h1, h2, h3, h4, h5⟩ := h
  unfold opk at h4
  by_cases hp : e.1 - d < b.size
  · rw [dif_pos hp] at h4
    have q := dec_ss hs hp (List.contains_iff_mem.mp h4) (of_decide_eq_true h3) (by unfold Nat.blt at h2; exact Nat.le_of_ble_eq_true h2)
    rw [Nat.sub_add_cancel (Nat.le_of_ble_eq_true h1)] at q
    unfold gck1
    rw [Bool.and_eq_true]
    exact ⟨decide_eq_true q, h5⟩
  · rw [dif_neg hp] at h4
    cases h4
def gckM (y : Nat) (b : ByteArray) (d : Nat) : Nat → List gE → Bool
  | 0, _ => true
  | _ + 1, [] => true
  | n + 1, e :: r => gckS y b d e r && gckM y b d n r
theorem gckM_N {y : Nat} {b : ByteArray} (hs : Sh b (hb y) d) : ∀ (n : Nat) (L : List gE), gckM y b d n L = true → gckN y n L = true
  | 0, _, _ => rfl
  | _ + 1, [], _ => rfl
  | n + 1, e :: r, h => by
    unfold gckM at h
    unfold gckN
    rw [Bool.and_eq_true] at h ⊢
    exact ⟨gckS_1 hs h.1, gckM_N hs n r h.2⟩
def eqp : List UInt8 → List UInt8 → Bool
  | [], [] => true
  | a :: l, b :: m => if a = b then eqp l m else false
  | _, _ => false
theorem eqp_ok : ∀ (l m : List UInt8), eqp l m = true → l = m
  | [], [], _ => rfl
  | a :: l, b :: m, h => by
    unfold eqp at h
    by_cases e : a = b
    · rw [if_pos e] at h
      rw [e, eqp_ok l m h]
    · rw [if_neg e] at h
      cases h
  | [], _ :: _, h => by cases h
  | _ :: _, [], h => by cases h
theorem Sh_of {b : ByteArray} {l r : List UInt8} (h : b.data.toList.drop d = l ++ r) : Sh ⟨⟨l⟩⟩ b d := fun p hp => by
  have hp2 : p < l.length := hp
  have e : b.data.toList[p + d]? = l[p]? := by
    rw [Nat.add_comm, ← List.getElem?_drop, h, List.getElem?_append_left hp2]
  rw [List.getElem?_eq_getElem hp2] at e
  obtain ⟨h3, h4⟩ := List.getElem?_eq_some_iff.mp e
  exact ⟨h3, h4⟩
theorem drop_app {b : ByteArray} {l r : List UInt8} {k : Nat} (h : b.data.toList.drop d = l ++ r) (hk : l.length = k) : b.data.toList.drop (d + k) = r := by
  rw [← List.drop_drop, h, ← hk, List.drop_left]
end SHI
