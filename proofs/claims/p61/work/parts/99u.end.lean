/-! ===== from 102 to the end ===== -/
def Ok7 (l : List Int) : Prop := ∀ x ∈ l, 0 ≤ x ∧ x < 128
theorem Ok7.nil : Ok7 [] := fun _ h => absurd h List.not_mem_nil
theorem Ok7.cons {x : Int} {l : List Int} (h1 : 0 ≤ x ∧ x < 128) (h : Ok7 l) : Ok7 (x :: l) := fun y hy => by
  rcases List.mem_cons.mp hy with rfl | hy
  · exact h1
  · exact h y hy
theorem Ok7.app {l l' : List Int} (h1 : Ok7 l) (h : Ok7 l') : Ok7 (l ++ l') := fun y hy => by
  rcases List.mem_append.mp hy with hy | hy
  · exact h1 y hy
  · exact h y hy
theorem wd7 : Ok7 (wd 0) ∧ Ok7 (wd 1) ∧ Ok7 (wd 2) ∧ Ok7 (wd 4) ∧ Ok7 (wd 5) := by unfold Ok7; decide
theorem sgL_ok {v : Int} (h1 : -9 ≤ v) (h2 : v ≤ 9) : Ok7 (sgL v) := by
  unfold sgL
  split
  · exact Ok7.cons (by omega) (Ok7.cons (by omega) Ok7.nil)
  · exact Ok7.cons (by omega) Ok7.nil
theorem dLn_ok {k v : Int} {l : List Int} (h1 : -9 ≤ k) (h2 : k ≤ 9) (h3 : -9 ≤ v) (h4 : v ≤ 9) (h : Ok7 l) : Ok7 (dLn k v l) := by
  unfold dLn
  exact Ok7.cons (by omega) (wd7.2.2.1.app (Ok7.cons (by omega) ((sgL_ok h1 h2).app (Ok7.cons (by omega) ((sgL_ok h3 h4).app h)))))
theorem pLn_ok {m i : Nat} {v : Int} {l : List Int} (hm : Ok7 (wd m)) (h1 : i < 10) (h3 : -9 ≤ v) (h4 : v ≤ 9) (h : Ok7 l) : Ok7 (pLn m i v l) := by
  unfold pLn
  exact Ok7.cons (by omega) (hm.app (Ok7.cons (by omega) (Ok7.cons (by omega) (Ok7.cons (by omega) ((sgL_ok h3 h4).app h)))))
theorem dTx_ok {dv : Int → Int} (hdv : ∀ k, -9 ≤ dv k ∧ dv k ≤ 9) {l : List Int} (h : Ok7 l) : ∀ (d : Nat) (k : Int), -9 ≤ k → k + d ≤ 10 → Ok7 (dTx dv d k l)
  | 0, _, _, _ => h
  | d + 1, k, h1, h2 => by
    unfold dTx
    split
    · exact dTx_ok hdv h d (k + 1) (by omega) (by omega)
    · exact dLn_ok h1 (by omega) (hdv k).1 (hdv k).2 (dTx_ok hdv h d (k + 1) (by omega) (by omega))
theorem pTx_ok {sv pv : Nat → Int} (hs : ∀ i, -9 ≤ sv i ∧ sv i ≤ 9) (hp : ∀ i, -9 ≤ pv i ∧ pv i ≤ 9) : ∀ (d i : Nat), i + d ≤ 10 → Ok7 (pTx sv pv d i)
  | 0, _, _ => Ok7.nil
  | d + 1, i, h1 => pLn_ok wd7.2.2.2.1 (by omega) (hs i).1 (hs i).2 (pLn_ok wd7.2.2.2.2 (by omega) (hp i).1 (hp i).2 (pTx_ok hs hp d (i + 1) (by omega)))
theorem labTx_ok {dv : Int → Int} {sv pv : Nat → Int} {N p : Int} (hdv : ∀ k, -9 ≤ dv k ∧ dv k ≤ 9) (hs : ∀ i, -9 ≤ sv i ∧ sv i ≤ 9) (hpv : ∀ i, -9 ≤ pv i ∧ pv i ≤ 9) (h1 : 1 ≤ N) (h5 : N ≤ 5) (hp : p ∈ primesL) : Ok7 (labTx N p dv sv pv) := by
  have hpb := pr_b hp
  have hd := dTx_ok hdv (pTx_ok hs hpv N.toNat 0 (by omega)) (2 * N - 1).toNat (1 - N) (by omega) (by omega)
  unfold labTx
  refine wd7.1.app (Ok7.cons (by omega) (Ok7.cons (by omega) (Ok7.cons (by omega) (wd7.2.1.app (Ok7.cons (by omega) ?_)))))
  unfold nmL
  split
  · exact Ok7.cons (by omega) hd
  · exact Ok7.cons (by omega) (Ok7.cons (by omega) hd)
/-- the places of the law's text -/
def gax3 (E : gEn) (tb s0 a2 : Nat) : gR → Nat := fun r => if r = (1, 2, 0) then tb else if r = (2, 6, 0) then s0 else if r = (2, 6, 1) then a2 else gax E r
theorem h_ev3 {E : gEn} {s : State} {H : Heap} {tb ba s0 a2 : Nat} {t : List Int} {f2 : Nat → Int32} (hE : gEv E s H) (hex : gEx E = []) (h1 : va_at (gD E) vwCl (s0, .inr (10, [.ref a2, .int 0, .int 0, .int 0])) H) (h2 : va_at (gD E) vwCl (a2, .inl (gca E 3, t.length, .inl f2)) H) (hf : ∀ i, i < t.length → f2 i = gi (t.getD i 0)) (h3 : tb < H.size) (h4 : ba < H.size) (hA : gA E s0) :
    gEv (gEm E (gax3 E tb s0 a2) (t.map gi) [tb, ba, s0, a2]) s H := by
  have hsub : ∀ q, gA (gEm E (gax3 E tb s0 a2) (t.map gi) [tb, ba, s0, a2]) q → gA E q := fun q hq => ⟨hq.1, by rw [hex]; exact List.not_mem_nil⟩
  have h12 := hE.2.2.2.2.2.2.2.2.2.2.2.2.1
  refine gEm_ev hE hsub (fun r g1 g2 g3 => by unfold gax3; rw [if_neg g1, if_neg g2, if_neg g3]) (fun q hq => ?_) ⟨fun i hi => ?_, fun i j hi hj hij => ?_⟩
  · simp only [List.mem_cons, List.not_mem_nil, or_false] at hq
    rcases hq with rfl | rfl | rfl | rfl
    · exact h3
    · exact h4
    · exact h1.lt
    · exact h2.lt
  · by_cases h6 : i < 6
    · obtain ⟨g1, g2, g3, g4⟩ := h12.1 i (by omega)
      have e1 : gax3 E tb s0 a2 (2, i, 0) = gax E (2, i, 0) := by
        unfold gax3
        rw [if_neg (fun z => by cases z), if_neg (fun z => by
          have := congrArg (fun r : gR => r.2.1) z
          change i = 6 at this
          omega), if_neg (fun z => by
          have := congrArg (fun r : gR => r.2.1) z
          change i = 6 at this
          omega)]
      have e2 : gax3 E tb s0 a2 (2, i, 1) = gax E (2, i, 1) := by
        unfold gax3
        rw [if_neg (fun z => by cases z), if_neg (fun z => by
          have := congrArg (fun r : gR => r.2.1) z
          change i = 6 at this
          omega), if_neg (fun z => by
          have := congrArg (fun r : gR => r.2.1) z
          change i = 6 at this
          omega)]
      have e3 : (gTl ++ [(t.map gi).length]).getD i 0 = (gTl ++ [(gTx E).length]).getD i 0 := by
        rw [List.getD_eq_getElem?_getD, List.getD_eq_getElem?_getD, List.getElem?_append_left (by exact h6), List.getElem?_append_left (by exact h6)]
      have e4 : (gTb ++ [t.map gi]).getD i [] = (gTb ++ [gTx E]).getD i [] := by
        rw [List.getD_eq_getElem?_getD, List.getD_eq_getElem?_getD, List.getElem?_append_left (by exact h6), List.getElem?_append_left (by exact h6)]
      show va_O _ (gax3 E tb s0 a2 (2, i, 0)) _ _ _ ∧ va_OF _ _ _ _ (gax3 E tb s0 a2 (2, i, 0)) _ _ _ ∧ va_OF _ _ _ (.ref (gax3 E tb s0 a2 (2, i, 1))) (gax3 E tb s0 a2 (2, i, 0)) _ _ _ ∧ va_T _ (gax3 E tb s0 a2 (2, i, 1)) _ _ _ _ _
      rw [e1, e2, e3, e4]
      exact ⟨g1.narrow hsub, g2.narrow hsub, g3.narrow hsub, g4.narrow hsub⟩
    · have e6 : i = 6 := by omega
      subst e6
      obtain ⟨-, g2, g3, -⟩ := h12.1 0 (by decide)
      have hn : ∀ q ∈ [tb, ba, s0, a2], ¬ gA (gEm E (gax3 E tb s0 a2) (t.map gi) [tb, ba, s0, a2]) q := fun q hq z => z.2 hq
      have e1 : gax3 E tb s0 a2 (2, 6, 0) = s0 := by
        unfold gax3
        rw [if_neg (by decide), if_pos rfl]
      have e2 : gax3 E tb s0 a2 (2, 6, 1) = a2 := by
        unfold gax3
        rw [if_neg (by decide), if_neg (by decide), if_pos rfl]
      show va_O _ (gax3 E tb s0 a2 (2, 6, 0)) _ _ _ ∧ va_OF _ _ _ _ (gax3 E tb s0 a2 (2, 6, 0)) _ _ _ ∧ va_OF _ _ _ (.ref (gax3 E tb s0 a2 (2, 6, 1))) (gax3 E tb s0 a2 (2, 6, 0)) _ _ _ ∧ va_T _ (gax3 E tb s0 a2 (2, 6, 1)) _ _ _ _ _
      rw [e1, e2]
      obtain ⟨k1, k2, k3, k4⟩ := s_str (A := gA (gEm E (gax3 E tb s0 a2) (t.map gi) [tb, ba, s0, a2])) hE.1 g2 g3 h1 h2 (hn _ (by simp)) (hn _ (by simp))
      refine ⟨k1, k2, k3, ?_⟩
      rw [show (gTl ++ [(t.map gi).length]).getD 6 0 = t.length by show (t.map gi).length = t.length; exact List.length_map _]
      obtain ⟨cell, c1, c2, c3, c4, c5, c6, c7⟩ := k4
      refine ⟨cell, c1, c2, c3, c4, c5, fun j hj => ?_, c7⟩
      rw [c6 j hj]
      show some (Value.int (f2 j)) = some (Value.int ((t.map gi).getD j 0))
      rw [hf j hj]
      rw [List.getD_eq_getElem?_getD, List.getD_eq_getElem?_getD, List.getElem?_map, List.getElem?_eq_getElem hj]
      rfl
  · have key : ∀ k, k < 6 → gax3 E tb s0 a2 (2, k, 0) = gax E (2, k, 0) ∧ gax3 E tb s0 a2 (2, k, 0) ≠ s0 := fun k hk => by
      have e1 : gax3 E tb s0 a2 (2, k, 0) = gax E (2, k, 0) := by
        unfold gax3
        rw [if_neg (fun z => by cases z), if_neg (fun z => by
          have := congrArg (fun r : gR => r.2.1) z
          change k = 6 at this
          omega), if_neg (fun z => by
          have := congrArg (fun r : gR => r.2.1) z
          change k = 6 at this
          omega)]
      refine ⟨e1, ?_⟩
      rw [e1]
      obtain ⟨⟨cell, -, -, -, h9⟩, -⟩ := h12.1 k (by omega)
      have h9 : ¬ gA E (gax E (2, k, 0)) := h9
      exact fun z => h9 (by rw [z]; exact hA)
    have e6 : gax3 E tb s0 a2 (2, 6, 0) = s0 := by
      unfold gax3
      rw [if_neg (by decide), if_pos rfl]
    change gax3 E tb s0 a2 (2, i, 0) = gax3 E tb s0 a2 (2, j, 0) at hij
    by_cases hi6 : i < 6
    · by_cases hj6 : j < 6
      · rw [(key i hi6).1, (key j hj6).1] at hij
        exact h12.2 i j hi hj hij
      · have : j = 6 := by omega
        subst this
        rw [e6] at hij
        exact absurd hij (key i hi6).2
    · have : i = 6 := by omega
      subst this
      by_cases hj6 : j < 6
      · rw [e6] at hij
        exact absurd hij.symm (key j hj6).2
      · omega

/-- what the law's system and the class's start say at 102 -/
def hLab (I : gI) (N pr : Int) (fd f1 f2 : Nat → Int32) (a : Nat) : Prop := I 49 0 0 4 = gi N ∧ I 49 0 0 5 = gi pr ∧ (∀ j, j < 13 → I 50 0 0 j = fd j) ∧ (∀ j, j < 7 → I 51 0 0 j = f1 j) ∧ (∀ j, j < 7 → I 52 0 0 j = f2 j) ∧ I 48 0 0 1 = gi (a : Int) ∧ I 4 0 0 1 = gi 0 ∧ I 13 0 0 1 = gi 0
set_option maxRecDepth 100000 in
theorem h_102 {E E1 : gEn} {K : kEn} {p : Program} {e : Env} {R : Room} {s : State} {mI : MethodId} {args : Array Value} {below : List Frame} {meth : Method} {cc : Code} {H : Heap} {locs : List Loc} {c w mc ms : Nat} {LS : Array Slot} {I : gI} {J : gJ} {B : gB} {ad : gR → Nat} {tb ba m9 d lb o s0 a2 a : Nat} {t : List Int} {f g2 : Nat → Int32} {N pr : Int} {fd f1 f2 : Nat → Int32}
    (hx : p.tables.exec = Jvm.exec) (hb9 : cc.code = cL_law) (hr9 : meth.sig.returnType = hr 313) (hm9 : cc.maxLocals = hml 313) (hown : s.vm.findClass "ToeplitzLabLaw" = some mI.cls) (hts : ∀ w ∈ gBig, w.before args s = true) (hlk : meth.locks = false) (hT : cc.exceptionTable.toList = tableOf (hht 313))
    (hE0 : gEv E s s.heap) (hex : gEx E = []) (h0 : gB0 E = s.heap.size) (hca : gca E1 = gca E) (hax : ∀ r : gR, gax E1 r = if r = (1, 2, 0) then tb else gax E r) (h3 : ∀ r : gR, r.1 ≤ 2 → ad r = gax E1 r) (h4 : gBok B)
    (hP : va_P (gD E) vwCl (([(tb, kB ba 0 t.length), (ba, .inl (gca E 3, m9, .inl f))] ++ gws E1 ad I J B) ++ [(s0, .inr (10, [.ref a2, .int 0, .int 0, .int 0])), (a2, .inl (gca E 3, t.length, .inl g2))]) H)
    (hD : va_D (gA E) (([(tb, kB ba 0 t.length), (ba, .inl (gca E 3, m9, .inl f))] ++ gws E1 ad I J B) ++ [(s0, .inr (10, [.ref a2, .int 0, .int 0, .int 0])), (a2, .inl (gca E 3, t.length, .inl g2))]))
    (hS : va_S (gA E) s.heap H locs) (hg2 : ∀ i, i < t.length → g2 i = gi (t.getD i 0)) (hl : lv_has LS 5 [(1, .ref d), (2, .ref lb), (3, .ref o)]) (hd : ad (48, 0, 0) = d) (hlb : ad (49, 0, 0) = lb) (ho : ad (3, 0, 0) = o) (hgl : gL E ≤ 100000)
    (h48 : gVl B (48, 0, 0)) (h49 : gVl B (49, 0, 0)) (hg3 : gVl B (3, 0, 0)) (hLab : hLab I N pr fd f1 f2 a) (hB : Bk B) (hU : ∀ m, 100 ≤ m → m < 420 → B m = false)
    (hN1 : 1 ≤ N) (hN5 : N ≤ 5) (hpr : pr ∈ primesL) (b1 : Bd9 fd) (b2 : Bd9 f1) (b3 : Bd9 f2) (ht : t = labTx N pr (dvf fd) (svf f1) (svf f2)) (ht3 : t.length ≤ 300) (ha : a ≤ 100)
    (r1 : hfr 313 ≤ R.frames) (r2 : hlo 313 ≤ R.locals) (r3 : c + hmc 313 ≤ R.cells) (r4 : w + hms 313 ≤ R.slots) (r5 : c + hmc 313 ≤ mc) (r6 : w + hms 313 ≤ ms) :
    W p (gl E) e R s mI args below meth cc H locs c w (hZ below s mc ms) (F0 mI 102 LS [.ref s0, .ref o]) := by
  obtain ⟨i1, i2, i3, i4, i5, i6, i7, i8⟩ := hLab
  have hEH : gEv E s H := hE0.to (State.WarmedH.refl s) hS.1 hS.2.1
  have hln : ([(tb, kB ba 0 t.length), (ba, (.inl (gca E 3, m9, .inl f) : va_E))] ++ gws E1 ad I J B).length = (gws E1 ad I J B).length + 2 := by rw [List.length_append]; exact Nat.add_comm _ _
  have hgs : ∀ k (q : Nat × va_E), (gws E1 ad I J B)[k]? = some q → (([(tb, kB ba 0 t.length), (ba, (.inl (gca E 3, m9, .inl f) : va_E))] ++ gws E1 ad I J B) ++ [(s0, .inr (10, [.ref a2, .int 0, .int 0, .int 0])), (a2, (.inl (gca E 3, t.length, .inl g2) : va_E))])[k + 2]? = some q := fun k q hk => by
    have hk9 := (List.getElem?_eq_some_iff.mp hk).1
    rw [List.getElem?_append_left (by rw [hln]; omega)]
    exact hk
  have hg9 : (([(tb, kB ba 0 t.length), (ba, (.inl (gca E 3, m9, .inl f) : va_E))] ++ gws E1 ad I J B) ++ [(s0, .inr (10, [.ref a2, .int 0, .int 0, .int 0])), (a2, (.inl (gca E 3, t.length, .inl g2) : va_E))])[(gws E1 ad I J B).length + 2]? = some (s0, .inr (10, [.ref a2, .int 0, .int 0, .int 0])) := by
    rw [List.getElem?_append_right (by rw [hln]; exact Nat.le_refl _), hln, Nat.sub_self]
    rfl
  have hg10 : (([(tb, kB ba 0 t.length), (ba, (.inl (gca E 3, m9, .inl f) : va_E))] ++ gws E1 ad I J B) ++ [(s0, .inr (10, [.ref a2, .int 0, .int 0, .int 0])), (a2, (.inl (gca E 3, t.length, .inl g2) : va_E))])[(gws E1 ad I J B).length + 3]? = some (a2, .inl (gca E 3, t.length, .inl g2)) := by
    rw [List.getElem?_append_right (by rw [hln]; omega), hln, show (gws E1 ad I J B).length + 3 - ((gws E1 ad I J B).length + 2) = 1 by omega]
    rfl
  have v0 : va_at (gD E) vwCl (tb, kB ba 0 t.length) H := hP 0 _ rfl
  have v1 : va_at (gD E) vwCl (ba, .inl (gca E 3, m9, .inl f)) H := hP 1 _ rfl
  have v2 := hP _ _ hg9
  have v3 := hP _ _ hg10
  have hE3 := h_ev3 (tb := tb) (ba := ba) hEH hex v2 v3 hg2 v0.lt v1.lt (hD.2 _ _ hg9)
  have hadx : ∀ r : gR, r.1 ≠ 2 → (fun r : gR => if r.1 ≤ 2 then gax3 E tb s0 a2 r else ad r) r = ad r := fun r hr => by
    show (if r.1 ≤ 2 then gax3 E tb s0 a2 r else ad r) = ad r
    by_cases hr2 : r.1 ≤ 2
    · rw [if_pos hr2, h3 r hr2, hax]
      unfold gax3
      by_cases e1 : r = (1, 2, 0)
      · rw [if_pos e1, if_pos e1]
      · rw [if_neg e1, if_neg e1, if_neg (fun z => hr (by rw [z])), if_neg (fun z => hr (by rw [z]))]
    · rw [if_neg hr2]
  have hws : gws (gEm E (gax3 E tb s0 a2) (t.map gi) [tb, ba, s0, a2]) (fun r : gR => if r.1 ≤ 2 then gax3 E tb s0 a2 r else ad r) I J B = gws E1 ad I J B := gws_ad (show gca E = gca E1 from hca.symm) hadx
  have hR3 : gRep (gEm E (gax3 E tb s0 a2) (t.map gi) [tb, ba, s0, a2]) (fun r : gR => if r.1 ≤ 2 then gax3 E tb s0 a2 r else ad r) I J B H := by
    refine ⟨?_, ?_, fun r hr => if_pos hr, h4⟩
    · rw [hws]
      exact fun k q hk => hP (k + 2) q (hgs k q hk)
    · rw [hws]
      refine ⟨fun i j p q hi hj hpq => by
        have := hD.1 _ _ p q (hgs i p hi) (hgs j q hj) hpq
        omega, fun k q hk => ⟨(hD.2 _ q (hgs k q hk)).1, fun hm => ?_⟩⟩
      have hm : q.1 ∈ [tb, ba, s0, a2] := hm
      have hk9 := (List.getElem?_eq_some_iff.mp hk).1
      simp only [List.mem_cons, List.not_mem_nil, or_false] at hm
      rcases hm with h | h | h | h
      · have := hD.1 _ 0 q _ (hgs k q hk) rfl h
        omega
      · have := hD.1 _ 1 q _ (hgs k q hk) rfl h
        omega
      · have := hD.1 _ _ q _ (hgs k q hk) hg9 h
        omega
      · have := hD.1 _ _ q _ (hgs k q hk) hg10 h
        omega
  have hdv : ∀ k, -9 ≤ dvf fd k ∧ dvf fd k ≤ 9 := fun k => b1 _
  have hok := labTx_ok (sv := svf f1) (pv := svf f2) hdv (fun i => b2 i) (fun i => b3 i) hN1 hN5 hpr
  rw [← ht] at hok
  have hgt : ∀ q, q < t.length → txN (gEm E (gax3 E tb s0 a2) (t.map gi) [tb, ba, s0, a2]) q = t.getD q 0 := fun q hq => by
    show (if q < (t.map gi).length then (((t.map gi).getD q 0).toInt) else 32) = _
    rw [if_pos (by rw [List.length_map]; exact hq), List.getD_eq_getElem?_getD, List.getD_eq_getElem?_getD, List.getElem?_map, List.getElem?_eq_getElem hq]
    show (gi t[q]).toInt = t[q]
    have := hok t[q] (List.getElem_mem hq)
    exact gi_t (by omega) (by omega)
  have hTx : Tx (txN (gEm E (gax3 E tb s0 a2) (t.map gi) [tb, ba, s0, a2])) t.length 0 (labTx N pr (dvf fd) (svf f1) (svf f2)) := by
    rw [← ht]
    exact ⟨Nat.zero_add _, fun j hj => by rw [Nat.zero_add]; exact hgt j hj⟩
  obtain ⟨ff, k1, k2, k3, k4, k5⟩ := text_ok (sv := svf f1) (pv := svf f2) hdv (fun i => b2 i) (fun i => b3 i) hN1 hN5 hpr hTx
  have hxo : txOk (gEm E (gax3 E tb s0 a2) (t.map gi) [tb, ba, s0, a2]) := by
    refine ⟨by show (t.map gi).length ≤ 1000; rw [List.length_map]; omega, fun x hx => ?_⟩
    obtain ⟨y, hy, rfl⟩ := List.mem_map.mp (show x ∈ t.map gi from hx)
    have := hok y hy
    rw [gi_t (by omega) (by omega)]
    exact this
  have hLb : Lb ff I := by
    refine ⟨by rw [i1, k2], by rw [i2, k3], fun k q1 q2 => ?_, fun i hi => ?_, fun i hi => ?_⟩
    · rw [k2] at q1 q2
      rw [i3 _ (by omega)]
      unfold dg
      rw [if_pos (by omega), k4 k q1 q2]
      exact (gi_x _).symm
    · rw [k2] at hi
      rw [i4 _ (by omega), (k5 i hi).1]
      exact (gi_x _).symm
    · rw [k2] at hi
      rw [i5 _ (by omega), (k5 i hi).2]
      exact (gi_x _).symm
  have hG := z_law_102 (E := gEm E (gax3 E tb s0 a2) (t.map gi) [tb, ba, s0, a2]) (J := J) (c := 0) (w := 0) (Q := fun v _ _ _ => v = .inl (.int (gi 1))) (X := fun _ _ _ _ => False) (u := 0) hgl hxo (L := t.length) (List.length_map _) (by omega) k1 i7 hB hU i8 hLb (by rw [k2]; exact hN5) i6 ha (Nat.zero_le _) (Nat.zero_le _) (fun _ _ _ => rfl)
  have hbase := h_base (E3 := gEm E (gax3 E tb s0 a2) (t.map gi) [tb, ba, s0, a2]) (c := c) (w := w) (LS := LS) (locs := locs) (e := e) (below := below) hx hb9 hr9 hm9 hown hts hlk hT hE3 hR3 (ls := [(1, .inr (48, 0, 0)), (2, .inr (49, 0, 0)), (3, .inr (3, 0, 0))]) (st := [.inr (2, 6, 0), .inr (3, 0, 0)]) ?_ ?_ ?_ h0 (fun q hq => by
    have := (hS.2.2 q hq).1
    rw [h0] at this
    exact this) hG r1 r2 r3 r4 r5 r6
  · have e1 : gax3 E tb s0 a2 (2, 6, 0) = s0 := by
      unfold gax3
      rw [if_neg (by decide), if_pos rfl]
    have e2 : ([.inr (2, 6, 0), .inr (3, 0, 0)] : List gV).map (gcv (fun r : gR => if r.1 ≤ 2 then gax3 E tb s0 a2 r else ad r)) = [.ref s0, .ref o] := by
      show [Value.ref (gax3 E tb s0 a2 (2, 6, 0)), Value.ref (ad (3, 0, 0))] = _
      rw [e1, ho]
    rw [e2] at hbase
    exact hbase
  · show lv_has LS 5 [(1, .ref (ad (48, 0, 0))), (2, .ref (ad (49, 0, 0))), (3, .ref (ad (3, 0, 0)))]
    rw [hd, hlb, ho]
    exact hl
  · intro q hq
    simp only [List.mem_cons, List.not_mem_nil, or_false] at hq
    rcases hq with rfl | rfl | rfl
    · exact h48
    · exact h49
    · exact hg3
  · intro v hv
    simp only [List.mem_cons, List.not_mem_nil, or_false] at hv
    rcases hv with rfl | rfl
    · exact Or.inr (Or.inr (Or.inl ⟨rfl, (by decide), rfl⟩))
    · exact hg3
