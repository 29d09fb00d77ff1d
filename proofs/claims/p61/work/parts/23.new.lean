/-! ===== a new state ===== -/
def gadN (ad : gR → Nat) (m q : Nat) (f : Nat → Nat) : gR → Nat := fun r => if 6 ≤ r.1 ∧ r.1 ≤ 12 ∧ r.2.1 = m ∧ r.2.2 = 0 then (if r.1 = 6 then q else f (r.1 - 7)) else ad r
theorem gadN_n {ad : gR → Nat} {m q : Nat} {f : Nat → Nat} {r : gR} (h : r.2.1 ≠ m) : gadN ad m q f r = ad r := if_neg (fun z => h z.2.2.1)
theorem gadN_k {ad : gR → Nat} {m q : Nat} {f : Nat → Nat} {r : gR} (h : 12 < r.1 ∨ r.1 < 6) : gadN ad m q f r = ad r := if_neg (fun z => by omega)
theorem gUB_ne {B : gB} {m a : Nat} (h : a ≠ m) : gUB B m a = B a := if_neg h
theorem gids_nm {B : gB} {m : Nat} {r : gR} (h : r ∈ gids B) (h3 : 3 ≤ m) (hB : B m = false) : r.2.1 ≠ m := by
  intro e
  have h2 := (List.mem_filter.mp h).2
  rw [e, hB, Bool.or_false] at h2
  have := Nat.le_of_ble_eq_true h2
  omega
theorem garr_5 {k n rk : Nat} (h : garr k = some (5, n, rk)) : 12 < rk := by
  unfold garr at h
  split at h <;> first | (cases h; done) | (cases h; decide)
theorem garr_6 {k n rk : Nat} (h : garr k = some (6, n, rk)) : 3 ≤ rk ∧ rk + n ≤ 13 := by
  unfold garr at h
  split at h <;> first | (cases h; done) | (cases h; decide)
theorem genc_new {ca : Nat → ClassId} {ad : gR → Nat} {I : gI} {J : gJ} {B : gB} {m q : Nat} {f : Nat → Nat} {r : gR} (hr : r ∈ gids B) (h3 : 3 ≤ m) (h12 : m ≤ 12) (hB : B m = false) (hk : gBok B) :
    genc ca (gadN ad m q f) (gnwI I m) (gnwJ J m) (gUB B m) r = genc ca ad I J B r := by
  have hn := gids_nm hr h3 hB
  have hI : ∀ c j, gnwI I m r.1 r.2.1 c j = I r.1 r.2.1 c j := fun c j => if_neg (fun z => hn z.1)
  have hJ : ∀ j, gnwJ J m r.1 r.2.1 j = J r.1 r.2.1 j := fun j => by
    unfold gnwJ
    rw [if_neg (fun z => hn z.1), if_neg (fun z => hn z.1)]
  cases ho : gobj r.1 with
  | some z =>
    obtain ⟨ci, fl⟩ := z
    rw [genc_obj ho, genc_obj ho]
    congr 2
    apply List.ext_getElem?
    intro b
    cases hf : fl[b]? with
    | none =>
      rw [List.getElem?_eq_none (by rw [gfvals_len]; exact List.getElem?_eq_none_iff.mp hf), List.getElem?_eq_none (by rw [gfvals_len]; exact List.getElem?_eq_none_iff.mp hf)]
    | some z =>
      rw [gfvals_get hf, gfvals_get hf]
      congr 1
      unfold gfval
      rw [hI, hJ]
      split
      · rfl
      · split
        · rfl
        · rename_i h100
          by_cases h103 : 103 ≤ z.1
          · rw [gadN_n (gids_nm (gids_ref hr ho (List.mem_of_getElem? hf) h103) h3 hB)]
          · rw [gadN_k (Or.inr (show z.1 - 100 < 6 by omega))]
  | none =>
    cases ha : garr r.1 with
    | none =>
      unfold genc
      rw [ho, ha]
    | some z =>
      obtain ⟨t, n, rk⟩ := z
      rw [genc_arr ha, genc_arr ha]
      have hI2 : gnwI I m r.1 r.2.1 r.2.2 = I r.1 r.2.1 r.2.2 := funext fun j => hI _ j
      have hJ2 : gnwJ J m r.1 r.2.1 = J r.1 r.2.1 := funext fun j => hJ j
      unfold garrE
      rw [hI2, hJ2]
      split
      · rfl
      · rfl
      · rfl
      · rfl
      · rfl
      · congr 7
        funext j
        rw [gadN_k (Or.inl (garr_5 ha))]
      · rename_i g0 g1 g2 g3 g4 g5
        congr 7
        funext j
        have h6 : t = 6 := by
          unfold garr at ha
          split at ha <;> first | (cases ha; done) | (cases ha; first | rfl | exact absurd rfl g0 | exact absurd rfl g1 | exact absurd rfl g2 | exact absurd rfl g3 | exact absurd rfl g4 | exact absurd rfl g5)
        subst h6
        obtain ⟨b1, b2⟩ := garr_6 ha
        rw [gUB_ne (show rk + j + 17 ≠ m by omega)]
        split
        · rename_i hc
          obtain ⟨c1, c2⟩ := Bool.and_eq_true_iff.mp hc
          have c1 : j < n := Nat.le_of_ble_eq_true c1
          have := hk (rk + j) (by omega) (by omega) c2
          rw [gadN_n (show rk + j ≠ m from fun e => by rw [e, hB] at this; cases this)]
        · rfl
theorem gzw_get {E : gEn} {ad : gR → Nat} {I : gI} {J : gJ} {B : gB} {m q : Nat} {f : Nat → Nat} {r : gR} (hr : r ∈ gstate m) :
    ∃ k : Nat, k = r.1 - 6 ∧ (6 ≤ r.1 ∧ r.1 ≤ 12 ∧ r.2.1 = m ∧ r.2.2 = 0) ∧ (gzw_6 E q f)[k]? = some (gadN ad m q f r, genc (gca E) (gadN ad m q f) (gnwI I m) (gnwJ J m) (gUB B m) r) := by
  have hI : ∀ a c j, 6 ≤ a → a ≤ 12 → gnwI I m a m c j = 0 := fun a c j h1 h2 => if_pos ⟨rfl, h1, h2⟩
  have hJ : ∀ j, gnwJ J m 10 m j = 0 := fun j => by
    unfold gnwJ
    rw [if_neg (fun z => by cases z.2.1), if_pos ⟨rfl, rfl⟩]
  have hJ6 : gnwJ J m 6 m 6 = 1 := if_pos ⟨rfl, rfl, rfl⟩
  have hA : ∀ k, 6 ≤ k → k ≤ 12 → k ≠ 6 → gadN ad m q f (k, m, 0) = f (k - 7) := fun k h1 h2 h3 => by
    unfold gadN
    rw [if_pos ⟨h1, h2, rfl, rfl⟩, if_neg h3]
  have hA6 : gadN ad m q f (6, m, 0) = q := by
    unfold gadN
    rw [if_pos ⟨Nat.le_of_ble_eq_true rfl, Nat.le_of_ble_eq_true rfl, rfl, rfl⟩, if_pos rfl]
  have hF : ∀ a, 6 ≤ a → a ≤ 12 → gnwI I m a m 0 = fun _ => 0 := fun a h1 h2 => funext fun j => hI a 0 j h1 h2
  have hG : gnwJ J m 10 m = fun _ => 0 := funext hJ
  refine ⟨r.1 - 6, rfl, ?_⟩
  simp only [gstate, List.mem_cons, List.not_mem_nil, or_false] at hr
  rcases hr with rfl | rfl | rfl | rfl | rfl | rfl | rfl
  · refine ⟨⟨Nat.le_of_ble_eq_true rfl, Nat.le_of_ble_eq_true rfl, rfl, rfl⟩, ?_⟩
    show some _ = _
    rw [genc_obj (show gobj 6 = some _ from rfl), hA6]
    simp only [gfvals, List.mapIdx_cons, List.mapIdx_nil, gfval]
    simp (decide := true) only [if_true, if_false, Nat.zero_add, Nat.reduceAdd, hI 6 0 _ (by decide) (by decide), hJ6, Nat.add_zero, Nat.reduceSub, hA 7 (by decide) (by decide) (by decide), hA 8 (by decide) (by decide) (by decide), hA 9 (by decide) (by decide) (by decide), hA 10 (by decide) (by decide) (by decide), hA 11 (by decide) (by decide) (by decide), hA 12 (by decide) (by decide) (by decide)]
  · refine ⟨⟨Nat.le_of_ble_eq_true rfl, Nat.le_of_ble_eq_true rfl, rfl, rfl⟩, ?_⟩
    rw [genc_arr (show garr 7 = some _ from rfl), hA 7 (by decide) (by decide) (by decide)]
    simp only [garrE, hF 7 (by decide) (by decide)]
    rfl
  · refine ⟨⟨Nat.le_of_ble_eq_true rfl, Nat.le_of_ble_eq_true rfl, rfl, rfl⟩, ?_⟩
    rw [genc_arr (show garr 8 = some _ from rfl), hA 8 (by decide) (by decide) (by decide)]
    simp only [garrE, hF 8 (by decide) (by decide)]
    rfl
  · refine ⟨⟨Nat.le_of_ble_eq_true rfl, Nat.le_of_ble_eq_true rfl, rfl, rfl⟩, ?_⟩
    rw [genc_arr (show garr 9 = some _ from rfl), hA 9 (by decide) (by decide) (by decide)]
    simp only [garrE, hF 9 (by decide) (by decide)]
    rfl
  · refine ⟨⟨Nat.le_of_ble_eq_true rfl, Nat.le_of_ble_eq_true rfl, rfl, rfl⟩, ?_⟩
    rw [genc_arr (show garr 10 = some _ from rfl), hA 10 (by decide) (by decide) (by decide)]
    simp only [garrE, hG]
    rfl
  · refine ⟨⟨Nat.le_of_ble_eq_true rfl, Nat.le_of_ble_eq_true rfl, rfl, rfl⟩, ?_⟩
    rw [genc_arr (show garr 11 = some _ from rfl), hA 11 (by decide) (by decide) (by decide)]
    simp only [garrE, hF 11 (by decide) (by decide)]
    rfl
  · refine ⟨⟨Nat.le_of_ble_eq_true rfl, Nat.le_of_ble_eq_true rfl, rfl, rfl⟩, ?_⟩
    rw [genc_arr (show garr 12 = some _ from rfl), hA 12 (by decide) (by decide) (by decide)]
    simp only [garrE, hF 12 (by decide) (by decide)]
    rfl
theorem gids_new {B : gB} {m : Nat} (h3 : 3 ≤ m) (h12 : m ≤ 12) {r : gR} (h : r ∈ gids (gUB B m)) : r ∈ gids B ∨ r ∈ gstate m := by
  obtain ⟨h1, h2⟩ := List.mem_filter.mp h
  by_cases hm : r.2.1 = m
  · refine Or.inr ?_
    have key : (List.range 13).all (fun n => Nat.blt n 3 || gall.all (fun r => !(Nat.beq r.2.1 n) || (gstate n).contains r)) = true := by decide +kernel
    have k1 := List.all_eq_true.mp key m (List.mem_range.mpr (by omega))
    rw [show Nat.blt m 3 = false from Bool.eq_false_iff.mpr (fun z => by have := Nat.le_of_ble_eq_true z; omega), Bool.false_or] at k1
    have k2 := List.all_eq_true.mp k1 r h1
    rw [show Nat.beq r.2.1 m = true from by rw [hm]; exact Nat.beq_refl m] at k2
    exact List.contains_iff_mem.mp k2
  · refine Or.inl (List.mem_filter.mpr ⟨h1, ?_⟩)
    rw [gUB_ne hm] at h2
    exact h2
theorem gRep.new {E : gEn} {ad : gR → Nat} {I : gI} {J : gJ} {B : gB} {m q : Nat} {f : Nat → Nat} {H : Heap} (hP : va_P (gD E) vwCl (gws E ad I J B ++ gzw_6 E q f) H) (hD : va_D (gA E) (gws E ad I J B ++ gzw_6 E q f)) (hx : ∀ r : gR, r.1 ≤ 2 → ad r = gax E r) (hk : gBok B)
    (h3 : 3 ≤ m) (h12 : m ≤ 12) (hB : B m = false) : gRep E (gadN ad m q f) (gnwI I m) (gnwJ J m) (gUB B m) H := by
  -- each thing stands somewhere in the list
  have key : ∀ r ∈ gids (gUB B m), ∃ k, (gws E ad I J B ++ gzw_6 E q f)[k]? = some (gadN ad m q f r, genc (gca E) (gadN ad m q f) (gnwI I m) (gnwJ J m) (gUB B m) r) ∧ ((∃ k0, k = k0 ∧ (gids B)[k0]? = some r) ∨ (r.2.1 = m ∧ r.2.2 = 0 ∧ 6 ≤ r.1 ∧ k = (gids B).length + (r.1 - 6))) := by
    intro r hr
    rcases gids_new h3 h12 hr with h | h
    · obtain ⟨k, hk1, hk2⟩ := gws_get (E := E) (ad := ad) (I := I) (J := J) h
      have hl : k < (gws E ad I J B).length := (List.getElem?_eq_some_iff.mp hk2).1
      refine ⟨k, ?_, Or.inl ⟨k, rfl, hk1⟩⟩
      rw [List.getElem?_append_left hl, hk2, gadN_n (gids_nm h h3 hB), genc_new h h3 h12 hB hk]
    · obtain ⟨k, rfl, ⟨a1, a2, a3, a4⟩, hk2⟩ := gzw_get (E := E) (ad := ad) (I := I) (J := J) (B := B) (q := q) (f := f) h
      refine ⟨(gids B).length + (r.1 - 6), ?_, Or.inr ⟨a3, a4, a1, rfl⟩⟩
      have hl : (gws E ad I J B).length = (gids B).length := by unfold gws; rw [List.length_map]
      rw [List.getElem?_append_right (by omega), hl, show (gids B).length + (r.1 - 6) - (gids B).length = r.1 - 6 by omega]
      exact hk2
  refine ⟨fun k z hz => ?_, ⟨fun i j x z hi hj hxz => ?_, fun k z hz => ?_⟩, fun r hr => (gadN_k (Or.inr (by omega))).trans (hx r hr), fun n hn hn2 hB2 => ?_⟩
  · unfold gws at hz
    rw [List.getElem?_map] at hz
    cases hr : (gids (gUB B m))[k]? with
    | none => rw [hr] at hz; cases hz
    | some r =>
      rw [hr] at hz
      cases hz
      obtain ⟨k2, h1, -⟩ := key r (List.mem_of_getElem? hr)
      exact hP k2 _ h1
  · unfold gws at hi hj
    rw [List.getElem?_map] at hi hj
    cases hr : (gids (gUB B m))[i]? with
    | none => rw [hr] at hi; cases hi
    | some r =>
      cases hr2 : (gids (gUB B m))[j]? with
      | none => rw [hr2] at hj; cases hj
      | some r2 =>
        rw [hr] at hi
        rw [hr2] at hj
        cases hi
        cases hj
        obtain ⟨k1, a1, a2⟩ := key r (List.mem_of_getElem? hr)
        obtain ⟨k2, b1, b2⟩ := key r2 (List.mem_of_getElem? hr2)
        have e := hD.1 k1 k2 _ _ a1 b1 hxz
        have hrr : r = r2 := by
          rcases a2 with ⟨k0, rfl, a3⟩ | ⟨a3, a4, a5, a6⟩
          · rcases b2 with ⟨k0, rfl, b3⟩ | ⟨b3, b4, b5, b6⟩
            · subst e
              exact Option.some.inj (a3.symm.trans b3)
            · have := (List.getElem?_eq_some_iff.mp a3).1
              omega
          · rcases b2 with ⟨k0, rfl, b3⟩ | ⟨b3, b4, b5, b6⟩
            · have := (List.getElem?_eq_some_iff.mp b3).1
              omega
            · obtain ⟨r1, r3, r4⟩ := r
              obtain ⟨s1, s3, s4⟩ := r2
              simp only at a3 a4 a5 a6 b3 b4 b5 b6
              have : r1 = s1 := by omega
              subst this
              rw [a3, a4, b3, b4]
        subst hrr
        obtain ⟨g1, e1⟩ := List.getElem?_eq_some_iff.mp hr
        obtain ⟨g2, e2⟩ := List.getElem?_eq_some_iff.mp hr2
        have hp := List.pairwise_iff_getElem.mp (gids_nodup (gUB B m))
        rcases Nat.lt_trichotomy i j with h | h | h
        · exact absurd (e1.trans e2.symm) (hp i j g1 g2 h)
        · exact h
        · exact absurd (e2.trans e1.symm) (hp j i g2 g1 h)
  · unfold gws at hz
    rw [List.getElem?_map] at hz
    cases hr : (gids (gUB B m))[k]? with
    | none => rw [hr] at hz; cases hz
    | some r =>
      rw [hr] at hz
      cases hz
      obtain ⟨k2, h1, -⟩ := key r (List.mem_of_getElem? hr)
      exact hD.2 k2 _ h1
  · rw [gUB_ne (by omega)] at hB2
    by_cases e : n = m
    · subst e
      exact if_pos rfl
    · rw [gUB_ne e]
      exact hk n hn hn2 hB2
theorem gGood_code {y : MethodName} {b : ByteArray} {ml : Nat} {r : Option FieldType} (hc : Cond.code y b ml r ∈ gBig) : GoodIn gBig (Cond.code y b ml r :: gBig) := by
  intro u hu
  rcases List.mem_cons.mp hu with rfl | hu
  · exact ⟨hc, gBig_good hc⟩
  · exact ⟨hu, gBig_good hu⟩
theorem gwi_12 : (Cond.classLink RX2 9 RX6) ∈ gBig := gBig_of (gpc1 (List.mem_of_getElem? (i := 166) rfl)) rfl
theorem gwi_13 : (Cond.classLink RX7 16 RX6) ∈ gBig := gBig_of (gpc1 (List.mem_of_getElem? (i := 158) rfl)) rfl
theorem gwi_14 : (Cond.instantiable RX6 11) ∈ gBig := gBig_of (gpc1 (List.mem_of_getElem? (i := 44) rfl)) rfl
theorem gwi_15 : (Cond.code yX6_init cX6_init 1 none) ∈ gBig := gBig_of (gpc1 (List.mem_of_getElem? (i := 47) rfl)) rfl
theorem gwi_16 : (Cond.instanceMethod yX6_init) ∈ gBig := gBig_of (gpc1 (List.mem_of_getElem? (i := 46) rfl)) rfl
theorem va_nd_of : ∀ {l : List Nat}, l.Nodup → va_nd l = true
  | [], _ => rfl
  | a :: l, h => by
    obtain ⟨h1, h2⟩ := List.nodup_cons.mp h
    show (decide (a ∉ l) && va_nd l) = true
    rw [va_nd_of h2, Bool.and_true]
    exact decide_eq_true h1
theorem gidx_r {α : Type} (l : List α) (x : List α) : (List.range l.length).map (fun i => (l ++ x)[i]?) = l.map some := by
  apply List.ext_getElem?
  intro i
  rw [List.getElem?_map, List.getElem?_map]
  by_cases h : i < l.length
  · rw [List.getElem?_range h]
    show some ((l ++ x)[i]?) = _
    rw [List.getElem?_append_left h, List.getElem?_eq_getElem h]
    rfl
  · rw [List.getElem?_eq_none (by simpa using Nat.le_of_not_lt h), List.getElem?_eq_none (Nat.le_of_not_lt h)]
    rfl
set_option maxHeartbeats 4000000 in
theorem gNew_ok (E : gEn) : gNewOK E := by
  intro y pc ls st I J B c w Q X ik ic m hik hcl2 d0 d3 d4 hfr3 hlo40 hst hm hroom hk hc hw p e s mm args below meth cc ad0 Bs hC hT H locs LS ad hS
  obtain ⟨ux, ub, ur, uml, hown, hts, ulk, hE⟩ := id hC
  obtain ⟨h3, h12, hB⟩ := hm
  have hlnk : Cond.classLink (hy y).cls ik RX6 ∈ gBig ∧ Cond.methodLinkNest (hy y).cls ic yX6_init "ToeplitzLab" ∈ gNst := by
    rw [hcl2]
    rcases hik with h | h
    · have h1 : hcl y = 2 := congrArg Prod.fst h
      have h2 : ik = 9 := congrArg (fun z : Nat × Nat × Nat => z.2.1) h
      have h4 : ic = 21 := congrArg (fun z : Nat × Nat × Nat => z.2.2) h
      rw [h1, h2, h4]
      exact ⟨gwi_12, by unfold gNst; exact List.mem_of_getElem? (i := 5) rfl⟩
    · have h1 : hcl y = 7 := congrArg Prod.fst h
      have h2 : ik = 16 := congrArg (fun z : Nat × Nat × Nat => z.2.1) h
      have h4 : ic = 18 := congrArg (fun z : Nat × Nat × Nat => z.2.2) h
      rw [h1, h2, h4]
      exact ⟨gwi_13, by unfold gNst; exact List.mem_of_getElem? (i := 6) rfl⟩
  have hA : ∀ q : Nat, s.heap.size ≤ q → gA E q := fun q h => ⟨Nat.le_trans hE.2.2.2.2.2.2.2.2.2.2.2.2.2.2.2.2.2.1 h, fun h2 => absurd (hE.2.2.2.2.2.2.2.2.2.2.2.2.2.2.2.2.2.2 q h2) (by omega)⟩
  have hini : Cond.initialized RX6 ∈ gBig := gIn_ok RX6 (by simp [gIn, gIn_1, RX6])
  refine va_new (ci := 6) (fs := [.int 0, .int 0, .null, .null, .null, .int 0, .long 0, .null, .null, .int 0, .null]) (C := RX6) (T := TX6) (N := 11) ux ub hts (fun w hw => gBig_of (guw_6 w hw) (gug_6 w hw)) tyX6 tyX6_ok hown (hts _ hlnk.1) (hts _ gwi_14) (hts _ hini) hE.1 hS.1.1 hS.1.2.1 hS.2.1 hA rfl (fun j hj => by rcases (show j = 0 ∨ j = 1 ∨ j = 2 ∨ j = 3 ∨ j = 4 ∨ j = 5 ∨ j = 6 ∨ j = 7 ∨ j = 8 ∨ j = 9 ∨ j = 10 by omega) with rfl | rfl | rfl | rfl | rfl | rfl | rfl | rfl | rfl | rfl | rfl <;> rfl) (by show c + 1 ≤ hmc y; omega) (by show w + 11 ≤ hms y; omega) d0 (fun q H1 hP hD hS1 => ?_)
  refine lv_dup ux ub d3 rfl ?_
  have hP1 : va_P (gD E) vwCl [(q, .inr (6, [.int 0, .int 0, .null, .null, .null, .int 0, .long 0, .null, .null, .int 0, .null]))] H1 := hP.sub [(gws E ad I J B).length] (by simp)
  have hFc := va_free (wc := [(q, .inr (6, [.int 0, .int 0, .null, .null, .null, .int 0, .long 0, .null, .null, .int 0, .null]))]) hD hS1 hA [(gws E ad I J B).length] (by simp)
  have cw : va_CN (hrm y) s args (hy y).cls ic yX6_init "ToeplitzLab" cX6_init 1 none (Cond.code yX6_init cX6_init 1 none :: gBig) ({ frames := 1, cells := 6, slots := 131, locals := 12 }) 6 131 0 :=
    va_cnB 0 hts (gGood_code gwi_15) rfl rfl rfl (hE.2.1 _ hlnk.2) (hts _ hini) (by decide +kernel) ⟨by show 1 + 1 ≤ hfr y; omega, by show 8 + (1 + 11) + 12 ≤ hlo y; omega⟩
  have hvs : ((.ref q :: st.map (gcv ad)).map fun v => v.category).sum ≤ 8 := by
    rw [List.map_cons, List.sum_cons, gsum_cv]
    show 1 + gsum st ≤ 8
    omega
  refine va_callv (va_runIN (Ts := gBig) (As := []) (rest := .ref q :: st.map (gcv ad)) ⟨ux, ub, uml, hown, hts⟩ (gi_6 (gl E) E q H1.size) ⟨cw, rfl, hts _ gwi_16⟩ ⟨fun a U g mk z => by obtain ⟨q0, q1, qP, qK⟩ := z; exact ⟨q0, q1, qP, va_K.moved (u := U) (U := U.calling g mk a) (Vm.Alike.refl U.vm) qK⟩, fun U hU hW => ⟨rfl, by rw [hU], by rw [hU]; exact hP1, va_K.moved hW.alike hE.1⟩⟩ rfl rfl hS.2.2.1.1 rfl (lv_room hvs) d4 ⟨by show c + 1 + 6 ≤ hmc y; omega, by show w + 11 + 131 ≤ hms y; omega⟩) hS1 (fun q _ h => hFc q h) hFc (fun f t H2 locs2 ht hvm hw2 hB2 hz2 hk2 hS2 => ?_)
  obtain ⟨hP3, hD3⟩ := hB2
  rw [ht] at hP3
  obtain ⟨hP4, hD4⟩ := va_join (wr := gws E ad I J B) hP hD [(gws E ad I J B).length] (List.range (gws E ad I J B).length) (by simp) (gidx_r _ _) (va_nd_of List.nodup_range) (by
    intro i hi hi2
    rw [List.mem_singleton.mp hi2] at hi
    exact absurd (List.mem_range.mp hi) (by omega)) hk2 hFc hP3 hD3
  have hR := gRep.new hP4 hD4 hS.1.2.2.1 hS.1.2.2.2 h3 h12 hB
  have hle : gLe B (gUB B m) := fun n hn => by
    unfold gUB
    split
    · rfl
    · exact hn
  have hvl : ∀ r, gVl B r → gVl (gUB B m) r ∧ gadN ad m q f r = ad r := by
    intro r hr
    rcases hr with rfl | hr | hr | hr
    · exact ⟨Or.inl rfl, gadN_k (Or.inr (by decide))⟩
    · exact ⟨Or.inr (Or.inl hr), gadN_k (Or.inr (by omega))⟩
    · exact ⟨Or.inr (Or.inr (Or.inl hr)), gadN_k (Or.inr (by omega))⟩
    · exact ⟨Or.inr (Or.inr (Or.inr (gids_le hle hr))), gadN_n (gids_nm hr h3 hB)⟩
  have hvv : ∀ v : gV, gVv B v → gVv (gUB B m) v ∧ gcv (gadN ad m q f) v = gcv ad v := by
    intro v hv
    cases v with
    | inl z => exact ⟨trivial, rfl⟩
    | inr r => exact ⟨(hvl r hv).1, congrArg Value.ref (hvl r hv).2⟩
  have e1 : st.map (gcv ad) = st.map (gcv (gadN ad m q f)) := List.map_congr_left fun v hv => ((hvv v (hS.2.2.2.2.2.2 v hv)).2).symm
  have e2 : ls.map (gcp ad) = ls.map (gcp (gadN ad m q f)) := List.map_congr_left fun v hv => by
    unfold gcp
    rw [(hvv v.2 (hS.2.2.2.2.2.1 v hv)).2]
  have e3 : gadN ad m q f (6, m, 0) = q := by
    unfold gadN
    rw [if_pos ⟨Nat.le_of_ble_eq_true rfl, Nat.le_of_ble_eq_true rfl, rfl, rfl⟩, if_pos rfl]
  have kk := hk (by omega) (by omega) p e s mm args below meth cc ad0 Bs hC hT H2 locs2 LS (gadN ad m q f) ⟨hR, hS2, by rw [← e2]; exact hS.2.2.1, fun r hr => ?_, fun n hn => hle n (hS.2.2.2.2.1 n hn), fun z hz => (hvv z.2 (hS.2.2.2.2.2.1 z hz)).1, fun v hv => ?_⟩
  · rw [List.map_cons] at kk
    rw [← e1, show gcv (gadN ad m q f) (.inr (6, m, 0)) = .ref q from congrArg Value.ref e3] at kk
    exact kk
  · have h1 : gVl B r := by
      rcases hr with h | h | h | h
      · exact Or.inl h
      · exact Or.inr (Or.inl h)
      · exact Or.inr (Or.inr (Or.inl h))
      · exact Or.inr (Or.inr (Or.inr (gids_le hS.2.2.2.2.1 h)))
    rw [(hvl r h1).2]
    exact hS.2.2.2.1 r hr
  · rcases List.mem_cons.mp hv with rfl | hv
    · exact Or.inr (Or.inr (Or.inr (gids_st h12 (if_pos rfl))))
    · exact (hvv v (hS.2.2.2.2.2.2 v hv)).1
