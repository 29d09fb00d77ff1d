/-! ===== a new row of numbers ===== -/
def gadA (ad : gR → Nat) (m q : Nat) : gR → Nat := fun r => if 3 ≤ r.1 ∧ r.2.1 = m then q else ad r
theorem gadA_n {ad : gR → Nat} {m q : Nat} {r : gR} (h : r.2.1 ≠ m) : gadA ad m q r = ad r := if_neg (fun z => h z.2)
theorem gadA_k {ad : gR → Nat} {m q : Nat} {r : gR} (h : r.1 ≤ 2) : gadA ad m q r = ad r := if_neg (fun z => by omega)
theorem gall_tmp : ∀ r ∈ gall, 100 ≤ r.2.1 → r = (if r.2.1 < 400 then 53 else 54, r.2.1, 0) := by decide +kernel
theorem gidsA_nm {B : gB} {m : Nat} {r : gR} (h : r ∈ gids B) (h3 : 100 ≤ m) (hB : B m = false) : r.2.1 ≠ m := by
  intro e
  have h2 := (List.mem_filter.mp h).2
  rw [e, hB, Bool.or_false] at h2
  have := Nat.le_of_ble_eq_true h2
  omega
theorem garr_6A {k n rk : Nat} (h : garr k = some (6, n, rk)) : 3 ≤ rk ∧ rk + n ≤ 13 := gall_sts k n rk h
theorem genc_newA {ca : Nat → ClassId} {ad : gR → Nat} {I : gI} {J : gJ} {B : gB} {k m q : Nat} {r : gR} (hr : r ∈ gids B) (h3 : 100 ≤ m) (hB : B m = false) :
    genc ca (gadA ad m q) (gnaI I k m) J (gUB B m) r = genc ca ad I J B r := by
  have hn := gidsA_nm hr h3 hB
  have hI : ∀ c j, gnaI I k m r.1 r.2.1 c j = I r.1 r.2.1 c j := fun c j => if_neg (fun z => hn z.2)
  cases ho : gobj r.1 with
  | some z =>
    obtain ⟨ci, fl⟩ := z
    rw [genc_obj ho, genc_obj ho]
    congr 2
    apply List.ext_getElem?
    intro b
    cases hf : fl[b]? with
    | none =>
      rw [List.getElem?_eq_none (by rw [gfvals_len]; exact List.getElem?_eq_none_iff.mp hf), List.getElem?_eq_none (by rw [gfvals_len]; exact List.getElem?_eq_none_iff.mp hf)]
    | some z =>
      rw [gfvals_get hf, gfvals_get hf]
      congr 1
      unfold gfval
      rw [hI]
      split
      · rfl
      · split
        · rfl
        · rename_i h100
          by_cases h103 : 103 ≤ z.1
          · rw [gadA_n (gidsA_nm (gids_ref hr ho (List.mem_of_getElem? hf) h103) h3 hB)]
          · rw [gadA_k (show z.1 - 100 ≤ 2 by omega)]
  | none =>
    cases ha : garr r.1 with
    | none =>
      unfold genc
      rw [ho, ha]
    | some z =>
      obtain ⟨t, n, rk⟩ := z
      rw [genc_arr ha, genc_arr ha]
      have hI2 : gnaI I k m r.1 r.2.1 r.2.2 = I r.1 r.2.1 r.2.2 := funext fun j => hI _ j
      unfold garrE
      rw [hI2]
      split
      · rfl
      · rfl
      · rfl
      · rfl
      · rfl
      · congr 7
        funext j
        rw [gadA_n (show ((rk, r.2.1, j) : gR).2.1 ≠ m from hn)]
      · rename_i g0 g1 g2 g3 g4 g5
        congr 7
        funext j
        have h6 : t = 6 := by
          unfold garr at ha
          split at ha <;> first | (cases ha; done) | (cases ha; first | rfl | exact absurd rfl g0 | exact absurd rfl g1 | exact absurd rfl g2 | exact absurd rfl g3 | exact absurd rfl g4 | exact absurd rfl g5)
        subst h6
        obtain ⟨b1, b2⟩ := garr_6A ha
        by_cases hj : j < n
        · rw [show gUB B m (rk + j + 17) = B (rk + j + 17) from if_neg (by omega), gadA_n (show ((6, rk + j, 0) : gR).2.1 ≠ m by show rk + j ≠ m; omega)]
        · have e : Nat.blt j n = false := by
            cases h : Nat.blt j n with
            | false => rfl
            | true => exact absurd (Nat.le_of_ble_eq_true h) (by omega)
          rw [e]; rfl
theorem gids_newA {B : gB} {k m : Nat} (h3 : 100 ≤ m) (hg : (k, m, 0) ∈ gall) {r : gR} (h : r ∈ gids (gUB B m)) : r ∈ gids B ∨ r = (k, m, 0) := by
  obtain ⟨h1, h2⟩ := List.mem_filter.mp h
  by_cases hm : r.2.1 = m
  · refine Or.inr ?_
    have e1 := gall_tmp r h1 (by omega)
    have e2 := gall_tmp _ hg h3
    rw [hm] at e1
    exact e1.trans e2.symm
  · refine Or.inl (List.mem_filter.mpr ⟨h1, ?_⟩)
    rw [show gUB B m r.2.1 = B r.2.1 from if_neg hm] at h2
    exact h2
theorem gids_inA {B : gB} {k m : Nat} (hg : (k, m, 0) ∈ gall) : (k, m, 0) ∈ gids (gUB B m) := List.mem_filter.mpr ⟨hg, by show (Nat.blt m 3 || gUB B m m) = true; rw [show gUB B m m = true from if_pos rfl, Bool.or_true]⟩
theorem gRep.newA {E : gEn} {ad : gR → Nat} {I : gI} {J : gJ} {B : gB} {k m q n : Nat} {H : Heap} (hP : va_P (gD E) vwCl (gws E ad I J B ++ [(q, .inl (gca E 0, n, .inl (fun _ => 0)))]) H) (hD : va_D (gA E) (gws E ad I J B ++ [(q, .inl (gca E 0, n, .inl (fun _ => 0)))])) (hx : ∀ r : gR, r.1 ≤ 2 → ad r = gax E r) (hk : gBok B)
    (ha : garr k = some (0, n, 0)) (h3 : 100 ≤ m) (hg : (k, m, 0) ∈ gall) (hB : B m = false) : gRep E (gadA ad m q) (gnaI I k m) J (gUB B m) H := by
  have hk3 : 3 ≤ k := garr_k3 ha
  have hl : (gws E ad I J B).length = (gids B).length := by unfold gws; rw [List.length_map]
  have key : ∀ r ∈ gids (gUB B m), ∃ i, (gws E ad I J B ++ [(q, .inl (gca E 0, n, .inl (fun _ => 0)))])[i]? = some (gadA ad m q r, genc (gca E) (gadA ad m q) (gnaI I k m) J (gUB B m) r) ∧ ((∃ k0, i = k0 ∧ (gids B)[k0]? = some r) ∨ (r = (k, m, 0) ∧ i = (gids B).length)) := by
    intro r hr
    rcases gids_newA h3 hg hr with h | h
    · obtain ⟨i, hk1, hk2⟩ := gws_get (E := E) (ad := ad) (I := I) (J := J) h
      have hl2 : i < (gws E ad I J B).length := (List.getElem?_eq_some_iff.mp hk2).1
      refine ⟨i, ?_, Or.inl ⟨i, rfl, hk1⟩⟩
      rw [List.getElem?_append_left hl2, hk2, gadA_n (gidsA_nm h h3 hB), genc_newA h h3 hB]
    · subst h
      refine ⟨(gids B).length, ?_, Or.inr ⟨rfl, rfl⟩⟩
      rw [List.getElem?_append_right (by omega), hl, Nat.sub_self, genc_arr ha]
      have e1 : gadA ad m q (k, m, 0) = q := if_pos ⟨hk3, rfl⟩
      have e2 : gnaI I k m k m 0 = fun _ => 0 := funext fun j => if_pos ⟨rfl, rfl⟩
      rw [e1]
      unfold garrE
      show some _ = some _
      rw [e2]
      rfl
  refine ⟨fun i z hz => ?_, ⟨fun i j x z hi hj hxz => ?_, fun i z hz => ?_⟩, fun r hr => (gadA_k hr).trans (hx r hr), fun a ha1 ha2 hB2 => ?_⟩
  · unfold gws at hz
    rw [List.getElem?_map] at hz
    cases hr : (gids (gUB B m))[i]? with
    | none => rw [hr] at hz; cases hz
    | some r =>
      rw [hr] at hz
      cases hz
      obtain ⟨k2, h1, -⟩ := key r (List.mem_of_getElem? hr)
      exact hP k2 _ h1
  · unfold gws at hi hj
    rw [List.getElem?_map] at hi hj
    cases hr : (gids (gUB B m))[i]? with
    | none => rw [hr] at hi; cases hi
    | some r =>
      cases hr2 : (gids (gUB B m))[j]? with
      | none => rw [hr2] at hj; cases hj
      | some r2 =>
        rw [hr] at hi
        rw [hr2] at hj
        cases hi
        cases hj
        obtain ⟨k1, a1, a2⟩ := key r (List.mem_of_getElem? hr)
        obtain ⟨k2, b1, b2⟩ := key r2 (List.mem_of_getElem? hr2)
        have e := hD.1 k1 k2 _ _ a1 b1 hxz
        have hrr : r = r2 := by
          rcases a2 with ⟨k0, rfl, a3⟩ | ⟨a3, a4⟩
          · rcases b2 with ⟨k0, rfl, b3⟩ | ⟨b3, b4⟩
            · subst e
              exact Option.some.inj (a3.symm.trans b3)
            · have := (List.getElem?_eq_some_iff.mp a3).1
              omega
          · rcases b2 with ⟨k0, rfl, b3⟩ | ⟨b3, b4⟩
            · have := (List.getElem?_eq_some_iff.mp b3).1
              omega
            · exact a3.trans b3.symm
        subst hrr
        obtain ⟨g1, e1⟩ := List.getElem?_eq_some_iff.mp hr
        obtain ⟨g2, e2⟩ := List.getElem?_eq_some_iff.mp hr2
        have hp := List.pairwise_iff_getElem.mp (gids_nodup (gUB B m))
        rcases Nat.lt_trichotomy i j with h | h | h
        · exact absurd (e1.trans e2.symm) (hp i j g1 g2 h)
        · exact h
        · exact absurd (e2.trans e1.symm) (hp j i g2 g1 h)
  · unfold gws at hz
    rw [List.getElem?_map] at hz
    cases hr : (gids (gUB B m))[i]? with
    | none => rw [hr] at hz; cases hz
    | some r =>
      rw [hr] at hz
      cases hz
      obtain ⟨k2, h1, -⟩ := key r (List.mem_of_getElem? hr)
      exact hD.2 k2 _ h1
  · rw [show gUB B m (a + 17) = B (a + 17) from if_neg (by omega)] at hB2
    rw [show gUB B m a = B a from if_neg (by omega)]
    exact hk a ha1 ha2 hB2
theorem gca_eq {E : gEn} {cA ca : ClassId} {ty : FieldType} {s : State} (hK : va_K (gD E) vwCl (gtys E ++ [(cA, ty)]) s) (i : Nat) (hi : (gtys E)[i]? = some (ca, ty)) (ht : (match ty with | .object _ => false | _ => true) = true) : cA = ca := by
  have h1 := (hK.2 7 (cA, ty) rfl).2
  have h2 := (hK.2 i (ca, ty) (by rw [List.getElem?_append_left (List.getElem?_eq_some_iff.mp hi).1]; exact hi)).2
  cases ty <;> first | exact Option.some.inj (h1.symm.trans h2) | cases ht
section GH
variable {E : gEn} {y pc : Nat} {ls : List (Nat × gV)} {r : List gV} {I : gI} {J : gJ} {B : gB} {c w : Nat} {Q : gQt} {X : gXt}
theorem gp_newarray {k m n : Nat} {x : Int32} (hd : decode (hb y) pc = .ok (.newarray .int, 2)) (ha : garr k = some (0, n, 0)) (hxn : x = Int32.ofNat n) (hn : n ≤ 1000) (h3 : 100 ≤ m) (hg : (k, m, 0) ∈ gall) (hB : B m = false) (hroom : c + 1 ≤ hmc y ∧ w + n ≤ hms y)
    (kk : gG E y (pc + 2) ls (.inr (k, m, 0) :: r) (gnaI I k m) J (gUB B m) (c + 1) (w + n) Q X) : gG E y pc ls (.inl (.int x) :: r) I J B c w Q X := by
  intro hc hw p e s mm args below meth cc ad0 Bs hC hT H locs LS ad hS
  obtain ⟨ux, ub, ur, uml, hown, hts, ulk, hE⟩ := id hC
  have hA : ∀ q : Nat, s.heap.size ≤ q → gA E q := fun q h => ⟨Nat.le_trans hE.2.2.2.2.2.2.2.2.2.2.2.2.2.2.2.2.2.1 h, fun h2 => absurd (hE.2.2.2.2.2.2.2.2.2.2.2.2.2.2.2.2.2.2 q h2) (by omega)⟩
  have hdr := gvs_d hS.vs
  have hnn : ¬ x < 0 ∧ x.toNatClampNeg = n := by
    subst hxn
    have e1 : (Int32.ofNat n).toInt = (n : Int) := Int32.toInt_ofNat_of_lt (by omega)
    refine ⟨?_, ?_⟩
    · rw [Int32.lt_iff_toInt_lt, e1]
      show ¬ (n : Int) < 0
      omega
    · show (Int32.ofNat n).toInt.toNat = n
      rw [e1]
      exact Int.toNat_natCast n
  refine va_newa (atype := .int) (ty := .int) (a0 := (n, .inl (fun _ => 0))) (N' := n) ux ub (hts _ gw_ari) rfl hE.1 hS.1.1 hS.1.2.1 hS.2.1 hA (fun _ => rfl) hnn.1 hnn.2 (by show n * 4 ≤ 536870912; omega) hroom.1 hroom.2 hd (fun q cA H1 hK2 hP hD hS1 => ?_)
  have hcA : cA = gca E 0 := gca_eq hK2 0 rfl rfl
  subst hcA
  have hR := gRep.newA hP hD hS.1.2.2.1 hS.1.2.2.2 ha h3 hg hB
  have hle : gLe B (gUB B m) := gLe_UB
  have hvl : ∀ r, gVl B r → gVl (gUB B m) r ∧ gadA ad m q r = ad r := by
    intro r hr
    rcases hr with rfl | hr | hr | hr
    · exact ⟨Or.inl rfl, gadA_k (by decide)⟩
    · exact ⟨Or.inr (Or.inl hr), gadA_k (by omega)⟩
    · exact ⟨Or.inr (Or.inr (Or.inl hr)), gadA_k (by omega)⟩
    · exact ⟨Or.inr (Or.inr (Or.inr (gids_le hle hr))), gadA_n (gidsA_nm hr h3 hB)⟩
  have hvv : ∀ v : gV, gVv B v → gVv (gUB B m) v ∧ gcv (gadA ad m q) v = gcv ad v := by
    intro v hv
    cases v with
    | inl z => exact ⟨trivial, rfl⟩
    | inr r => exact ⟨(hvl r hv).1, congrArg Value.ref (hvl r hv).2⟩
  have e1 : r.map (gcv ad) = r.map (gcv (gadA ad m q)) := List.map_congr_left fun v hv => ((hvv v (hdr v hv)).2).symm
  have e2 : ls.map (gcp ad) = ls.map (gcp (gadA ad m q)) := List.map_congr_left fun v hv => by
    unfold gcp
    rw [(hvv v.2 (hS.2.2.2.2.2.1 v hv)).2]
  have e3 : gadA ad m q (k, m, 0) = q := if_pos ⟨garr_k3 ha, rfl⟩
  have k2 := kk (by omega) (by omega) p e s mm args below meth cc ad0 Bs hC hT H1 locs LS (gadA ad m q) ⟨hR, hS1, by rw [← e2]; exact hS.2.2.1, fun r hr => ?_, fun n hn => hle n (hS.2.2.2.2.1 n hn), fun z hz => (hvv z.2 (hS.2.2.2.2.2.1 z hz)).1, fun v hv => ?_⟩
  · rw [List.map_cons] at k2
    rw [e1]
    rw [show gcv (gadA ad m q) (.inr (k, m, 0)) = .ref q from congrArg Value.ref e3] at k2
    exact k2
  · rw [(hvl r (gVl_le hS.2.2.2.2.1 hr)).2]
    exact hS.2.2.2.1 r hr
  · rcases List.mem_cons.mp hv with rfl | hv
    · exact Or.inr (Or.inr (Or.inr (gids_inA hg)))
    · exact (hvv v (hdr v hv)).1
end GH
