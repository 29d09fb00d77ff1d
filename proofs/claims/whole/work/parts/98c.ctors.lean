/-! ===== the other constructors (by wip/whole/kinit2.py) ===== -/
theorem gca_eqO {E : gEn} {cA : ClassId} {s : State} (hK : va_K (gD E) vwCl (gtys E ++ [(cA, .object "ToeplitzLab$State")]) s) : cA = gca E 6 := by
  obtain ⟨-, -, -, -, -, h1⟩ := (hK.2 7 (cA, .object "ToeplitzLab$State") rfl).2
  obtain ⟨-, -, -, -, -, h2⟩ := (hK.2 6 (gca E 6, .object "ToeplitzLab$State") rfl).2
  exact Option.some.inj (h1.symm.trans h2)
def gNs2 : List Cond := [.methodLinkNest "ToeplitzLab" 9 yX3_init "ToeplitzLab", .methodLinkNest "ToeplitzLab$Input" 17 yX6_init "ToeplitzLab", .methodLinkNest "ToeplitzLab" 18 yX6_init "ToeplitzLab", .methodLinkNest "ToeplitzLab" 28 yX2_init "ToeplitzLab", .methodLinkNest "ToeplitzLab" 43 yX1_init "ToeplitzLab", .methodLinkNest "ToeplitzLab" 50 yX5_init "ToeplitzLab", .methodLinkNest "ToeplitzLab" 57 yX0_init "ToeplitzLab", .methodLinkNest "ToeplitzLab" 64 yX4_init "ToeplitzLab", .methodLinkNest "ToeplitzLab$Lifter" 11 yX1_init "ToeplitzLab"]
def gAr (U : State) : Prop := (Cond.arrayOver (.array .int)).before #[] U = true
theorem gAr_spec {s : State} (h : gAr s) : ∃ comp c k, s.vm.findClass (FieldType.array .int).toString = some comp ∧ (s.vm.classes.findIdx? fun (x : Class) => match x.kind with | .array component _ => component == comp | _ => false) = some c ∧ s.vm.classes[c]? = some k ∧ k.kind = .array comp (.array .int) ∧ s.vm.findClass ("[" ++ (FieldType.array .int).toString) = some c := by
  unfold gAr Cond.before at h
  simp only [Cond.holds, Cond.value, beq_iff_eq] at h
  cases hc : s.vm.findClass (FieldType.array .int).toString with
  | none => simp [hc] at h
  | some comp =>
    simp only [hc, Option.bind_some, Option.bind_eq_some_iff, Option.map_eq_some_iff] at h
    obtain ⟨c, hi, k, hk, hb⟩ := h
    obtain ⟨hlt, hp, -⟩ := Array.findIdx?_eq_some_iff_getElem.mp hi
    have hkk : s.vm.classes[c] = k := (Array.getElem?_eq_some_iff.mp hk).2
    rw [hkk] at hp
    cases hkind : k.kind with
    | array component ty =>
      rw [hkind] at hb hp
      simp at hb hp
      exact ⟨comp, c, k, rfl, hi, hk, by rw [hkind, hp, hb.1], hb.2⟩
    | _ => rw [hkind] at hb; simp at hb
theorem gAr.moved {u U : State} (hvm : u.vm.Alike U.vm) (h : gAr u) : gAr U := by
  obtain ⟨comp, c, k, h1, h2, h3, h4, h5⟩ := gAr_spec h
  obtain ⟨k', hk', he⟩ := hvm.2.2 _ _ h3
  have hi : (U.vm.classes.findIdx? fun (x : Class) => match x.kind with | .array component _ => component == comp | _ => false) = some c := by
    rw [← va_idx_bare]
    first | rw [hvm.bare_eq] | rw [← hvm.bare_eq]
    rw [va_idx_bare]
    exact h2
  have hkind : k'.kind = .array comp (.array .int) := by rw [he]; exact h4
  have f1 : U.vm.findClass (FieldType.array .int).toString = some comp := by rw [hvm.findClass]; exact h1
  have f2 : U.vm.findClass ("[" ++ (FieldType.array .int).toString) = some c := by rw [hvm.findClass]; exact h5
  unfold gAr Cond.before Cond.holds
  simp only [Cond.value]
  rw [f1, Option.bind_some]
  refine (congrArg (fun o : Option Nat => (o.bind (fun c => (U.vm.classes[c]?).map fun (k : Class) => match k.kind with | .array _ ty => decide (ty = FieldType.array .int) && decide (U.vm.findClass ("[" ++ (FieldType.array .int).toString) = some c) | _ => false) == some true)) hi).trans ?_
  simp [hk', hkind, f2]
/-- what the constructors need of the tables besides -/
def gNi (U : State) : Prop := (∀ w ∈ gNs2, va_Nw w U) ∧ va_AO "ToeplitzLab$State" U ∧ gAr U
theorem gNs2_is : ∀ w ∈ gNs2, ∃ a i x, w = .methodLinkNest a i x "ToeplitzLab" := by
  unfold gNs2
  simp only [List.forall_mem_cons, List.not_mem_nil, false_implies, implies_true, and_true]
  exact ⟨⟨_, _, _, rfl⟩, ⟨_, _, _, rfl⟩, ⟨_, _, _, rfl⟩, ⟨_, _, _, rfl⟩, ⟨_, _, _, rfl⟩, ⟨_, _, _, rfl⟩, ⟨_, _, _, rfl⟩, ⟨_, _, _, rfl⟩, ⟨_, _, _, rfl⟩⟩
theorem gNi.warm {s U : State} (h : gNi s) (hW : s.WarmedH U.vm) : gNi U := by
  refine ⟨fun w hw => ?_, va_AO.moved hW.alike h.2.1, gAr.moved hW.alike h.2.2⟩
  obtain ⟨a, i, x, rfl⟩ := gNs2_is w hw
  exact va_Nw.warmM hW (h.1 _ hw)
theorem gNi.same {s U : State} (h : gNi s) (hv : s.vm = U.vm) : gNi U := by
  refine ⟨fun w hw => ?_, va_AO.moved (hv ▸ Vm.Alike.refl _) h.2.1, gAr.moved (hv ▸ Vm.Alike.refl _) h.2.2⟩
  obtain ⟨a, i, x, rfl⟩ := gNs2_is w hw
  exact va_Nw.same rfl hv (h.1 _ hw)
def gmul (E : gEn) (q n k : Nat) : va_W := (q, .inl (gca E 5, n, .inr (.inr (.inr (.inr (fun i => some (q + 1 + i))))))) :: (List.range n).map (fun i => (q + 1 + i, .inl (gca E 0, k, .inl (fun _ => 0))))
theorem gi_bl1 {E : gEn} {W1 : va_W} {sz : Nat} {av : List Value} {a : Array Value} {U : State} {g : JFrame} {mk : MethodId} (z : va_Pc av (fun U => U.heap.size = sz ∧ va_P (gD E) vwCl W1 U.heap ∧ va_K (gD E) vwCl (gtys E) U) a U) : va_Pc av (fun U => U.heap.size = sz ∧ va_P (gD E) vwCl W1 U.heap ∧ va_K (gD E) vwCl (gtys E) U) a (U.calling g mk a) := by
  obtain ⟨q0, q1, qP, qK⟩ := z
  exact ⟨q0, q1, qP, va_K.moved (u := U) (U := U.calling g mk a) (Vm.Alike.refl U.vm) qK⟩
theorem gi_bl2 {E : gEn} {W1 : va_W} {sz : Nat} {av : List Value} {a : Array Value} {U : State} {g : JFrame} {mk : MethodId} (z : va_Pc av (fun U => U.heap.size = sz ∧ va_P (gD E) vwCl W1 U.heap ∧ va_K (gD E) vwCl (gtys E) U ∧ gNi U) a U) : va_Pc av (fun U => U.heap.size = sz ∧ va_P (gD E) vwCl W1 U.heap ∧ va_K (gD E) vwCl (gtys E) U ∧ gNi U) a (U.calling g mk a) := by
  obtain ⟨q0, q1, qP, qK, qN⟩ := z
  exact ⟨q0, q1, qP, va_K.moved (u := U) (U := U.calling g mk a) (Vm.Alike.refl U.vm) qK, qN.same rfl⟩
/-! a callee's world in the place of the new object's -/
theorem gj_P {D : va_G} {cl : List vw_C} {W0 : va_W} {x : Nat × va_E} {H : Heap} (hP : va_P D cl (W0 ++ [x]) H) : va_P D cl [x] H := hP.sub [W0.length] (by simp)
theorem gj_F {A0 : Nat → Prop} {W0 : va_W} {x : Nat × va_E} {H0 H : Heap} {locs : List Loc} (hD : va_D A0 (W0 ++ [x])) (hS : va_S A0 H0 H locs) (hA : ∀ q, H0.size ≤ q → A0 q) : ∀ q, va_A [x] H.size q → A0 q := va_free hD hS hA [W0.length] (by simp)
theorem gjoin {D : va_G} {cl : List vw_C} {A0 : Nat → Prop} {W0 w1 : va_W} {x : Nat × va_E} {H H1 : Heap} (hP : va_P D cl (W0 ++ [x]) H) (hD : va_D A0 (W0 ++ [x])) (hF : ∀ q, va_A [x] H.size q → A0 q) (hk : ∀ q : Nat, q < H.size → ¬ va_A [x] H.size q → H1[q]? = H[q]?) (hP1 : va_P D cl w1 H1) (hD1 : va_D (va_A [x] H.size) w1) : va_P D cl (W0 ++ w1) H1 ∧ va_D A0 (W0 ++ w1) :=
  va_join (wr := W0) hP hD [W0.length] (List.range W0.length) (by simp) (gidx_r _ _) (va_nd_of List.nodup_range) (by
    intro i hi hi2
    rw [List.mem_singleton.mp hi2] at hi
    exact absurd (List.mem_range.mp hi) (by omega)) hk hF hP1 hD1
theorem garrV_c {c : ClassId} {N : Nat} {f g : Nat → Value} (h : ∀ j, j < N → f j = g j) : arrV c N f = arrV c N g := by
  unfold arrV
  congr 2
  funext j
  exact h j.1 j.2
section MNA
variable {p : Program} {l : Launch} {e : Env} {R : Room} {s : State} {m : MethodId} {args : Array Value} {below : List Frame} {meth : Method} {c : Code} {H : Heap} {locs : List Loc} {cells slots : Nat} {Q : State → Prop}
variable {cc : ByteArray} {pc : Nat} {ls : Array Slot} {rest : List Value} {D : va_G} {cl : List vw_C} {A : Nat → Prop} {a : Nat} {tys : List (ClassId × FieldType)} {ws : va_W} {H0 : Heap}
theorem va_mnaQ (hexec : p.tables.exec = Jvm.exec) (hb : c.code = cc) {own : String} {index : Nat} {ty : FieldType} {cy : ClassId} (hown : s.vm.findClass own = some m.cls) (hclink : (Cond.classLink own index ("[" ++ (FieldType.array ty).toString)).before args s = true) (hover : (Cond.arrayOver (.array ty)).before #[] s = true) (harr : (Cond.arrayClass ty).before args s = true) (hcy : s.vm.findClass (FieldType.array ty).toString = some cy)
    (hK : va_K D cl tys s) (hP : va_P D cl ws H) (hD : va_D A ws) (hS : va_S A H0 H locs) (hA : ∀ q, H0.size ≤ q → A q) {n k : Int32} {N' K' : Nat} {z : vp_A} (hn : ¬ n < 0) (hk : ¬ k < 0) (hN : n.toNatClampNeg = N') (hM : k.toNatClampNeg = K')
    (hb1 : N' * 4 ≤ 536870912) (hb2 : K' * componentBytes ty ≤ 536870912) (hb3 : K' ≤ 536870912) (hdf : fits ty (defaultValue ty) = true) (hdd : (defaultValue ty).isDefault = true) (hcells : cells + (1 + N') ≤ R.cells) (hslots : slots + (N' + N' * K') ≤ R.slots) (hz : ∀ c : ClassId, Jvm.Free.Multi.innerC c K' (defaultValue ty) = vp_cell c z) (hdg : decode cc pc = .ok (.multianewarray index 2, 4))
    (kk : ∀ (q : Nat) (cA : ClassId) (H1 : Heap), va_K D cl (tys ++ [(cA, .array ty)]) s →
      va_P D cl (ws ++ (q, .inl (cA, N', .inr (.inr (.inr (.inr (fun i => some (q + 1 + i))))))) :: (List.range N').map (fun i => (q + 1 + i, .inl (cy, z)))) H1 → va_D A (ws ++ (q, .inl (cA, N', .inr (.inr (.inr (.inr (fun i => some (q + 1 + i))))))) :: (List.range N').map (fun i => (q + 1 + i, .inl (cy, z)))) → va_S A H0 H1 locs →
      W p l e R s m args below meth c H1 locs (cells + (1 + N')) (slots + (N' + N' * K')) Q (F0 m (pc + 4) ls (.ref q :: rest))) : W p l e R s m args below meth c H locs cells slots Q (F0 m pc ls (.int k :: .int n :: rest)) := by
  subst hN
  subst hM
  intro T hT Xs
  obtain ⟨vm₁, cA, comp, -, fA, fC, hO, -, X', step⟩ := Xs.multianewarray2F hexec hown hclink hover harr (g := F0 m pc ls (.int k :: .int n :: rest)) rfl (by rw [hb]; exact hdg) rfl hn hk hb1 hb2 hb3 hdf hdd hcells hslots
  have ec : some cy = some comp := hcy.symm.trans fC
  cases ec
  generalize hF : Jvm.Free.Multi.fill (T.setVm vm₁) cA cy n.toNatClampNeg k.toNatClampNeg (defaultValue ty) n.toNatClampNeg = F at X' step
  have hTh : (T.setVm vm₁).heap = H := hT
  obtain ⟨f1, f2, -, -⟩ := Jvm.Free.Multi.fill_facts (T.setVm vm₁) cA cy n.toNatClampNeg k.toNatClampNeg (defaultValue ty) n.toNatClampNeg
  rw [hF, hTh] at f1 f2
  have hold : ∀ x : Nat, x < H.size → F.heap[x]? = H[x]? := fun x hx => by
    have := Jvm.Free.Multi.fill_old (T.setVm vm₁) cA cy n.toNatClampNeg k.toNatClampNeg (defaultValue ty) (a := x) (by rw [hTh]; exact hx) n.toNatClampNeg
    rw [hF, hTh] at this
    exact this
  have hrow : ∀ j : Nat, j < n.toNatClampNeg → F.heap[H.size + 1 + j]? = some (vp_cell cy z) := fun j hj => by
    have := Jvm.Free.Multi.fill_inner (T.setVm vm₁) cA cy n.toNatClampNeg k.toNatClampNeg (defaultValue ty) n.toNatClampNeg j hj
    rw [hF, hTh, hz] at this
    exact this
  have hout : Jvm.Free.Multi.outerC cA n.toNatClampNeg H.size n.toNatClampNeg = vp_cell cA (n.toNatClampNeg, .inr (.inr (.inr (.inr (fun i => some (H.size + 1 + i)))))) := by
    rw [vp_cell_q, vr_outer]
    exact garrV_c (fun j hj => by rw [if_pos hj])
  rw [hout] at f2
  have hlt : ∀ (k9 : Nat) (x : Nat × va_E), ws[k9]? = some x → x.1 < H.size := fun k9 x hx => (hP k9 _ hx).lt
  have hP0 : va_P D cl ws F.heap := hP.kept (fun k9 x hx => hold x.1 (hlt k9 x hx))
  have hr : ∀ (k9 : Nat) (x : Nat × va_E), ((H.size, .inl (cA, n.toNatClampNeg, .inr (.inr (.inr (.inr (fun i => some (H.size + 1 + i))))))) :: (List.range n.toNatClampNeg).map (fun i => ((H.size + 1 + i, .inl (cy, z)) : Nat × va_E)) : va_W)[k9]? = some x → x.1 = H.size + k9 ∧ va_at D cl x F.heap := fun k9 x hx => by
    cases k9 with
    | zero =>
      cases hx
      exact ⟨rfl, f2⟩
    | succ i =>
      rw [List.getElem?_cons_succ, List.getElem?_map] at hx
      by_cases h9 : i < n.toNatClampNeg
      · rw [List.getElem?_range h9] at hx
        cases hx
        exact ⟨by show H.size + 1 + i = H.size + (i + 1); omega, hrow i h9⟩
      · rw [List.getElem?_eq_none (show (List.range n.toNatClampNeg).length ≤ i by rw [List.length_range]; omega)] at hx
        cases hx
  have hP2 := hP0.app (fun k9 x hx => (hr k9 x hx).2)
  have hD2 : va_D A (ws ++ (H.size, .inl (cA, n.toNatClampNeg, .inr (.inr (.inr (.inr (fun i => some (H.size + 1 + i))))))) :: (List.range n.toNatClampNeg).map (fun i => ((H.size + 1 + i, .inl (cy, z)) : Nat × va_E))) := by
    refine ⟨fun i j x y hi hj hxy => ?_, fun k9 x hx => ?_⟩
    · by_cases h1 : i < ws.length <;> by_cases h2 : j < ws.length
      · rw [List.getElem?_append_left h1] at hi
        rw [List.getElem?_append_left h2] at hj
        exact hD.1 i j x y hi hj hxy
      · rw [List.getElem?_append_left h1] at hi
        rw [List.getElem?_append_right (by omega)] at hj
        have := hlt _ _ hi
        have := (hr _ _ hj).1
        omega
      · rw [List.getElem?_append_right (by omega)] at hi
        rw [List.getElem?_append_left h2] at hj
        have := hlt _ _ hj
        have := (hr _ _ hi).1
        omega
      · rw [List.getElem?_append_right (by omega)] at hi
        rw [List.getElem?_append_right (by omega)] at hj
        have := (hr _ _ hi).1
        have := (hr _ _ hj).1
        omega
    · by_cases h1 : k9 < ws.length
      · rw [List.getElem?_append_left h1] at hx
        exact hD.2 k9 x hx
      · rw [List.getElem?_append_right (by omega)] at hx
        rw [(hr _ _ hx).1]
        exact hA _ (Nat.le_trans hS.1 (Nat.le_add_right _ _))
  have hS2 : va_S A H0 F.heap locs := ⟨by rw [f1]; exact Nat.le_trans hS.1 (by omega), fun q h1 h2 => (hold q (Nat.lt_of_lt_of_le h1 hS.1)).trans (hS.2.1 q h1 h2), hS.2.2⟩
  have hK2 : va_K D cl (tys ++ [(cA, .array ty)]) s := hK.app ⟨hK.1, fun k9 x hx => by
    have h0 : k9 < 1 := (List.getElem?_eq_some_iff.mp hx).1
    rw [show k9 = 0 by omega] at hx
    cases hx
    exact ⟨fun N9 z9 => by
      obtain ⟨-, k9, hk9, cm9, hkk9⟩ := (hO 0 0 0).1
      exact ⟨(fun q hq => by cases hq), k9, hk9, cm9, hkk9⟩, fA⟩⟩
  have hW := kk H.size cA F.heap hK2 hP2 hD2 hS2
  rw [← Nat.add_assoc, ← Nat.add_assoc] at hW
  obtain ⟨t, a1, b1⟩ := hW F rfl X'
  refine ⟨t, step t ?_, b1⟩
  have e : T.heap.size = H.size := by rw [hT]
  rw [e]
  exact a1
end MNA
theorem gwj_0 : (Cond.methodLink RX0 3 objectInit) ∈ gBig := gBig_of (gpc1 (List.mem_of_getElem? (i := 222) rfl)) rfl
theorem gwj_1 : (Cond.arrayClass .long) ∈ gBig := gBig_of (gpc1 (List.mem_of_getElem? (i := 105) rfl)) rfl
theorem gwj_2 : (Cond.fieldLink RX0 9 "ToeplitzLab$Fractions" "tops" "[J") ∈ gBig := gBig_of (gpc1 (List.mem_of_getElem? (i := 223) rfl)) rfl
theorem gwj_3 : (Cond.fieldLink RX0 15 "ToeplitzLab$Fractions" "bottoms" "[J") ∈ gBig := gBig_of (gpc1 (List.mem_of_getElem? (i := 225) rfl)) rfl
theorem gwj_4 : (Cond.methodLink RX1 3 objectInit) ∈ gBig := gBig_of (gpc1 (List.mem_of_getElem? (i := 179) rfl)) rfl
theorem gwj_5 : (Cond.classLink RX1 9 "[[I") ∈ gBig := gBig_of (gpc1 (List.mem_of_getElem? (i := 180) rfl)) rfl
theorem gwj_6 : (Cond.arrayClass .int) ∈ gBig := gBig_of (gpc1 (List.mem_of_getElem? (i := 104) rfl)) rfl
theorem gwj_7 : (Cond.fieldLink RX1 11 "ToeplitzLab$Grid" "cells" "[[I") ∈ gBig := gBig_of (gpc1 (List.mem_of_getElem? (i := 182) rfl)) rfl
theorem gwj_8 : (Cond.methodLink RX2 3 objectInit) ∈ gBig := gBig_of (gpc1 (List.mem_of_getElem? (i := 160) rfl)) rfl
theorem gwj_9 : (Cond.classLink RX2 9 RX6) ∈ gBig := gBig_of (gpc1 (List.mem_of_getElem? (i := 161) rfl)) rfl
theorem gwj_10 : (Cond.fieldLink RX2 11 "ToeplitzLab$History" "kept" "[LToeplitzLab$State;") ∈ gBig := gBig_of (gpc1 (List.mem_of_getElem? (i := 163) rfl)) rfl
theorem gwj_11 : (Cond.methodLink RX5 3 objectInit) ∈ gBig := gBig_of (gpc1 (List.mem_of_getElem? (i := 208) rfl)) rfl
theorem gwj_12 : (Cond.classLink RX5 9 "[[I") ∈ gBig := gBig_of (gpc1 (List.mem_of_getElem? (i := 209) rfl)) rfl
theorem gwj_13 : (Cond.fieldLink RX5 11 "ToeplitzLab$Pairs" "lefts" "[[I") ∈ gBig := gBig_of (gpc1 (List.mem_of_getElem? (i := 210) rfl)) rfl
theorem gwj_14 : (Cond.fieldLink RX5 16 "ToeplitzLab$Pairs" "rights" "[[I") ∈ gBig := gBig_of (gpc1 (List.mem_of_getElem? (i := 211) rfl)) rfl
theorem gwj_15 : (Cond.methodLink RX3 3 objectInit) ∈ gBig := gBig_of (gpc1 (List.mem_of_getElem? (i := 36) rfl)) rfl
theorem gwj_16 : (Cond.arrayClass .byte) ∈ gBig := gBig_of (gpc1 (List.mem_of_getElem? (i := 103) rfl)) rfl
theorem gwj_17 : (Cond.fieldLink RX3 9 "ToeplitzLab$Input" "text" "[B") ∈ gBig := gBig_of (gpc1 (List.mem_of_getElem? (i := 106) rfl)) rfl
theorem gwj_18 : (Cond.classLink RX3 15 RX6) ∈ gBig := gBig_of (gpc1 (List.mem_of_getElem? (i := 37) rfl)) rfl
theorem gwj_19 : (Cond.instantiable RX6 11) ∈ gBig := gBig_of (gpc1 (List.mem_of_getElem? (i := 38) rfl)) rfl
theorem gwj_20 : (Cond.initialized RX6) ∈ gBig := gBig_of (gpc1 (List.mem_of_getElem? (i := 3) rfl)) rfl
theorem gwj_21 : (Cond.code yX6_init cX6_init 1 none) ∈ gBig := gBig_of (gpc1 (List.mem_of_getElem? (i := 41) rfl)) rfl
theorem gwj_22 : (Cond.instanceMethod yX6_init) ∈ gBig := gBig_of (gpc1 (List.mem_of_getElem? (i := 40) rfl)) rfl
theorem gwj_23 : (Cond.fieldLink RX3 18 "ToeplitzLab$Input" "system" "LToeplitzLab$State;") ∈ gBig := gBig_of (gpc1 (List.mem_of_getElem? (i := 109) rfl)) rfl
theorem gwj_24 : (Cond.methodLink RX4 3 objectInit) ∈ gBig := gBig_of (gpc1 (List.mem_of_getElem? (i := 237) rfl)) rfl
theorem gwj_25 : (Cond.classLink RX4 9 RX1) ∈ gBig := gBig_of (gpc1 (List.mem_of_getElem? (i := 238) rfl)) rfl
theorem gwj_26 : (Cond.instantiable RX1 6) ∈ gBig := gBig_of (gpc1 (List.mem_of_getElem? (i := 175) rfl)) rfl
theorem gwj_27 : (Cond.initialized RX1) ∈ gBig := gBig_of (gpc1 (List.mem_of_getElem? (i := 5) rfl)) rfl
theorem gwj_28 : (Cond.code yX1_init cX1_init 1 none) ∈ gBig := gBig_of (gpc1 (List.mem_of_getElem? (i := 178) rfl)) rfl
theorem gwj_29 : (Cond.instanceMethod yX1_init) ∈ gBig := gBig_of (gpc1 (List.mem_of_getElem? (i := 177) rfl)) rfl
theorem gwj_30 : (Cond.fieldLink RX4 12 "ToeplitzLab$Lifter" "grid" "LToeplitzLab$Grid;") ∈ gBig := gBig_of (gpc2 (List.mem_of_getElem? (i := 0) rfl)) rfl
theorem gwj_31 : (Cond.fieldLink RX4 18 "ToeplitzLab$Lifter" "fresh" "[I") ∈ gBig := gBig_of (gpc2 (List.mem_of_getElem? (i := 1) rfl)) rfl
theorem gwj_32 : (Cond.methodLink RX7 1 objectInit) ∈ gBig := gBig_of (gpc1 (List.mem_of_getElem? (i := 28) rfl)) rfl
theorem gwj_33 : (Cond.classLink RX7 7 RX3) ∈ gBig := gBig_of (gpc1 (List.mem_of_getElem? (i := 31) rfl)) rfl
theorem gwj_34 : (Cond.instantiable RX3 14) ∈ gBig := gBig_of (gpc1 (List.mem_of_getElem? (i := 32) rfl)) rfl
theorem gwj_35 : (Cond.initialized RX3) ∈ gBig := gBig_of (gpc1 (List.mem_of_getElem? (i := 2) rfl)) rfl
theorem gwj_36 : (Cond.code yX3_init cX3_init 1 none) ∈ gBig := gBig_of (gpc1 (List.mem_of_getElem? (i := 35) rfl)) rfl
theorem gwj_37 : (Cond.instanceMethod yX3_init) ∈ gBig := gBig_of (gpc1 (List.mem_of_getElem? (i := 34) rfl)) rfl
theorem gwj_38 : (Cond.fieldLink RX7 10 "ToeplitzLab" "input" "LToeplitzLab$Input;") ∈ gBig := gBig_of (gpc2 (List.mem_of_getElem? (i := 7) rfl)) rfl
theorem gwj_39 : (Cond.classLink RX7 16 RX6) ∈ gBig := gBig_of (gpc1 (List.mem_of_getElem? (i := 153) rfl)) rfl
theorem gwj_40 : (Cond.fieldLink RX7 19 "ToeplitzLab" "state" "LToeplitzLab$State;") ∈ gBig := gBig_of (gpc2 (List.mem_of_getElem? (i := 8) rfl)) rfl
theorem gwj_41 : (Cond.fieldLink RX7 23 "ToeplitzLab" "draft" "LToeplitzLab$State;") ∈ gBig := gBig_of (gpc2 (List.mem_of_getElem? (i := 9) rfl)) rfl
theorem gwj_42 : (Cond.classLink RX7 26 RX2) ∈ gBig := gBig_of (gpc1 (List.mem_of_getElem? (i := 155) rfl)) rfl
theorem gwj_43 : (Cond.instantiable RX2 3) ∈ gBig := gBig_of (gpc1 (List.mem_of_getElem? (i := 156) rfl)) rfl
theorem gwj_44 : (Cond.initialized RX2) ∈ gBig := gBig_of (gpc1 (List.mem_of_getElem? (i := 4) rfl)) rfl
theorem gwj_45 : (Cond.code yX2_init cX2_init 1 none) ∈ gBig := gBig_of (gpc1 (List.mem_of_getElem? (i := 159) rfl)) rfl
theorem gwj_46 : (Cond.instanceMethod yX2_init) ∈ gBig := gBig_of (gpc1 (List.mem_of_getElem? (i := 158) rfl)) rfl
theorem gwj_47 : (Cond.fieldLink RX7 29 "ToeplitzLab" "history" "LToeplitzLab$History;") ∈ gBig := gBig_of (gpc2 (List.mem_of_getElem? (i := 10) rfl)) rfl
theorem gwj_48 : (Cond.fieldLink RX7 33 "ToeplitzLab" "slots" "[LToeplitzLab$State;") ∈ gBig := gBig_of (gpc2 (List.mem_of_getElem? (i := 11) rfl)) rfl
theorem gwj_49 : (Cond.arrayClass .boolean) ∈ gBig := gBig_of (gpc1 (List.mem_of_getElem? (i := 202) rfl)) rfl
theorem gwj_50 : (Cond.fieldLink RX7 37 "ToeplitzLab" "slotUsed" "[Z") ∈ gBig := gBig_of (gpc2 (List.mem_of_getElem? (i := 12) rfl)) rfl
theorem gwj_51 : (Cond.classLink RX7 41 RX1) ∈ gBig := gBig_of (gpc1 (List.mem_of_getElem? (i := 174) rfl)) rfl
theorem gwj_52 : (Cond.fieldLink RX7 44 "ToeplitzLab" "grid" "LToeplitzLab$Grid;") ∈ gBig := gBig_of (gpc2 (List.mem_of_getElem? (i := 13) rfl)) rfl
theorem gwj_53 : (Cond.classLink RX7 48 RX5) ∈ gBig := gBig_of (gpc1 (List.mem_of_getElem? (i := 203) rfl)) rfl
theorem gwj_54 : (Cond.instantiable RX5 2) ∈ gBig := gBig_of (gpc1 (List.mem_of_getElem? (i := 204) rfl)) rfl
theorem gwj_55 : (Cond.initialized RX5) ∈ gBig := gBig_of (gpc1 (List.mem_of_getElem? (i := 6) rfl)) rfl
theorem gwj_56 : (Cond.code yX5_init cX5_init 1 none) ∈ gBig := gBig_of (gpc1 (List.mem_of_getElem? (i := 207) rfl)) rfl
theorem gwj_57 : (Cond.instanceMethod yX5_init) ∈ gBig := gBig_of (gpc1 (List.mem_of_getElem? (i := 206) rfl)) rfl
theorem gwj_58 : (Cond.fieldLink RX7 51 "ToeplitzLab" "pairs" "LToeplitzLab$Pairs;") ∈ gBig := gBig_of (gpc2 (List.mem_of_getElem? (i := 14) rfl)) rfl
theorem gwj_59 : (Cond.classLink RX7 55 RX0) ∈ gBig := gBig_of (gpc1 (List.mem_of_getElem? (i := 217) rfl)) rfl
theorem gwj_60 : (Cond.instantiable RX0 2) ∈ gBig := gBig_of (gpc1 (List.mem_of_getElem? (i := 218) rfl)) rfl
theorem gwj_61 : (Cond.initialized RX0) ∈ gBig := gBig_of (gpc1 (List.mem_of_getElem? (i := 7) rfl)) rfl
theorem gwj_62 : (Cond.code yX0_init cX0_init 1 none) ∈ gBig := gBig_of (gpc1 (List.mem_of_getElem? (i := 221) rfl)) rfl
theorem gwj_63 : (Cond.instanceMethod yX0_init) ∈ gBig := gBig_of (gpc1 (List.mem_of_getElem? (i := 220) rfl)) rfl
theorem gwj_64 : (Cond.fieldLink RX7 58 "ToeplitzLab" "fractions" "LToeplitzLab$Fractions;") ∈ gBig := gBig_of (gpc2 (List.mem_of_getElem? (i := 15) rfl)) rfl
theorem gwj_65 : (Cond.classLink RX7 62 RX4) ∈ gBig := gBig_of (gpc1 (List.mem_of_getElem? (i := 232) rfl)) rfl
theorem gwj_66 : (Cond.instantiable RX4 2) ∈ gBig := gBig_of (gpc1 (List.mem_of_getElem? (i := 233) rfl)) rfl
theorem gwj_67 : (Cond.initialized RX4) ∈ gBig := gBig_of (gpc1 (List.mem_of_getElem? (i := 8) rfl)) rfl
theorem gwj_68 : (Cond.code yX4_init cX4_init 1 none) ∈ gBig := gBig_of (gpc1 (List.mem_of_getElem? (i := 236) rfl)) rfl
theorem gwj_69 : (Cond.instanceMethod yX4_init) ∈ gBig := gBig_of (gpc1 (List.mem_of_getElem? (i := 235) rfl)) rfl
theorem gwj_70 : (Cond.fieldLink RX7 65 "ToeplitzLab" "lifter" "LToeplitzLab$Lifter;") ∈ gBig := gBig_of (gpc2 (List.mem_of_getElem? (i := 16) rfl)) rfl
theorem gwj_71 : (Cond.fieldLink RX7 69 "ToeplitzLab" "ends" "[I") ∈ gBig := gBig_of (gpc2 (List.mem_of_getElem? (i := 17) rfl)) rfl
theorem gwj_72 : (Cond.methodLink RX8 1 objectInit) ∈ gBig := gBig_of (gpc5 (List.mem_of_getElem? (i := 232) rfl)) rfl
theorem gwj_73 : (Cond.fieldLink RX8 7 "ToeplitzLabModel" "s" "[I") ∈ gBig := gBig_of (gpc5 (List.mem_of_getElem? (i := 235) rfl)) rfl
theorem gwj_74 : (Cond.fieldLink RX8 13 "ToeplitzLabModel" "stores" "[I") ∈ gBig := gBig_of (gpc5 (List.mem_of_getElem? (i := 236) rfl)) rfl
theorem gwj_75 : (Cond.fieldLink RX8 16 "ToeplitzLabModel" "isKept" "[Z") ∈ gBig := gBig_of (gpc5 (List.mem_of_getElem? (i := 238) rfl)) rfl
theorem gwj_76 : (Cond.fieldLink RX8 20 "ToeplitzLabModel" "buffer" "[I") ∈ gBig := gBig_of (gpc5 (List.mem_of_getElem? (i := 239) rfl)) rfl
theorem gwj_77 : (Cond.fieldLink RX8 23 "ToeplitzLabModel" "errorPosition" "I") ∈ gBig := gBig_of (gpc6 (List.mem_of_getElem? (i := 2) rfl)) rfl
theorem gwj_78 : (Cond.fieldLink RX8 27 "ToeplitzLabModel" "read" "[I") ∈ gBig := gBig_of (gpc6 (List.mem_of_getElem? (i := 10) rfl)) rfl
theorem gwj_79 : (Cond.fieldLink RX8 30 "ToeplitzLabModel" "told" "[Z") ∈ gBig := gBig_of (gpc6 (List.mem_of_getElem? (i := 11) rfl)) rfl
theorem gwj_80 : (Cond.fieldLink RX8 33 "ToeplitzLabModel" "grid" "[I") ∈ gBig := gBig_of (gpc6 (List.mem_of_getElem? (i := 13) rfl)) rfl
theorem gwj_81 : (Cond.fieldLink RX8 36 "ToeplitzLabModel" "leads" "[I") ∈ gBig := gBig_of (gpc6 (List.mem_of_getElem? (i := 15) rfl)) rfl
theorem gwj_82 : (Cond.fieldLink RX8 39 "ToeplitzLabModel" "ends" "[I") ∈ gBig := gBig_of (gpc6 (List.mem_of_getElem? (i := 16) rfl)) rfl
theorem gwj_83 : (Cond.fieldLink RX8 42 "ToeplitzLabModel" "shifted" "[I") ∈ gBig := gBig_of (gpc6 (List.mem_of_getElem? (i := 18) rfl)) rfl
theorem gwj_84 : (Cond.fieldLink RX8 45 "ToeplitzLabModel" "lefts" "[I") ∈ gBig := gBig_of (gpc6 (List.mem_of_getElem? (i := 19) rfl)) rfl
theorem gwj_85 : (Cond.fieldLink RX8 48 "ToeplitzLabModel" "rights" "[I") ∈ gBig := gBig_of (gpc6 (List.mem_of_getElem? (i := 20) rfl)) rfl
theorem gwj_86 : (Cond.fieldLink RX8 51 "ToeplitzLabModel" "ups" "[J") ∈ gBig := gBig_of (gpc6 (List.mem_of_getElem? (i := 23) rfl)) rfl
theorem gwj_87 : (Cond.fieldLink RX8 55 "ToeplitzLabModel" "downs" "[J") ∈ gBig := gBig_of (gpc6 (List.mem_of_getElem? (i := 24) rfl)) rfl
def gzw_0 (E : gEn) (h0 : Nat) (u : Nat → Nat) : va_W := ((h0, .inr (0, [.ref (u 0), .ref (u 1)])) :: ([((u 0), .inl (gca E 1, 7, .inr (.inl (fun _ => 0))))] ++ [((u 1), .inl (gca E 1, 7, .inr (.inl (fun _ => 0))))]) : va_W)
set_option maxHeartbeats 4000000 in
set_option maxRecDepth 100000 in
theorem gi_0 (l : Launch) (E : gEn) (h0 sz : Nat) : Met l yX0_init (Cond.code yX0_init cX0_init 1 none :: gBig) ({ frames := 1, cells := 2, slots := 14, locals := 12 }) (va_Pc [.ref h0] (fun U => U.heap.size = sz ∧ va_P (gD E) vwCl [(h0, .inr (0, [.null, .null]))] U.heap ∧ va_K (gD E) vwCl (gtys E) U)) (va_Qv (fun _ : Nat → Nat => True) (fun u t => va_P (gD E) vwCl (gzw_0 E h0 u) t.heap ∧ va_D (va_A [(h0, .inr (0, [.null, .null]))] sz) (gzw_0 E h0 u)) (va_A [(h0, .inr (0, [.null, .null]))] sz)) 2 14 (va_A [(h0, .inr (0, [.null, .null]))] sz) := by
  refine Met.ofW (cc := cX0_init) (maxL := 1) (ret := none) (by decide) rfl ?_
  intro p e s m args below meth c s₁ B hml hv
  obtain ⟨rfl, hsz, hP, hK⟩ := hv
  have hx := B.exec
  have hb := B.bytes
  have hr := B.returns
  have hts := atoms_spec (ws := Cond.code yX0_init cX0_init 1 none :: gBig) B.pre
  have hts2 : ∀ w ∈ gBig, w.before #[.ref h0] s = true := fun w hw => hts w (List.mem_cons_of_mem _ hw)
  have hown : s.vm.findClass RX0 = some m.cls := findClass_of_methodNamed B.named
  have hlocks := B.notSynchronized
  have hin : meth.name = "<init>" := (name_of_methodNamed B.named B.method).1
  subst hsz
  have hD : va_D (va_A [(h0, .inr (0, [.null, .null]))] s.heap.size) [(h0, .inr (0, [.null, .null]))] := va_D1 _ _
  generalize hAe : va_A [(h0, .inr (0, [.null, .null]))] s.heap.size = A at hD ⊢
  have hA : ∀ q : Nat, s.heap.size ≤ q → A q := fun q h => by rw [← hAe]; exact Or.inr h
  have hS : va_S A s.heap s.heap [] := va_S.rf
  have hl := lv_entry ([.ref h0]) (n := 1) (Nat.le_of_ble_eq_true rfl)
  rw [lg_entry_eq]
  generalize (lg_sl ([.ref h0]) ++ List.replicate (1 - (lg_sl ([.ref h0])).length) Slot.unset).toArray = ls at hl ⊢
  have hl : lv_has ls 1 [(0, .ref h0)] := hl
  refine lv_aload_n hx hb (show decode cX0_init 0 = .ok (.aload_n 0, 1) by decide +kernel) rfl (lv_at hl 0 rfl) ?_
  refine W.objInit hx hb hown (hts2 _ gwj_0) (hts2 _ gwi_1) (hts2 _ gwi_2) rfl (by rw [hml]; exact hl.1) rfl (show decode cX0_init 1 = .ok (.invokespecial 3, 3) by decide +kernel) (Nat.le_of_ble_eq_true rfl) (Nat.le_of_ble_eq_true rfl) ?_
  refine W.eq (g2 := F0 m 4 ls []) rfl ?_
  refine lv_aload_n hx hb (show decode cX0_init 4 = .ok (.aload_n 0, 1) by decide +kernel) rfl (lv_at hl 0 rfl) ?_
  refine lv_bipush (v := 7) hx hb (show decode cX0_init 5 = .ok (.bipush 7, 2) by decide +kernel) (by decide) ?_
  refine va_newa (atype := .long) (ty := .long) (a0 := (7, .inr (.inl (fun _ => 0)))) (N' := 7) hx hb (hts2 _ gwj_1) rfl hK hP hD hS hA (fun _ => rfl) (by decide) rfl (Nat.le_of_ble_eq_true rfl) (Nat.le_of_ble_eq_true rfl) (Nat.le_of_ble_eq_true rfl) (show decode cX0_init 7 = .ok (.newarray .long, 2) by decide +kernel) (fun a0 cA H hK2 hP hD hS => ?_)
  have hcA : cA = gca E 1 := gca_eq hK2 1 rfl rfl
  subst hcA
  clear hK2
  have hP : va_P (gD E) vwCl ((h0, .inr (0, [.null, .null])) :: ([(a0, .inl (gca E 1, 7, .inr (.inl (fun _ => 0))))]) : va_W) H := hP
  have hD : va_D A ((h0, .inr (0, [.null, .null])) :: ([(a0, .inl (gca E 1, 7, .inr (.inl (fun _ => 0))))]) : va_W) := hD
  refine va_putF (D := gD E) (ci := 0) (v := .ref a0) (ty := .array .long) (C := RX0) (T := TX0) (N := 2) hx hb hts2 (fun w hw => gBig_of (guw_0 w hw) (gug_0 w hw)) tyX0 tyX0_ok (by decide +kernel) hown hK hP hD hS 0 rfl rfl 0 (by decide) (hts2 _ gwj_2) (fun _ h9 => h9) rfl hin rfl (by decide +kernel) rfl rfl (Nat.le_of_ble_eq_true rfl) (show decode cX0_init 9 = .ok (.putfield 9, 3) by decide +kernel) (fun H locs hP hD hS => ?_)
  have hP : va_P (gD E) vwCl ((h0, .inr (0, [.ref a0, .null])) :: ([(a0, .inl (gca E 1, 7, .inr (.inl (fun _ => 0))))]) : va_W) H := hP
  have hD : va_D A ((h0, .inr (0, [.ref a0, .null])) :: ([(a0, .inl (gca E 1, 7, .inr (.inl (fun _ => 0))))]) : va_W) := hD
  refine lv_aload_n hx hb (show decode cX0_init 12 = .ok (.aload_n 0, 1) by decide +kernel) rfl (lv_at hl 0 rfl) ?_
  refine lv_bipush (v := 7) hx hb (show decode cX0_init 13 = .ok (.bipush 7, 2) by decide +kernel) (by decide) ?_
  refine va_newa (atype := .long) (ty := .long) (a0 := (7, .inr (.inl (fun _ => 0)))) (N' := 7) hx hb (hts2 _ gwj_1) rfl hK hP hD hS hA (fun _ => rfl) (by decide) rfl (Nat.le_of_ble_eq_true rfl) (Nat.le_of_ble_eq_true rfl) (Nat.le_of_ble_eq_true rfl) (show decode cX0_init 15 = .ok (.newarray .long, 2) by decide +kernel) (fun a1 cA H hK2 hP hD hS => ?_)
  have hcA : cA = gca E 1 := gca_eq hK2 1 rfl rfl
  subst hcA
  clear hK2
  have hP : va_P (gD E) vwCl ((h0, .inr (0, [.ref a0, .null])) :: ([(a0, .inl (gca E 1, 7, .inr (.inl (fun _ => 0))))] ++ [(a1, .inl (gca E 1, 7, .inr (.inl (fun _ => 0))))]) : va_W) H := by simpa only [List.cons_append, List.append_assoc, List.nil_append, List.append_nil, List.set_cons_zero] using hP
  have hD : va_D A ((h0, .inr (0, [.ref a0, .null])) :: ([(a0, .inl (gca E 1, 7, .inr (.inl (fun _ => 0))))] ++ [(a1, .inl (gca E 1, 7, .inr (.inl (fun _ => 0))))]) : va_W) := by simpa only [List.cons_append, List.append_assoc, List.nil_append, List.append_nil, List.set_cons_zero] using hD
  refine va_putF (D := gD E) (ci := 0) (v := .ref a1) (ty := .array .long) (C := RX0) (T := TX0) (N := 2) hx hb hts2 (fun w hw => gBig_of (guw_0 w hw) (gug_0 w hw)) tyX0 tyX0_ok (by decide +kernel) hown hK hP hD hS 0 rfl rfl 1 (by decide) (hts2 _ gwj_3) (fun _ h9 => h9) rfl hin rfl (by decide +kernel) rfl rfl (Nat.le_of_ble_eq_true rfl) (show decode cX0_init 17 = .ok (.putfield 15, 3) by decide +kernel) (fun H locs hP hD hS => ?_)
  have hP : va_P (gD E) vwCl ((h0, .inr (0, [.ref a0, .ref a1])) :: ([(a0, .inl (gca E 1, 7, .inr (.inl (fun _ => 0))))] ++ [(a1, .inl (gca E 1, 7, .inr (.inl (fun _ => 0))))]) : va_W) H := by simpa only [List.cons_append, List.append_assoc, List.nil_append, List.append_nil, List.set_cons_zero] using hP
  have hD : va_D A ((h0, .inr (0, [.ref a0, .ref a1])) :: ([(a0, .inl (gca E 1, 7, .inr (.inl (fun _ => 0))))] ++ [(a1, .inl (gca E 1, 7, .inr (.inl (fun _ => 0))))]) : va_W) := by simpa only [List.cons_append, List.append_assoc, List.nil_append, List.append_nil, List.set_cons_zero] using hD
  exact W.vret hx hb hr (fun t ht hW => ⟨⟨(fun i => match i with | 0 => a0 | 1 => a1 | _ => 0), rfl, trivial, by rw [ht]; exact hP, hD⟩, hS.F ht⟩) hS.2.2 (show decode cX0_init 20 = .ok (.return_, 1) by decide +kernel)
def gzw_1 (E : gEn) (h0 : Nat) (u : Nat → Nat) : va_W := ((h0, .inr (1, [.ref (u 0), .int 0, .int 0, .int 0, .int 0, .int 0])) :: (gmul E (u 0) 7 14) : va_W)
set_option maxHeartbeats 4000000 in
set_option maxRecDepth 100000 in
theorem gi_1 (l : Launch) (E : gEn) (h0 sz : Nat) : Met l yX1_init (Cond.code yX1_init cX1_init 1 none :: gBig) ({ frames := 1, cells := 8, slots := 105, locals := 12 }) (va_Pc [.ref h0] (fun U => U.heap.size = sz ∧ va_P (gD E) vwCl [(h0, .inr (1, [.null, .int 0, .int 0, .int 0, .int 0, .int 0]))] U.heap ∧ va_K (gD E) vwCl (gtys E) U ∧ gNi U)) (va_Qv (fun _ : Nat → Nat => True) (fun u t => va_P (gD E) vwCl (gzw_1 E h0 u) t.heap ∧ va_D (va_A [(h0, .inr (1, [.null, .int 0, .int 0, .int 0, .int 0, .int 0]))] sz) (gzw_1 E h0 u)) (va_A [(h0, .inr (1, [.null, .int 0, .int 0, .int 0, .int 0, .int 0]))] sz)) 8 105 (va_A [(h0, .inr (1, [.null, .int 0, .int 0, .int 0, .int 0, .int 0]))] sz) := by
  refine Met.ofW (cc := cX1_init) (maxL := 1) (ret := none) (by decide) rfl ?_
  intro p e s m args below meth c s₁ B hml hv
  obtain ⟨rfl, hsz, hP, hK, hNi⟩ := hv
  have hx := B.exec
  have hb := B.bytes
  have hr := B.returns
  have hts := atoms_spec (ws := Cond.code yX1_init cX1_init 1 none :: gBig) B.pre
  have hts2 : ∀ w ∈ gBig, w.before #[.ref h0] s = true := fun w hw => hts w (List.mem_cons_of_mem _ hw)
  have hown : s.vm.findClass RX1 = some m.cls := findClass_of_methodNamed B.named
  have hlocks := B.notSynchronized
  have hin : meth.name = "<init>" := (name_of_methodNamed B.named B.method).1
  subst hsz
  have hD : va_D (va_A [(h0, .inr (1, [.null, .int 0, .int 0, .int 0, .int 0, .int 0]))] s.heap.size) [(h0, .inr (1, [.null, .int 0, .int 0, .int 0, .int 0, .int 0]))] := va_D1 _ _
  generalize hAe : va_A [(h0, .inr (1, [.null, .int 0, .int 0, .int 0, .int 0, .int 0]))] s.heap.size = A at hD ⊢
  have hA : ∀ q : Nat, s.heap.size ≤ q → A q := fun q h => by rw [← hAe]; exact Or.inr h
  have hS : va_S A s.heap s.heap [] := va_S.rf
  have hl := lv_entry ([.ref h0]) (n := 1) (Nat.le_of_ble_eq_true rfl)
  rw [lg_entry_eq]
  generalize (lg_sl ([.ref h0]) ++ List.replicate (1 - (lg_sl ([.ref h0])).length) Slot.unset).toArray = ls at hl ⊢
  have hl : lv_has ls 1 [(0, .ref h0)] := hl
  refine lv_aload_n hx hb (show decode cX1_init 0 = .ok (.aload_n 0, 1) by decide +kernel) rfl (lv_at hl 0 rfl) ?_
  refine W.objInit hx hb hown (hts2 _ gwj_4) (hts2 _ gwi_1) (hts2 _ gwi_2) rfl (by rw [hml]; exact hl.1) rfl (show decode cX1_init 1 = .ok (.invokespecial 3, 3) by decide +kernel) (Nat.le_of_ble_eq_true rfl) (Nat.le_of_ble_eq_true rfl) ?_
  refine W.eq (g2 := F0 m 4 ls []) rfl ?_
  refine lv_aload_n hx hb (show decode cX1_init 4 = .ok (.aload_n 0, 1) by decide +kernel) rfl (lv_at hl 0 rfl) ?_
  refine lv_bipush (v := 7) hx hb (show decode cX1_init 5 = .ok (.bipush 7, 2) by decide +kernel) (by decide) ?_
  refine lv_bipush (v := 14) hx hb (show decode cX1_init 7 = .ok (.bipush 14, 2) by decide +kernel) (by decide) ?_
  refine va_mnaQ (N' := 7) (K' := 14) (ty := .int) (cy := gca E 0) hx hb hown (hts2 _ gwj_5) hNi.2.2 (hts2 _ gwj_6) ((hK.2 0 (gca E 0, .int) rfl).2) hK hP hD hS hA (by decide) (by decide) rfl rfl (Nat.le_of_ble_eq_true rfl) (Nat.le_of_ble_eq_true rfl) (Nat.le_of_ble_eq_true rfl) rfl rfl (Nat.le_of_ble_eq_true rfl) (Nat.le_of_ble_eq_true rfl) (fun c => (arrV_new _ _ _)) (show decode cX1_init 9 = .ok (.multianewarray 9 2, 4) by decide +kernel) (fun a0 cA H hK2 hP hD hS => ?_)
  have hcA : cA = gca E 5 := gca_eq hK2 5 rfl rfl
  subst hcA
  clear hK2
  have hP : va_P (gD E) vwCl ((h0, .inr (1, [.null, .int 0, .int 0, .int 0, .int 0, .int 0])) :: (gmul E a0 7 14) : va_W) H := hP
  have hD : va_D A ((h0, .inr (1, [.null, .int 0, .int 0, .int 0, .int 0, .int 0])) :: (gmul E a0 7 14) : va_W) := hD
  refine va_putF (D := gD E) (ci := 1) (v := .ref a0) (ty := .array (.array .int)) (C := RX1) (T := TX1) (N := 6) hx hb hts2 (fun w hw => gBig_of (guw_1 w hw) (gug_1 w hw)) tyX1 tyX1_ok (by decide +kernel) hown hK hP hD hS 0 rfl rfl 0 (by decide) (hts2 _ gwj_7) (fun _ h9 => h9) rfl hin rfl (by decide +kernel) rfl rfl (Nat.le_of_ble_eq_true rfl) (show decode cX1_init 13 = .ok (.putfield 11, 3) by decide +kernel) (fun H locs hP hD hS => ?_)
  have hP : va_P (gD E) vwCl ((h0, .inr (1, [.ref a0, .int 0, .int 0, .int 0, .int 0, .int 0])) :: (gmul E a0 7 14) : va_W) H := hP
  have hD : va_D A ((h0, .inr (1, [.ref a0, .int 0, .int 0, .int 0, .int 0, .int 0])) :: (gmul E a0 7 14) : va_W) := hD
  exact W.vret hx hb hr (fun t ht hW => ⟨⟨(fun i => match i with | 0 => a0 | _ => 0), rfl, trivial, by rw [ht]; exact hP, hD⟩, hS.F ht⟩) hS.2.2 (show decode cX1_init 16 = .ok (.return_, 1) by decide +kernel)
def gzw_2 (E : gEn) (h0 : Nat) (u : Nat → Nat) : va_W := ((h0, .inr (2, [.ref (u 0), .int 0, .int 0])) :: ([((u 0), .inl (gca E 6, 8, .inr (.inr (.inr (.inr (fun _ => none))))))]) : va_W)
set_option maxHeartbeats 4000000 in
set_option maxRecDepth 100000 in
theorem gi_2 (l : Launch) (E : gEn) (h0 sz : Nat) : Met l yX2_init (Cond.code yX2_init cX2_init 1 none :: gBig) ({ frames := 1, cells := 1, slots := 8, locals := 12 }) (va_Pc [.ref h0] (fun U => U.heap.size = sz ∧ va_P (gD E) vwCl [(h0, .inr (2, [.null, .int 0, .int 0]))] U.heap ∧ va_K (gD E) vwCl (gtys E) U ∧ gNi U)) (va_Qv (fun _ : Nat → Nat => True) (fun u t => va_P (gD E) vwCl (gzw_2 E h0 u) t.heap ∧ va_D (va_A [(h0, .inr (2, [.null, .int 0, .int 0]))] sz) (gzw_2 E h0 u)) (va_A [(h0, .inr (2, [.null, .int 0, .int 0]))] sz)) 1 8 (va_A [(h0, .inr (2, [.null, .int 0, .int 0]))] sz) := by
  refine Met.ofW (cc := cX2_init) (maxL := 1) (ret := none) (by decide) rfl ?_
  intro p e s m args below meth c s₁ B hml hv
  obtain ⟨rfl, hsz, hP, hK, hNi⟩ := hv
  have hx := B.exec
  have hb := B.bytes
  have hr := B.returns
  have hts := atoms_spec (ws := Cond.code yX2_init cX2_init 1 none :: gBig) B.pre
  have hts2 : ∀ w ∈ gBig, w.before #[.ref h0] s = true := fun w hw => hts w (List.mem_cons_of_mem _ hw)
  have hown : s.vm.findClass RX2 = some m.cls := findClass_of_methodNamed B.named
  have hlocks := B.notSynchronized
  have hin : meth.name = "<init>" := (name_of_methodNamed B.named B.method).1
  subst hsz
  have hD : va_D (va_A [(h0, .inr (2, [.null, .int 0, .int 0]))] s.heap.size) [(h0, .inr (2, [.null, .int 0, .int 0]))] := va_D1 _ _
  generalize hAe : va_A [(h0, .inr (2, [.null, .int 0, .int 0]))] s.heap.size = A at hD ⊢
  have hA : ∀ q : Nat, s.heap.size ≤ q → A q := fun q h => by rw [← hAe]; exact Or.inr h
  have hS : va_S A s.heap s.heap [] := va_S.rf
  have hl := lv_entry ([.ref h0]) (n := 1) (Nat.le_of_ble_eq_true rfl)
  rw [lg_entry_eq]
  generalize (lg_sl ([.ref h0]) ++ List.replicate (1 - (lg_sl ([.ref h0])).length) Slot.unset).toArray = ls at hl ⊢
  have hl : lv_has ls 1 [(0, .ref h0)] := hl
  refine lv_aload_n hx hb (show decode cX2_init 0 = .ok (.aload_n 0, 1) by decide +kernel) rfl (lv_at hl 0 rfl) ?_
  refine W.objInit hx hb hown (hts2 _ gwj_8) (hts2 _ gwi_1) (hts2 _ gwi_2) rfl (by rw [hml]; exact hl.1) rfl (show decode cX2_init 1 = .ok (.invokespecial 3, 3) by decide +kernel) (Nat.le_of_ble_eq_true rfl) (Nat.le_of_ble_eq_true rfl) ?_
  refine W.eq (g2 := F0 m 4 ls []) rfl ?_
  refine lv_aload_n hx hb (show decode cX2_init 4 = .ok (.aload_n 0, 1) by decide +kernel) rfl (lv_at hl 0 rfl) ?_
  refine lv_bipush (v := 8) hx hb (show decode cX2_init 5 = .ok (.bipush 8, 2) by decide +kernel) (by decide) ?_
  refine va_newq (C := "ToeplitzLab$State") (N' := 8) hx hb hown (hts2 _ gwj_9) hNi.2.1 hK hP hD hS hA (by decide) rfl (Nat.le_of_ble_eq_true rfl) (Nat.le_of_ble_eq_true rfl) (Nat.le_of_ble_eq_true rfl) (show decode cX2_init 7 = .ok (.anewarray 9, 3) by decide +kernel) (fun a0 cA H hK2 hP hD hS => ?_)
  have hcA : cA = gca E 6 := gca_eqO hK2
  subst hcA
  clear hK2
  have hP : va_P (gD E) vwCl ((h0, .inr (2, [.null, .int 0, .int 0])) :: ([(a0, .inl (gca E 6, 8, .inr (.inr (.inr (.inr (fun _ => none))))))]) : va_W) H := hP
  have hD : va_D A ((h0, .inr (2, [.null, .int 0, .int 0])) :: ([(a0, .inl (gca E 6, 8, .inr (.inr (.inr (.inr (fun _ => none))))))]) : va_W) := hD
  refine va_putF (D := gD E) (ci := 2) (v := .ref a0) (ty := .array (.object "ToeplitzLab$State")) (C := RX2) (T := TX2) (N := 3) hx hb hts2 (fun w hw => gBig_of (guw_2 w hw) (gug_2 w hw)) tyX2 tyX2_ok (by decide +kernel) hown hK hP hD hS 0 rfl rfl 0 (by decide) (hts2 _ gwj_10) (fun _ h9 => h9) rfl hin rfl (by decide +kernel) rfl rfl (Nat.le_of_ble_eq_true rfl) (show decode cX2_init 10 = .ok (.putfield 11, 3) by decide +kernel) (fun H locs hP hD hS => ?_)
  have hP : va_P (gD E) vwCl ((h0, .inr (2, [.ref a0, .int 0, .int 0])) :: ([(a0, .inl (gca E 6, 8, .inr (.inr (.inr (.inr (fun _ => none))))))]) : va_W) H := hP
  have hD : va_D A ((h0, .inr (2, [.ref a0, .int 0, .int 0])) :: ([(a0, .inl (gca E 6, 8, .inr (.inr (.inr (.inr (fun _ => none))))))]) : va_W) := hD
  exact W.vret hx hb hr (fun t ht hW => ⟨⟨(fun i => match i with | 0 => a0 | _ => 0), rfl, trivial, by rw [ht]; exact hP, hD⟩, hS.F ht⟩) hS.2.2 (show decode cX2_init 13 = .ok (.return_, 1) by decide +kernel)
def gzw_5 (E : gEn) (h0 : Nat) (u : Nat → Nat) : va_W := ((h0, .inr (5, [.ref (u 0), .ref (u 1)])) :: (gmul E (u 0) 7 7 ++ gmul E (u 1) 7 7) : va_W)
set_option maxHeartbeats 4000000 in
set_option maxRecDepth 100000 in
theorem gi_5 (l : Launch) (E : gEn) (h0 sz : Nat) : Met l yX5_init (Cond.code yX5_init cX5_init 1 none :: gBig) ({ frames := 1, cells := 16, slots := 112, locals := 12 }) (va_Pc [.ref h0] (fun U => U.heap.size = sz ∧ va_P (gD E) vwCl [(h0, .inr (5, [.null, .null]))] U.heap ∧ va_K (gD E) vwCl (gtys E) U ∧ gNi U)) (va_Qv (fun _ : Nat → Nat => True) (fun u t => va_P (gD E) vwCl (gzw_5 E h0 u) t.heap ∧ va_D (va_A [(h0, .inr (5, [.null, .null]))] sz) (gzw_5 E h0 u)) (va_A [(h0, .inr (5, [.null, .null]))] sz)) 16 112 (va_A [(h0, .inr (5, [.null, .null]))] sz) := by
  refine Met.ofW (cc := cX5_init) (maxL := 1) (ret := none) (by decide) rfl ?_
  intro p e s m args below meth c s₁ B hml hv
  obtain ⟨rfl, hsz, hP, hK, hNi⟩ := hv
  have hx := B.exec
  have hb := B.bytes
  have hr := B.returns
  have hts := atoms_spec (ws := Cond.code yX5_init cX5_init 1 none :: gBig) B.pre
  have hts2 : ∀ w ∈ gBig, w.before #[.ref h0] s = true := fun w hw => hts w (List.mem_cons_of_mem _ hw)
  have hown : s.vm.findClass RX5 = some m.cls := findClass_of_methodNamed B.named
  have hlocks := B.notSynchronized
  have hin : meth.name = "<init>" := (name_of_methodNamed B.named B.method).1
  subst hsz
  have hD : va_D (va_A [(h0, .inr (5, [.null, .null]))] s.heap.size) [(h0, .inr (5, [.null, .null]))] := va_D1 _ _
  generalize hAe : va_A [(h0, .inr (5, [.null, .null]))] s.heap.size = A at hD ⊢
  have hA : ∀ q : Nat, s.heap.size ≤ q → A q := fun q h => by rw [← hAe]; exact Or.inr h
  have hS : va_S A s.heap s.heap [] := va_S.rf
  have hl := lv_entry ([.ref h0]) (n := 1) (Nat.le_of_ble_eq_true rfl)
  rw [lg_entry_eq]
  generalize (lg_sl ([.ref h0]) ++ List.replicate (1 - (lg_sl ([.ref h0])).length) Slot.unset).toArray = ls at hl ⊢
  have hl : lv_has ls 1 [(0, .ref h0)] := hl
  refine lv_aload_n hx hb (show decode cX5_init 0 = .ok (.aload_n 0, 1) by decide +kernel) rfl (lv_at hl 0 rfl) ?_
  refine W.objInit hx hb hown (hts2 _ gwj_11) (hts2 _ gwi_1) (hts2 _ gwi_2) rfl (by rw [hml]; exact hl.1) rfl (show decode cX5_init 1 = .ok (.invokespecial 3, 3) by decide +kernel) (Nat.le_of_ble_eq_true rfl) (Nat.le_of_ble_eq_true rfl) ?_
  refine W.eq (g2 := F0 m 4 ls []) rfl ?_
  refine lv_aload_n hx hb (show decode cX5_init 4 = .ok (.aload_n 0, 1) by decide +kernel) rfl (lv_at hl 0 rfl) ?_
  refine lv_bipush (v := 7) hx hb (show decode cX5_init 5 = .ok (.bipush 7, 2) by decide +kernel) (by decide) ?_
  refine lv_bipush (v := 7) hx hb (show decode cX5_init 7 = .ok (.bipush 7, 2) by decide +kernel) (by decide) ?_
  refine va_mnaQ (N' := 7) (K' := 7) (ty := .int) (cy := gca E 0) hx hb hown (hts2 _ gwj_12) hNi.2.2 (hts2 _ gwj_6) ((hK.2 0 (gca E 0, .int) rfl).2) hK hP hD hS hA (by decide) (by decide) rfl rfl (Nat.le_of_ble_eq_true rfl) (Nat.le_of_ble_eq_true rfl) (Nat.le_of_ble_eq_true rfl) rfl rfl (Nat.le_of_ble_eq_true rfl) (Nat.le_of_ble_eq_true rfl) (fun c => (arrV_new _ _ _)) (show decode cX5_init 9 = .ok (.multianewarray 9 2, 4) by decide +kernel) (fun a0 cA H hK2 hP hD hS => ?_)
  have hcA : cA = gca E 5 := gca_eq hK2 5 rfl rfl
  subst hcA
  clear hK2
  have hP : va_P (gD E) vwCl ((h0, .inr (5, [.null, .null])) :: (gmul E a0 7 7) : va_W) H := hP
  have hD : va_D A ((h0, .inr (5, [.null, .null])) :: (gmul E a0 7 7) : va_W) := hD
  refine va_putF (D := gD E) (ci := 5) (v := .ref a0) (ty := .array (.array .int)) (C := RX5) (T := TX5) (N := 2) hx hb hts2 (fun w hw => gBig_of (guw_5 w hw) (gug_5 w hw)) tyX5 tyX5_ok (by decide +kernel) hown hK hP hD hS 0 rfl rfl 0 (by decide) (hts2 _ gwj_13) (fun _ h9 => h9) rfl hin rfl (by decide +kernel) rfl rfl (Nat.le_of_ble_eq_true rfl) (show decode cX5_init 13 = .ok (.putfield 11, 3) by decide +kernel) (fun H locs hP hD hS => ?_)
  have hP : va_P (gD E) vwCl ((h0, .inr (5, [.ref a0, .null])) :: (gmul E a0 7 7) : va_W) H := hP
  have hD : va_D A ((h0, .inr (5, [.ref a0, .null])) :: (gmul E a0 7 7) : va_W) := hD
  refine lv_aload_n hx hb (show decode cX5_init 16 = .ok (.aload_n 0, 1) by decide +kernel) rfl (lv_at hl 0 rfl) ?_
  refine lv_bipush (v := 7) hx hb (show decode cX5_init 17 = .ok (.bipush 7, 2) by decide +kernel) (by decide) ?_
  refine lv_bipush (v := 7) hx hb (show decode cX5_init 19 = .ok (.bipush 7, 2) by decide +kernel) (by decide) ?_
  refine va_mnaQ (N' := 7) (K' := 7) (ty := .int) (cy := gca E 0) hx hb hown (hts2 _ gwj_12) hNi.2.2 (hts2 _ gwj_6) ((hK.2 0 (gca E 0, .int) rfl).2) hK hP hD hS hA (by decide) (by decide) rfl rfl (Nat.le_of_ble_eq_true rfl) (Nat.le_of_ble_eq_true rfl) (Nat.le_of_ble_eq_true rfl) rfl rfl (Nat.le_of_ble_eq_true rfl) (Nat.le_of_ble_eq_true rfl) (fun c => (arrV_new _ _ _)) (show decode cX5_init 21 = .ok (.multianewarray 9 2, 4) by decide +kernel) (fun a1 cA H hK2 hP hD hS => ?_)
  have hcA : cA = gca E 5 := gca_eq hK2 5 rfl rfl
  subst hcA
  clear hK2
  have hP : va_P (gD E) vwCl ((h0, .inr (5, [.ref a0, .null])) :: (gmul E a0 7 7 ++ gmul E a1 7 7) : va_W) H := by simpa only [List.cons_append, List.append_assoc, List.nil_append, List.append_nil, List.set_cons_zero] using hP
  have hD : va_D A ((h0, .inr (5, [.ref a0, .null])) :: (gmul E a0 7 7 ++ gmul E a1 7 7) : va_W) := by simpa only [List.cons_append, List.append_assoc, List.nil_append, List.append_nil, List.set_cons_zero] using hD
  refine va_putF (D := gD E) (ci := 5) (v := .ref a1) (ty := .array (.array .int)) (C := RX5) (T := TX5) (N := 2) hx hb hts2 (fun w hw => gBig_of (guw_5 w hw) (gug_5 w hw)) tyX5 tyX5_ok (by decide +kernel) hown hK hP hD hS 0 rfl rfl 1 (by decide) (hts2 _ gwj_14) (fun _ h9 => h9) rfl hin rfl (by decide +kernel) rfl rfl (Nat.le_of_ble_eq_true rfl) (show decode cX5_init 25 = .ok (.putfield 16, 3) by decide +kernel) (fun H locs hP hD hS => ?_)
  have hP : va_P (gD E) vwCl ((h0, .inr (5, [.ref a0, .ref a1])) :: (gmul E a0 7 7 ++ gmul E a1 7 7) : va_W) H := by simpa only [List.cons_append, List.append_assoc, List.nil_append, List.append_nil, List.set_cons_zero] using hP
  have hD : va_D A ((h0, .inr (5, [.ref a0, .ref a1])) :: (gmul E a0 7 7 ++ gmul E a1 7 7) : va_W) := by simpa only [List.cons_append, List.append_assoc, List.nil_append, List.append_nil, List.set_cons_zero] using hD
  exact W.vret hx hb hr (fun t ht hW => ⟨⟨(fun i => match i with | 0 => a0 | 1 => a1 | _ => 0), rfl, trivial, by rw [ht]; exact hP, hD⟩, hS.F ht⟩) hS.2.2 (show decode cX5_init 28 = .ok (.return_, 1) by decide +kernel)
def gzw_3 (E : gEn) (h0 : Nat) (u : Nat → Nat) : va_W := ((h0, .inr (3, [.ref (u 0), .int 0, .ref (u 1), .int 0, .int 0, .int 0, .int 0, .int 0, .int 0, .int 0, .int 0, .int 0, .int 0, .int 0])) :: ([((u 0), .inl (gca E 3, 700, .inl (fun _ => 0)))] ++ gzw_6 E (u 1) (fun k => u (k + 2))) : va_W)
set_option maxHeartbeats 4000000 in
set_option maxRecDepth 100000 in
theorem gi_3 (l : Launch) (E : gEn) (h0 sz : Nat) : Met l yX3_init (Cond.code yX3_init cX3_init 1 none :: gBig) ({ frames := 2, cells := 8, slots := 842, locals := 32 }) (va_Pc [.ref h0] (fun U => U.heap.size = sz ∧ va_P (gD E) vwCl [(h0, .inr (3, [.null, .int 0, .null, .int 0, .int 0, .int 0, .int 0, .int 0, .int 0, .int 0, .int 0, .int 0, .int 0, .int 0]))] U.heap ∧ va_K (gD E) vwCl (gtys E) U ∧ gNi U)) (va_Qv (fun _ : Nat → Nat => True) (fun u t => va_P (gD E) vwCl (gzw_3 E h0 u) t.heap ∧ va_D (va_A [(h0, .inr (3, [.null, .int 0, .null, .int 0, .int 0, .int 0, .int 0, .int 0, .int 0, .int 0, .int 0, .int 0, .int 0, .int 0]))] sz) (gzw_3 E h0 u)) (va_A [(h0, .inr (3, [.null, .int 0, .null, .int 0, .int 0, .int 0, .int 0, .int 0, .int 0, .int 0, .int 0, .int 0, .int 0, .int 0]))] sz)) 8 842 (va_A [(h0, .inr (3, [.null, .int 0, .null, .int 0, .int 0, .int 0, .int 0, .int 0, .int 0, .int 0, .int 0, .int 0, .int 0, .int 0]))] sz) := by
  refine Met.ofW (cc := cX3_init) (maxL := 1) (ret := none) (by decide) rfl ?_
  intro p e s m args below meth c s₁ B hml hv
  obtain ⟨rfl, hsz, hP, hK, hNi⟩ := hv
  have hx := B.exec
  have hb := B.bytes
  have hr := B.returns
  have hts := atoms_spec (ws := Cond.code yX3_init cX3_init 1 none :: gBig) B.pre
  have hts2 : ∀ w ∈ gBig, w.before #[.ref h0] s = true := fun w hw => hts w (List.mem_cons_of_mem _ hw)
  have hown : s.vm.findClass RX3 = some m.cls := findClass_of_methodNamed B.named
  have hlocks := B.notSynchronized
  have hin : meth.name = "<init>" := (name_of_methodNamed B.named B.method).1
  subst hsz
  have hD : va_D (va_A [(h0, .inr (3, [.null, .int 0, .null, .int 0, .int 0, .int 0, .int 0, .int 0, .int 0, .int 0, .int 0, .int 0, .int 0, .int 0]))] s.heap.size) [(h0, .inr (3, [.null, .int 0, .null, .int 0, .int 0, .int 0, .int 0, .int 0, .int 0, .int 0, .int 0, .int 0, .int 0, .int 0]))] := va_D1 _ _
  generalize hAe : va_A [(h0, .inr (3, [.null, .int 0, .null, .int 0, .int 0, .int 0, .int 0, .int 0, .int 0, .int 0, .int 0, .int 0, .int 0, .int 0]))] s.heap.size = A at hD ⊢
  have hA : ∀ q : Nat, s.heap.size ≤ q → A q := fun q h => by rw [← hAe]; exact Or.inr h
  have hS : va_S A s.heap s.heap [] := va_S.rf
  have hl := lv_entry ([.ref h0]) (n := 1) (Nat.le_of_ble_eq_true rfl)
  rw [lg_entry_eq]
  generalize (lg_sl ([.ref h0]) ++ List.replicate (1 - (lg_sl ([.ref h0])).length) Slot.unset).toArray = ls at hl ⊢
  have hl : lv_has ls 1 [(0, .ref h0)] := hl
  refine lv_aload_n hx hb (show decode cX3_init 0 = .ok (.aload_n 0, 1) by decide +kernel) rfl (lv_at hl 0 rfl) ?_
  refine W.objInit hx hb hown (hts2 _ gwj_15) (hts2 _ gwi_1) (hts2 _ gwi_2) rfl (by rw [hml]; exact hl.1) rfl (show decode cX3_init 1 = .ok (.invokespecial 3, 3) by decide +kernel) (Nat.le_of_ble_eq_true rfl) (Nat.le_of_ble_eq_true rfl) ?_
  refine W.eq (g2 := F0 m 4 ls []) rfl ?_
  refine lv_aload_n hx hb (show decode cX3_init 4 = .ok (.aload_n 0, 1) by decide +kernel) rfl (lv_at hl 0 rfl) ?_
  refine lv_sipush (v := 700) hx hb (show decode cX3_init 5 = .ok (.sipush 700, 3) by decide +kernel) (by decide) ?_
  refine va_newa (atype := .byte) (ty := .byte) (a0 := (700, .inl (fun _ => 0))) (N' := 700) hx hb (hts2 _ gwj_16) rfl hK hP hD hS hA (fun _ => rfl) (by decide) rfl (Nat.le_of_ble_eq_true rfl) (Nat.le_of_ble_eq_true rfl) (Nat.le_of_ble_eq_true rfl) (show decode cX3_init 8 = .ok (.newarray .byte, 2) by decide +kernel) (fun a0 cA H hK2 hP hD hS => ?_)
  have hcA : cA = gca E 3 := gca_eq hK2 3 rfl rfl
  subst hcA
  clear hK2
  have hP : va_P (gD E) vwCl ((h0, .inr (3, [.null, .int 0, .null, .int 0, .int 0, .int 0, .int 0, .int 0, .int 0, .int 0, .int 0, .int 0, .int 0, .int 0])) :: ([(a0, .inl (gca E 3, 700, .inl (fun _ => 0)))]) : va_W) H := hP
  have hD : va_D A ((h0, .inr (3, [.null, .int 0, .null, .int 0, .int 0, .int 0, .int 0, .int 0, .int 0, .int 0, .int 0, .int 0, .int 0, .int 0])) :: ([(a0, .inl (gca E 3, 700, .inl (fun _ => 0)))]) : va_W) := hD
  refine va_putF (D := gD E) (ci := 3) (v := .ref a0) (ty := .array .byte) (C := RX3) (T := TX3) (N := 14) hx hb hts2 (fun w hw => gBig_of (guw_3 w hw) (gug_3 w hw)) tyX3 tyX3_ok (by decide +kernel) hown hK hP hD hS 0 rfl rfl 0 (by decide) (hts2 _ gwj_17) (fun _ h9 => h9) rfl hin rfl (by decide +kernel) rfl rfl (Nat.le_of_ble_eq_true rfl) (show decode cX3_init 10 = .ok (.putfield 9, 3) by decide +kernel) (fun H locs hP hD hS => ?_)
  have hP : va_P (gD E) vwCl ((h0, .inr (3, [.ref a0, .int 0, .null, .int 0, .int 0, .int 0, .int 0, .int 0, .int 0, .int 0, .int 0, .int 0, .int 0, .int 0])) :: ([(a0, .inl (gca E 3, 700, .inl (fun _ => 0)))]) : va_W) H := hP
  have hD : va_D A ((h0, .inr (3, [.ref a0, .int 0, .null, .int 0, .int 0, .int 0, .int 0, .int 0, .int 0, .int 0, .int 0, .int 0, .int 0, .int 0])) :: ([(a0, .inl (gca E 3, 700, .inl (fun _ => 0)))]) : va_W) := hD
  refine lv_aload_n hx hb (show decode cX3_init 13 = .ok (.aload_n 0, 1) by decide +kernel) rfl (lv_at hl 0 rfl) ?_
  refine va_new (ci := 6) (fs := [.int 0, .int 0, .null, .null, .null, .int 0, .long 0, .null, .null, .int 0, .null]) (C := RX6) (T := TX6) (N := 11) hx hb hts2 (fun w hw => gBig_of (guw_6 w hw) (gug_6 w hw)) tyX6 tyX6_ok hown (hts2 _ gwj_18) (hts2 _ gwj_19) (hts2 _ gwj_20) hK hP hD hS hA rfl (fun j hj => by rcases (show j = 0 ∨ j = 1 ∨ j = 2 ∨ j = 3 ∨ j = 4 ∨ j = 5 ∨ j = 6 ∨ j = 7 ∨ j = 8 ∨ j = 9 ∨ j = 10 by omega) with rfl | rfl | rfl | rfl | rfl | rfl | rfl | rfl | rfl | rfl | rfl <;> rfl) (Nat.le_of_ble_eq_true rfl) (Nat.le_of_ble_eq_true rfl) (show decode cX3_init 14 = .ok (.new 15, 3) by decide +kernel) (fun a1 H hP hD hS => ?_)
  refine lv_dup hx hb (show decode cX3_init 17 = .ok (.dup, 1) by decide +kernel) rfl ?_
  have hP : va_P (gD E) vwCl (((h0, .inr (3, [.ref a0, .int 0, .null, .int 0, .int 0, .int 0, .int 0, .int 0, .int 0, .int 0, .int 0, .int 0, .int 0, .int 0])) :: ([(a0, .inl (gca E 3, 700, .inl (fun _ => 0)))]) : va_W) ++ [(a1, .inr (6, [.int 0, .int 0, .null, .null, .null, .int 0, .long 0, .null, .null, .int 0, .null]))]) H := hP
  have hD : va_D A (((h0, .inr (3, [.ref a0, .int 0, .null, .int 0, .int 0, .int 0, .int 0, .int 0, .int 0, .int 0, .int 0, .int 0, .int 0, .int 0])) :: ([(a0, .inl (gca E 3, 700, .inl (fun _ => 0)))]) : va_W) ++ [(a1, .inr (6, [.int 0, .int 0, .null, .null, .null, .int 0, .long 0, .null, .null, .int 0, .null]))]) := hD
  have hPc := gj_P hP
  have hFc := gj_F hD hS hA
  have cw : va_CN (headSpec (Cond.code yX3_init cX3_init 1 none :: gBig) ({ frames := 2, cells := 8, slots := 842, locals := 32 })).room s #[.ref h0] RX3 17 yX6_init "ToeplitzLab" cX6_init 1 none (Cond.code yX6_init cX6_init 1 none :: gBig) ({ frames := 1, cells := 6, slots := 131, locals := 12 }) 6 131 0 := va_cnB 0 hts2 (gGood_code gwj_21) rfl rfl rfl (hNi.1 _ (List.mem_of_getElem? (i := 1) rfl)) (hts2 _ gwj_20) (by decide +kernel) ⟨Nat.le_of_ble_eq_true rfl, Nat.le_of_ble_eq_true rfl⟩
  refine va_callv (va_runIN (Ts := gBig) (As := []) (rest := [.ref a1, .ref h0]) ⟨hx, hb, hml, hown, hts2⟩ (gi_6 l E a1 H.size) ⟨cw, rfl, hts2 _ gwj_22⟩ ⟨fun a U g mk z => gi_bl1 z, fun U hU hW => ⟨rfl, by rw [hU], by rw [hU]; exact hPc, va_K.moved hW.alike hK⟩⟩ rfl rfl hl.1 rfl (lv_room (Nat.le_of_ble_eq_true rfl)) (show decode cX3_init 18 = .ok (.invokespecial 17, 3) by decide +kernel) ⟨Nat.le_of_ble_eq_true rfl, Nat.le_of_ble_eq_true rfl⟩) hS (fun q _ h => hFc q h) hFc (fun f0 t H1 locs ht hvm _ hB hz1 hk1 hS => ?_)
  obtain ⟨hP1, hD1⟩ := hB
  rw [ht] at hP1
  obtain ⟨hP, hD⟩ := gjoin (W0 := ((h0, .inr (3, [.ref a0, .int 0, .null, .int 0, .int 0, .int 0, .int 0, .int 0, .int 0, .int 0, .int 0, .int 0, .int 0, .int 0])) :: ([(a0, .inl (gca E 3, 700, .inl (fun _ => 0)))]) : va_W)) hP hD hFc hk1 hP1 hD1
  clear hPc hFc cw hP1 hD1 ht hvm hz1 hk1
  generalize H1 = H at hP hS ⊢
  have hP : va_P (gD E) vwCl ((h0, .inr (3, [.ref a0, .int 0, .null, .int 0, .int 0, .int 0, .int 0, .int 0, .int 0, .int 0, .int 0, .int 0, .int 0, .int 0])) :: ([(a0, .inl (gca E 3, 700, .inl (fun _ => 0)))] ++ gzw_6 E a1 f0) : va_W) H := by simpa only [List.cons_append, List.append_assoc, List.nil_append, List.append_nil] using hP
  have hD : va_D A ((h0, .inr (3, [.ref a0, .int 0, .null, .int 0, .int 0, .int 0, .int 0, .int 0, .int 0, .int 0, .int 0, .int 0, .int 0, .int 0])) :: ([(a0, .inl (gca E 3, 700, .inl (fun _ => 0)))] ++ gzw_6 E a1 f0) : va_W) := by simpa only [List.cons_append, List.append_assoc, List.nil_append, List.append_nil] using hD
  refine va_putF (D := gD E) (ci := 3) (v := .ref a1) (ty := .object "ToeplitzLab$State") (C := RX3) (T := TX3) (N := 14) hx hb hts2 (fun w hw => gBig_of (guw_3 w hw) (gug_3 w hw)) tyX3 tyX3_ok (by decide +kernel) hown hK hP hD hS 0 rfl rfl 2 (by decide) (hts2 _ gwj_23) (fun _ h9 => h9) rfl hin rfl (by decide +kernel) rfl rfl (Nat.le_of_ble_eq_true rfl) (show decode cX3_init 21 = .ok (.putfield 18, 3) by decide +kernel) (fun H locs hP hD hS => ?_)
  have hP : va_P (gD E) vwCl ((h0, .inr (3, [.ref a0, .int 0, .ref a1, .int 0, .int 0, .int 0, .int 0, .int 0, .int 0, .int 0, .int 0, .int 0, .int 0, .int 0])) :: ([(a0, .inl (gca E 3, 700, .inl (fun _ => 0)))] ++ gzw_6 E a1 f0) : va_W) H := by simpa only [List.cons_append, List.append_assoc, List.nil_append, List.append_nil, List.set_cons_zero] using hP
  have hD : va_D A ((h0, .inr (3, [.ref a0, .int 0, .ref a1, .int 0, .int 0, .int 0, .int 0, .int 0, .int 0, .int 0, .int 0, .int 0, .int 0, .int 0])) :: ([(a0, .inl (gca E 3, 700, .inl (fun _ => 0)))] ++ gzw_6 E a1 f0) : va_W) := by simpa only [List.cons_append, List.append_assoc, List.nil_append, List.append_nil, List.set_cons_zero] using hD
  exact W.vret hx hb hr (fun t ht hW => ⟨⟨(fun i => match i with | 0 => a0 | 1 => a1 | k + 2 => f0 k), rfl, trivial, by rw [ht]; exact hP, hD⟩, hS.F ht⟩) hS.2.2 (show decode cX3_init 24 = .ok (.return_, 1) by decide +kernel)
def gzw_4 (E : gEn) (h0 : Nat) (u : Nat → Nat) : va_W := ((h0, .inr (4, [.ref (u 0), .ref (u 1)])) :: (gzw_1 E (u 0) (fun k => u (k + 2)) ++ [((u 1), .inl (gca E 0, 7, .inl (fun _ => 0)))]) : va_W)
set_option maxHeartbeats 4000000 in
set_option maxRecDepth 100000 in
theorem gi_4 (l : Launch) (E : gEn) (h0 sz : Nat) : Met l yX4_init (Cond.code yX4_init cX4_init 1 none :: gBig) ({ frames := 2, cells := 10, slots := 118, locals := 32 }) (va_Pc [.ref h0] (fun U => U.heap.size = sz ∧ va_P (gD E) vwCl [(h0, .inr (4, [.null, .null]))] U.heap ∧ va_K (gD E) vwCl (gtys E) U ∧ gNi U)) (va_Qv (fun _ : Nat → Nat => True) (fun u t => va_P (gD E) vwCl (gzw_4 E h0 u) t.heap ∧ va_D (va_A [(h0, .inr (4, [.null, .null]))] sz) (gzw_4 E h0 u)) (va_A [(h0, .inr (4, [.null, .null]))] sz)) 10 118 (va_A [(h0, .inr (4, [.null, .null]))] sz) := by
  refine Met.ofW (cc := cX4_init) (maxL := 1) (ret := none) (by decide) rfl ?_
  intro p e s m args below meth c s₁ B hml hv
  obtain ⟨rfl, hsz, hP, hK, hNi⟩ := hv
  have hx := B.exec
  have hb := B.bytes
  have hr := B.returns
  have hts := atoms_spec (ws := Cond.code yX4_init cX4_init 1 none :: gBig) B.pre
  have hts2 : ∀ w ∈ gBig, w.before #[.ref h0] s = true := fun w hw => hts w (List.mem_cons_of_mem _ hw)
  have hown : s.vm.findClass RX4 = some m.cls := findClass_of_methodNamed B.named
  have hlocks := B.notSynchronized
  have hin : meth.name = "<init>" := (name_of_methodNamed B.named B.method).1
  subst hsz
  have hD : va_D (va_A [(h0, .inr (4, [.null, .null]))] s.heap.size) [(h0, .inr (4, [.null, .null]))] := va_D1 _ _
  generalize hAe : va_A [(h0, .inr (4, [.null, .null]))] s.heap.size = A at hD ⊢
  have hA : ∀ q : Nat, s.heap.size ≤ q → A q := fun q h => by rw [← hAe]; exact Or.inr h
  have hS : va_S A s.heap s.heap [] := va_S.rf
  have hl := lv_entry ([.ref h0]) (n := 1) (Nat.le_of_ble_eq_true rfl)
  rw [lg_entry_eq]
  generalize (lg_sl ([.ref h0]) ++ List.replicate (1 - (lg_sl ([.ref h0])).length) Slot.unset).toArray = ls at hl ⊢
  have hl : lv_has ls 1 [(0, .ref h0)] := hl
  refine lv_aload_n hx hb (show decode cX4_init 0 = .ok (.aload_n 0, 1) by decide +kernel) rfl (lv_at hl 0 rfl) ?_
  refine W.objInit hx hb hown (hts2 _ gwj_24) (hts2 _ gwi_1) (hts2 _ gwi_2) rfl (by rw [hml]; exact hl.1) rfl (show decode cX4_init 1 = .ok (.invokespecial 3, 3) by decide +kernel) (Nat.le_of_ble_eq_true rfl) (Nat.le_of_ble_eq_true rfl) ?_
  refine W.eq (g2 := F0 m 4 ls []) rfl ?_
  refine lv_aload_n hx hb (show decode cX4_init 4 = .ok (.aload_n 0, 1) by decide +kernel) rfl (lv_at hl 0 rfl) ?_
  refine va_new (ci := 1) (fs := [.null, .int 0, .int 0, .int 0, .int 0, .int 0]) (C := RX1) (T := TX1) (N := 6) hx hb hts2 (fun w hw => gBig_of (guw_1 w hw) (gug_1 w hw)) tyX1 tyX1_ok hown (hts2 _ gwj_25) (hts2 _ gwj_26) (hts2 _ gwj_27) hK hP hD hS hA rfl (fun j hj => by rcases (show j = 0 ∨ j = 1 ∨ j = 2 ∨ j = 3 ∨ j = 4 ∨ j = 5 by omega) with rfl | rfl | rfl | rfl | rfl | rfl <;> rfl) (Nat.le_of_ble_eq_true rfl) (Nat.le_of_ble_eq_true rfl) (show decode cX4_init 5 = .ok (.new 9, 3) by decide +kernel) (fun a0 H hP hD hS => ?_)
  refine lv_dup hx hb (show decode cX4_init 8 = .ok (.dup, 1) by decide +kernel) rfl ?_
  have hP : va_P (gD E) vwCl (((h0, .inr (4, [.null, .null])) :: ([]) : va_W) ++ [(a0, .inr (1, [.null, .int 0, .int 0, .int 0, .int 0, .int 0]))]) H := hP
  have hD : va_D A (((h0, .inr (4, [.null, .null])) :: ([]) : va_W) ++ [(a0, .inr (1, [.null, .int 0, .int 0, .int 0, .int 0, .int 0]))]) := hD
  have hPc := gj_P hP
  have hFc := gj_F hD hS hA
  have cw : va_CN (headSpec (Cond.code yX4_init cX4_init 1 none :: gBig) ({ frames := 2, cells := 10, slots := 118, locals := 32 })).room s #[.ref h0] RX4 11 yX1_init "ToeplitzLab" cX1_init 1 none (Cond.code yX1_init cX1_init 1 none :: gBig) ({ frames := 1, cells := 8, slots := 105, locals := 12 }) 8 105 0 := va_cnB 0 hts2 (gGood_code gwj_28) rfl rfl rfl (hNi.1 _ (List.mem_of_getElem? (i := 8) rfl)) (hts2 _ gwj_27) (by decide +kernel) ⟨Nat.le_of_ble_eq_true rfl, Nat.le_of_ble_eq_true rfl⟩
  refine va_callv (va_runIN (Ts := gBig) (As := []) (rest := [.ref a0, .ref h0]) ⟨hx, hb, hml, hown, hts2⟩ (gi_1 l E a0 H.size) ⟨cw, rfl, hts2 _ gwj_29⟩ ⟨fun a U g mk z => gi_bl2 z, fun U hU hW => ⟨rfl, by rw [hU], by rw [hU]; exact hPc, ⟨va_K.moved hW.alike hK, hNi.warm hW⟩⟩⟩ rfl rfl hl.1 rfl (lv_room (Nat.le_of_ble_eq_true rfl)) (show decode cX4_init 9 = .ok (.invokespecial 11, 3) by decide +kernel) ⟨Nat.le_of_ble_eq_true rfl, Nat.le_of_ble_eq_true rfl⟩) hS (fun q _ h => hFc q h) hFc (fun f0 t H1 locs ht hvm _ hB hz1 hk1 hS => ?_)
  obtain ⟨hP1, hD1⟩ := hB
  rw [ht] at hP1
  obtain ⟨hP, hD⟩ := gjoin (W0 := ((h0, .inr (4, [.null, .null])) :: ([]) : va_W)) hP hD hFc hk1 hP1 hD1
  clear hPc hFc cw hP1 hD1 ht hvm hz1 hk1
  generalize H1 = H at hP hS ⊢
  have hP : va_P (gD E) vwCl ((h0, .inr (4, [.null, .null])) :: (gzw_1 E a0 f0) : va_W) H := by simpa only [List.cons_append, List.append_assoc, List.nil_append, List.append_nil] using hP
  have hD : va_D A ((h0, .inr (4, [.null, .null])) :: (gzw_1 E a0 f0) : va_W) := by simpa only [List.cons_append, List.append_assoc, List.nil_append, List.append_nil] using hD
  refine va_putF (D := gD E) (ci := 4) (v := .ref a0) (ty := .object "ToeplitzLab$Grid") (C := RX4) (T := TX4) (N := 2) hx hb hts2 (fun w hw => gBig_of (guw_4 w hw) (gug_4 w hw)) tyX4 tyX4_ok (by decide +kernel) hown hK hP hD hS 0 rfl rfl 0 (by decide) (hts2 _ gwj_30) (fun _ h9 => h9) rfl hin rfl (by decide +kernel) rfl rfl (Nat.le_of_ble_eq_true rfl) (show decode cX4_init 12 = .ok (.putfield 12, 3) by decide +kernel) (fun H locs hP hD hS => ?_)
  have hP : va_P (gD E) vwCl ((h0, .inr (4, [.ref a0, .null])) :: (gzw_1 E a0 f0) : va_W) H := hP
  have hD : va_D A ((h0, .inr (4, [.ref a0, .null])) :: (gzw_1 E a0 f0) : va_W) := hD
  refine lv_aload_n hx hb (show decode cX4_init 15 = .ok (.aload_n 0, 1) by decide +kernel) rfl (lv_at hl 0 rfl) ?_
  refine lv_bipush (v := 7) hx hb (show decode cX4_init 16 = .ok (.bipush 7, 2) by decide +kernel) (by decide) ?_
  refine va_newa (atype := .int) (ty := .int) (a0 := (7, .inl (fun _ => 0))) (N' := 7) hx hb (hts2 _ gwj_6) rfl hK hP hD hS hA (fun _ => rfl) (by decide) rfl (Nat.le_of_ble_eq_true rfl) (Nat.le_of_ble_eq_true rfl) (Nat.le_of_ble_eq_true rfl) (show decode cX4_init 18 = .ok (.newarray .int, 2) by decide +kernel) (fun a1 cA H hK2 hP hD hS => ?_)
  have hcA : cA = gca E 0 := gca_eq hK2 0 rfl rfl
  subst hcA
  clear hK2
  have hP : va_P (gD E) vwCl ((h0, .inr (4, [.ref a0, .null])) :: (gzw_1 E a0 f0 ++ [(a1, .inl (gca E 0, 7, .inl (fun _ => 0)))]) : va_W) H := by simpa only [List.cons_append, List.append_assoc, List.nil_append, List.append_nil, List.set_cons_zero] using hP
  have hD : va_D A ((h0, .inr (4, [.ref a0, .null])) :: (gzw_1 E a0 f0 ++ [(a1, .inl (gca E 0, 7, .inl (fun _ => 0)))]) : va_W) := by simpa only [List.cons_append, List.append_assoc, List.nil_append, List.append_nil, List.set_cons_zero] using hD
  refine va_putF (D := gD E) (ci := 4) (v := .ref a1) (ty := .array .int) (C := RX4) (T := TX4) (N := 2) hx hb hts2 (fun w hw => gBig_of (guw_4 w hw) (gug_4 w hw)) tyX4 tyX4_ok (by decide +kernel) hown hK hP hD hS 0 rfl rfl 1 (by decide) (hts2 _ gwj_31) (fun _ h9 => h9) rfl hin rfl (by decide +kernel) rfl rfl (Nat.le_of_ble_eq_true rfl) (show decode cX4_init 20 = .ok (.putfield 18, 3) by decide +kernel) (fun H locs hP hD hS => ?_)
  have hP : va_P (gD E) vwCl ((h0, .inr (4, [.ref a0, .ref a1])) :: (gzw_1 E a0 f0 ++ [(a1, .inl (gca E 0, 7, .inl (fun _ => 0)))]) : va_W) H := by simpa only [List.cons_append, List.append_assoc, List.nil_append, List.append_nil, List.set_cons_zero] using hP
  have hD : va_D A ((h0, .inr (4, [.ref a0, .ref a1])) :: (gzw_1 E a0 f0 ++ [(a1, .inl (gca E 0, 7, .inl (fun _ => 0)))]) : va_W) := by simpa only [List.cons_append, List.append_assoc, List.nil_append, List.append_nil, List.set_cons_zero] using hD
  exact W.vret hx hb hr (fun t ht hW => ⟨⟨(fun i => match i with | 0 => a0 | 1 => a1 | k + 2 => f0 k), rfl, trivial, by rw [ht]; exact hP, hD⟩, hS.F ht⟩) hS.2.2 (show decode cX4_init 23 = .ok (.return_, 1) by decide +kernel)
def gzw_7 (E : gEn) (h0 : Nat) (u : (Nat → Nat) × (Nat → Nat → Nat)) : va_W := ((h0, .inr (7, [.ref (u.1 0), .ref (u.1 1), .ref (u.1 2), .ref (u.1 3), .ref (u.1 4), .ref (u.1 5), .ref (u.1 6), .ref (u.1 7), .ref (u.1 8), .ref (u.1 9), .ref (u.1 10)])) :: (gzw_3 E (u.1 0) (u.2 0) ++ gzw_6 E (u.1 1) (u.2 1) ++ gzw_6 E (u.1 2) (u.2 2) ++ gzw_2 E (u.1 3) (u.2 3) ++ [((u.1 4), .inl (gca E 6, 2, .inr (.inr (.inr (.inr (fun _ => none))))))] ++ [((u.1 5), .inl (gca E 2, 2, .inl (fun _ => 0)))] ++ gzw_1 E (u.1 6) (u.2 4) ++ gzw_5 E (u.1 7) (u.2 5) ++ gzw_0 E (u.1 8) (u.2 6) ++ gzw_4 E (u.1 9) (u.2 7) ++ [((u.1 10), .inl (gca E 0, 8, .inl (fun _ => 0)))]) : va_W)
set_option maxHeartbeats 4000000 in
set_option maxRecDepth 100000 in
theorem gi_7 (l : Launch) (E : gEn) (h0 sz : Nat) : Met l yX7_init (Cond.code yX7_init cX7_init 1 none :: gBig) ({ frames := 3, cells := 68, slots := 1524, locals := 52 }) (va_Pc [.ref h0] (fun U => U.heap.size = sz ∧ va_P (gD E) vwCl [(h0, .inr (7, [.null, .null, .null, .null, .null, .null, .null, .null, .null, .null, .null]))] U.heap ∧ va_K (gD E) vwCl (gtys E) U ∧ gNi U)) (va_Qv (fun _ : (Nat → Nat) × (Nat → Nat → Nat) => True) (fun u t => va_P (gD E) vwCl (gzw_7 E h0 u) t.heap ∧ va_D (va_A [(h0, .inr (7, [.null, .null, .null, .null, .null, .null, .null, .null, .null, .null, .null]))] sz) (gzw_7 E h0 u)) (va_A [(h0, .inr (7, [.null, .null, .null, .null, .null, .null, .null, .null, .null, .null, .null]))] sz)) 68 1524 (va_A [(h0, .inr (7, [.null, .null, .null, .null, .null, .null, .null, .null, .null, .null, .null]))] sz) := by
  refine Met.ofW (cc := cX7_init) (maxL := 1) (ret := none) (by decide) rfl ?_
  intro p e s m args below meth c s₁ B hml hv
  obtain ⟨rfl, hsz, hP, hK, hNi⟩ := hv
  have hx := B.exec
  have hb := B.bytes
  have hr := B.returns
  have hts := atoms_spec (ws := Cond.code yX7_init cX7_init 1 none :: gBig) B.pre
  have hts2 : ∀ w ∈ gBig, w.before #[.ref h0] s = true := fun w hw => hts w (List.mem_cons_of_mem _ hw)
  have hown : s.vm.findClass RX7 = some m.cls := findClass_of_methodNamed B.named
  have hlocks := B.notSynchronized
  have hin : meth.name = "<init>" := (name_of_methodNamed B.named B.method).1
  subst hsz
  have hD : va_D (va_A [(h0, .inr (7, [.null, .null, .null, .null, .null, .null, .null, .null, .null, .null, .null]))] s.heap.size) [(h0, .inr (7, [.null, .null, .null, .null, .null, .null, .null, .null, .null, .null, .null]))] := va_D1 _ _
  generalize hAe : va_A [(h0, .inr (7, [.null, .null, .null, .null, .null, .null, .null, .null, .null, .null, .null]))] s.heap.size = A at hD ⊢
  have hA : ∀ q : Nat, s.heap.size ≤ q → A q := fun q h => by rw [← hAe]; exact Or.inr h
  have hS : va_S A s.heap s.heap [] := va_S.rf
  have hl := lv_entry ([.ref h0]) (n := 1) (Nat.le_of_ble_eq_true rfl)
  rw [lg_entry_eq]
  generalize (lg_sl ([.ref h0]) ++ List.replicate (1 - (lg_sl ([.ref h0])).length) Slot.unset).toArray = ls at hl ⊢
  have hl : lv_has ls 1 [(0, .ref h0)] := hl
  refine lv_aload_n hx hb (show decode cX7_init 0 = .ok (.aload_n 0, 1) by decide +kernel) rfl (lv_at hl 0 rfl) ?_
  refine W.objInit hx hb hown (hts2 _ gwj_32) (hts2 _ gwi_1) (hts2 _ gwi_2) rfl (by rw [hml]; exact hl.1) rfl (show decode cX7_init 1 = .ok (.invokespecial 1, 3) by decide +kernel) (Nat.le_of_ble_eq_true rfl) (Nat.le_of_ble_eq_true rfl) ?_
  refine W.eq (g2 := F0 m 4 ls []) rfl ?_
  refine lv_aload_n hx hb (show decode cX7_init 4 = .ok (.aload_n 0, 1) by decide +kernel) rfl (lv_at hl 0 rfl) ?_
  refine va_new (ci := 3) (fs := [.null, .int 0, .null, .int 0, .int 0, .int 0, .int 0, .int 0, .int 0, .int 0, .int 0, .int 0, .int 0, .int 0]) (C := RX3) (T := TX3) (N := 14) hx hb hts2 (fun w hw => gBig_of (guw_3 w hw) (gug_3 w hw)) tyX3 tyX3_ok hown (hts2 _ gwj_33) (hts2 _ gwj_34) (hts2 _ gwj_35) hK hP hD hS hA rfl (fun j hj => by rcases (show j = 0 ∨ j = 1 ∨ j = 2 ∨ j = 3 ∨ j = 4 ∨ j = 5 ∨ j = 6 ∨ j = 7 ∨ j = 8 ∨ j = 9 ∨ j = 10 ∨ j = 11 ∨ j = 12 ∨ j = 13 by omega) with rfl | rfl | rfl | rfl | rfl | rfl | rfl | rfl | rfl | rfl | rfl | rfl | rfl | rfl <;> rfl) (Nat.le_of_ble_eq_true rfl) (Nat.le_of_ble_eq_true rfl) (show decode cX7_init 5 = .ok (.new 7, 3) by decide +kernel) (fun a0 H hP hD hS => ?_)
  refine lv_dup hx hb (show decode cX7_init 8 = .ok (.dup, 1) by decide +kernel) rfl ?_
  have hP : va_P (gD E) vwCl (((h0, .inr (7, [.null, .null, .null, .null, .null, .null, .null, .null, .null, .null, .null])) :: ([]) : va_W) ++ [(a0, .inr (3, [.null, .int 0, .null, .int 0, .int 0, .int 0, .int 0, .int 0, .int 0, .int 0, .int 0, .int 0, .int 0, .int 0]))]) H := hP
  have hD : va_D A (((h0, .inr (7, [.null, .null, .null, .null, .null, .null, .null, .null, .null, .null, .null])) :: ([]) : va_W) ++ [(a0, .inr (3, [.null, .int 0, .null, .int 0, .int 0, .int 0, .int 0, .int 0, .int 0, .int 0, .int 0, .int 0, .int 0, .int 0]))]) := hD
  have hPc := gj_P hP
  have hFc := gj_F hD hS hA
  have cw : va_CN (headSpec (Cond.code yX7_init cX7_init 1 none :: gBig) ({ frames := 3, cells := 68, slots := 1524, locals := 52 })).room s #[.ref h0] RX7 9 yX3_init "ToeplitzLab" cX3_init 1 none (Cond.code yX3_init cX3_init 1 none :: gBig) ({ frames := 2, cells := 8, slots := 842, locals := 32 }) 8 842 0 := va_cnB 0 hts2 (gGood_code gwj_36) rfl rfl rfl (hNi.1 _ (List.mem_of_getElem? (i := 0) rfl)) (hts2 _ gwj_35) (by decide +kernel) ⟨Nat.le_of_ble_eq_true rfl, Nat.le_of_ble_eq_true rfl⟩
  refine va_callv (va_runIN (Ts := gBig) (As := []) (rest := [.ref a0, .ref h0]) ⟨hx, hb, hml, hown, hts2⟩ (gi_3 l E a0 H.size) ⟨cw, rfl, hts2 _ gwj_37⟩ ⟨fun a U g mk z => gi_bl2 z, fun U hU hW => ⟨rfl, by rw [hU], by rw [hU]; exact hPc, ⟨va_K.moved hW.alike hK, hNi.warm hW⟩⟩⟩ rfl rfl hl.1 rfl (lv_room (Nat.le_of_ble_eq_true rfl)) (show decode cX7_init 9 = .ok (.invokespecial 9, 3) by decide +kernel) ⟨Nat.le_of_ble_eq_true rfl, Nat.le_of_ble_eq_true rfl⟩) hS (fun q _ h => hFc q h) hFc (fun f0 t H1 locs ht hvm _ hB hz1 hk1 hS => ?_)
  obtain ⟨hP1, hD1⟩ := hB
  rw [ht] at hP1
  obtain ⟨hP, hD⟩ := gjoin (W0 := ((h0, .inr (7, [.null, .null, .null, .null, .null, .null, .null, .null, .null, .null, .null])) :: ([]) : va_W)) hP hD hFc hk1 hP1 hD1
  clear hPc hFc cw hP1 hD1 ht hvm hz1 hk1
  generalize H1 = H at hP hS ⊢
  have hP : va_P (gD E) vwCl ((h0, .inr (7, [.null, .null, .null, .null, .null, .null, .null, .null, .null, .null, .null])) :: (gzw_3 E a0 f0) : va_W) H := by simpa only [List.cons_append, List.append_assoc, List.nil_append, List.append_nil] using hP
  have hD : va_D A ((h0, .inr (7, [.null, .null, .null, .null, .null, .null, .null, .null, .null, .null, .null])) :: (gzw_3 E a0 f0) : va_W) := by simpa only [List.cons_append, List.append_assoc, List.nil_append, List.append_nil] using hD
  refine va_putF (D := gD E) (ci := 7) (v := .ref a0) (ty := .object "ToeplitzLab$Input") (C := RX7) (T := TX7) (N := 11) hx hb hts2 (fun w hw => gBig_of (guw_7 w hw) (gug_7 w hw)) tyX7 tyX7_ok (by decide +kernel) hown hK hP hD hS 0 rfl rfl 0 (by decide) (hts2 _ gwj_38) (fun _ h9 => h9) rfl hin rfl (by decide +kernel) rfl rfl (Nat.le_of_ble_eq_true rfl) (show decode cX7_init 12 = .ok (.putfield 10, 3) by decide +kernel) (fun H locs hP hD hS => ?_)
  have hP : va_P (gD E) vwCl ((h0, .inr (7, [.ref a0, .null, .null, .null, .null, .null, .null, .null, .null, .null, .null])) :: (gzw_3 E a0 f0) : va_W) H := hP
  have hD : va_D A ((h0, .inr (7, [.ref a0, .null, .null, .null, .null, .null, .null, .null, .null, .null, .null])) :: (gzw_3 E a0 f0) : va_W) := hD
  refine lv_aload_n hx hb (show decode cX7_init 15 = .ok (.aload_n 0, 1) by decide +kernel) rfl (lv_at hl 0 rfl) ?_
  refine va_new (ci := 6) (fs := [.int 0, .int 0, .null, .null, .null, .int 0, .long 0, .null, .null, .int 0, .null]) (C := RX6) (T := TX6) (N := 11) hx hb hts2 (fun w hw => gBig_of (guw_6 w hw) (gug_6 w hw)) tyX6 tyX6_ok hown (hts2 _ gwj_39) (hts2 _ gwj_19) (hts2 _ gwj_20) hK hP hD hS hA rfl (fun j hj => by rcases (show j = 0 ∨ j = 1 ∨ j = 2 ∨ j = 3 ∨ j = 4 ∨ j = 5 ∨ j = 6 ∨ j = 7 ∨ j = 8 ∨ j = 9 ∨ j = 10 by omega) with rfl | rfl | rfl | rfl | rfl | rfl | rfl | rfl | rfl | rfl | rfl <;> rfl) (Nat.le_of_ble_eq_true rfl) (Nat.le_of_ble_eq_true rfl) (show decode cX7_init 16 = .ok (.new 16, 3) by decide +kernel) (fun a1 H hP hD hS => ?_)
  refine lv_dup hx hb (show decode cX7_init 19 = .ok (.dup, 1) by decide +kernel) rfl ?_
  have hP : va_P (gD E) vwCl (((h0, .inr (7, [.ref a0, .null, .null, .null, .null, .null, .null, .null, .null, .null, .null])) :: (gzw_3 E a0 f0) : va_W) ++ [(a1, .inr (6, [.int 0, .int 0, .null, .null, .null, .int 0, .long 0, .null, .null, .int 0, .null]))]) H := hP
  have hD : va_D A (((h0, .inr (7, [.ref a0, .null, .null, .null, .null, .null, .null, .null, .null, .null, .null])) :: (gzw_3 E a0 f0) : va_W) ++ [(a1, .inr (6, [.int 0, .int 0, .null, .null, .null, .int 0, .long 0, .null, .null, .int 0, .null]))]) := hD
  have hPc := gj_P hP
  have hFc := gj_F hD hS hA
  have cw : va_CN (headSpec (Cond.code yX7_init cX7_init 1 none :: gBig) ({ frames := 3, cells := 68, slots := 1524, locals := 52 })).room s #[.ref h0] RX7 18 yX6_init "ToeplitzLab" cX6_init 1 none (Cond.code yX6_init cX6_init 1 none :: gBig) ({ frames := 1, cells := 6, slots := 131, locals := 12 }) 6 131 0 := va_cnB 0 hts2 (gGood_code gwj_21) rfl rfl rfl (hNi.1 _ (List.mem_of_getElem? (i := 2) rfl)) (hts2 _ gwj_20) (by decide +kernel) ⟨Nat.le_of_ble_eq_true rfl, Nat.le_of_ble_eq_true rfl⟩
  refine va_callv (va_runIN (Ts := gBig) (As := []) (rest := [.ref a1, .ref h0]) ⟨hx, hb, hml, hown, hts2⟩ (gi_6 l E a1 H.size) ⟨cw, rfl, hts2 _ gwj_22⟩ ⟨fun a U g mk z => gi_bl1 z, fun U hU hW => ⟨rfl, by rw [hU], by rw [hU]; exact hPc, va_K.moved hW.alike hK⟩⟩ rfl rfl hl.1 rfl (lv_room (Nat.le_of_ble_eq_true rfl)) (show decode cX7_init 20 = .ok (.invokespecial 18, 3) by decide +kernel) ⟨Nat.le_of_ble_eq_true rfl, Nat.le_of_ble_eq_true rfl⟩) hS (fun q _ h => hFc q h) hFc (fun f1 t H1 locs ht hvm _ hB hz1 hk1 hS => ?_)
  obtain ⟨hP1, hD1⟩ := hB
  rw [ht] at hP1
  obtain ⟨hP, hD⟩ := gjoin (W0 := ((h0, .inr (7, [.ref a0, .null, .null, .null, .null, .null, .null, .null, .null, .null, .null])) :: (gzw_3 E a0 f0) : va_W)) hP hD hFc hk1 hP1 hD1
  clear hPc hFc cw hP1 hD1 ht hvm hz1 hk1
  generalize H1 = H at hP hS ⊢
  have hP : va_P (gD E) vwCl ((h0, .inr (7, [.ref a0, .null, .null, .null, .null, .null, .null, .null, .null, .null, .null])) :: (gzw_3 E a0 f0 ++ gzw_6 E a1 f1) : va_W) H := by simpa only [List.cons_append, List.append_assoc, List.nil_append, List.append_nil] using hP
  have hD : va_D A ((h0, .inr (7, [.ref a0, .null, .null, .null, .null, .null, .null, .null, .null, .null, .null])) :: (gzw_3 E a0 f0 ++ gzw_6 E a1 f1) : va_W) := by simpa only [List.cons_append, List.append_assoc, List.nil_append, List.append_nil] using hD
  refine va_putF (D := gD E) (ci := 7) (v := .ref a1) (ty := .object "ToeplitzLab$State") (C := RX7) (T := TX7) (N := 11) hx hb hts2 (fun w hw => gBig_of (guw_7 w hw) (gug_7 w hw)) tyX7 tyX7_ok (by decide +kernel) hown hK hP hD hS 0 rfl rfl 1 (by decide) (hts2 _ gwj_40) (fun _ h9 => h9) rfl hin rfl (by decide +kernel) rfl rfl (Nat.le_of_ble_eq_true rfl) (show decode cX7_init 23 = .ok (.putfield 19, 3) by decide +kernel) (fun H locs hP hD hS => ?_)
  have hP : va_P (gD E) vwCl ((h0, .inr (7, [.ref a0, .ref a1, .null, .null, .null, .null, .null, .null, .null, .null, .null])) :: (gzw_3 E a0 f0 ++ gzw_6 E a1 f1) : va_W) H := by simpa only [List.cons_append, List.append_assoc, List.nil_append, List.append_nil, List.set_cons_zero] using hP
  have hD : va_D A ((h0, .inr (7, [.ref a0, .ref a1, .null, .null, .null, .null, .null, .null, .null, .null, .null])) :: (gzw_3 E a0 f0 ++ gzw_6 E a1 f1) : va_W) := by simpa only [List.cons_append, List.append_assoc, List.nil_append, List.append_nil, List.set_cons_zero] using hD
  refine lv_aload_n hx hb (show decode cX7_init 26 = .ok (.aload_n 0, 1) by decide +kernel) rfl (lv_at hl 0 rfl) ?_
  refine va_new (ci := 6) (fs := [.int 0, .int 0, .null, .null, .null, .int 0, .long 0, .null, .null, .int 0, .null]) (C := RX6) (T := TX6) (N := 11) hx hb hts2 (fun w hw => gBig_of (guw_6 w hw) (gug_6 w hw)) tyX6 tyX6_ok hown (hts2 _ gwj_39) (hts2 _ gwj_19) (hts2 _ gwj_20) hK hP hD hS hA rfl (fun j hj => by rcases (show j = 0 ∨ j = 1 ∨ j = 2 ∨ j = 3 ∨ j = 4 ∨ j = 5 ∨ j = 6 ∨ j = 7 ∨ j = 8 ∨ j = 9 ∨ j = 10 by omega) with rfl | rfl | rfl | rfl | rfl | rfl | rfl | rfl | rfl | rfl | rfl <;> rfl) (Nat.le_of_ble_eq_true rfl) (Nat.le_of_ble_eq_true rfl) (show decode cX7_init 27 = .ok (.new 16, 3) by decide +kernel) (fun a2 H hP hD hS => ?_)
  refine lv_dup hx hb (show decode cX7_init 30 = .ok (.dup, 1) by decide +kernel) rfl ?_
  have hP : va_P (gD E) vwCl (((h0, .inr (7, [.ref a0, .ref a1, .null, .null, .null, .null, .null, .null, .null, .null, .null])) :: (gzw_3 E a0 f0 ++ gzw_6 E a1 f1) : va_W) ++ [(a2, .inr (6, [.int 0, .int 0, .null, .null, .null, .int 0, .long 0, .null, .null, .int 0, .null]))]) H := hP
  have hD : va_D A (((h0, .inr (7, [.ref a0, .ref a1, .null, .null, .null, .null, .null, .null, .null, .null, .null])) :: (gzw_3 E a0 f0 ++ gzw_6 E a1 f1) : va_W) ++ [(a2, .inr (6, [.int 0, .int 0, .null, .null, .null, .int 0, .long 0, .null, .null, .int 0, .null]))]) := hD
  have hPc := gj_P hP
  have hFc := gj_F hD hS hA
  have cw : va_CN (headSpec (Cond.code yX7_init cX7_init 1 none :: gBig) ({ frames := 3, cells := 68, slots := 1524, locals := 52 })).room s #[.ref h0] RX7 18 yX6_init "ToeplitzLab" cX6_init 1 none (Cond.code yX6_init cX6_init 1 none :: gBig) ({ frames := 1, cells := 6, slots := 131, locals := 12 }) 6 131 0 := va_cnB 0 hts2 (gGood_code gwj_21) rfl rfl rfl (hNi.1 _ (List.mem_of_getElem? (i := 2) rfl)) (hts2 _ gwj_20) (by decide +kernel) ⟨Nat.le_of_ble_eq_true rfl, Nat.le_of_ble_eq_true rfl⟩
  refine va_callv (va_runIN (Ts := gBig) (As := []) (rest := [.ref a2, .ref h0]) ⟨hx, hb, hml, hown, hts2⟩ (gi_6 l E a2 H.size) ⟨cw, rfl, hts2 _ gwj_22⟩ ⟨fun a U g mk z => gi_bl1 z, fun U hU hW => ⟨rfl, by rw [hU], by rw [hU]; exact hPc, va_K.moved hW.alike hK⟩⟩ rfl rfl hl.1 rfl (lv_room (Nat.le_of_ble_eq_true rfl)) (show decode cX7_init 31 = .ok (.invokespecial 18, 3) by decide +kernel) ⟨Nat.le_of_ble_eq_true rfl, Nat.le_of_ble_eq_true rfl⟩) hS (fun q _ h => hFc q h) hFc (fun f2 t H1 locs ht hvm _ hB hz1 hk1 hS => ?_)
  obtain ⟨hP1, hD1⟩ := hB
  rw [ht] at hP1
  obtain ⟨hP, hD⟩ := gjoin (W0 := ((h0, .inr (7, [.ref a0, .ref a1, .null, .null, .null, .null, .null, .null, .null, .null, .null])) :: (gzw_3 E a0 f0 ++ gzw_6 E a1 f1) : va_W)) hP hD hFc hk1 hP1 hD1
  clear hPc hFc cw hP1 hD1 ht hvm hz1 hk1
  generalize H1 = H at hP hS ⊢
  have hP : va_P (gD E) vwCl ((h0, .inr (7, [.ref a0, .ref a1, .null, .null, .null, .null, .null, .null, .null, .null, .null])) :: (gzw_3 E a0 f0 ++ gzw_6 E a1 f1 ++ gzw_6 E a2 f2) : va_W) H := by simpa only [List.cons_append, List.append_assoc, List.nil_append, List.append_nil] using hP
  have hD : va_D A ((h0, .inr (7, [.ref a0, .ref a1, .null, .null, .null, .null, .null, .null, .null, .null, .null])) :: (gzw_3 E a0 f0 ++ gzw_6 E a1 f1 ++ gzw_6 E a2 f2) : va_W) := by simpa only [List.cons_append, List.append_assoc, List.nil_append, List.append_nil] using hD
  refine va_putF (D := gD E) (ci := 7) (v := .ref a2) (ty := .object "ToeplitzLab$State") (C := RX7) (T := TX7) (N := 11) hx hb hts2 (fun w hw => gBig_of (guw_7 w hw) (gug_7 w hw)) tyX7 tyX7_ok (by decide +kernel) hown hK hP hD hS 0 rfl rfl 2 (by decide) (hts2 _ gwj_41) (fun _ h9 => h9) rfl hin rfl (by decide +kernel) rfl rfl (Nat.le_of_ble_eq_true rfl) (show decode cX7_init 34 = .ok (.putfield 23, 3) by decide +kernel) (fun H locs hP hD hS => ?_)
  have hP : va_P (gD E) vwCl ((h0, .inr (7, [.ref a0, .ref a1, .ref a2, .null, .null, .null, .null, .null, .null, .null, .null])) :: (gzw_3 E a0 f0 ++ gzw_6 E a1 f1 ++ gzw_6 E a2 f2) : va_W) H := by simpa only [List.cons_append, List.append_assoc, List.nil_append, List.append_nil, List.set_cons_zero] using hP
  have hD : va_D A ((h0, .inr (7, [.ref a0, .ref a1, .ref a2, .null, .null, .null, .null, .null, .null, .null, .null])) :: (gzw_3 E a0 f0 ++ gzw_6 E a1 f1 ++ gzw_6 E a2 f2) : va_W) := by simpa only [List.cons_append, List.append_assoc, List.nil_append, List.append_nil, List.set_cons_zero] using hD
  refine lv_aload_n hx hb (show decode cX7_init 37 = .ok (.aload_n 0, 1) by decide +kernel) rfl (lv_at hl 0 rfl) ?_
  refine va_new (ci := 2) (fs := [.null, .int 0, .int 0]) (C := RX2) (T := TX2) (N := 3) hx hb hts2 (fun w hw => gBig_of (guw_2 w hw) (gug_2 w hw)) tyX2 tyX2_ok hown (hts2 _ gwj_42) (hts2 _ gwj_43) (hts2 _ gwj_44) hK hP hD hS hA rfl (fun j hj => by rcases (show j = 0 ∨ j = 1 ∨ j = 2 by omega) with rfl | rfl | rfl <;> rfl) (Nat.le_of_ble_eq_true rfl) (Nat.le_of_ble_eq_true rfl) (show decode cX7_init 38 = .ok (.new 26, 3) by decide +kernel) (fun a3 H hP hD hS => ?_)
  refine lv_dup hx hb (show decode cX7_init 41 = .ok (.dup, 1) by decide +kernel) rfl ?_
  have hP : va_P (gD E) vwCl (((h0, .inr (7, [.ref a0, .ref a1, .ref a2, .null, .null, .null, .null, .null, .null, .null, .null])) :: (gzw_3 E a0 f0 ++ gzw_6 E a1 f1 ++ gzw_6 E a2 f2) : va_W) ++ [(a3, .inr (2, [.null, .int 0, .int 0]))]) H := hP
  have hD : va_D A (((h0, .inr (7, [.ref a0, .ref a1, .ref a2, .null, .null, .null, .null, .null, .null, .null, .null])) :: (gzw_3 E a0 f0 ++ gzw_6 E a1 f1 ++ gzw_6 E a2 f2) : va_W) ++ [(a3, .inr (2, [.null, .int 0, .int 0]))]) := hD
  have hPc := gj_P hP
  have hFc := gj_F hD hS hA
  have cw : va_CN (headSpec (Cond.code yX7_init cX7_init 1 none :: gBig) ({ frames := 3, cells := 68, slots := 1524, locals := 52 })).room s #[.ref h0] RX7 28 yX2_init "ToeplitzLab" cX2_init 1 none (Cond.code yX2_init cX2_init 1 none :: gBig) ({ frames := 1, cells := 1, slots := 8, locals := 12 }) 1 8 0 := va_cnB 0 hts2 (gGood_code gwj_45) rfl rfl rfl (hNi.1 _ (List.mem_of_getElem? (i := 3) rfl)) (hts2 _ gwj_44) (by decide +kernel) ⟨Nat.le_of_ble_eq_true rfl, Nat.le_of_ble_eq_true rfl⟩
  refine va_callv (va_runIN (Ts := gBig) (As := []) (rest := [.ref a3, .ref h0]) ⟨hx, hb, hml, hown, hts2⟩ (gi_2 l E a3 H.size) ⟨cw, rfl, hts2 _ gwj_46⟩ ⟨fun a U g mk z => gi_bl2 z, fun U hU hW => ⟨rfl, by rw [hU], by rw [hU]; exact hPc, ⟨va_K.moved hW.alike hK, hNi.warm hW⟩⟩⟩ rfl rfl hl.1 rfl (lv_room (Nat.le_of_ble_eq_true rfl)) (show decode cX7_init 42 = .ok (.invokespecial 28, 3) by decide +kernel) ⟨Nat.le_of_ble_eq_true rfl, Nat.le_of_ble_eq_true rfl⟩) hS (fun q _ h => hFc q h) hFc (fun f3 t H1 locs ht hvm _ hB hz1 hk1 hS => ?_)
  obtain ⟨hP1, hD1⟩ := hB
  rw [ht] at hP1
  obtain ⟨hP, hD⟩ := gjoin (W0 := ((h0, .inr (7, [.ref a0, .ref a1, .ref a2, .null, .null, .null, .null, .null, .null, .null, .null])) :: (gzw_3 E a0 f0 ++ gzw_6 E a1 f1 ++ gzw_6 E a2 f2) : va_W)) hP hD hFc hk1 hP1 hD1
  clear hPc hFc cw hP1 hD1 ht hvm hz1 hk1
  generalize H1 = H at hP hS ⊢
  have hP : va_P (gD E) vwCl ((h0, .inr (7, [.ref a0, .ref a1, .ref a2, .null, .null, .null, .null, .null, .null, .null, .null])) :: (gzw_3 E a0 f0 ++ gzw_6 E a1 f1 ++ gzw_6 E a2 f2 ++ gzw_2 E a3 f3) : va_W) H := by simpa only [List.cons_append, List.append_assoc, List.nil_append, List.append_nil] using hP
  have hD : va_D A ((h0, .inr (7, [.ref a0, .ref a1, .ref a2, .null, .null, .null, .null, .null, .null, .null, .null])) :: (gzw_3 E a0 f0 ++ gzw_6 E a1 f1 ++ gzw_6 E a2 f2 ++ gzw_2 E a3 f3) : va_W) := by simpa only [List.cons_append, List.append_assoc, List.nil_append, List.append_nil] using hD
  refine va_putF (D := gD E) (ci := 7) (v := .ref a3) (ty := .object "ToeplitzLab$History") (C := RX7) (T := TX7) (N := 11) hx hb hts2 (fun w hw => gBig_of (guw_7 w hw) (gug_7 w hw)) tyX7 tyX7_ok (by decide +kernel) hown hK hP hD hS 0 rfl rfl 3 (by decide) (hts2 _ gwj_47) (fun _ h9 => h9) rfl hin rfl (by decide +kernel) rfl rfl (Nat.le_of_ble_eq_true rfl) (show decode cX7_init 45 = .ok (.putfield 29, 3) by decide +kernel) (fun H locs hP hD hS => ?_)
  have hP : va_P (gD E) vwCl ((h0, .inr (7, [.ref a0, .ref a1, .ref a2, .ref a3, .null, .null, .null, .null, .null, .null, .null])) :: (gzw_3 E a0 f0 ++ gzw_6 E a1 f1 ++ gzw_6 E a2 f2 ++ gzw_2 E a3 f3) : va_W) H := by simpa only [List.cons_append, List.append_assoc, List.nil_append, List.append_nil, List.set_cons_zero] using hP
  have hD : va_D A ((h0, .inr (7, [.ref a0, .ref a1, .ref a2, .ref a3, .null, .null, .null, .null, .null, .null, .null])) :: (gzw_3 E a0 f0 ++ gzw_6 E a1 f1 ++ gzw_6 E a2 f2 ++ gzw_2 E a3 f3) : va_W) := by simpa only [List.cons_append, List.append_assoc, List.nil_append, List.append_nil, List.set_cons_zero] using hD
  refine lv_aload_n hx hb (show decode cX7_init 48 = .ok (.aload_n 0, 1) by decide +kernel) rfl (lv_at hl 0 rfl) ?_
  refine lv_iconst (v := 2) hx hb (show decode cX7_init 49 = .ok (.iconst 2, 1) by decide +kernel) (by decide) ?_
  refine va_newq (C := "ToeplitzLab$State") (N' := 2) hx hb hown (hts2 _ gwj_39) hNi.2.1 hK hP hD hS hA (by decide) rfl (Nat.le_of_ble_eq_true rfl) (Nat.le_of_ble_eq_true rfl) (Nat.le_of_ble_eq_true rfl) (show decode cX7_init 50 = .ok (.anewarray 16, 3) by decide +kernel) (fun a4 cA H hK2 hP hD hS => ?_)
  have hcA : cA = gca E 6 := gca_eqO hK2
  subst hcA
  clear hK2
  have hP : va_P (gD E) vwCl ((h0, .inr (7, [.ref a0, .ref a1, .ref a2, .ref a3, .null, .null, .null, .null, .null, .null, .null])) :: (gzw_3 E a0 f0 ++ gzw_6 E a1 f1 ++ gzw_6 E a2 f2 ++ gzw_2 E a3 f3 ++ [(a4, .inl (gca E 6, 2, .inr (.inr (.inr (.inr (fun _ => none))))))]) : va_W) H := by simpa only [List.cons_append, List.append_assoc, List.nil_append, List.append_nil, List.set_cons_zero] using hP
  have hD : va_D A ((h0, .inr (7, [.ref a0, .ref a1, .ref a2, .ref a3, .null, .null, .null, .null, .null, .null, .null])) :: (gzw_3 E a0 f0 ++ gzw_6 E a1 f1 ++ gzw_6 E a2 f2 ++ gzw_2 E a3 f3 ++ [(a4, .inl (gca E 6, 2, .inr (.inr (.inr (.inr (fun _ => none))))))]) : va_W) := by simpa only [List.cons_append, List.append_assoc, List.nil_append, List.append_nil, List.set_cons_zero] using hD
  refine va_putF (D := gD E) (ci := 7) (v := .ref a4) (ty := .array (.object "ToeplitzLab$State")) (C := RX7) (T := TX7) (N := 11) hx hb hts2 (fun w hw => gBig_of (guw_7 w hw) (gug_7 w hw)) tyX7 tyX7_ok (by decide +kernel) hown hK hP hD hS 0 rfl rfl 4 (by decide) (hts2 _ gwj_48) (fun _ h9 => h9) rfl hin rfl (by decide +kernel) rfl rfl (Nat.le_of_ble_eq_true rfl) (show decode cX7_init 53 = .ok (.putfield 33, 3) by decide +kernel) (fun H locs hP hD hS => ?_)
  have hP : va_P (gD E) vwCl ((h0, .inr (7, [.ref a0, .ref a1, .ref a2, .ref a3, .ref a4, .null, .null, .null, .null, .null, .null])) :: (gzw_3 E a0 f0 ++ gzw_6 E a1 f1 ++ gzw_6 E a2 f2 ++ gzw_2 E a3 f3 ++ [(a4, .inl (gca E 6, 2, .inr (.inr (.inr (.inr (fun _ => none))))))]) : va_W) H := by simpa only [List.cons_append, List.append_assoc, List.nil_append, List.append_nil, List.set_cons_zero] using hP
  have hD : va_D A ((h0, .inr (7, [.ref a0, .ref a1, .ref a2, .ref a3, .ref a4, .null, .null, .null, .null, .null, .null])) :: (gzw_3 E a0 f0 ++ gzw_6 E a1 f1 ++ gzw_6 E a2 f2 ++ gzw_2 E a3 f3 ++ [(a4, .inl (gca E 6, 2, .inr (.inr (.inr (.inr (fun _ => none))))))]) : va_W) := by simpa only [List.cons_append, List.append_assoc, List.nil_append, List.append_nil, List.set_cons_zero] using hD
  refine lv_aload_n hx hb (show decode cX7_init 56 = .ok (.aload_n 0, 1) by decide +kernel) rfl (lv_at hl 0 rfl) ?_
  refine lv_iconst (v := 2) hx hb (show decode cX7_init 57 = .ok (.iconst 2, 1) by decide +kernel) (by decide) ?_
  refine va_newa (atype := .boolean) (ty := .boolean) (a0 := (2, .inl (fun _ => 0))) (N' := 2) hx hb (hts2 _ gwj_49) rfl hK hP hD hS hA (fun _ => rfl) (by decide) rfl (Nat.le_of_ble_eq_true rfl) (Nat.le_of_ble_eq_true rfl) (Nat.le_of_ble_eq_true rfl) (show decode cX7_init 58 = .ok (.newarray .boolean, 2) by decide +kernel) (fun a5 cA H hK2 hP hD hS => ?_)
  have hcA : cA = gca E 2 := gca_eq hK2 2 rfl rfl
  subst hcA
  clear hK2
  have hP : va_P (gD E) vwCl ((h0, .inr (7, [.ref a0, .ref a1, .ref a2, .ref a3, .ref a4, .null, .null, .null, .null, .null, .null])) :: (gzw_3 E a0 f0 ++ gzw_6 E a1 f1 ++ gzw_6 E a2 f2 ++ gzw_2 E a3 f3 ++ [(a4, .inl (gca E 6, 2, .inr (.inr (.inr (.inr (fun _ => none))))))] ++ [(a5, .inl (gca E 2, 2, .inl (fun _ => 0)))]) : va_W) H := by simpa only [List.cons_append, List.append_assoc, List.nil_append, List.append_nil, List.set_cons_zero] using hP
  have hD : va_D A ((h0, .inr (7, [.ref a0, .ref a1, .ref a2, .ref a3, .ref a4, .null, .null, .null, .null, .null, .null])) :: (gzw_3 E a0 f0 ++ gzw_6 E a1 f1 ++ gzw_6 E a2 f2 ++ gzw_2 E a3 f3 ++ [(a4, .inl (gca E 6, 2, .inr (.inr (.inr (.inr (fun _ => none))))))] ++ [(a5, .inl (gca E 2, 2, .inl (fun _ => 0)))]) : va_W) := by simpa only [List.cons_append, List.append_assoc, List.nil_append, List.append_nil, List.set_cons_zero] using hD
  refine va_putF (D := gD E) (ci := 7) (v := .ref a5) (ty := .array .boolean) (C := RX7) (T := TX7) (N := 11) hx hb hts2 (fun w hw => gBig_of (guw_7 w hw) (gug_7 w hw)) tyX7 tyX7_ok (by decide +kernel) hown hK hP hD hS 0 rfl rfl 5 (by decide) (hts2 _ gwj_50) (fun _ h9 => h9) rfl hin rfl (by decide +kernel) rfl rfl (Nat.le_of_ble_eq_true rfl) (show decode cX7_init 60 = .ok (.putfield 37, 3) by decide +kernel) (fun H locs hP hD hS => ?_)
  have hP : va_P (gD E) vwCl ((h0, .inr (7, [.ref a0, .ref a1, .ref a2, .ref a3, .ref a4, .ref a5, .null, .null, .null, .null, .null])) :: (gzw_3 E a0 f0 ++ gzw_6 E a1 f1 ++ gzw_6 E a2 f2 ++ gzw_2 E a3 f3 ++ [(a4, .inl (gca E 6, 2, .inr (.inr (.inr (.inr (fun _ => none))))))] ++ [(a5, .inl (gca E 2, 2, .inl (fun _ => 0)))]) : va_W) H := by simpa only [List.cons_append, List.append_assoc, List.nil_append, List.append_nil, List.set_cons_zero] using hP
  have hD : va_D A ((h0, .inr (7, [.ref a0, .ref a1, .ref a2, .ref a3, .ref a4, .ref a5, .null, .null, .null, .null, .null])) :: (gzw_3 E a0 f0 ++ gzw_6 E a1 f1 ++ gzw_6 E a2 f2 ++ gzw_2 E a3 f3 ++ [(a4, .inl (gca E 6, 2, .inr (.inr (.inr (.inr (fun _ => none))))))] ++ [(a5, .inl (gca E 2, 2, .inl (fun _ => 0)))]) : va_W) := by simpa only [List.cons_append, List.append_assoc, List.nil_append, List.append_nil, List.set_cons_zero] using hD
  refine lv_aload_n hx hb (show decode cX7_init 63 = .ok (.aload_n 0, 1) by decide +kernel) rfl (lv_at hl 0 rfl) ?_
  refine va_new (ci := 1) (fs := [.null, .int 0, .int 0, .int 0, .int 0, .int 0]) (C := RX1) (T := TX1) (N := 6) hx hb hts2 (fun w hw => gBig_of (guw_1 w hw) (gug_1 w hw)) tyX1 tyX1_ok hown (hts2 _ gwj_51) (hts2 _ gwj_26) (hts2 _ gwj_27) hK hP hD hS hA rfl (fun j hj => by rcases (show j = 0 ∨ j = 1 ∨ j = 2 ∨ j = 3 ∨ j = 4 ∨ j = 5 by omega) with rfl | rfl | rfl | rfl | rfl | rfl <;> rfl) (Nat.le_of_ble_eq_true rfl) (Nat.le_of_ble_eq_true rfl) (show decode cX7_init 64 = .ok (.new 41, 3) by decide +kernel) (fun a6 H hP hD hS => ?_)
  refine lv_dup hx hb (show decode cX7_init 67 = .ok (.dup, 1) by decide +kernel) rfl ?_
  have hP : va_P (gD E) vwCl (((h0, .inr (7, [.ref a0, .ref a1, .ref a2, .ref a3, .ref a4, .ref a5, .null, .null, .null, .null, .null])) :: (gzw_3 E a0 f0 ++ gzw_6 E a1 f1 ++ gzw_6 E a2 f2 ++ gzw_2 E a3 f3 ++ [(a4, .inl (gca E 6, 2, .inr (.inr (.inr (.inr (fun _ => none))))))] ++ [(a5, .inl (gca E 2, 2, .inl (fun _ => 0)))]) : va_W) ++ [(a6, .inr (1, [.null, .int 0, .int 0, .int 0, .int 0, .int 0]))]) H := hP
  have hD : va_D A (((h0, .inr (7, [.ref a0, .ref a1, .ref a2, .ref a3, .ref a4, .ref a5, .null, .null, .null, .null, .null])) :: (gzw_3 E a0 f0 ++ gzw_6 E a1 f1 ++ gzw_6 E a2 f2 ++ gzw_2 E a3 f3 ++ [(a4, .inl (gca E 6, 2, .inr (.inr (.inr (.inr (fun _ => none))))))] ++ [(a5, .inl (gca E 2, 2, .inl (fun _ => 0)))]) : va_W) ++ [(a6, .inr (1, [.null, .int 0, .int 0, .int 0, .int 0, .int 0]))]) := hD
  have hPc := gj_P hP
  have hFc := gj_F hD hS hA
  have cw : va_CN (headSpec (Cond.code yX7_init cX7_init 1 none :: gBig) ({ frames := 3, cells := 68, slots := 1524, locals := 52 })).room s #[.ref h0] RX7 43 yX1_init "ToeplitzLab" cX1_init 1 none (Cond.code yX1_init cX1_init 1 none :: gBig) ({ frames := 1, cells := 8, slots := 105, locals := 12 }) 8 105 0 := va_cnB 0 hts2 (gGood_code gwj_28) rfl rfl rfl (hNi.1 _ (List.mem_of_getElem? (i := 4) rfl)) (hts2 _ gwj_27) (by decide +kernel) ⟨Nat.le_of_ble_eq_true rfl, Nat.le_of_ble_eq_true rfl⟩
  refine va_callv (va_runIN (Ts := gBig) (As := []) (rest := [.ref a6, .ref h0]) ⟨hx, hb, hml, hown, hts2⟩ (gi_1 l E a6 H.size) ⟨cw, rfl, hts2 _ gwj_29⟩ ⟨fun a U g mk z => gi_bl2 z, fun U hU hW => ⟨rfl, by rw [hU], by rw [hU]; exact hPc, ⟨va_K.moved hW.alike hK, hNi.warm hW⟩⟩⟩ rfl rfl hl.1 rfl (lv_room (Nat.le_of_ble_eq_true rfl)) (show decode cX7_init 68 = .ok (.invokespecial 43, 3) by decide +kernel) ⟨Nat.le_of_ble_eq_true rfl, Nat.le_of_ble_eq_true rfl⟩) hS (fun q _ h => hFc q h) hFc (fun f4 t H1 locs ht hvm _ hB hz1 hk1 hS => ?_)
  obtain ⟨hP1, hD1⟩ := hB
  rw [ht] at hP1
  obtain ⟨hP, hD⟩ := gjoin (W0 := ((h0, .inr (7, [.ref a0, .ref a1, .ref a2, .ref a3, .ref a4, .ref a5, .null, .null, .null, .null, .null])) :: (gzw_3 E a0 f0 ++ gzw_6 E a1 f1 ++ gzw_6 E a2 f2 ++ gzw_2 E a3 f3 ++ [(a4, .inl (gca E 6, 2, .inr (.inr (.inr (.inr (fun _ => none))))))] ++ [(a5, .inl (gca E 2, 2, .inl (fun _ => 0)))]) : va_W)) hP hD hFc hk1 hP1 hD1
  clear hPc hFc cw hP1 hD1 ht hvm hz1 hk1
  generalize H1 = H at hP hS ⊢
  have hP : va_P (gD E) vwCl ((h0, .inr (7, [.ref a0, .ref a1, .ref a2, .ref a3, .ref a4, .ref a5, .null, .null, .null, .null, .null])) :: (gzw_3 E a0 f0 ++ gzw_6 E a1 f1 ++ gzw_6 E a2 f2 ++ gzw_2 E a3 f3 ++ [(a4, .inl (gca E 6, 2, .inr (.inr (.inr (.inr (fun _ => none))))))] ++ [(a5, .inl (gca E 2, 2, .inl (fun _ => 0)))] ++ gzw_1 E a6 f4) : va_W) H := by simpa only [List.cons_append, List.append_assoc, List.nil_append, List.append_nil] using hP
  have hD : va_D A ((h0, .inr (7, [.ref a0, .ref a1, .ref a2, .ref a3, .ref a4, .ref a5, .null, .null, .null, .null, .null])) :: (gzw_3 E a0 f0 ++ gzw_6 E a1 f1 ++ gzw_6 E a2 f2 ++ gzw_2 E a3 f3 ++ [(a4, .inl (gca E 6, 2, .inr (.inr (.inr (.inr (fun _ => none))))))] ++ [(a5, .inl (gca E 2, 2, .inl (fun _ => 0)))] ++ gzw_1 E a6 f4) : va_W) := by simpa only [List.cons_append, List.append_assoc, List.nil_append, List.append_nil] using hD
  refine va_putF (D := gD E) (ci := 7) (v := .ref a6) (ty := .object "ToeplitzLab$Grid") (C := RX7) (T := TX7) (N := 11) hx hb hts2 (fun w hw => gBig_of (guw_7 w hw) (gug_7 w hw)) tyX7 tyX7_ok (by decide +kernel) hown hK hP hD hS 0 rfl rfl 6 (by decide) (hts2 _ gwj_52) (fun _ h9 => h9) rfl hin rfl (by decide +kernel) rfl rfl (Nat.le_of_ble_eq_true rfl) (show decode cX7_init 71 = .ok (.putfield 44, 3) by decide +kernel) (fun H locs hP hD hS => ?_)
  have hP : va_P (gD E) vwCl ((h0, .inr (7, [.ref a0, .ref a1, .ref a2, .ref a3, .ref a4, .ref a5, .ref a6, .null, .null, .null, .null])) :: (gzw_3 E a0 f0 ++ gzw_6 E a1 f1 ++ gzw_6 E a2 f2 ++ gzw_2 E a3 f3 ++ [(a4, .inl (gca E 6, 2, .inr (.inr (.inr (.inr (fun _ => none))))))] ++ [(a5, .inl (gca E 2, 2, .inl (fun _ => 0)))] ++ gzw_1 E a6 f4) : va_W) H := by simpa only [List.cons_append, List.append_assoc, List.nil_append, List.append_nil, List.set_cons_zero] using hP
  have hD : va_D A ((h0, .inr (7, [.ref a0, .ref a1, .ref a2, .ref a3, .ref a4, .ref a5, .ref a6, .null, .null, .null, .null])) :: (gzw_3 E a0 f0 ++ gzw_6 E a1 f1 ++ gzw_6 E a2 f2 ++ gzw_2 E a3 f3 ++ [(a4, .inl (gca E 6, 2, .inr (.inr (.inr (.inr (fun _ => none))))))] ++ [(a5, .inl (gca E 2, 2, .inl (fun _ => 0)))] ++ gzw_1 E a6 f4) : va_W) := by simpa only [List.cons_append, List.append_assoc, List.nil_append, List.append_nil, List.set_cons_zero] using hD
  refine lv_aload_n hx hb (show decode cX7_init 74 = .ok (.aload_n 0, 1) by decide +kernel) rfl (lv_at hl 0 rfl) ?_
  refine va_new (ci := 5) (fs := [.null, .null]) (C := RX5) (T := TX5) (N := 2) hx hb hts2 (fun w hw => gBig_of (guw_5 w hw) (gug_5 w hw)) tyX5 tyX5_ok hown (hts2 _ gwj_53) (hts2 _ gwj_54) (hts2 _ gwj_55) hK hP hD hS hA rfl (fun j hj => by rcases (show j = 0 ∨ j = 1 by omega) with rfl | rfl <;> rfl) (Nat.le_of_ble_eq_true rfl) (Nat.le_of_ble_eq_true rfl) (show decode cX7_init 75 = .ok (.new 48, 3) by decide +kernel) (fun a7 H hP hD hS => ?_)
  refine lv_dup hx hb (show decode cX7_init 78 = .ok (.dup, 1) by decide +kernel) rfl ?_
  have hP : va_P (gD E) vwCl (((h0, .inr (7, [.ref a0, .ref a1, .ref a2, .ref a3, .ref a4, .ref a5, .ref a6, .null, .null, .null, .null])) :: (gzw_3 E a0 f0 ++ gzw_6 E a1 f1 ++ gzw_6 E a2 f2 ++ gzw_2 E a3 f3 ++ [(a4, .inl (gca E 6, 2, .inr (.inr (.inr (.inr (fun _ => none))))))] ++ [(a5, .inl (gca E 2, 2, .inl (fun _ => 0)))] ++ gzw_1 E a6 f4) : va_W) ++ [(a7, .inr (5, [.null, .null]))]) H := hP
  have hD : va_D A (((h0, .inr (7, [.ref a0, .ref a1, .ref a2, .ref a3, .ref a4, .ref a5, .ref a6, .null, .null, .null, .null])) :: (gzw_3 E a0 f0 ++ gzw_6 E a1 f1 ++ gzw_6 E a2 f2 ++ gzw_2 E a3 f3 ++ [(a4, .inl (gca E 6, 2, .inr (.inr (.inr (.inr (fun _ => none))))))] ++ [(a5, .inl (gca E 2, 2, .inl (fun _ => 0)))] ++ gzw_1 E a6 f4) : va_W) ++ [(a7, .inr (5, [.null, .null]))]) := hD
  have hPc := gj_P hP
  have hFc := gj_F hD hS hA
  have cw : va_CN (headSpec (Cond.code yX7_init cX7_init 1 none :: gBig) ({ frames := 3, cells := 68, slots := 1524, locals := 52 })).room s #[.ref h0] RX7 50 yX5_init "ToeplitzLab" cX5_init 1 none (Cond.code yX5_init cX5_init 1 none :: gBig) ({ frames := 1, cells := 16, slots := 112, locals := 12 }) 16 112 0 := va_cnB 0 hts2 (gGood_code gwj_56) rfl rfl rfl (hNi.1 _ (List.mem_of_getElem? (i := 5) rfl)) (hts2 _ gwj_55) (by decide +kernel) ⟨Nat.le_of_ble_eq_true rfl, Nat.le_of_ble_eq_true rfl⟩
  refine va_callv (va_runIN (Ts := gBig) (As := []) (rest := [.ref a7, .ref h0]) ⟨hx, hb, hml, hown, hts2⟩ (gi_5 l E a7 H.size) ⟨cw, rfl, hts2 _ gwj_57⟩ ⟨fun a U g mk z => gi_bl2 z, fun U hU hW => ⟨rfl, by rw [hU], by rw [hU]; exact hPc, ⟨va_K.moved hW.alike hK, hNi.warm hW⟩⟩⟩ rfl rfl hl.1 rfl (lv_room (Nat.le_of_ble_eq_true rfl)) (show decode cX7_init 79 = .ok (.invokespecial 50, 3) by decide +kernel) ⟨Nat.le_of_ble_eq_true rfl, Nat.le_of_ble_eq_true rfl⟩) hS (fun q _ h => hFc q h) hFc (fun f5 t H1 locs ht hvm _ hB hz1 hk1 hS => ?_)
  obtain ⟨hP1, hD1⟩ := hB
  rw [ht] at hP1
  obtain ⟨hP, hD⟩ := gjoin (W0 := ((h0, .inr (7, [.ref a0, .ref a1, .ref a2, .ref a3, .ref a4, .ref a5, .ref a6, .null, .null, .null, .null])) :: (gzw_3 E a0 f0 ++ gzw_6 E a1 f1 ++ gzw_6 E a2 f2 ++ gzw_2 E a3 f3 ++ [(a4, .inl (gca E 6, 2, .inr (.inr (.inr (.inr (fun _ => none))))))] ++ [(a5, .inl (gca E 2, 2, .inl (fun _ => 0)))] ++ gzw_1 E a6 f4) : va_W)) hP hD hFc hk1 hP1 hD1
  clear hPc hFc cw hP1 hD1 ht hvm hz1 hk1
  generalize H1 = H at hP hS ⊢
  have hP : va_P (gD E) vwCl ((h0, .inr (7, [.ref a0, .ref a1, .ref a2, .ref a3, .ref a4, .ref a5, .ref a6, .null, .null, .null, .null])) :: (gzw_3 E a0 f0 ++ gzw_6 E a1 f1 ++ gzw_6 E a2 f2 ++ gzw_2 E a3 f3 ++ [(a4, .inl (gca E 6, 2, .inr (.inr (.inr (.inr (fun _ => none))))))] ++ [(a5, .inl (gca E 2, 2, .inl (fun _ => 0)))] ++ gzw_1 E a6 f4 ++ gzw_5 E a7 f5) : va_W) H := by simpa only [List.cons_append, List.append_assoc, List.nil_append, List.append_nil] using hP
  have hD : va_D A ((h0, .inr (7, [.ref a0, .ref a1, .ref a2, .ref a3, .ref a4, .ref a5, .ref a6, .null, .null, .null, .null])) :: (gzw_3 E a0 f0 ++ gzw_6 E a1 f1 ++ gzw_6 E a2 f2 ++ gzw_2 E a3 f3 ++ [(a4, .inl (gca E 6, 2, .inr (.inr (.inr (.inr (fun _ => none))))))] ++ [(a5, .inl (gca E 2, 2, .inl (fun _ => 0)))] ++ gzw_1 E a6 f4 ++ gzw_5 E a7 f5) : va_W) := by simpa only [List.cons_append, List.append_assoc, List.nil_append, List.append_nil] using hD
  refine va_putF (D := gD E) (ci := 7) (v := .ref a7) (ty := .object "ToeplitzLab$Pairs") (C := RX7) (T := TX7) (N := 11) hx hb hts2 (fun w hw => gBig_of (guw_7 w hw) (gug_7 w hw)) tyX7 tyX7_ok (by decide +kernel) hown hK hP hD hS 0 rfl rfl 7 (by decide) (hts2 _ gwj_58) (fun _ h9 => h9) rfl hin rfl (by decide +kernel) rfl rfl (Nat.le_of_ble_eq_true rfl) (show decode cX7_init 82 = .ok (.putfield 51, 3) by decide +kernel) (fun H locs hP hD hS => ?_)
  have hP : va_P (gD E) vwCl ((h0, .inr (7, [.ref a0, .ref a1, .ref a2, .ref a3, .ref a4, .ref a5, .ref a6, .ref a7, .null, .null, .null])) :: (gzw_3 E a0 f0 ++ gzw_6 E a1 f1 ++ gzw_6 E a2 f2 ++ gzw_2 E a3 f3 ++ [(a4, .inl (gca E 6, 2, .inr (.inr (.inr (.inr (fun _ => none))))))] ++ [(a5, .inl (gca E 2, 2, .inl (fun _ => 0)))] ++ gzw_1 E a6 f4 ++ gzw_5 E a7 f5) : va_W) H := by simpa only [List.cons_append, List.append_assoc, List.nil_append, List.append_nil, List.set_cons_zero] using hP
  have hD : va_D A ((h0, .inr (7, [.ref a0, .ref a1, .ref a2, .ref a3, .ref a4, .ref a5, .ref a6, .ref a7, .null, .null, .null])) :: (gzw_3 E a0 f0 ++ gzw_6 E a1 f1 ++ gzw_6 E a2 f2 ++ gzw_2 E a3 f3 ++ [(a4, .inl (gca E 6, 2, .inr (.inr (.inr (.inr (fun _ => none))))))] ++ [(a5, .inl (gca E 2, 2, .inl (fun _ => 0)))] ++ gzw_1 E a6 f4 ++ gzw_5 E a7 f5) : va_W) := by simpa only [List.cons_append, List.append_assoc, List.nil_append, List.append_nil, List.set_cons_zero] using hD
  refine lv_aload_n hx hb (show decode cX7_init 85 = .ok (.aload_n 0, 1) by decide +kernel) rfl (lv_at hl 0 rfl) ?_
  refine va_new (ci := 0) (fs := [.null, .null]) (C := RX0) (T := TX0) (N := 2) hx hb hts2 (fun w hw => gBig_of (guw_0 w hw) (gug_0 w hw)) tyX0 tyX0_ok hown (hts2 _ gwj_59) (hts2 _ gwj_60) (hts2 _ gwj_61) hK hP hD hS hA rfl (fun j hj => by rcases (show j = 0 ∨ j = 1 by omega) with rfl | rfl <;> rfl) (Nat.le_of_ble_eq_true rfl) (Nat.le_of_ble_eq_true rfl) (show decode cX7_init 86 = .ok (.new 55, 3) by decide +kernel) (fun a8 H hP hD hS => ?_)
  refine lv_dup hx hb (show decode cX7_init 89 = .ok (.dup, 1) by decide +kernel) rfl ?_
  have hP : va_P (gD E) vwCl (((h0, .inr (7, [.ref a0, .ref a1, .ref a2, .ref a3, .ref a4, .ref a5, .ref a6, .ref a7, .null, .null, .null])) :: (gzw_3 E a0 f0 ++ gzw_6 E a1 f1 ++ gzw_6 E a2 f2 ++ gzw_2 E a3 f3 ++ [(a4, .inl (gca E 6, 2, .inr (.inr (.inr (.inr (fun _ => none))))))] ++ [(a5, .inl (gca E 2, 2, .inl (fun _ => 0)))] ++ gzw_1 E a6 f4 ++ gzw_5 E a7 f5) : va_W) ++ [(a8, .inr (0, [.null, .null]))]) H := hP
  have hD : va_D A (((h0, .inr (7, [.ref a0, .ref a1, .ref a2, .ref a3, .ref a4, .ref a5, .ref a6, .ref a7, .null, .null, .null])) :: (gzw_3 E a0 f0 ++ gzw_6 E a1 f1 ++ gzw_6 E a2 f2 ++ gzw_2 E a3 f3 ++ [(a4, .inl (gca E 6, 2, .inr (.inr (.inr (.inr (fun _ => none))))))] ++ [(a5, .inl (gca E 2, 2, .inl (fun _ => 0)))] ++ gzw_1 E a6 f4 ++ gzw_5 E a7 f5) : va_W) ++ [(a8, .inr (0, [.null, .null]))]) := hD
  have hPc := gj_P hP
  have hFc := gj_F hD hS hA
  have cw : va_CN (headSpec (Cond.code yX7_init cX7_init 1 none :: gBig) ({ frames := 3, cells := 68, slots := 1524, locals := 52 })).room s #[.ref h0] RX7 57 yX0_init "ToeplitzLab" cX0_init 1 none (Cond.code yX0_init cX0_init 1 none :: gBig) ({ frames := 1, cells := 2, slots := 14, locals := 12 }) 2 14 0 := va_cnB 0 hts2 (gGood_code gwj_62) rfl rfl rfl (hNi.1 _ (List.mem_of_getElem? (i := 6) rfl)) (hts2 _ gwj_61) (by decide +kernel) ⟨Nat.le_of_ble_eq_true rfl, Nat.le_of_ble_eq_true rfl⟩
  refine va_callv (va_runIN (Ts := gBig) (As := []) (rest := [.ref a8, .ref h0]) ⟨hx, hb, hml, hown, hts2⟩ (gi_0 l E a8 H.size) ⟨cw, rfl, hts2 _ gwj_63⟩ ⟨fun a U g mk z => gi_bl1 z, fun U hU hW => ⟨rfl, by rw [hU], by rw [hU]; exact hPc, va_K.moved hW.alike hK⟩⟩ rfl rfl hl.1 rfl (lv_room (Nat.le_of_ble_eq_true rfl)) (show decode cX7_init 90 = .ok (.invokespecial 57, 3) by decide +kernel) ⟨Nat.le_of_ble_eq_true rfl, Nat.le_of_ble_eq_true rfl⟩) hS (fun q _ h => hFc q h) hFc (fun f6 t H1 locs ht hvm _ hB hz1 hk1 hS => ?_)
  obtain ⟨hP1, hD1⟩ := hB
  rw [ht] at hP1
  obtain ⟨hP, hD⟩ := gjoin (W0 := ((h0, .inr (7, [.ref a0, .ref a1, .ref a2, .ref a3, .ref a4, .ref a5, .ref a6, .ref a7, .null, .null, .null])) :: (gzw_3 E a0 f0 ++ gzw_6 E a1 f1 ++ gzw_6 E a2 f2 ++ gzw_2 E a3 f3 ++ [(a4, .inl (gca E 6, 2, .inr (.inr (.inr (.inr (fun _ => none))))))] ++ [(a5, .inl (gca E 2, 2, .inl (fun _ => 0)))] ++ gzw_1 E a6 f4 ++ gzw_5 E a7 f5) : va_W)) hP hD hFc hk1 hP1 hD1
  clear hPc hFc cw hP1 hD1 ht hvm hz1 hk1
  generalize H1 = H at hP hS ⊢
  have hP : va_P (gD E) vwCl ((h0, .inr (7, [.ref a0, .ref a1, .ref a2, .ref a3, .ref a4, .ref a5, .ref a6, .ref a7, .null, .null, .null])) :: (gzw_3 E a0 f0 ++ gzw_6 E a1 f1 ++ gzw_6 E a2 f2 ++ gzw_2 E a3 f3 ++ [(a4, .inl (gca E 6, 2, .inr (.inr (.inr (.inr (fun _ => none))))))] ++ [(a5, .inl (gca E 2, 2, .inl (fun _ => 0)))] ++ gzw_1 E a6 f4 ++ gzw_5 E a7 f5 ++ gzw_0 E a8 f6) : va_W) H := by simpa only [List.cons_append, List.append_assoc, List.nil_append, List.append_nil] using hP
  have hD : va_D A ((h0, .inr (7, [.ref a0, .ref a1, .ref a2, .ref a3, .ref a4, .ref a5, .ref a6, .ref a7, .null, .null, .null])) :: (gzw_3 E a0 f0 ++ gzw_6 E a1 f1 ++ gzw_6 E a2 f2 ++ gzw_2 E a3 f3 ++ [(a4, .inl (gca E 6, 2, .inr (.inr (.inr (.inr (fun _ => none))))))] ++ [(a5, .inl (gca E 2, 2, .inl (fun _ => 0)))] ++ gzw_1 E a6 f4 ++ gzw_5 E a7 f5 ++ gzw_0 E a8 f6) : va_W) := by simpa only [List.cons_append, List.append_assoc, List.nil_append, List.append_nil] using hD
  refine va_putF (D := gD E) (ci := 7) (v := .ref a8) (ty := .object "ToeplitzLab$Fractions") (C := RX7) (T := TX7) (N := 11) hx hb hts2 (fun w hw => gBig_of (guw_7 w hw) (gug_7 w hw)) tyX7 tyX7_ok (by decide +kernel) hown hK hP hD hS 0 rfl rfl 8 (by decide) (hts2 _ gwj_64) (fun _ h9 => h9) rfl hin rfl (by decide +kernel) rfl rfl (Nat.le_of_ble_eq_true rfl) (show decode cX7_init 93 = .ok (.putfield 58, 3) by decide +kernel) (fun H locs hP hD hS => ?_)
  have hP : va_P (gD E) vwCl ((h0, .inr (7, [.ref a0, .ref a1, .ref a2, .ref a3, .ref a4, .ref a5, .ref a6, .ref a7, .ref a8, .null, .null])) :: (gzw_3 E a0 f0 ++ gzw_6 E a1 f1 ++ gzw_6 E a2 f2 ++ gzw_2 E a3 f3 ++ [(a4, .inl (gca E 6, 2, .inr (.inr (.inr (.inr (fun _ => none))))))] ++ [(a5, .inl (gca E 2, 2, .inl (fun _ => 0)))] ++ gzw_1 E a6 f4 ++ gzw_5 E a7 f5 ++ gzw_0 E a8 f6) : va_W) H := by simpa only [List.cons_append, List.append_assoc, List.nil_append, List.append_nil, List.set_cons_zero] using hP
  have hD : va_D A ((h0, .inr (7, [.ref a0, .ref a1, .ref a2, .ref a3, .ref a4, .ref a5, .ref a6, .ref a7, .ref a8, .null, .null])) :: (gzw_3 E a0 f0 ++ gzw_6 E a1 f1 ++ gzw_6 E a2 f2 ++ gzw_2 E a3 f3 ++ [(a4, .inl (gca E 6, 2, .inr (.inr (.inr (.inr (fun _ => none))))))] ++ [(a5, .inl (gca E 2, 2, .inl (fun _ => 0)))] ++ gzw_1 E a6 f4 ++ gzw_5 E a7 f5 ++ gzw_0 E a8 f6) : va_W) := by simpa only [List.cons_append, List.append_assoc, List.nil_append, List.append_nil, List.set_cons_zero] using hD
  refine lv_aload_n hx hb (show decode cX7_init 96 = .ok (.aload_n 0, 1) by decide +kernel) rfl (lv_at hl 0 rfl) ?_
  refine va_new (ci := 4) (fs := [.null, .null]) (C := RX4) (T := TX4) (N := 2) hx hb hts2 (fun w hw => gBig_of (guw_4 w hw) (gug_4 w hw)) tyX4 tyX4_ok hown (hts2 _ gwj_65) (hts2 _ gwj_66) (hts2 _ gwj_67) hK hP hD hS hA rfl (fun j hj => by rcases (show j = 0 ∨ j = 1 by omega) with rfl | rfl <;> rfl) (Nat.le_of_ble_eq_true rfl) (Nat.le_of_ble_eq_true rfl) (show decode cX7_init 97 = .ok (.new 62, 3) by decide +kernel) (fun a9 H hP hD hS => ?_)
  refine lv_dup hx hb (show decode cX7_init 100 = .ok (.dup, 1) by decide +kernel) rfl ?_
  have hP : va_P (gD E) vwCl (((h0, .inr (7, [.ref a0, .ref a1, .ref a2, .ref a3, .ref a4, .ref a5, .ref a6, .ref a7, .ref a8, .null, .null])) :: (gzw_3 E a0 f0 ++ gzw_6 E a1 f1 ++ gzw_6 E a2 f2 ++ gzw_2 E a3 f3 ++ [(a4, .inl (gca E 6, 2, .inr (.inr (.inr (.inr (fun _ => none))))))] ++ [(a5, .inl (gca E 2, 2, .inl (fun _ => 0)))] ++ gzw_1 E a6 f4 ++ gzw_5 E a7 f5 ++ gzw_0 E a8 f6) : va_W) ++ [(a9, .inr (4, [.null, .null]))]) H := hP
  have hD : va_D A (((h0, .inr (7, [.ref a0, .ref a1, .ref a2, .ref a3, .ref a4, .ref a5, .ref a6, .ref a7, .ref a8, .null, .null])) :: (gzw_3 E a0 f0 ++ gzw_6 E a1 f1 ++ gzw_6 E a2 f2 ++ gzw_2 E a3 f3 ++ [(a4, .inl (gca E 6, 2, .inr (.inr (.inr (.inr (fun _ => none))))))] ++ [(a5, .inl (gca E 2, 2, .inl (fun _ => 0)))] ++ gzw_1 E a6 f4 ++ gzw_5 E a7 f5 ++ gzw_0 E a8 f6) : va_W) ++ [(a9, .inr (4, [.null, .null]))]) := hD
  have hPc := gj_P hP
  have hFc := gj_F hD hS hA
  have cw : va_CN (headSpec (Cond.code yX7_init cX7_init 1 none :: gBig) ({ frames := 3, cells := 68, slots := 1524, locals := 52 })).room s #[.ref h0] RX7 64 yX4_init "ToeplitzLab" cX4_init 1 none (Cond.code yX4_init cX4_init 1 none :: gBig) ({ frames := 2, cells := 10, slots := 118, locals := 32 }) 10 118 0 := va_cnB 0 hts2 (gGood_code gwj_68) rfl rfl rfl (hNi.1 _ (List.mem_of_getElem? (i := 7) rfl)) (hts2 _ gwj_67) (by decide +kernel) ⟨Nat.le_of_ble_eq_true rfl, Nat.le_of_ble_eq_true rfl⟩
  refine va_callv (va_runIN (Ts := gBig) (As := []) (rest := [.ref a9, .ref h0]) ⟨hx, hb, hml, hown, hts2⟩ (gi_4 l E a9 H.size) ⟨cw, rfl, hts2 _ gwj_69⟩ ⟨fun a U g mk z => gi_bl2 z, fun U hU hW => ⟨rfl, by rw [hU], by rw [hU]; exact hPc, ⟨va_K.moved hW.alike hK, hNi.warm hW⟩⟩⟩ rfl rfl hl.1 rfl (lv_room (Nat.le_of_ble_eq_true rfl)) (show decode cX7_init 101 = .ok (.invokespecial 64, 3) by decide +kernel) ⟨Nat.le_of_ble_eq_true rfl, Nat.le_of_ble_eq_true rfl⟩) hS (fun q _ h => hFc q h) hFc (fun f7 t H1 locs ht hvm _ hB hz1 hk1 hS => ?_)
  obtain ⟨hP1, hD1⟩ := hB
  rw [ht] at hP1
  obtain ⟨hP, hD⟩ := gjoin (W0 := ((h0, .inr (7, [.ref a0, .ref a1, .ref a2, .ref a3, .ref a4, .ref a5, .ref a6, .ref a7, .ref a8, .null, .null])) :: (gzw_3 E a0 f0 ++ gzw_6 E a1 f1 ++ gzw_6 E a2 f2 ++ gzw_2 E a3 f3 ++ [(a4, .inl (gca E 6, 2, .inr (.inr (.inr (.inr (fun _ => none))))))] ++ [(a5, .inl (gca E 2, 2, .inl (fun _ => 0)))] ++ gzw_1 E a6 f4 ++ gzw_5 E a7 f5 ++ gzw_0 E a8 f6) : va_W)) hP hD hFc hk1 hP1 hD1
  clear hPc hFc cw hP1 hD1 ht hvm hz1 hk1
  generalize H1 = H at hP hS ⊢
  have hP : va_P (gD E) vwCl ((h0, .inr (7, [.ref a0, .ref a1, .ref a2, .ref a3, .ref a4, .ref a5, .ref a6, .ref a7, .ref a8, .null, .null])) :: (gzw_3 E a0 f0 ++ gzw_6 E a1 f1 ++ gzw_6 E a2 f2 ++ gzw_2 E a3 f3 ++ [(a4, .inl (gca E 6, 2, .inr (.inr (.inr (.inr (fun _ => none))))))] ++ [(a5, .inl (gca E 2, 2, .inl (fun _ => 0)))] ++ gzw_1 E a6 f4 ++ gzw_5 E a7 f5 ++ gzw_0 E a8 f6 ++ gzw_4 E a9 f7) : va_W) H := by simpa only [List.cons_append, List.append_assoc, List.nil_append, List.append_nil] using hP
  have hD : va_D A ((h0, .inr (7, [.ref a0, .ref a1, .ref a2, .ref a3, .ref a4, .ref a5, .ref a6, .ref a7, .ref a8, .null, .null])) :: (gzw_3 E a0 f0 ++ gzw_6 E a1 f1 ++ gzw_6 E a2 f2 ++ gzw_2 E a3 f3 ++ [(a4, .inl (gca E 6, 2, .inr (.inr (.inr (.inr (fun _ => none))))))] ++ [(a5, .inl (gca E 2, 2, .inl (fun _ => 0)))] ++ gzw_1 E a6 f4 ++ gzw_5 E a7 f5 ++ gzw_0 E a8 f6 ++ gzw_4 E a9 f7) : va_W) := by simpa only [List.cons_append, List.append_assoc, List.nil_append, List.append_nil] using hD
  refine va_putF (D := gD E) (ci := 7) (v := .ref a9) (ty := .object "ToeplitzLab$Lifter") (C := RX7) (T := TX7) (N := 11) hx hb hts2 (fun w hw => gBig_of (guw_7 w hw) (gug_7 w hw)) tyX7 tyX7_ok (by decide +kernel) hown hK hP hD hS 0 rfl rfl 9 (by decide) (hts2 _ gwj_70) (fun _ h9 => h9) rfl hin rfl (by decide +kernel) rfl rfl (Nat.le_of_ble_eq_true rfl) (show decode cX7_init 104 = .ok (.putfield 65, 3) by decide +kernel) (fun H locs hP hD hS => ?_)
  have hP : va_P (gD E) vwCl ((h0, .inr (7, [.ref a0, .ref a1, .ref a2, .ref a3, .ref a4, .ref a5, .ref a6, .ref a7, .ref a8, .ref a9, .null])) :: (gzw_3 E a0 f0 ++ gzw_6 E a1 f1 ++ gzw_6 E a2 f2 ++ gzw_2 E a3 f3 ++ [(a4, .inl (gca E 6, 2, .inr (.inr (.inr (.inr (fun _ => none))))))] ++ [(a5, .inl (gca E 2, 2, .inl (fun _ => 0)))] ++ gzw_1 E a6 f4 ++ gzw_5 E a7 f5 ++ gzw_0 E a8 f6 ++ gzw_4 E a9 f7) : va_W) H := by simpa only [List.cons_append, List.append_assoc, List.nil_append, List.append_nil, List.set_cons_zero] using hP
  have hD : va_D A ((h0, .inr (7, [.ref a0, .ref a1, .ref a2, .ref a3, .ref a4, .ref a5, .ref a6, .ref a7, .ref a8, .ref a9, .null])) :: (gzw_3 E a0 f0 ++ gzw_6 E a1 f1 ++ gzw_6 E a2 f2 ++ gzw_2 E a3 f3 ++ [(a4, .inl (gca E 6, 2, .inr (.inr (.inr (.inr (fun _ => none))))))] ++ [(a5, .inl (gca E 2, 2, .inl (fun _ => 0)))] ++ gzw_1 E a6 f4 ++ gzw_5 E a7 f5 ++ gzw_0 E a8 f6 ++ gzw_4 E a9 f7) : va_W) := by simpa only [List.cons_append, List.append_assoc, List.nil_append, List.append_nil, List.set_cons_zero] using hD
  refine lv_aload_n hx hb (show decode cX7_init 107 = .ok (.aload_n 0, 1) by decide +kernel) rfl (lv_at hl 0 rfl) ?_
  refine lv_bipush (v := 8) hx hb (show decode cX7_init 108 = .ok (.bipush 8, 2) by decide +kernel) (by decide) ?_
  refine va_newa (atype := .int) (ty := .int) (a0 := (8, .inl (fun _ => 0))) (N' := 8) hx hb (hts2 _ gwj_6) rfl hK hP hD hS hA (fun _ => rfl) (by decide) rfl (Nat.le_of_ble_eq_true rfl) (Nat.le_of_ble_eq_true rfl) (Nat.le_of_ble_eq_true rfl) (show decode cX7_init 110 = .ok (.newarray .int, 2) by decide +kernel) (fun a10 cA H hK2 hP hD hS => ?_)
  have hcA : cA = gca E 0 := gca_eq hK2 0 rfl rfl
  subst hcA
  clear hK2
  have hP : va_P (gD E) vwCl ((h0, .inr (7, [.ref a0, .ref a1, .ref a2, .ref a3, .ref a4, .ref a5, .ref a6, .ref a7, .ref a8, .ref a9, .null])) :: (gzw_3 E a0 f0 ++ gzw_6 E a1 f1 ++ gzw_6 E a2 f2 ++ gzw_2 E a3 f3 ++ [(a4, .inl (gca E 6, 2, .inr (.inr (.inr (.inr (fun _ => none))))))] ++ [(a5, .inl (gca E 2, 2, .inl (fun _ => 0)))] ++ gzw_1 E a6 f4 ++ gzw_5 E a7 f5 ++ gzw_0 E a8 f6 ++ gzw_4 E a9 f7 ++ [(a10, .inl (gca E 0, 8, .inl (fun _ => 0)))]) : va_W) H := by simpa only [List.cons_append, List.append_assoc, List.nil_append, List.append_nil, List.set_cons_zero] using hP
  have hD : va_D A ((h0, .inr (7, [.ref a0, .ref a1, .ref a2, .ref a3, .ref a4, .ref a5, .ref a6, .ref a7, .ref a8, .ref a9, .null])) :: (gzw_3 E a0 f0 ++ gzw_6 E a1 f1 ++ gzw_6 E a2 f2 ++ gzw_2 E a3 f3 ++ [(a4, .inl (gca E 6, 2, .inr (.inr (.inr (.inr (fun _ => none))))))] ++ [(a5, .inl (gca E 2, 2, .inl (fun _ => 0)))] ++ gzw_1 E a6 f4 ++ gzw_5 E a7 f5 ++ gzw_0 E a8 f6 ++ gzw_4 E a9 f7 ++ [(a10, .inl (gca E 0, 8, .inl (fun _ => 0)))]) : va_W) := by simpa only [List.cons_append, List.append_assoc, List.nil_append, List.append_nil, List.set_cons_zero] using hD
  refine va_putF (D := gD E) (ci := 7) (v := .ref a10) (ty := .array .int) (C := RX7) (T := TX7) (N := 11) hx hb hts2 (fun w hw => gBig_of (guw_7 w hw) (gug_7 w hw)) tyX7 tyX7_ok (by decide +kernel) hown hK hP hD hS 0 rfl rfl 10 (by decide) (hts2 _ gwj_71) (fun _ h9 => h9) rfl hin rfl (by decide +kernel) rfl rfl (Nat.le_of_ble_eq_true rfl) (show decode cX7_init 112 = .ok (.putfield 69, 3) by decide +kernel) (fun H locs hP hD hS => ?_)
  have hP : va_P (gD E) vwCl ((h0, .inr (7, [.ref a0, .ref a1, .ref a2, .ref a3, .ref a4, .ref a5, .ref a6, .ref a7, .ref a8, .ref a9, .ref a10])) :: (gzw_3 E a0 f0 ++ gzw_6 E a1 f1 ++ gzw_6 E a2 f2 ++ gzw_2 E a3 f3 ++ [(a4, .inl (gca E 6, 2, .inr (.inr (.inr (.inr (fun _ => none))))))] ++ [(a5, .inl (gca E 2, 2, .inl (fun _ => 0)))] ++ gzw_1 E a6 f4 ++ gzw_5 E a7 f5 ++ gzw_0 E a8 f6 ++ gzw_4 E a9 f7 ++ [(a10, .inl (gca E 0, 8, .inl (fun _ => 0)))]) : va_W) H := by simpa only [List.cons_append, List.append_assoc, List.nil_append, List.append_nil, List.set_cons_zero] using hP
  have hD : va_D A ((h0, .inr (7, [.ref a0, .ref a1, .ref a2, .ref a3, .ref a4, .ref a5, .ref a6, .ref a7, .ref a8, .ref a9, .ref a10])) :: (gzw_3 E a0 f0 ++ gzw_6 E a1 f1 ++ gzw_6 E a2 f2 ++ gzw_2 E a3 f3 ++ [(a4, .inl (gca E 6, 2, .inr (.inr (.inr (.inr (fun _ => none))))))] ++ [(a5, .inl (gca E 2, 2, .inl (fun _ => 0)))] ++ gzw_1 E a6 f4 ++ gzw_5 E a7 f5 ++ gzw_0 E a8 f6 ++ gzw_4 E a9 f7 ++ [(a10, .inl (gca E 0, 8, .inl (fun _ => 0)))]) : va_W) := by simpa only [List.cons_append, List.append_assoc, List.nil_append, List.append_nil, List.set_cons_zero] using hD
  exact W.vret hx hb hr (fun t ht hW => ⟨⟨((fun i => match i with | 0 => a0 | 1 => a1 | 2 => a2 | 3 => a3 | 4 => a4 | 5 => a5 | 6 => a6 | 7 => a7 | 8 => a8 | 9 => a9 | 10 => a10 | _ => 0), (fun i => match i with | 0 => f0 | 1 => f1 | 2 => f2 | 3 => f3 | 4 => f4 | 5 => f5 | 6 => f6 | 7 => f7 | _ => fun _ => 0)), rfl, trivial, by rw [ht]; exact hP, hD⟩, hS.F ht⟩) hS.2.2 (show decode cX7_init 115 = .ok (.return_, 1) by decide +kernel)
def gzw_8 (E : gEn) (h0 : Nat) (u : Nat → Nat) : va_W := ((h0, .inr (8, [.int 0, .int 0, .ref (u 0), .ref (u 1), .int 0, .ref (u 2), .ref (u 3), .int 0, .int 0, .int (-1), .int 0, .int 0, .int 0, .int 0, .int 0, .int 0, .int 0, .ref (u 4), .ref (u 5), .int 0, .ref (u 6), .int 0, .ref (u 7), .ref (u 8), .int 0, .ref (u 9), .ref (u 10), .ref (u 11), .long 0, .long 0, .ref (u 12), .ref (u 13)])) :: ([((u 0), .inl (gca E 0, 408, .inl (fun _ => 0)))] ++ [((u 1), .inl (gca E 0, 4488, .inl (fun _ => 0)))] ++ [((u 2), .inl (gca E 2, 2, .inl (fun _ => 0)))] ++ [((u 3), .inl (gca E 0, 700, .inl (fun _ => 0)))] ++ [((u 4), .inl (gca E 0, 408, .inl (fun _ => 0)))] ++ [((u 5), .inl (gca E 2, 27, .inl (fun _ => 0)))] ++ [((u 6), .inl (gca E 0, 56, .inl (fun _ => 0)))] ++ [((u 7), .inl (gca E 0, 8, .inl (fun _ => 0)))] ++ [((u 8), .inl (gca E 0, 8, .inl (fun _ => 0)))] ++ [((u 9), .inl (gca E 0, 49, .inl (fun _ => 0)))] ++ [((u 10), .inl (gca E 0, 343, .inl (fun _ => 0)))] ++ [((u 11), .inl (gca E 0, 343, .inl (fun _ => 0)))] ++ [((u 12), .inl (gca E 1, 7, .inr (.inl (fun _ => 0))))] ++ [((u 13), .inl (gca E 1, 7, .inr (.inl (fun _ => 0))))]) : va_W)
set_option maxHeartbeats 4000000 in
set_option maxRecDepth 100000 in
theorem gi_8 (l : Launch) (E : gEn) (h0 sz : Nat) : Met l yX8_init (Cond.code yX8_init cX8_init 1 none :: gBig) ({ frames := 1, cells := 14, slots := 6854, locals := 12 }) (va_Pc [.ref h0] (fun U => U.heap.size = sz ∧ va_P (gD E) vwCl [(h0, .inr (8, [.int 0, .int 0, .null, .null, .int 0, .null, .null, .int 0, .int 0, .int 0, .int 0, .int 0, .int 0, .int 0, .int 0, .int 0, .int 0, .null, .null, .int 0, .null, .int 0, .null, .null, .int 0, .null, .null, .null, .long 0, .long 0, .null, .null]))] U.heap ∧ va_K (gD E) vwCl (gtys E) U)) (va_Qv (fun _ : Nat → Nat => True) (fun u t => va_P (gD E) vwCl (gzw_8 E h0 u) t.heap ∧ va_D (va_A [(h0, .inr (8, [.int 0, .int 0, .null, .null, .int 0, .null, .null, .int 0, .int 0, .int 0, .int 0, .int 0, .int 0, .int 0, .int 0, .int 0, .int 0, .null, .null, .int 0, .null, .int 0, .null, .null, .int 0, .null, .null, .null, .long 0, .long 0, .null, .null]))] sz) (gzw_8 E h0 u)) (va_A [(h0, .inr (8, [.int 0, .int 0, .null, .null, .int 0, .null, .null, .int 0, .int 0, .int 0, .int 0, .int 0, .int 0, .int 0, .int 0, .int 0, .int 0, .null, .null, .int 0, .null, .int 0, .null, .null, .int 0, .null, .null, .null, .long 0, .long 0, .null, .null]))] sz)) 14 6854 (va_A [(h0, .inr (8, [.int 0, .int 0, .null, .null, .int 0, .null, .null, .int 0, .int 0, .int 0, .int 0, .int 0, .int 0, .int 0, .int 0, .int 0, .int 0, .null, .null, .int 0, .null, .int 0, .null, .null, .int 0, .null, .null, .null, .long 0, .long 0, .null, .null]))] sz) := by
  refine Met.ofW (cc := cX8_init) (maxL := 1) (ret := none) (by decide) rfl ?_
  intro p e s m args below meth c s₁ B hml hv
  obtain ⟨rfl, hsz, hP, hK⟩ := hv
  have hx := B.exec
  have hb := B.bytes
  have hr := B.returns
  have hts := atoms_spec (ws := Cond.code yX8_init cX8_init 1 none :: gBig) B.pre
  have hts2 : ∀ w ∈ gBig, w.before #[.ref h0] s = true := fun w hw => hts w (List.mem_cons_of_mem _ hw)
  have hown : s.vm.findClass RX8 = some m.cls := findClass_of_methodNamed B.named
  have hlocks := B.notSynchronized
  have hin : meth.name = "<init>" := (name_of_methodNamed B.named B.method).1
  subst hsz
  have hD : va_D (va_A [(h0, .inr (8, [.int 0, .int 0, .null, .null, .int 0, .null, .null, .int 0, .int 0, .int 0, .int 0, .int 0, .int 0, .int 0, .int 0, .int 0, .int 0, .null, .null, .int 0, .null, .int 0, .null, .null, .int 0, .null, .null, .null, .long 0, .long 0, .null, .null]))] s.heap.size) [(h0, .inr (8, [.int 0, .int 0, .null, .null, .int 0, .null, .null, .int 0, .int 0, .int 0, .int 0, .int 0, .int 0, .int 0, .int 0, .int 0, .int 0, .null, .null, .int 0, .null, .int 0, .null, .null, .int 0, .null, .null, .null, .long 0, .long 0, .null, .null]))] := va_D1 _ _
  generalize hAe : va_A [(h0, .inr (8, [.int 0, .int 0, .null, .null, .int 0, .null, .null, .int 0, .int 0, .int 0, .int 0, .int 0, .int 0, .int 0, .int 0, .int 0, .int 0, .null, .null, .int 0, .null, .int 0, .null, .null, .int 0, .null, .null, .null, .long 0, .long 0, .null, .null]))] s.heap.size = A at hD ⊢
  have hA : ∀ q : Nat, s.heap.size ≤ q → A q := fun q h => by rw [← hAe]; exact Or.inr h
  have hS : va_S A s.heap s.heap [] := va_S.rf
  have hl := lv_entry ([.ref h0]) (n := 1) (Nat.le_of_ble_eq_true rfl)
  rw [lg_entry_eq]
  generalize (lg_sl ([.ref h0]) ++ List.replicate (1 - (lg_sl ([.ref h0])).length) Slot.unset).toArray = ls at hl ⊢
  have hl : lv_has ls 1 [(0, .ref h0)] := hl
  refine lv_aload_n hx hb (show decode cX8_init 0 = .ok (.aload_n 0, 1) by decide +kernel) rfl (lv_at hl 0 rfl) ?_
  refine W.objInit hx hb hown (hts2 _ gwj_72) (hts2 _ gwi_1) (hts2 _ gwi_2) rfl (by rw [hml]; exact hl.1) rfl (show decode cX8_init 1 = .ok (.invokespecial 1, 3) by decide +kernel) (Nat.le_of_ble_eq_true rfl) (Nat.le_of_ble_eq_true rfl) ?_
  refine W.eq (g2 := F0 m 4 ls []) rfl ?_
  refine lv_aload_n hx hb (show decode cX8_init 4 = .ok (.aload_n 0, 1) by decide +kernel) rfl (lv_at hl 0 rfl) ?_
  refine lv_sipush (v := 408) hx hb (show decode cX8_init 5 = .ok (.sipush 408, 3) by decide +kernel) (by decide) ?_
  refine va_newa (atype := .int) (ty := .int) (a0 := (408, .inl (fun _ => 0))) (N' := 408) hx hb (hts2 _ gwj_6) rfl hK hP hD hS hA (fun _ => rfl) (by decide) rfl (Nat.le_of_ble_eq_true rfl) (Nat.le_of_ble_eq_true rfl) (Nat.le_of_ble_eq_true rfl) (show decode cX8_init 8 = .ok (.newarray .int, 2) by decide +kernel) (fun a0 cA H hK2 hP hD hS => ?_)
  have hcA : cA = gca E 0 := gca_eq hK2 0 rfl rfl
  subst hcA
  clear hK2
  have hP : va_P (gD E) vwCl ((h0, .inr (8, [.int 0, .int 0, .null, .null, .int 0, .null, .null, .int 0, .int 0, .int 0, .int 0, .int 0, .int 0, .int 0, .int 0, .int 0, .int 0, .null, .null, .int 0, .null, .int 0, .null, .null, .int 0, .null, .null, .null, .long 0, .long 0, .null, .null])) :: ([(a0, .inl (gca E 0, 408, .inl (fun _ => 0)))]) : va_W) H := hP
  have hD : va_D A ((h0, .inr (8, [.int 0, .int 0, .null, .null, .int 0, .null, .null, .int 0, .int 0, .int 0, .int 0, .int 0, .int 0, .int 0, .int 0, .int 0, .int 0, .null, .null, .int 0, .null, .int 0, .null, .null, .int 0, .null, .null, .null, .long 0, .long 0, .null, .null])) :: ([(a0, .inl (gca E 0, 408, .inl (fun _ => 0)))]) : va_W) := hD
  refine va_putF (D := gD E) (ci := 8) (v := .ref a0) (ty := .array .int) (C := RX8) (T := TX8) (N := 32) hx hb hts2 (fun w hw => gBig_of (guw_8 w hw) (gug_8 w hw)) tyX8 tyX8_ok (by decide +kernel) hown hK hP hD hS 0 rfl rfl 2 (by decide) (hts2 _ gwj_73) (fun _ h9 => h9) rfl hin rfl (by decide +kernel) rfl rfl (Nat.le_of_ble_eq_true rfl) (show decode cX8_init 10 = .ok (.putfield 7, 3) by decide +kernel) (fun H locs hP hD hS => ?_)
  have hP : va_P (gD E) vwCl ((h0, .inr (8, [.int 0, .int 0, .ref a0, .null, .int 0, .null, .null, .int 0, .int 0, .int 0, .int 0, .int 0, .int 0, .int 0, .int 0, .int 0, .int 0, .null, .null, .int 0, .null, .int 0, .null, .null, .int 0, .null, .null, .null, .long 0, .long 0, .null, .null])) :: ([(a0, .inl (gca E 0, 408, .inl (fun _ => 0)))]) : va_W) H := hP
  have hD : va_D A ((h0, .inr (8, [.int 0, .int 0, .ref a0, .null, .int 0, .null, .null, .int 0, .int 0, .int 0, .int 0, .int 0, .int 0, .int 0, .int 0, .int 0, .int 0, .null, .null, .int 0, .null, .int 0, .null, .null, .int 0, .null, .null, .null, .long 0, .long 0, .null, .null])) :: ([(a0, .inl (gca E 0, 408, .inl (fun _ => 0)))]) : va_W) := hD
  refine lv_aload_n hx hb (show decode cX8_init 13 = .ok (.aload_n 0, 1) by decide +kernel) rfl (lv_at hl 0 rfl) ?_
  refine lv_sipush (v := 4488) hx hb (show decode cX8_init 14 = .ok (.sipush 4488, 3) by decide +kernel) (by decide) ?_
  refine va_newa (atype := .int) (ty := .int) (a0 := (4488, .inl (fun _ => 0))) (N' := 4488) hx hb (hts2 _ gwj_6) rfl hK hP hD hS hA (fun _ => rfl) (by decide) rfl (Nat.le_of_ble_eq_true rfl) (Nat.le_of_ble_eq_true rfl) (Nat.le_of_ble_eq_true rfl) (show decode cX8_init 17 = .ok (.newarray .int, 2) by decide +kernel) (fun a1 cA H hK2 hP hD hS => ?_)
  have hcA : cA = gca E 0 := gca_eq hK2 0 rfl rfl
  subst hcA
  clear hK2
  have hP : va_P (gD E) vwCl ((h0, .inr (8, [.int 0, .int 0, .ref a0, .null, .int 0, .null, .null, .int 0, .int 0, .int 0, .int 0, .int 0, .int 0, .int 0, .int 0, .int 0, .int 0, .null, .null, .int 0, .null, .int 0, .null, .null, .int 0, .null, .null, .null, .long 0, .long 0, .null, .null])) :: ([(a0, .inl (gca E 0, 408, .inl (fun _ => 0)))] ++ [(a1, .inl (gca E 0, 4488, .inl (fun _ => 0)))]) : va_W) H := by simpa only [List.cons_append, List.append_assoc, List.nil_append, List.append_nil, List.set_cons_zero] using hP
  have hD : va_D A ((h0, .inr (8, [.int 0, .int 0, .ref a0, .null, .int 0, .null, .null, .int 0, .int 0, .int 0, .int 0, .int 0, .int 0, .int 0, .int 0, .int 0, .int 0, .null, .null, .int 0, .null, .int 0, .null, .null, .int 0, .null, .null, .null, .long 0, .long 0, .null, .null])) :: ([(a0, .inl (gca E 0, 408, .inl (fun _ => 0)))] ++ [(a1, .inl (gca E 0, 4488, .inl (fun _ => 0)))]) : va_W) := by simpa only [List.cons_append, List.append_assoc, List.nil_append, List.append_nil, List.set_cons_zero] using hD
  refine va_putF (D := gD E) (ci := 8) (v := .ref a1) (ty := .array .int) (C := RX8) (T := TX8) (N := 32) hx hb hts2 (fun w hw => gBig_of (guw_8 w hw) (gug_8 w hw)) tyX8 tyX8_ok (by decide +kernel) hown hK hP hD hS 0 rfl rfl 3 (by decide) (hts2 _ gwj_74) (fun _ h9 => h9) rfl hin rfl (by decide +kernel) rfl rfl (Nat.le_of_ble_eq_true rfl) (show decode cX8_init 19 = .ok (.putfield 13, 3) by decide +kernel) (fun H locs hP hD hS => ?_)
  have hP : va_P (gD E) vwCl ((h0, .inr (8, [.int 0, .int 0, .ref a0, .ref a1, .int 0, .null, .null, .int 0, .int 0, .int 0, .int 0, .int 0, .int 0, .int 0, .int 0, .int 0, .int 0, .null, .null, .int 0, .null, .int 0, .null, .null, .int 0, .null, .null, .null, .long 0, .long 0, .null, .null])) :: ([(a0, .inl (gca E 0, 408, .inl (fun _ => 0)))] ++ [(a1, .inl (gca E 0, 4488, .inl (fun _ => 0)))]) : va_W) H := by simpa only [List.cons_append, List.append_assoc, List.nil_append, List.append_nil, List.set_cons_zero] using hP
  have hD : va_D A ((h0, .inr (8, [.int 0, .int 0, .ref a0, .ref a1, .int 0, .null, .null, .int 0, .int 0, .int 0, .int 0, .int 0, .int 0, .int 0, .int 0, .int 0, .int 0, .null, .null, .int 0, .null, .int 0, .null, .null, .int 0, .null, .null, .null, .long 0, .long 0, .null, .null])) :: ([(a0, .inl (gca E 0, 408, .inl (fun _ => 0)))] ++ [(a1, .inl (gca E 0, 4488, .inl (fun _ => 0)))]) : va_W) := by simpa only [List.cons_append, List.append_assoc, List.nil_append, List.append_nil, List.set_cons_zero] using hD
  refine lv_aload_n hx hb (show decode cX8_init 22 = .ok (.aload_n 0, 1) by decide +kernel) rfl (lv_at hl 0 rfl) ?_
  refine lv_iconst (v := 2) hx hb (show decode cX8_init 23 = .ok (.iconst 2, 1) by decide +kernel) (by decide) ?_
  refine va_newa (atype := .boolean) (ty := .boolean) (a0 := (2, .inl (fun _ => 0))) (N' := 2) hx hb (hts2 _ gwj_49) rfl hK hP hD hS hA (fun _ => rfl) (by decide) rfl (Nat.le_of_ble_eq_true rfl) (Nat.le_of_ble_eq_true rfl) (Nat.le_of_ble_eq_true rfl) (show decode cX8_init 24 = .ok (.newarray .boolean, 2) by decide +kernel) (fun a2 cA H hK2 hP hD hS => ?_)
  have hcA : cA = gca E 2 := gca_eq hK2 2 rfl rfl
  subst hcA
  clear hK2
  have hP : va_P (gD E) vwCl ((h0, .inr (8, [.int 0, .int 0, .ref a0, .ref a1, .int 0, .null, .null, .int 0, .int 0, .int 0, .int 0, .int 0, .int 0, .int 0, .int 0, .int 0, .int 0, .null, .null, .int 0, .null, .int 0, .null, .null, .int 0, .null, .null, .null, .long 0, .long 0, .null, .null])) :: ([(a0, .inl (gca E 0, 408, .inl (fun _ => 0)))] ++ [(a1, .inl (gca E 0, 4488, .inl (fun _ => 0)))] ++ [(a2, .inl (gca E 2, 2, .inl (fun _ => 0)))]) : va_W) H := by simpa only [List.cons_append, List.append_assoc, List.nil_append, List.append_nil, List.set_cons_zero] using hP
  have hD : va_D A ((h0, .inr (8, [.int 0, .int 0, .ref a0, .ref a1, .int 0, .null, .null, .int 0, .int 0, .int 0, .int 0, .int 0, .int 0, .int 0, .int 0, .int 0, .int 0, .null, .null, .int 0, .null, .int 0, .null, .null, .int 0, .null, .null, .null, .long 0, .long 0, .null, .null])) :: ([(a0, .inl (gca E 0, 408, .inl (fun _ => 0)))] ++ [(a1, .inl (gca E 0, 4488, .inl (fun _ => 0)))] ++ [(a2, .inl (gca E 2, 2, .inl (fun _ => 0)))]) : va_W) := by simpa only [List.cons_append, List.append_assoc, List.nil_append, List.append_nil, List.set_cons_zero] using hD
  refine va_putF (D := gD E) (ci := 8) (v := .ref a2) (ty := .array .boolean) (C := RX8) (T := TX8) (N := 32) hx hb hts2 (fun w hw => gBig_of (guw_8 w hw) (gug_8 w hw)) tyX8 tyX8_ok (by decide +kernel) hown hK hP hD hS 0 rfl rfl 5 (by decide) (hts2 _ gwj_75) (fun _ h9 => h9) rfl hin rfl (by decide +kernel) rfl rfl (Nat.le_of_ble_eq_true rfl) (show decode cX8_init 26 = .ok (.putfield 16, 3) by decide +kernel) (fun H locs hP hD hS => ?_)
  have hP : va_P (gD E) vwCl ((h0, .inr (8, [.int 0, .int 0, .ref a0, .ref a1, .int 0, .ref a2, .null, .int 0, .int 0, .int 0, .int 0, .int 0, .int 0, .int 0, .int 0, .int 0, .int 0, .null, .null, .int 0, .null, .int 0, .null, .null, .int 0, .null, .null, .null, .long 0, .long 0, .null, .null])) :: ([(a0, .inl (gca E 0, 408, .inl (fun _ => 0)))] ++ [(a1, .inl (gca E 0, 4488, .inl (fun _ => 0)))] ++ [(a2, .inl (gca E 2, 2, .inl (fun _ => 0)))]) : va_W) H := by simpa only [List.cons_append, List.append_assoc, List.nil_append, List.append_nil, List.set_cons_zero] using hP
  have hD : va_D A ((h0, .inr (8, [.int 0, .int 0, .ref a0, .ref a1, .int 0, .ref a2, .null, .int 0, .int 0, .int 0, .int 0, .int 0, .int 0, .int 0, .int 0, .int 0, .int 0, .null, .null, .int 0, .null, .int 0, .null, .null, .int 0, .null, .null, .null, .long 0, .long 0, .null, .null])) :: ([(a0, .inl (gca E 0, 408, .inl (fun _ => 0)))] ++ [(a1, .inl (gca E 0, 4488, .inl (fun _ => 0)))] ++ [(a2, .inl (gca E 2, 2, .inl (fun _ => 0)))]) : va_W) := by simpa only [List.cons_append, List.append_assoc, List.nil_append, List.append_nil, List.set_cons_zero] using hD
  refine lv_aload_n hx hb (show decode cX8_init 29 = .ok (.aload_n 0, 1) by decide +kernel) rfl (lv_at hl 0 rfl) ?_
  refine lv_sipush (v := 700) hx hb (show decode cX8_init 30 = .ok (.sipush 700, 3) by decide +kernel) (by decide) ?_
  refine va_newa (atype := .int) (ty := .int) (a0 := (700, .inl (fun _ => 0))) (N' := 700) hx hb (hts2 _ gwj_6) rfl hK hP hD hS hA (fun _ => rfl) (by decide) rfl (Nat.le_of_ble_eq_true rfl) (Nat.le_of_ble_eq_true rfl) (Nat.le_of_ble_eq_true rfl) (show decode cX8_init 33 = .ok (.newarray .int, 2) by decide +kernel) (fun a3 cA H hK2 hP hD hS => ?_)
  have hcA : cA = gca E 0 := gca_eq hK2 0 rfl rfl
  subst hcA
  clear hK2
  have hP : va_P (gD E) vwCl ((h0, .inr (8, [.int 0, .int 0, .ref a0, .ref a1, .int 0, .ref a2, .null, .int 0, .int 0, .int 0, .int 0, .int 0, .int 0, .int 0, .int 0, .int 0, .int 0, .null, .null, .int 0, .null, .int 0, .null, .null, .int 0, .null, .null, .null, .long 0, .long 0, .null, .null])) :: ([(a0, .inl (gca E 0, 408, .inl (fun _ => 0)))] ++ [(a1, .inl (gca E 0, 4488, .inl (fun _ => 0)))] ++ [(a2, .inl (gca E 2, 2, .inl (fun _ => 0)))] ++ [(a3, .inl (gca E 0, 700, .inl (fun _ => 0)))]) : va_W) H := by simpa only [List.cons_append, List.append_assoc, List.nil_append, List.append_nil, List.set_cons_zero] using hP
  have hD : va_D A ((h0, .inr (8, [.int 0, .int 0, .ref a0, .ref a1, .int 0, .ref a2, .null, .int 0, .int 0, .int 0, .int 0, .int 0, .int 0, .int 0, .int 0, .int 0, .int 0, .null, .null, .int 0, .null, .int 0, .null, .null, .int 0, .null, .null, .null, .long 0, .long 0, .null, .null])) :: ([(a0, .inl (gca E 0, 408, .inl (fun _ => 0)))] ++ [(a1, .inl (gca E 0, 4488, .inl (fun _ => 0)))] ++ [(a2, .inl (gca E 2, 2, .inl (fun _ => 0)))] ++ [(a3, .inl (gca E 0, 700, .inl (fun _ => 0)))]) : va_W) := by simpa only [List.cons_append, List.append_assoc, List.nil_append, List.append_nil, List.set_cons_zero] using hD
  refine va_putF (D := gD E) (ci := 8) (v := .ref a3) (ty := .array .int) (C := RX8) (T := TX8) (N := 32) hx hb hts2 (fun w hw => gBig_of (guw_8 w hw) (gug_8 w hw)) tyX8 tyX8_ok (by decide +kernel) hown hK hP hD hS 0 rfl rfl 6 (by decide) (hts2 _ gwj_76) (fun _ h9 => h9) rfl hin rfl (by decide +kernel) rfl rfl (Nat.le_of_ble_eq_true rfl) (show decode cX8_init 35 = .ok (.putfield 20, 3) by decide +kernel) (fun H locs hP hD hS => ?_)
  have hP : va_P (gD E) vwCl ((h0, .inr (8, [.int 0, .int 0, .ref a0, .ref a1, .int 0, .ref a2, .ref a3, .int 0, .int 0, .int 0, .int 0, .int 0, .int 0, .int 0, .int 0, .int 0, .int 0, .null, .null, .int 0, .null, .int 0, .null, .null, .int 0, .null, .null, .null, .long 0, .long 0, .null, .null])) :: ([(a0, .inl (gca E 0, 408, .inl (fun _ => 0)))] ++ [(a1, .inl (gca E 0, 4488, .inl (fun _ => 0)))] ++ [(a2, .inl (gca E 2, 2, .inl (fun _ => 0)))] ++ [(a3, .inl (gca E 0, 700, .inl (fun _ => 0)))]) : va_W) H := by simpa only [List.cons_append, List.append_assoc, List.nil_append, List.append_nil, List.set_cons_zero] using hP
  have hD : va_D A ((h0, .inr (8, [.int 0, .int 0, .ref a0, .ref a1, .int 0, .ref a2, .ref a3, .int 0, .int 0, .int 0, .int 0, .int 0, .int 0, .int 0, .int 0, .int 0, .int 0, .null, .null, .int 0, .null, .int 0, .null, .null, .int 0, .null, .null, .null, .long 0, .long 0, .null, .null])) :: ([(a0, .inl (gca E 0, 408, .inl (fun _ => 0)))] ++ [(a1, .inl (gca E 0, 4488, .inl (fun _ => 0)))] ++ [(a2, .inl (gca E 2, 2, .inl (fun _ => 0)))] ++ [(a3, .inl (gca E 0, 700, .inl (fun _ => 0)))]) : va_W) := by simpa only [List.cons_append, List.append_assoc, List.nil_append, List.append_nil, List.set_cons_zero] using hD
  refine lv_aload_n hx hb (show decode cX8_init 38 = .ok (.aload_n 0, 1) by decide +kernel) rfl (lv_at hl 0 rfl) ?_
  refine lv_iconst (v := (-1)) hx hb (show decode cX8_init 39 = .ok (.iconst (-1), 1) by decide +kernel) (by decide) ?_
  refine va_put (D := gD E) (ci := 8) (v := .int (-1)) (ty := .int) (C := RX8) (T := TX8) (N := 32) hx hb hts2 (fun w hw => gBig_of (guw_8 w hw) (gug_8 w hw)) tyX8 tyX8_ok (by decide +kernel) hown hK hP hD hS 0 rfl rfl 9 (by decide) (hts2 _ gwj_77) (fun _ h9 => h9) rfl (by decide +kernel) rfl rfl (Nat.le_of_ble_eq_true rfl) (show decode cX8_init 40 = .ok (.putfield 23, 3) by decide +kernel) (fun H locs hP hD hS => ?_)
  have hP : va_P (gD E) vwCl ((h0, .inr (8, [.int 0, .int 0, .ref a0, .ref a1, .int 0, .ref a2, .ref a3, .int 0, .int 0, .int (-1), .int 0, .int 0, .int 0, .int 0, .int 0, .int 0, .int 0, .null, .null, .int 0, .null, .int 0, .null, .null, .int 0, .null, .null, .null, .long 0, .long 0, .null, .null])) :: ([(a0, .inl (gca E 0, 408, .inl (fun _ => 0)))] ++ [(a1, .inl (gca E 0, 4488, .inl (fun _ => 0)))] ++ [(a2, .inl (gca E 2, 2, .inl (fun _ => 0)))] ++ [(a3, .inl (gca E 0, 700, .inl (fun _ => 0)))]) : va_W) H := by simpa only [List.cons_append, List.append_assoc, List.nil_append, List.append_nil, List.set_cons_zero] using hP
  have hD : va_D A ((h0, .inr (8, [.int 0, .int 0, .ref a0, .ref a1, .int 0, .ref a2, .ref a3, .int 0, .int 0, .int (-1), .int 0, .int 0, .int 0, .int 0, .int 0, .int 0, .int 0, .null, .null, .int 0, .null, .int 0, .null, .null, .int 0, .null, .null, .null, .long 0, .long 0, .null, .null])) :: ([(a0, .inl (gca E 0, 408, .inl (fun _ => 0)))] ++ [(a1, .inl (gca E 0, 4488, .inl (fun _ => 0)))] ++ [(a2, .inl (gca E 2, 2, .inl (fun _ => 0)))] ++ [(a3, .inl (gca E 0, 700, .inl (fun _ => 0)))]) : va_W) := by simpa only [List.cons_append, List.append_assoc, List.nil_append, List.append_nil, List.set_cons_zero] using hD
  refine lv_aload_n hx hb (show decode cX8_init 43 = .ok (.aload_n 0, 1) by decide +kernel) rfl (lv_at hl 0 rfl) ?_
  refine lv_sipush (v := 408) hx hb (show decode cX8_init 44 = .ok (.sipush 408, 3) by decide +kernel) (by decide) ?_
  refine va_newa (atype := .int) (ty := .int) (a0 := (408, .inl (fun _ => 0))) (N' := 408) hx hb (hts2 _ gwj_6) rfl hK hP hD hS hA (fun _ => rfl) (by decide) rfl (Nat.le_of_ble_eq_true rfl) (Nat.le_of_ble_eq_true rfl) (Nat.le_of_ble_eq_true rfl) (show decode cX8_init 47 = .ok (.newarray .int, 2) by decide +kernel) (fun a4 cA H hK2 hP hD hS => ?_)
  have hcA : cA = gca E 0 := gca_eq hK2 0 rfl rfl
  subst hcA
  clear hK2
  have hP : va_P (gD E) vwCl ((h0, .inr (8, [.int 0, .int 0, .ref a0, .ref a1, .int 0, .ref a2, .ref a3, .int 0, .int 0, .int (-1), .int 0, .int 0, .int 0, .int 0, .int 0, .int 0, .int 0, .null, .null, .int 0, .null, .int 0, .null, .null, .int 0, .null, .null, .null, .long 0, .long 0, .null, .null])) :: ([(a0, .inl (gca E 0, 408, .inl (fun _ => 0)))] ++ [(a1, .inl (gca E 0, 4488, .inl (fun _ => 0)))] ++ [(a2, .inl (gca E 2, 2, .inl (fun _ => 0)))] ++ [(a3, .inl (gca E 0, 700, .inl (fun _ => 0)))] ++ [(a4, .inl (gca E 0, 408, .inl (fun _ => 0)))]) : va_W) H := by simpa only [List.cons_append, List.append_assoc, List.nil_append, List.append_nil, List.set_cons_zero] using hP
  have hD : va_D A ((h0, .inr (8, [.int 0, .int 0, .ref a0, .ref a1, .int 0, .ref a2, .ref a3, .int 0, .int 0, .int (-1), .int 0, .int 0, .int 0, .int 0, .int 0, .int 0, .int 0, .null, .null, .int 0, .null, .int 0, .null, .null, .int 0, .null, .null, .null, .long 0, .long 0, .null, .null])) :: ([(a0, .inl (gca E 0, 408, .inl (fun _ => 0)))] ++ [(a1, .inl (gca E 0, 4488, .inl (fun _ => 0)))] ++ [(a2, .inl (gca E 2, 2, .inl (fun _ => 0)))] ++ [(a3, .inl (gca E 0, 700, .inl (fun _ => 0)))] ++ [(a4, .inl (gca E 0, 408, .inl (fun _ => 0)))]) : va_W) := by simpa only [List.cons_append, List.append_assoc, List.nil_append, List.append_nil, List.set_cons_zero] using hD
  refine va_putF (D := gD E) (ci := 8) (v := .ref a4) (ty := .array .int) (C := RX8) (T := TX8) (N := 32) hx hb hts2 (fun w hw => gBig_of (guw_8 w hw) (gug_8 w hw)) tyX8 tyX8_ok (by decide +kernel) hown hK hP hD hS 0 rfl rfl 17 (by decide) (hts2 _ gwj_78) (fun _ h9 => h9) rfl hin rfl (by decide +kernel) rfl rfl (Nat.le_of_ble_eq_true rfl) (show decode cX8_init 49 = .ok (.putfield 27, 3) by decide +kernel) (fun H locs hP hD hS => ?_)
  have hP : va_P (gD E) vwCl ((h0, .inr (8, [.int 0, .int 0, .ref a0, .ref a1, .int 0, .ref a2, .ref a3, .int 0, .int 0, .int (-1), .int 0, .int 0, .int 0, .int 0, .int 0, .int 0, .int 0, .ref a4, .null, .int 0, .null, .int 0, .null, .null, .int 0, .null, .null, .null, .long 0, .long 0, .null, .null])) :: ([(a0, .inl (gca E 0, 408, .inl (fun _ => 0)))] ++ [(a1, .inl (gca E 0, 4488, .inl (fun _ => 0)))] ++ [(a2, .inl (gca E 2, 2, .inl (fun _ => 0)))] ++ [(a3, .inl (gca E 0, 700, .inl (fun _ => 0)))] ++ [(a4, .inl (gca E 0, 408, .inl (fun _ => 0)))]) : va_W) H := by simpa only [List.cons_append, List.append_assoc, List.nil_append, List.append_nil, List.set_cons_zero] using hP
  have hD : va_D A ((h0, .inr (8, [.int 0, .int 0, .ref a0, .ref a1, .int 0, .ref a2, .ref a3, .int 0, .int 0, .int (-1), .int 0, .int 0, .int 0, .int 0, .int 0, .int 0, .int 0, .ref a4, .null, .int 0, .null, .int 0, .null, .null, .int 0, .null, .null, .null, .long 0, .long 0, .null, .null])) :: ([(a0, .inl (gca E 0, 408, .inl (fun _ => 0)))] ++ [(a1, .inl (gca E 0, 4488, .inl (fun _ => 0)))] ++ [(a2, .inl (gca E 2, 2, .inl (fun _ => 0)))] ++ [(a3, .inl (gca E 0, 700, .inl (fun _ => 0)))] ++ [(a4, .inl (gca E 0, 408, .inl (fun _ => 0)))]) : va_W) := by simpa only [List.cons_append, List.append_assoc, List.nil_append, List.append_nil, List.set_cons_zero] using hD
  refine lv_aload_n hx hb (show decode cX8_init 52 = .ok (.aload_n 0, 1) by decide +kernel) rfl (lv_at hl 0 rfl) ?_
  refine lv_bipush (v := 27) hx hb (show decode cX8_init 53 = .ok (.bipush 27, 2) by decide +kernel) (by decide) ?_
  refine va_newa (atype := .boolean) (ty := .boolean) (a0 := (27, .inl (fun _ => 0))) (N' := 27) hx hb (hts2 _ gwj_49) rfl hK hP hD hS hA (fun _ => rfl) (by decide) rfl (Nat.le_of_ble_eq_true rfl) (Nat.le_of_ble_eq_true rfl) (Nat.le_of_ble_eq_true rfl) (show decode cX8_init 55 = .ok (.newarray .boolean, 2) by decide +kernel) (fun a5 cA H hK2 hP hD hS => ?_)
  have hcA : cA = gca E 2 := gca_eq hK2 2 rfl rfl
  subst hcA
  clear hK2
  have hP : va_P (gD E) vwCl ((h0, .inr (8, [.int 0, .int 0, .ref a0, .ref a1, .int 0, .ref a2, .ref a3, .int 0, .int 0, .int (-1), .int 0, .int 0, .int 0, .int 0, .int 0, .int 0, .int 0, .ref a4, .null, .int 0, .null, .int 0, .null, .null, .int 0, .null, .null, .null, .long 0, .long 0, .null, .null])) :: ([(a0, .inl (gca E 0, 408, .inl (fun _ => 0)))] ++ [(a1, .inl (gca E 0, 4488, .inl (fun _ => 0)))] ++ [(a2, .inl (gca E 2, 2, .inl (fun _ => 0)))] ++ [(a3, .inl (gca E 0, 700, .inl (fun _ => 0)))] ++ [(a4, .inl (gca E 0, 408, .inl (fun _ => 0)))] ++ [(a5, .inl (gca E 2, 27, .inl (fun _ => 0)))]) : va_W) H := by simpa only [List.cons_append, List.append_assoc, List.nil_append, List.append_nil, List.set_cons_zero] using hP
  have hD : va_D A ((h0, .inr (8, [.int 0, .int 0, .ref a0, .ref a1, .int 0, .ref a2, .ref a3, .int 0, .int 0, .int (-1), .int 0, .int 0, .int 0, .int 0, .int 0, .int 0, .int 0, .ref a4, .null, .int 0, .null, .int 0, .null, .null, .int 0, .null, .null, .null, .long 0, .long 0, .null, .null])) :: ([(a0, .inl (gca E 0, 408, .inl (fun _ => 0)))] ++ [(a1, .inl (gca E 0, 4488, .inl (fun _ => 0)))] ++ [(a2, .inl (gca E 2, 2, .inl (fun _ => 0)))] ++ [(a3, .inl (gca E 0, 700, .inl (fun _ => 0)))] ++ [(a4, .inl (gca E 0, 408, .inl (fun _ => 0)))] ++ [(a5, .inl (gca E 2, 27, .inl (fun _ => 0)))]) : va_W) := by simpa only [List.cons_append, List.append_assoc, List.nil_append, List.append_nil, List.set_cons_zero] using hD
  refine va_putF (D := gD E) (ci := 8) (v := .ref a5) (ty := .array .boolean) (C := RX8) (T := TX8) (N := 32) hx hb hts2 (fun w hw => gBig_of (guw_8 w hw) (gug_8 w hw)) tyX8 tyX8_ok (by decide +kernel) hown hK hP hD hS 0 rfl rfl 18 (by decide) (hts2 _ gwj_79) (fun _ h9 => h9) rfl hin rfl (by decide +kernel) rfl rfl (Nat.le_of_ble_eq_true rfl) (show decode cX8_init 57 = .ok (.putfield 30, 3) by decide +kernel) (fun H locs hP hD hS => ?_)
  have hP : va_P (gD E) vwCl ((h0, .inr (8, [.int 0, .int 0, .ref a0, .ref a1, .int 0, .ref a2, .ref a3, .int 0, .int 0, .int (-1), .int 0, .int 0, .int 0, .int 0, .int 0, .int 0, .int 0, .ref a4, .ref a5, .int 0, .null, .int 0, .null, .null, .int 0, .null, .null, .null, .long 0, .long 0, .null, .null])) :: ([(a0, .inl (gca E 0, 408, .inl (fun _ => 0)))] ++ [(a1, .inl (gca E 0, 4488, .inl (fun _ => 0)))] ++ [(a2, .inl (gca E 2, 2, .inl (fun _ => 0)))] ++ [(a3, .inl (gca E 0, 700, .inl (fun _ => 0)))] ++ [(a4, .inl (gca E 0, 408, .inl (fun _ => 0)))] ++ [(a5, .inl (gca E 2, 27, .inl (fun _ => 0)))]) : va_W) H := by simpa only [List.cons_append, List.append_assoc, List.nil_append, List.append_nil, List.set_cons_zero] using hP
  have hD : va_D A ((h0, .inr (8, [.int 0, .int 0, .ref a0, .ref a1, .int 0, .ref a2, .ref a3, .int 0, .int 0, .int (-1), .int 0, .int 0, .int 0, .int 0, .int 0, .int 0, .int 0, .ref a4, .ref a5, .int 0, .null, .int 0, .null, .null, .int 0, .null, .null, .null, .long 0, .long 0, .null, .null])) :: ([(a0, .inl (gca E 0, 408, .inl (fun _ => 0)))] ++ [(a1, .inl (gca E 0, 4488, .inl (fun _ => 0)))] ++ [(a2, .inl (gca E 2, 2, .inl (fun _ => 0)))] ++ [(a3, .inl (gca E 0, 700, .inl (fun _ => 0)))] ++ [(a4, .inl (gca E 0, 408, .inl (fun _ => 0)))] ++ [(a5, .inl (gca E 2, 27, .inl (fun _ => 0)))]) : va_W) := by simpa only [List.cons_append, List.append_assoc, List.nil_append, List.append_nil, List.set_cons_zero] using hD
  refine lv_aload_n hx hb (show decode cX8_init 60 = .ok (.aload_n 0, 1) by decide +kernel) rfl (lv_at hl 0 rfl) ?_
  refine lv_bipush (v := 56) hx hb (show decode cX8_init 61 = .ok (.bipush 56, 2) by decide +kernel) (by decide) ?_
  refine va_newa (atype := .int) (ty := .int) (a0 := (56, .inl (fun _ => 0))) (N' := 56) hx hb (hts2 _ gwj_6) rfl hK hP hD hS hA (fun _ => rfl) (by decide) rfl (Nat.le_of_ble_eq_true rfl) (Nat.le_of_ble_eq_true rfl) (Nat.le_of_ble_eq_true rfl) (show decode cX8_init 63 = .ok (.newarray .int, 2) by decide +kernel) (fun a6 cA H hK2 hP hD hS => ?_)
  have hcA : cA = gca E 0 := gca_eq hK2 0 rfl rfl
  subst hcA
  clear hK2
  have hP : va_P (gD E) vwCl ((h0, .inr (8, [.int 0, .int 0, .ref a0, .ref a1, .int 0, .ref a2, .ref a3, .int 0, .int 0, .int (-1), .int 0, .int 0, .int 0, .int 0, .int 0, .int 0, .int 0, .ref a4, .ref a5, .int 0, .null, .int 0, .null, .null, .int 0, .null, .null, .null, .long 0, .long 0, .null, .null])) :: ([(a0, .inl (gca E 0, 408, .inl (fun _ => 0)))] ++ [(a1, .inl (gca E 0, 4488, .inl (fun _ => 0)))] ++ [(a2, .inl (gca E 2, 2, .inl (fun _ => 0)))] ++ [(a3, .inl (gca E 0, 700, .inl (fun _ => 0)))] ++ [(a4, .inl (gca E 0, 408, .inl (fun _ => 0)))] ++ [(a5, .inl (gca E 2, 27, .inl (fun _ => 0)))] ++ [(a6, .inl (gca E 0, 56, .inl (fun _ => 0)))]) : va_W) H := by simpa only [List.cons_append, List.append_assoc, List.nil_append, List.append_nil, List.set_cons_zero] using hP
  have hD : va_D A ((h0, .inr (8, [.int 0, .int 0, .ref a0, .ref a1, .int 0, .ref a2, .ref a3, .int 0, .int 0, .int (-1), .int 0, .int 0, .int 0, .int 0, .int 0, .int 0, .int 0, .ref a4, .ref a5, .int 0, .null, .int 0, .null, .null, .int 0, .null, .null, .null, .long 0, .long 0, .null, .null])) :: ([(a0, .inl (gca E 0, 408, .inl (fun _ => 0)))] ++ [(a1, .inl (gca E 0, 4488, .inl (fun _ => 0)))] ++ [(a2, .inl (gca E 2, 2, .inl (fun _ => 0)))] ++ [(a3, .inl (gca E 0, 700, .inl (fun _ => 0)))] ++ [(a4, .inl (gca E 0, 408, .inl (fun _ => 0)))] ++ [(a5, .inl (gca E 2, 27, .inl (fun _ => 0)))] ++ [(a6, .inl (gca E 0, 56, .inl (fun _ => 0)))]) : va_W) := by simpa only [List.cons_append, List.append_assoc, List.nil_append, List.append_nil, List.set_cons_zero] using hD
  refine va_putF (D := gD E) (ci := 8) (v := .ref a6) (ty := .array .int) (C := RX8) (T := TX8) (N := 32) hx hb hts2 (fun w hw => gBig_of (guw_8 w hw) (gug_8 w hw)) tyX8 tyX8_ok (by decide +kernel) hown hK hP hD hS 0 rfl rfl 20 (by decide) (hts2 _ gwj_80) (fun _ h9 => h9) rfl hin rfl (by decide +kernel) rfl rfl (Nat.le_of_ble_eq_true rfl) (show decode cX8_init 65 = .ok (.putfield 33, 3) by decide +kernel) (fun H locs hP hD hS => ?_)
  have hP : va_P (gD E) vwCl ((h0, .inr (8, [.int 0, .int 0, .ref a0, .ref a1, .int 0, .ref a2, .ref a3, .int 0, .int 0, .int (-1), .int 0, .int 0, .int 0, .int 0, .int 0, .int 0, .int 0, .ref a4, .ref a5, .int 0, .ref a6, .int 0, .null, .null, .int 0, .null, .null, .null, .long 0, .long 0, .null, .null])) :: ([(a0, .inl (gca E 0, 408, .inl (fun _ => 0)))] ++ [(a1, .inl (gca E 0, 4488, .inl (fun _ => 0)))] ++ [(a2, .inl (gca E 2, 2, .inl (fun _ => 0)))] ++ [(a3, .inl (gca E 0, 700, .inl (fun _ => 0)))] ++ [(a4, .inl (gca E 0, 408, .inl (fun _ => 0)))] ++ [(a5, .inl (gca E 2, 27, .inl (fun _ => 0)))] ++ [(a6, .inl (gca E 0, 56, .inl (fun _ => 0)))]) : va_W) H := by simpa only [List.cons_append, List.append_assoc, List.nil_append, List.append_nil, List.set_cons_zero] using hP
  have hD : va_D A ((h0, .inr (8, [.int 0, .int 0, .ref a0, .ref a1, .int 0, .ref a2, .ref a3, .int 0, .int 0, .int (-1), .int 0, .int 0, .int 0, .int 0, .int 0, .int 0, .int 0, .ref a4, .ref a5, .int 0, .ref a6, .int 0, .null, .null, .int 0, .null, .null, .null, .long 0, .long 0, .null, .null])) :: ([(a0, .inl (gca E 0, 408, .inl (fun _ => 0)))] ++ [(a1, .inl (gca E 0, 4488, .inl (fun _ => 0)))] ++ [(a2, .inl (gca E 2, 2, .inl (fun _ => 0)))] ++ [(a3, .inl (gca E 0, 700, .inl (fun _ => 0)))] ++ [(a4, .inl (gca E 0, 408, .inl (fun _ => 0)))] ++ [(a5, .inl (gca E 2, 27, .inl (fun _ => 0)))] ++ [(a6, .inl (gca E 0, 56, .inl (fun _ => 0)))]) : va_W) := by simpa only [List.cons_append, List.append_assoc, List.nil_append, List.append_nil, List.set_cons_zero] using hD
  refine lv_aload_n hx hb (show decode cX8_init 68 = .ok (.aload_n 0, 1) by decide +kernel) rfl (lv_at hl 0 rfl) ?_
  refine lv_bipush (v := 8) hx hb (show decode cX8_init 69 = .ok (.bipush 8, 2) by decide +kernel) (by decide) ?_
  refine va_newa (atype := .int) (ty := .int) (a0 := (8, .inl (fun _ => 0))) (N' := 8) hx hb (hts2 _ gwj_6) rfl hK hP hD hS hA (fun _ => rfl) (by decide) rfl (Nat.le_of_ble_eq_true rfl) (Nat.le_of_ble_eq_true rfl) (Nat.le_of_ble_eq_true rfl) (show decode cX8_init 71 = .ok (.newarray .int, 2) by decide +kernel) (fun a7 cA H hK2 hP hD hS => ?_)
  have hcA : cA = gca E 0 := gca_eq hK2 0 rfl rfl
  subst hcA
  clear hK2
  have hP : va_P (gD E) vwCl ((h0, .inr (8, [.int 0, .int 0, .ref a0, .ref a1, .int 0, .ref a2, .ref a3, .int 0, .int 0, .int (-1), .int 0, .int 0, .int 0, .int 0, .int 0, .int 0, .int 0, .ref a4, .ref a5, .int 0, .ref a6, .int 0, .null, .null, .int 0, .null, .null, .null, .long 0, .long 0, .null, .null])) :: ([(a0, .inl (gca E 0, 408, .inl (fun _ => 0)))] ++ [(a1, .inl (gca E 0, 4488, .inl (fun _ => 0)))] ++ [(a2, .inl (gca E 2, 2, .inl (fun _ => 0)))] ++ [(a3, .inl (gca E 0, 700, .inl (fun _ => 0)))] ++ [(a4, .inl (gca E 0, 408, .inl (fun _ => 0)))] ++ [(a5, .inl (gca E 2, 27, .inl (fun _ => 0)))] ++ [(a6, .inl (gca E 0, 56, .inl (fun _ => 0)))] ++ [(a7, .inl (gca E 0, 8, .inl (fun _ => 0)))]) : va_W) H := by simpa only [List.cons_append, List.append_assoc, List.nil_append, List.append_nil, List.set_cons_zero] using hP
  have hD : va_D A ((h0, .inr (8, [.int 0, .int 0, .ref a0, .ref a1, .int 0, .ref a2, .ref a3, .int 0, .int 0, .int (-1), .int 0, .int 0, .int 0, .int 0, .int 0, .int 0, .int 0, .ref a4, .ref a5, .int 0, .ref a6, .int 0, .null, .null, .int 0, .null, .null, .null, .long 0, .long 0, .null, .null])) :: ([(a0, .inl (gca E 0, 408, .inl (fun _ => 0)))] ++ [(a1, .inl (gca E 0, 4488, .inl (fun _ => 0)))] ++ [(a2, .inl (gca E 2, 2, .inl (fun _ => 0)))] ++ [(a3, .inl (gca E 0, 700, .inl (fun _ => 0)))] ++ [(a4, .inl (gca E 0, 408, .inl (fun _ => 0)))] ++ [(a5, .inl (gca E 2, 27, .inl (fun _ => 0)))] ++ [(a6, .inl (gca E 0, 56, .inl (fun _ => 0)))] ++ [(a7, .inl (gca E 0, 8, .inl (fun _ => 0)))]) : va_W) := by simpa only [List.cons_append, List.append_assoc, List.nil_append, List.append_nil, List.set_cons_zero] using hD
  refine va_putF (D := gD E) (ci := 8) (v := .ref a7) (ty := .array .int) (C := RX8) (T := TX8) (N := 32) hx hb hts2 (fun w hw => gBig_of (guw_8 w hw) (gug_8 w hw)) tyX8 tyX8_ok (by decide +kernel) hown hK hP hD hS 0 rfl rfl 22 (by decide) (hts2 _ gwj_81) (fun _ h9 => h9) rfl hin rfl (by decide +kernel) rfl rfl (Nat.le_of_ble_eq_true rfl) (show decode cX8_init 73 = .ok (.putfield 36, 3) by decide +kernel) (fun H locs hP hD hS => ?_)
  have hP : va_P (gD E) vwCl ((h0, .inr (8, [.int 0, .int 0, .ref a0, .ref a1, .int 0, .ref a2, .ref a3, .int 0, .int 0, .int (-1), .int 0, .int 0, .int 0, .int 0, .int 0, .int 0, .int 0, .ref a4, .ref a5, .int 0, .ref a6, .int 0, .ref a7, .null, .int 0, .null, .null, .null, .long 0, .long 0, .null, .null])) :: ([(a0, .inl (gca E 0, 408, .inl (fun _ => 0)))] ++ [(a1, .inl (gca E 0, 4488, .inl (fun _ => 0)))] ++ [(a2, .inl (gca E 2, 2, .inl (fun _ => 0)))] ++ [(a3, .inl (gca E 0, 700, .inl (fun _ => 0)))] ++ [(a4, .inl (gca E 0, 408, .inl (fun _ => 0)))] ++ [(a5, .inl (gca E 2, 27, .inl (fun _ => 0)))] ++ [(a6, .inl (gca E 0, 56, .inl (fun _ => 0)))] ++ [(a7, .inl (gca E 0, 8, .inl (fun _ => 0)))]) : va_W) H := by simpa only [List.cons_append, List.append_assoc, List.nil_append, List.append_nil, List.set_cons_zero] using hP
  have hD : va_D A ((h0, .inr (8, [.int 0, .int 0, .ref a0, .ref a1, .int 0, .ref a2, .ref a3, .int 0, .int 0, .int (-1), .int 0, .int 0, .int 0, .int 0, .int 0, .int 0, .int 0, .ref a4, .ref a5, .int 0, .ref a6, .int 0, .ref a7, .null, .int 0, .null, .null, .null, .long 0, .long 0, .null, .null])) :: ([(a0, .inl (gca E 0, 408, .inl (fun _ => 0)))] ++ [(a1, .inl (gca E 0, 4488, .inl (fun _ => 0)))] ++ [(a2, .inl (gca E 2, 2, .inl (fun _ => 0)))] ++ [(a3, .inl (gca E 0, 700, .inl (fun _ => 0)))] ++ [(a4, .inl (gca E 0, 408, .inl (fun _ => 0)))] ++ [(a5, .inl (gca E 2, 27, .inl (fun _ => 0)))] ++ [(a6, .inl (gca E 0, 56, .inl (fun _ => 0)))] ++ [(a7, .inl (gca E 0, 8, .inl (fun _ => 0)))]) : va_W) := by simpa only [List.cons_append, List.append_assoc, List.nil_append, List.append_nil, List.set_cons_zero] using hD
  refine lv_aload_n hx hb (show decode cX8_init 76 = .ok (.aload_n 0, 1) by decide +kernel) rfl (lv_at hl 0 rfl) ?_
  refine lv_bipush (v := 8) hx hb (show decode cX8_init 77 = .ok (.bipush 8, 2) by decide +kernel) (by decide) ?_
  refine va_newa (atype := .int) (ty := .int) (a0 := (8, .inl (fun _ => 0))) (N' := 8) hx hb (hts2 _ gwj_6) rfl hK hP hD hS hA (fun _ => rfl) (by decide) rfl (Nat.le_of_ble_eq_true rfl) (Nat.le_of_ble_eq_true rfl) (Nat.le_of_ble_eq_true rfl) (show decode cX8_init 79 = .ok (.newarray .int, 2) by decide +kernel) (fun a8 cA H hK2 hP hD hS => ?_)
  have hcA : cA = gca E 0 := gca_eq hK2 0 rfl rfl
  subst hcA
  clear hK2
  have hP : va_P (gD E) vwCl ((h0, .inr (8, [.int 0, .int 0, .ref a0, .ref a1, .int 0, .ref a2, .ref a3, .int 0, .int 0, .int (-1), .int 0, .int 0, .int 0, .int 0, .int 0, .int 0, .int 0, .ref a4, .ref a5, .int 0, .ref a6, .int 0, .ref a7, .null, .int 0, .null, .null, .null, .long 0, .long 0, .null, .null])) :: ([(a0, .inl (gca E 0, 408, .inl (fun _ => 0)))] ++ [(a1, .inl (gca E 0, 4488, .inl (fun _ => 0)))] ++ [(a2, .inl (gca E 2, 2, .inl (fun _ => 0)))] ++ [(a3, .inl (gca E 0, 700, .inl (fun _ => 0)))] ++ [(a4, .inl (gca E 0, 408, .inl (fun _ => 0)))] ++ [(a5, .inl (gca E 2, 27, .inl (fun _ => 0)))] ++ [(a6, .inl (gca E 0, 56, .inl (fun _ => 0)))] ++ [(a7, .inl (gca E 0, 8, .inl (fun _ => 0)))] ++ [(a8, .inl (gca E 0, 8, .inl (fun _ => 0)))]) : va_W) H := by simpa only [List.cons_append, List.append_assoc, List.nil_append, List.append_nil, List.set_cons_zero] using hP
  have hD : va_D A ((h0, .inr (8, [.int 0, .int 0, .ref a0, .ref a1, .int 0, .ref a2, .ref a3, .int 0, .int 0, .int (-1), .int 0, .int 0, .int 0, .int 0, .int 0, .int 0, .int 0, .ref a4, .ref a5, .int 0, .ref a6, .int 0, .ref a7, .null, .int 0, .null, .null, .null, .long 0, .long 0, .null, .null])) :: ([(a0, .inl (gca E 0, 408, .inl (fun _ => 0)))] ++ [(a1, .inl (gca E 0, 4488, .inl (fun _ => 0)))] ++ [(a2, .inl (gca E 2, 2, .inl (fun _ => 0)))] ++ [(a3, .inl (gca E 0, 700, .inl (fun _ => 0)))] ++ [(a4, .inl (gca E 0, 408, .inl (fun _ => 0)))] ++ [(a5, .inl (gca E 2, 27, .inl (fun _ => 0)))] ++ [(a6, .inl (gca E 0, 56, .inl (fun _ => 0)))] ++ [(a7, .inl (gca E 0, 8, .inl (fun _ => 0)))] ++ [(a8, .inl (gca E 0, 8, .inl (fun _ => 0)))]) : va_W) := by simpa only [List.cons_append, List.append_assoc, List.nil_append, List.append_nil, List.set_cons_zero] using hD
  refine va_putF (D := gD E) (ci := 8) (v := .ref a8) (ty := .array .int) (C := RX8) (T := TX8) (N := 32) hx hb hts2 (fun w hw => gBig_of (guw_8 w hw) (gug_8 w hw)) tyX8 tyX8_ok (by decide +kernel) hown hK hP hD hS 0 rfl rfl 23 (by decide) (hts2 _ gwj_82) (fun _ h9 => h9) rfl hin rfl (by decide +kernel) rfl rfl (Nat.le_of_ble_eq_true rfl) (show decode cX8_init 81 = .ok (.putfield 39, 3) by decide +kernel) (fun H locs hP hD hS => ?_)
  have hP : va_P (gD E) vwCl ((h0, .inr (8, [.int 0, .int 0, .ref a0, .ref a1, .int 0, .ref a2, .ref a3, .int 0, .int 0, .int (-1), .int 0, .int 0, .int 0, .int 0, .int 0, .int 0, .int 0, .ref a4, .ref a5, .int 0, .ref a6, .int 0, .ref a7, .ref a8, .int 0, .null, .null, .null, .long 0, .long 0, .null, .null])) :: ([(a0, .inl (gca E 0, 408, .inl (fun _ => 0)))] ++ [(a1, .inl (gca E 0, 4488, .inl (fun _ => 0)))] ++ [(a2, .inl (gca E 2, 2, .inl (fun _ => 0)))] ++ [(a3, .inl (gca E 0, 700, .inl (fun _ => 0)))] ++ [(a4, .inl (gca E 0, 408, .inl (fun _ => 0)))] ++ [(a5, .inl (gca E 2, 27, .inl (fun _ => 0)))] ++ [(a6, .inl (gca E 0, 56, .inl (fun _ => 0)))] ++ [(a7, .inl (gca E 0, 8, .inl (fun _ => 0)))] ++ [(a8, .inl (gca E 0, 8, .inl (fun _ => 0)))]) : va_W) H := by simpa only [List.cons_append, List.append_assoc, List.nil_append, List.append_nil, List.set_cons_zero] using hP
  have hD : va_D A ((h0, .inr (8, [.int 0, .int 0, .ref a0, .ref a1, .int 0, .ref a2, .ref a3, .int 0, .int 0, .int (-1), .int 0, .int 0, .int 0, .int 0, .int 0, .int 0, .int 0, .ref a4, .ref a5, .int 0, .ref a6, .int 0, .ref a7, .ref a8, .int 0, .null, .null, .null, .long 0, .long 0, .null, .null])) :: ([(a0, .inl (gca E 0, 408, .inl (fun _ => 0)))] ++ [(a1, .inl (gca E 0, 4488, .inl (fun _ => 0)))] ++ [(a2, .inl (gca E 2, 2, .inl (fun _ => 0)))] ++ [(a3, .inl (gca E 0, 700, .inl (fun _ => 0)))] ++ [(a4, .inl (gca E 0, 408, .inl (fun _ => 0)))] ++ [(a5, .inl (gca E 2, 27, .inl (fun _ => 0)))] ++ [(a6, .inl (gca E 0, 56, .inl (fun _ => 0)))] ++ [(a7, .inl (gca E 0, 8, .inl (fun _ => 0)))] ++ [(a8, .inl (gca E 0, 8, .inl (fun _ => 0)))]) : va_W) := by simpa only [List.cons_append, List.append_assoc, List.nil_append, List.append_nil, List.set_cons_zero] using hD
  refine lv_aload_n hx hb (show decode cX8_init 84 = .ok (.aload_n 0, 1) by decide +kernel) rfl (lv_at hl 0 rfl) ?_
  refine lv_bipush (v := 49) hx hb (show decode cX8_init 85 = .ok (.bipush 49, 2) by decide +kernel) (by decide) ?_
  refine va_newa (atype := .int) (ty := .int) (a0 := (49, .inl (fun _ => 0))) (N' := 49) hx hb (hts2 _ gwj_6) rfl hK hP hD hS hA (fun _ => rfl) (by decide) rfl (Nat.le_of_ble_eq_true rfl) (Nat.le_of_ble_eq_true rfl) (Nat.le_of_ble_eq_true rfl) (show decode cX8_init 87 = .ok (.newarray .int, 2) by decide +kernel) (fun a9 cA H hK2 hP hD hS => ?_)
  have hcA : cA = gca E 0 := gca_eq hK2 0 rfl rfl
  subst hcA
  clear hK2
  have hP : va_P (gD E) vwCl ((h0, .inr (8, [.int 0, .int 0, .ref a0, .ref a1, .int 0, .ref a2, .ref a3, .int 0, .int 0, .int (-1), .int 0, .int 0, .int 0, .int 0, .int 0, .int 0, .int 0, .ref a4, .ref a5, .int 0, .ref a6, .int 0, .ref a7, .ref a8, .int 0, .null, .null, .null, .long 0, .long 0, .null, .null])) :: ([(a0, .inl (gca E 0, 408, .inl (fun _ => 0)))] ++ [(a1, .inl (gca E 0, 4488, .inl (fun _ => 0)))] ++ [(a2, .inl (gca E 2, 2, .inl (fun _ => 0)))] ++ [(a3, .inl (gca E 0, 700, .inl (fun _ => 0)))] ++ [(a4, .inl (gca E 0, 408, .inl (fun _ => 0)))] ++ [(a5, .inl (gca E 2, 27, .inl (fun _ => 0)))] ++ [(a6, .inl (gca E 0, 56, .inl (fun _ => 0)))] ++ [(a7, .inl (gca E 0, 8, .inl (fun _ => 0)))] ++ [(a8, .inl (gca E 0, 8, .inl (fun _ => 0)))] ++ [(a9, .inl (gca E 0, 49, .inl (fun _ => 0)))]) : va_W) H := by simpa only [List.cons_append, List.append_assoc, List.nil_append, List.append_nil, List.set_cons_zero] using hP
  have hD : va_D A ((h0, .inr (8, [.int 0, .int 0, .ref a0, .ref a1, .int 0, .ref a2, .ref a3, .int 0, .int 0, .int (-1), .int 0, .int 0, .int 0, .int 0, .int 0, .int 0, .int 0, .ref a4, .ref a5, .int 0, .ref a6, .int 0, .ref a7, .ref a8, .int 0, .null, .null, .null, .long 0, .long 0, .null, .null])) :: ([(a0, .inl (gca E 0, 408, .inl (fun _ => 0)))] ++ [(a1, .inl (gca E 0, 4488, .inl (fun _ => 0)))] ++ [(a2, .inl (gca E 2, 2, .inl (fun _ => 0)))] ++ [(a3, .inl (gca E 0, 700, .inl (fun _ => 0)))] ++ [(a4, .inl (gca E 0, 408, .inl (fun _ => 0)))] ++ [(a5, .inl (gca E 2, 27, .inl (fun _ => 0)))] ++ [(a6, .inl (gca E 0, 56, .inl (fun _ => 0)))] ++ [(a7, .inl (gca E 0, 8, .inl (fun _ => 0)))] ++ [(a8, .inl (gca E 0, 8, .inl (fun _ => 0)))] ++ [(a9, .inl (gca E 0, 49, .inl (fun _ => 0)))]) : va_W) := by simpa only [List.cons_append, List.append_assoc, List.nil_append, List.append_nil, List.set_cons_zero] using hD
  refine va_putF (D := gD E) (ci := 8) (v := .ref a9) (ty := .array .int) (C := RX8) (T := TX8) (N := 32) hx hb hts2 (fun w hw => gBig_of (guw_8 w hw) (gug_8 w hw)) tyX8 tyX8_ok (by decide +kernel) hown hK hP hD hS 0 rfl rfl 25 (by decide) (hts2 _ gwj_83) (fun _ h9 => h9) rfl hin rfl (by decide +kernel) rfl rfl (Nat.le_of_ble_eq_true rfl) (show decode cX8_init 89 = .ok (.putfield 42, 3) by decide +kernel) (fun H locs hP hD hS => ?_)
  have hP : va_P (gD E) vwCl ((h0, .inr (8, [.int 0, .int 0, .ref a0, .ref a1, .int 0, .ref a2, .ref a3, .int 0, .int 0, .int (-1), .int 0, .int 0, .int 0, .int 0, .int 0, .int 0, .int 0, .ref a4, .ref a5, .int 0, .ref a6, .int 0, .ref a7, .ref a8, .int 0, .ref a9, .null, .null, .long 0, .long 0, .null, .null])) :: ([(a0, .inl (gca E 0, 408, .inl (fun _ => 0)))] ++ [(a1, .inl (gca E 0, 4488, .inl (fun _ => 0)))] ++ [(a2, .inl (gca E 2, 2, .inl (fun _ => 0)))] ++ [(a3, .inl (gca E 0, 700, .inl (fun _ => 0)))] ++ [(a4, .inl (gca E 0, 408, .inl (fun _ => 0)))] ++ [(a5, .inl (gca E 2, 27, .inl (fun _ => 0)))] ++ [(a6, .inl (gca E 0, 56, .inl (fun _ => 0)))] ++ [(a7, .inl (gca E 0, 8, .inl (fun _ => 0)))] ++ [(a8, .inl (gca E 0, 8, .inl (fun _ => 0)))] ++ [(a9, .inl (gca E 0, 49, .inl (fun _ => 0)))]) : va_W) H := by simpa only [List.cons_append, List.append_assoc, List.nil_append, List.append_nil, List.set_cons_zero] using hP
  have hD : va_D A ((h0, .inr (8, [.int 0, .int 0, .ref a0, .ref a1, .int 0, .ref a2, .ref a3, .int 0, .int 0, .int (-1), .int 0, .int 0, .int 0, .int 0, .int 0, .int 0, .int 0, .ref a4, .ref a5, .int 0, .ref a6, .int 0, .ref a7, .ref a8, .int 0, .ref a9, .null, .null, .long 0, .long 0, .null, .null])) :: ([(a0, .inl (gca E 0, 408, .inl (fun _ => 0)))] ++ [(a1, .inl (gca E 0, 4488, .inl (fun _ => 0)))] ++ [(a2, .inl (gca E 2, 2, .inl (fun _ => 0)))] ++ [(a3, .inl (gca E 0, 700, .inl (fun _ => 0)))] ++ [(a4, .inl (gca E 0, 408, .inl (fun _ => 0)))] ++ [(a5, .inl (gca E 2, 27, .inl (fun _ => 0)))] ++ [(a6, .inl (gca E 0, 56, .inl (fun _ => 0)))] ++ [(a7, .inl (gca E 0, 8, .inl (fun _ => 0)))] ++ [(a8, .inl (gca E 0, 8, .inl (fun _ => 0)))] ++ [(a9, .inl (gca E 0, 49, .inl (fun _ => 0)))]) : va_W) := by simpa only [List.cons_append, List.append_assoc, List.nil_append, List.append_nil, List.set_cons_zero] using hD
  refine lv_aload_n hx hb (show decode cX8_init 92 = .ok (.aload_n 0, 1) by decide +kernel) rfl (lv_at hl 0 rfl) ?_
  refine lv_sipush (v := 343) hx hb (show decode cX8_init 93 = .ok (.sipush 343, 3) by decide +kernel) (by decide) ?_
  refine va_newa (atype := .int) (ty := .int) (a0 := (343, .inl (fun _ => 0))) (N' := 343) hx hb (hts2 _ gwj_6) rfl hK hP hD hS hA (fun _ => rfl) (by decide) rfl (Nat.le_of_ble_eq_true rfl) (Nat.le_of_ble_eq_true rfl) (Nat.le_of_ble_eq_true rfl) (show decode cX8_init 96 = .ok (.newarray .int, 2) by decide +kernel) (fun a10 cA H hK2 hP hD hS => ?_)
  have hcA : cA = gca E 0 := gca_eq hK2 0 rfl rfl
  subst hcA
  clear hK2
  have hP : va_P (gD E) vwCl ((h0, .inr (8, [.int 0, .int 0, .ref a0, .ref a1, .int 0, .ref a2, .ref a3, .int 0, .int 0, .int (-1), .int 0, .int 0, .int 0, .int 0, .int 0, .int 0, .int 0, .ref a4, .ref a5, .int 0, .ref a6, .int 0, .ref a7, .ref a8, .int 0, .ref a9, .null, .null, .long 0, .long 0, .null, .null])) :: ([(a0, .inl (gca E 0, 408, .inl (fun _ => 0)))] ++ [(a1, .inl (gca E 0, 4488, .inl (fun _ => 0)))] ++ [(a2, .inl (gca E 2, 2, .inl (fun _ => 0)))] ++ [(a3, .inl (gca E 0, 700, .inl (fun _ => 0)))] ++ [(a4, .inl (gca E 0, 408, .inl (fun _ => 0)))] ++ [(a5, .inl (gca E 2, 27, .inl (fun _ => 0)))] ++ [(a6, .inl (gca E 0, 56, .inl (fun _ => 0)))] ++ [(a7, .inl (gca E 0, 8, .inl (fun _ => 0)))] ++ [(a8, .inl (gca E 0, 8, .inl (fun _ => 0)))] ++ [(a9, .inl (gca E 0, 49, .inl (fun _ => 0)))] ++ [(a10, .inl (gca E 0, 343, .inl (fun _ => 0)))]) : va_W) H := by simpa only [List.cons_append, List.append_assoc, List.nil_append, List.append_nil, List.set_cons_zero] using hP
  have hD : va_D A ((h0, .inr (8, [.int 0, .int 0, .ref a0, .ref a1, .int 0, .ref a2, .ref a3, .int 0, .int 0, .int (-1), .int 0, .int 0, .int 0, .int 0, .int 0, .int 0, .int 0, .ref a4, .ref a5, .int 0, .ref a6, .int 0, .ref a7, .ref a8, .int 0, .ref a9, .null, .null, .long 0, .long 0, .null, .null])) :: ([(a0, .inl (gca E 0, 408, .inl (fun _ => 0)))] ++ [(a1, .inl (gca E 0, 4488, .inl (fun _ => 0)))] ++ [(a2, .inl (gca E 2, 2, .inl (fun _ => 0)))] ++ [(a3, .inl (gca E 0, 700, .inl (fun _ => 0)))] ++ [(a4, .inl (gca E 0, 408, .inl (fun _ => 0)))] ++ [(a5, .inl (gca E 2, 27, .inl (fun _ => 0)))] ++ [(a6, .inl (gca E 0, 56, .inl (fun _ => 0)))] ++ [(a7, .inl (gca E 0, 8, .inl (fun _ => 0)))] ++ [(a8, .inl (gca E 0, 8, .inl (fun _ => 0)))] ++ [(a9, .inl (gca E 0, 49, .inl (fun _ => 0)))] ++ [(a10, .inl (gca E 0, 343, .inl (fun _ => 0)))]) : va_W) := by simpa only [List.cons_append, List.append_assoc, List.nil_append, List.append_nil, List.set_cons_zero] using hD
  refine va_putF (D := gD E) (ci := 8) (v := .ref a10) (ty := .array .int) (C := RX8) (T := TX8) (N := 32) hx hb hts2 (fun w hw => gBig_of (guw_8 w hw) (gug_8 w hw)) tyX8 tyX8_ok (by decide +kernel) hown hK hP hD hS 0 rfl rfl 26 (by decide) (hts2 _ gwj_84) (fun _ h9 => h9) rfl hin rfl (by decide +kernel) rfl rfl (Nat.le_of_ble_eq_true rfl) (show decode cX8_init 98 = .ok (.putfield 45, 3) by decide +kernel) (fun H locs hP hD hS => ?_)
  have hP : va_P (gD E) vwCl ((h0, .inr (8, [.int 0, .int 0, .ref a0, .ref a1, .int 0, .ref a2, .ref a3, .int 0, .int 0, .int (-1), .int 0, .int 0, .int 0, .int 0, .int 0, .int 0, .int 0, .ref a4, .ref a5, .int 0, .ref a6, .int 0, .ref a7, .ref a8, .int 0, .ref a9, .ref a10, .null, .long 0, .long 0, .null, .null])) :: ([(a0, .inl (gca E 0, 408, .inl (fun _ => 0)))] ++ [(a1, .inl (gca E 0, 4488, .inl (fun _ => 0)))] ++ [(a2, .inl (gca E 2, 2, .inl (fun _ => 0)))] ++ [(a3, .inl (gca E 0, 700, .inl (fun _ => 0)))] ++ [(a4, .inl (gca E 0, 408, .inl (fun _ => 0)))] ++ [(a5, .inl (gca E 2, 27, .inl (fun _ => 0)))] ++ [(a6, .inl (gca E 0, 56, .inl (fun _ => 0)))] ++ [(a7, .inl (gca E 0, 8, .inl (fun _ => 0)))] ++ [(a8, .inl (gca E 0, 8, .inl (fun _ => 0)))] ++ [(a9, .inl (gca E 0, 49, .inl (fun _ => 0)))] ++ [(a10, .inl (gca E 0, 343, .inl (fun _ => 0)))]) : va_W) H := by simpa only [List.cons_append, List.append_assoc, List.nil_append, List.append_nil, List.set_cons_zero] using hP
  have hD : va_D A ((h0, .inr (8, [.int 0, .int 0, .ref a0, .ref a1, .int 0, .ref a2, .ref a3, .int 0, .int 0, .int (-1), .int 0, .int 0, .int 0, .int 0, .int 0, .int 0, .int 0, .ref a4, .ref a5, .int 0, .ref a6, .int 0, .ref a7, .ref a8, .int 0, .ref a9, .ref a10, .null, .long 0, .long 0, .null, .null])) :: ([(a0, .inl (gca E 0, 408, .inl (fun _ => 0)))] ++ [(a1, .inl (gca E 0, 4488, .inl (fun _ => 0)))] ++ [(a2, .inl (gca E 2, 2, .inl (fun _ => 0)))] ++ [(a3, .inl (gca E 0, 700, .inl (fun _ => 0)))] ++ [(a4, .inl (gca E 0, 408, .inl (fun _ => 0)))] ++ [(a5, .inl (gca E 2, 27, .inl (fun _ => 0)))] ++ [(a6, .inl (gca E 0, 56, .inl (fun _ => 0)))] ++ [(a7, .inl (gca E 0, 8, .inl (fun _ => 0)))] ++ [(a8, .inl (gca E 0, 8, .inl (fun _ => 0)))] ++ [(a9, .inl (gca E 0, 49, .inl (fun _ => 0)))] ++ [(a10, .inl (gca E 0, 343, .inl (fun _ => 0)))]) : va_W) := by simpa only [List.cons_append, List.append_assoc, List.nil_append, List.append_nil, List.set_cons_zero] using hD
  refine lv_aload_n hx hb (show decode cX8_init 101 = .ok (.aload_n 0, 1) by decide +kernel) rfl (lv_at hl 0 rfl) ?_
  refine lv_sipush (v := 343) hx hb (show decode cX8_init 102 = .ok (.sipush 343, 3) by decide +kernel) (by decide) ?_
  refine va_newa (atype := .int) (ty := .int) (a0 := (343, .inl (fun _ => 0))) (N' := 343) hx hb (hts2 _ gwj_6) rfl hK hP hD hS hA (fun _ => rfl) (by decide) rfl (Nat.le_of_ble_eq_true rfl) (Nat.le_of_ble_eq_true rfl) (Nat.le_of_ble_eq_true rfl) (show decode cX8_init 105 = .ok (.newarray .int, 2) by decide +kernel) (fun a11 cA H hK2 hP hD hS => ?_)
  have hcA : cA = gca E 0 := gca_eq hK2 0 rfl rfl
  subst hcA
  clear hK2
  have hP : va_P (gD E) vwCl ((h0, .inr (8, [.int 0, .int 0, .ref a0, .ref a1, .int 0, .ref a2, .ref a3, .int 0, .int 0, .int (-1), .int 0, .int 0, .int 0, .int 0, .int 0, .int 0, .int 0, .ref a4, .ref a5, .int 0, .ref a6, .int 0, .ref a7, .ref a8, .int 0, .ref a9, .ref a10, .null, .long 0, .long 0, .null, .null])) :: ([(a0, .inl (gca E 0, 408, .inl (fun _ => 0)))] ++ [(a1, .inl (gca E 0, 4488, .inl (fun _ => 0)))] ++ [(a2, .inl (gca E 2, 2, .inl (fun _ => 0)))] ++ [(a3, .inl (gca E 0, 700, .inl (fun _ => 0)))] ++ [(a4, .inl (gca E 0, 408, .inl (fun _ => 0)))] ++ [(a5, .inl (gca E 2, 27, .inl (fun _ => 0)))] ++ [(a6, .inl (gca E 0, 56, .inl (fun _ => 0)))] ++ [(a7, .inl (gca E 0, 8, .inl (fun _ => 0)))] ++ [(a8, .inl (gca E 0, 8, .inl (fun _ => 0)))] ++ [(a9, .inl (gca E 0, 49, .inl (fun _ => 0)))] ++ [(a10, .inl (gca E 0, 343, .inl (fun _ => 0)))] ++ [(a11, .inl (gca E 0, 343, .inl (fun _ => 0)))]) : va_W) H := by simpa only [List.cons_append, List.append_assoc, List.nil_append, List.append_nil, List.set_cons_zero] using hP
  have hD : va_D A ((h0, .inr (8, [.int 0, .int 0, .ref a0, .ref a1, .int 0, .ref a2, .ref a3, .int 0, .int 0, .int (-1), .int 0, .int 0, .int 0, .int 0, .int 0, .int 0, .int 0, .ref a4, .ref a5, .int 0, .ref a6, .int 0, .ref a7, .ref a8, .int 0, .ref a9, .ref a10, .null, .long 0, .long 0, .null, .null])) :: ([(a0, .inl (gca E 0, 408, .inl (fun _ => 0)))] ++ [(a1, .inl (gca E 0, 4488, .inl (fun _ => 0)))] ++ [(a2, .inl (gca E 2, 2, .inl (fun _ => 0)))] ++ [(a3, .inl (gca E 0, 700, .inl (fun _ => 0)))] ++ [(a4, .inl (gca E 0, 408, .inl (fun _ => 0)))] ++ [(a5, .inl (gca E 2, 27, .inl (fun _ => 0)))] ++ [(a6, .inl (gca E 0, 56, .inl (fun _ => 0)))] ++ [(a7, .inl (gca E 0, 8, .inl (fun _ => 0)))] ++ [(a8, .inl (gca E 0, 8, .inl (fun _ => 0)))] ++ [(a9, .inl (gca E 0, 49, .inl (fun _ => 0)))] ++ [(a10, .inl (gca E 0, 343, .inl (fun _ => 0)))] ++ [(a11, .inl (gca E 0, 343, .inl (fun _ => 0)))]) : va_W) := by simpa only [List.cons_append, List.append_assoc, List.nil_append, List.append_nil, List.set_cons_zero] using hD
  refine va_putF (D := gD E) (ci := 8) (v := .ref a11) (ty := .array .int) (C := RX8) (T := TX8) (N := 32) hx hb hts2 (fun w hw => gBig_of (guw_8 w hw) (gug_8 w hw)) tyX8 tyX8_ok (by decide +kernel) hown hK hP hD hS 0 rfl rfl 27 (by decide) (hts2 _ gwj_85) (fun _ h9 => h9) rfl hin rfl (by decide +kernel) rfl rfl (Nat.le_of_ble_eq_true rfl) (show decode cX8_init 107 = .ok (.putfield 48, 3) by decide +kernel) (fun H locs hP hD hS => ?_)
  have hP : va_P (gD E) vwCl ((h0, .inr (8, [.int 0, .int 0, .ref a0, .ref a1, .int 0, .ref a2, .ref a3, .int 0, .int 0, .int (-1), .int 0, .int 0, .int 0, .int 0, .int 0, .int 0, .int 0, .ref a4, .ref a5, .int 0, .ref a6, .int 0, .ref a7, .ref a8, .int 0, .ref a9, .ref a10, .ref a11, .long 0, .long 0, .null, .null])) :: ([(a0, .inl (gca E 0, 408, .inl (fun _ => 0)))] ++ [(a1, .inl (gca E 0, 4488, .inl (fun _ => 0)))] ++ [(a2, .inl (gca E 2, 2, .inl (fun _ => 0)))] ++ [(a3, .inl (gca E 0, 700, .inl (fun _ => 0)))] ++ [(a4, .inl (gca E 0, 408, .inl (fun _ => 0)))] ++ [(a5, .inl (gca E 2, 27, .inl (fun _ => 0)))] ++ [(a6, .inl (gca E 0, 56, .inl (fun _ => 0)))] ++ [(a7, .inl (gca E 0, 8, .inl (fun _ => 0)))] ++ [(a8, .inl (gca E 0, 8, .inl (fun _ => 0)))] ++ [(a9, .inl (gca E 0, 49, .inl (fun _ => 0)))] ++ [(a10, .inl (gca E 0, 343, .inl (fun _ => 0)))] ++ [(a11, .inl (gca E 0, 343, .inl (fun _ => 0)))]) : va_W) H := by simpa only [List.cons_append, List.append_assoc, List.nil_append, List.append_nil, List.set_cons_zero] using hP
  have hD : va_D A ((h0, .inr (8, [.int 0, .int 0, .ref a0, .ref a1, .int 0, .ref a2, .ref a3, .int 0, .int 0, .int (-1), .int 0, .int 0, .int 0, .int 0, .int 0, .int 0, .int 0, .ref a4, .ref a5, .int 0, .ref a6, .int 0, .ref a7, .ref a8, .int 0, .ref a9, .ref a10, .ref a11, .long 0, .long 0, .null, .null])) :: ([(a0, .inl (gca E 0, 408, .inl (fun _ => 0)))] ++ [(a1, .inl (gca E 0, 4488, .inl (fun _ => 0)))] ++ [(a2, .inl (gca E 2, 2, .inl (fun _ => 0)))] ++ [(a3, .inl (gca E 0, 700, .inl (fun _ => 0)))] ++ [(a4, .inl (gca E 0, 408, .inl (fun _ => 0)))] ++ [(a5, .inl (gca E 2, 27, .inl (fun _ => 0)))] ++ [(a6, .inl (gca E 0, 56, .inl (fun _ => 0)))] ++ [(a7, .inl (gca E 0, 8, .inl (fun _ => 0)))] ++ [(a8, .inl (gca E 0, 8, .inl (fun _ => 0)))] ++ [(a9, .inl (gca E 0, 49, .inl (fun _ => 0)))] ++ [(a10, .inl (gca E 0, 343, .inl (fun _ => 0)))] ++ [(a11, .inl (gca E 0, 343, .inl (fun _ => 0)))]) : va_W) := by simpa only [List.cons_append, List.append_assoc, List.nil_append, List.append_nil, List.set_cons_zero] using hD
  refine lv_aload_n hx hb (show decode cX8_init 110 = .ok (.aload_n 0, 1) by decide +kernel) rfl (lv_at hl 0 rfl) ?_
  refine lv_bipush (v := 7) hx hb (show decode cX8_init 111 = .ok (.bipush 7, 2) by decide +kernel) (by decide) ?_
  refine va_newa (atype := .long) (ty := .long) (a0 := (7, .inr (.inl (fun _ => 0)))) (N' := 7) hx hb (hts2 _ gwj_1) rfl hK hP hD hS hA (fun _ => rfl) (by decide) rfl (Nat.le_of_ble_eq_true rfl) (Nat.le_of_ble_eq_true rfl) (Nat.le_of_ble_eq_true rfl) (show decode cX8_init 113 = .ok (.newarray .long, 2) by decide +kernel) (fun a12 cA H hK2 hP hD hS => ?_)
  have hcA : cA = gca E 1 := gca_eq hK2 1 rfl rfl
  subst hcA
  clear hK2
  have hP : va_P (gD E) vwCl ((h0, .inr (8, [.int 0, .int 0, .ref a0, .ref a1, .int 0, .ref a2, .ref a3, .int 0, .int 0, .int (-1), .int 0, .int 0, .int 0, .int 0, .int 0, .int 0, .int 0, .ref a4, .ref a5, .int 0, .ref a6, .int 0, .ref a7, .ref a8, .int 0, .ref a9, .ref a10, .ref a11, .long 0, .long 0, .null, .null])) :: ([(a0, .inl (gca E 0, 408, .inl (fun _ => 0)))] ++ [(a1, .inl (gca E 0, 4488, .inl (fun _ => 0)))] ++ [(a2, .inl (gca E 2, 2, .inl (fun _ => 0)))] ++ [(a3, .inl (gca E 0, 700, .inl (fun _ => 0)))] ++ [(a4, .inl (gca E 0, 408, .inl (fun _ => 0)))] ++ [(a5, .inl (gca E 2, 27, .inl (fun _ => 0)))] ++ [(a6, .inl (gca E 0, 56, .inl (fun _ => 0)))] ++ [(a7, .inl (gca E 0, 8, .inl (fun _ => 0)))] ++ [(a8, .inl (gca E 0, 8, .inl (fun _ => 0)))] ++ [(a9, .inl (gca E 0, 49, .inl (fun _ => 0)))] ++ [(a10, .inl (gca E 0, 343, .inl (fun _ => 0)))] ++ [(a11, .inl (gca E 0, 343, .inl (fun _ => 0)))] ++ [(a12, .inl (gca E 1, 7, .inr (.inl (fun _ => 0))))]) : va_W) H := by simpa only [List.cons_append, List.append_assoc, List.nil_append, List.append_nil, List.set_cons_zero] using hP
  have hD : va_D A ((h0, .inr (8, [.int 0, .int 0, .ref a0, .ref a1, .int 0, .ref a2, .ref a3, .int 0, .int 0, .int (-1), .int 0, .int 0, .int 0, .int 0, .int 0, .int 0, .int 0, .ref a4, .ref a5, .int 0, .ref a6, .int 0, .ref a7, .ref a8, .int 0, .ref a9, .ref a10, .ref a11, .long 0, .long 0, .null, .null])) :: ([(a0, .inl (gca E 0, 408, .inl (fun _ => 0)))] ++ [(a1, .inl (gca E 0, 4488, .inl (fun _ => 0)))] ++ [(a2, .inl (gca E 2, 2, .inl (fun _ => 0)))] ++ [(a3, .inl (gca E 0, 700, .inl (fun _ => 0)))] ++ [(a4, .inl (gca E 0, 408, .inl (fun _ => 0)))] ++ [(a5, .inl (gca E 2, 27, .inl (fun _ => 0)))] ++ [(a6, .inl (gca E 0, 56, .inl (fun _ => 0)))] ++ [(a7, .inl (gca E 0, 8, .inl (fun _ => 0)))] ++ [(a8, .inl (gca E 0, 8, .inl (fun _ => 0)))] ++ [(a9, .inl (gca E 0, 49, .inl (fun _ => 0)))] ++ [(a10, .inl (gca E 0, 343, .inl (fun _ => 0)))] ++ [(a11, .inl (gca E 0, 343, .inl (fun _ => 0)))] ++ [(a12, .inl (gca E 1, 7, .inr (.inl (fun _ => 0))))]) : va_W) := by simpa only [List.cons_append, List.append_assoc, List.nil_append, List.append_nil, List.set_cons_zero] using hD
  refine va_putF (D := gD E) (ci := 8) (v := .ref a12) (ty := .array .long) (C := RX8) (T := TX8) (N := 32) hx hb hts2 (fun w hw => gBig_of (guw_8 w hw) (gug_8 w hw)) tyX8 tyX8_ok (by decide +kernel) hown hK hP hD hS 0 rfl rfl 30 (by decide) (hts2 _ gwj_86) (fun _ h9 => h9) rfl hin rfl (by decide +kernel) rfl rfl (Nat.le_of_ble_eq_true rfl) (show decode cX8_init 115 = .ok (.putfield 51, 3) by decide +kernel) (fun H locs hP hD hS => ?_)
  have hP : va_P (gD E) vwCl ((h0, .inr (8, [.int 0, .int 0, .ref a0, .ref a1, .int 0, .ref a2, .ref a3, .int 0, .int 0, .int (-1), .int 0, .int 0, .int 0, .int 0, .int 0, .int 0, .int 0, .ref a4, .ref a5, .int 0, .ref a6, .int 0, .ref a7, .ref a8, .int 0, .ref a9, .ref a10, .ref a11, .long 0, .long 0, .ref a12, .null])) :: ([(a0, .inl (gca E 0, 408, .inl (fun _ => 0)))] ++ [(a1, .inl (gca E 0, 4488, .inl (fun _ => 0)))] ++ [(a2, .inl (gca E 2, 2, .inl (fun _ => 0)))] ++ [(a3, .inl (gca E 0, 700, .inl (fun _ => 0)))] ++ [(a4, .inl (gca E 0, 408, .inl (fun _ => 0)))] ++ [(a5, .inl (gca E 2, 27, .inl (fun _ => 0)))] ++ [(a6, .inl (gca E 0, 56, .inl (fun _ => 0)))] ++ [(a7, .inl (gca E 0, 8, .inl (fun _ => 0)))] ++ [(a8, .inl (gca E 0, 8, .inl (fun _ => 0)))] ++ [(a9, .inl (gca E 0, 49, .inl (fun _ => 0)))] ++ [(a10, .inl (gca E 0, 343, .inl (fun _ => 0)))] ++ [(a11, .inl (gca E 0, 343, .inl (fun _ => 0)))] ++ [(a12, .inl (gca E 1, 7, .inr (.inl (fun _ => 0))))]) : va_W) H := by simpa only [List.cons_append, List.append_assoc, List.nil_append, List.append_nil, List.set_cons_zero] using hP
  have hD : va_D A ((h0, .inr (8, [.int 0, .int 0, .ref a0, .ref a1, .int 0, .ref a2, .ref a3, .int 0, .int 0, .int (-1), .int 0, .int 0, .int 0, .int 0, .int 0, .int 0, .int 0, .ref a4, .ref a5, .int 0, .ref a6, .int 0, .ref a7, .ref a8, .int 0, .ref a9, .ref a10, .ref a11, .long 0, .long 0, .ref a12, .null])) :: ([(a0, .inl (gca E 0, 408, .inl (fun _ => 0)))] ++ [(a1, .inl (gca E 0, 4488, .inl (fun _ => 0)))] ++ [(a2, .inl (gca E 2, 2, .inl (fun _ => 0)))] ++ [(a3, .inl (gca E 0, 700, .inl (fun _ => 0)))] ++ [(a4, .inl (gca E 0, 408, .inl (fun _ => 0)))] ++ [(a5, .inl (gca E 2, 27, .inl (fun _ => 0)))] ++ [(a6, .inl (gca E 0, 56, .inl (fun _ => 0)))] ++ [(a7, .inl (gca E 0, 8, .inl (fun _ => 0)))] ++ [(a8, .inl (gca E 0, 8, .inl (fun _ => 0)))] ++ [(a9, .inl (gca E 0, 49, .inl (fun _ => 0)))] ++ [(a10, .inl (gca E 0, 343, .inl (fun _ => 0)))] ++ [(a11, .inl (gca E 0, 343, .inl (fun _ => 0)))] ++ [(a12, .inl (gca E 1, 7, .inr (.inl (fun _ => 0))))]) : va_W) := by simpa only [List.cons_append, List.append_assoc, List.nil_append, List.append_nil, List.set_cons_zero] using hD
  refine lv_aload_n hx hb (show decode cX8_init 118 = .ok (.aload_n 0, 1) by decide +kernel) rfl (lv_at hl 0 rfl) ?_
  refine lv_bipush (v := 7) hx hb (show decode cX8_init 119 = .ok (.bipush 7, 2) by decide +kernel) (by decide) ?_
  refine va_newa (atype := .long) (ty := .long) (a0 := (7, .inr (.inl (fun _ => 0)))) (N' := 7) hx hb (hts2 _ gwj_1) rfl hK hP hD hS hA (fun _ => rfl) (by decide) rfl (Nat.le_of_ble_eq_true rfl) (Nat.le_of_ble_eq_true rfl) (Nat.le_of_ble_eq_true rfl) (show decode cX8_init 121 = .ok (.newarray .long, 2) by decide +kernel) (fun a13 cA H hK2 hP hD hS => ?_)
  have hcA : cA = gca E 1 := gca_eq hK2 1 rfl rfl
  subst hcA
  clear hK2
  have hP : va_P (gD E) vwCl ((h0, .inr (8, [.int 0, .int 0, .ref a0, .ref a1, .int 0, .ref a2, .ref a3, .int 0, .int 0, .int (-1), .int 0, .int 0, .int 0, .int 0, .int 0, .int 0, .int 0, .ref a4, .ref a5, .int 0, .ref a6, .int 0, .ref a7, .ref a8, .int 0, .ref a9, .ref a10, .ref a11, .long 0, .long 0, .ref a12, .null])) :: ([(a0, .inl (gca E 0, 408, .inl (fun _ => 0)))] ++ [(a1, .inl (gca E 0, 4488, .inl (fun _ => 0)))] ++ [(a2, .inl (gca E 2, 2, .inl (fun _ => 0)))] ++ [(a3, .inl (gca E 0, 700, .inl (fun _ => 0)))] ++ [(a4, .inl (gca E 0, 408, .inl (fun _ => 0)))] ++ [(a5, .inl (gca E 2, 27, .inl (fun _ => 0)))] ++ [(a6, .inl (gca E 0, 56, .inl (fun _ => 0)))] ++ [(a7, .inl (gca E 0, 8, .inl (fun _ => 0)))] ++ [(a8, .inl (gca E 0, 8, .inl (fun _ => 0)))] ++ [(a9, .inl (gca E 0, 49, .inl (fun _ => 0)))] ++ [(a10, .inl (gca E 0, 343, .inl (fun _ => 0)))] ++ [(a11, .inl (gca E 0, 343, .inl (fun _ => 0)))] ++ [(a12, .inl (gca E 1, 7, .inr (.inl (fun _ => 0))))] ++ [(a13, .inl (gca E 1, 7, .inr (.inl (fun _ => 0))))]) : va_W) H := by simpa only [List.cons_append, List.append_assoc, List.nil_append, List.append_nil, List.set_cons_zero] using hP
  have hD : va_D A ((h0, .inr (8, [.int 0, .int 0, .ref a0, .ref a1, .int 0, .ref a2, .ref a3, .int 0, .int 0, .int (-1), .int 0, .int 0, .int 0, .int 0, .int 0, .int 0, .int 0, .ref a4, .ref a5, .int 0, .ref a6, .int 0, .ref a7, .ref a8, .int 0, .ref a9, .ref a10, .ref a11, .long 0, .long 0, .ref a12, .null])) :: ([(a0, .inl (gca E 0, 408, .inl (fun _ => 0)))] ++ [(a1, .inl (gca E 0, 4488, .inl (fun _ => 0)))] ++ [(a2, .inl (gca E 2, 2, .inl (fun _ => 0)))] ++ [(a3, .inl (gca E 0, 700, .inl (fun _ => 0)))] ++ [(a4, .inl (gca E 0, 408, .inl (fun _ => 0)))] ++ [(a5, .inl (gca E 2, 27, .inl (fun _ => 0)))] ++ [(a6, .inl (gca E 0, 56, .inl (fun _ => 0)))] ++ [(a7, .inl (gca E 0, 8, .inl (fun _ => 0)))] ++ [(a8, .inl (gca E 0, 8, .inl (fun _ => 0)))] ++ [(a9, .inl (gca E 0, 49, .inl (fun _ => 0)))] ++ [(a10, .inl (gca E 0, 343, .inl (fun _ => 0)))] ++ [(a11, .inl (gca E 0, 343, .inl (fun _ => 0)))] ++ [(a12, .inl (gca E 1, 7, .inr (.inl (fun _ => 0))))] ++ [(a13, .inl (gca E 1, 7, .inr (.inl (fun _ => 0))))]) : va_W) := by simpa only [List.cons_append, List.append_assoc, List.nil_append, List.append_nil, List.set_cons_zero] using hD
  refine va_putF (D := gD E) (ci := 8) (v := .ref a13) (ty := .array .long) (C := RX8) (T := TX8) (N := 32) hx hb hts2 (fun w hw => gBig_of (guw_8 w hw) (gug_8 w hw)) tyX8 tyX8_ok (by decide +kernel) hown hK hP hD hS 0 rfl rfl 31 (by decide) (hts2 _ gwj_87) (fun _ h9 => h9) rfl hin rfl (by decide +kernel) rfl rfl (Nat.le_of_ble_eq_true rfl) (show decode cX8_init 123 = .ok (.putfield 55, 3) by decide +kernel) (fun H locs hP hD hS => ?_)
  have hP : va_P (gD E) vwCl ((h0, .inr (8, [.int 0, .int 0, .ref a0, .ref a1, .int 0, .ref a2, .ref a3, .int 0, .int 0, .int (-1), .int 0, .int 0, .int 0, .int 0, .int 0, .int 0, .int 0, .ref a4, .ref a5, .int 0, .ref a6, .int 0, .ref a7, .ref a8, .int 0, .ref a9, .ref a10, .ref a11, .long 0, .long 0, .ref a12, .ref a13])) :: ([(a0, .inl (gca E 0, 408, .inl (fun _ => 0)))] ++ [(a1, .inl (gca E 0, 4488, .inl (fun _ => 0)))] ++ [(a2, .inl (gca E 2, 2, .inl (fun _ => 0)))] ++ [(a3, .inl (gca E 0, 700, .inl (fun _ => 0)))] ++ [(a4, .inl (gca E 0, 408, .inl (fun _ => 0)))] ++ [(a5, .inl (gca E 2, 27, .inl (fun _ => 0)))] ++ [(a6, .inl (gca E 0, 56, .inl (fun _ => 0)))] ++ [(a7, .inl (gca E 0, 8, .inl (fun _ => 0)))] ++ [(a8, .inl (gca E 0, 8, .inl (fun _ => 0)))] ++ [(a9, .inl (gca E 0, 49, .inl (fun _ => 0)))] ++ [(a10, .inl (gca E 0, 343, .inl (fun _ => 0)))] ++ [(a11, .inl (gca E 0, 343, .inl (fun _ => 0)))] ++ [(a12, .inl (gca E 1, 7, .inr (.inl (fun _ => 0))))] ++ [(a13, .inl (gca E 1, 7, .inr (.inl (fun _ => 0))))]) : va_W) H := by simpa only [List.cons_append, List.append_assoc, List.nil_append, List.append_nil, List.set_cons_zero] using hP
  have hD : va_D A ((h0, .inr (8, [.int 0, .int 0, .ref a0, .ref a1, .int 0, .ref a2, .ref a3, .int 0, .int 0, .int (-1), .int 0, .int 0, .int 0, .int 0, .int 0, .int 0, .int 0, .ref a4, .ref a5, .int 0, .ref a6, .int 0, .ref a7, .ref a8, .int 0, .ref a9, .ref a10, .ref a11, .long 0, .long 0, .ref a12, .ref a13])) :: ([(a0, .inl (gca E 0, 408, .inl (fun _ => 0)))] ++ [(a1, .inl (gca E 0, 4488, .inl (fun _ => 0)))] ++ [(a2, .inl (gca E 2, 2, .inl (fun _ => 0)))] ++ [(a3, .inl (gca E 0, 700, .inl (fun _ => 0)))] ++ [(a4, .inl (gca E 0, 408, .inl (fun _ => 0)))] ++ [(a5, .inl (gca E 2, 27, .inl (fun _ => 0)))] ++ [(a6, .inl (gca E 0, 56, .inl (fun _ => 0)))] ++ [(a7, .inl (gca E 0, 8, .inl (fun _ => 0)))] ++ [(a8, .inl (gca E 0, 8, .inl (fun _ => 0)))] ++ [(a9, .inl (gca E 0, 49, .inl (fun _ => 0)))] ++ [(a10, .inl (gca E 0, 343, .inl (fun _ => 0)))] ++ [(a11, .inl (gca E 0, 343, .inl (fun _ => 0)))] ++ [(a12, .inl (gca E 1, 7, .inr (.inl (fun _ => 0))))] ++ [(a13, .inl (gca E 1, 7, .inr (.inl (fun _ => 0))))]) : va_W) := by simpa only [List.cons_append, List.append_assoc, List.nil_append, List.append_nil, List.set_cons_zero] using hD
  exact W.vret hx hb hr (fun t ht hW => ⟨⟨(fun i => match i with | 0 => a0 | 1 => a1 | 2 => a2 | 3 => a3 | 4 => a4 | 5 => a5 | 6 => a6 | 7 => a7 | 8 => a8 | 9 => a9 | 10 => a10 | 11 => a11 | 12 => a12 | 13 => a13 | _ => 0), rfl, trivial, by rw [ht]; exact hP, hD⟩, hS.F ht⟩) hS.2.2 (show decode cX8_init 126 = .ok (.return_, 1) by decide +kernel)
