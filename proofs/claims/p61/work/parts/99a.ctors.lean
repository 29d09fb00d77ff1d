/-! ===== the other constructors (by wip/whole/kinit2.py) ===== -/
theorem gca_eqO {E : gEn} {cA : ClassId} {s : State} (hK : va_K (gD E) vwCl (gtys E ++ [(cA, .object "ToeplitzLab$State")]) s) : cA = gca E 6 := by
  obtain ⟨-, -, -, -, -, h1⟩ := (hK.2 7 (cA, .object "ToeplitzLab$State") rfl).2
  obtain ⟨-, -, -, -, -, h2⟩ := (hK.2 6 (gca E 6, .object "ToeplitzLab$State") rfl).2
  exact Option.some.inj (h1.symm.trans h2)
def gNs2 : List Cond := [.methodLinkNest "ToeplitzLab" 9 yX3_init "ToeplitzLab", .methodLinkNest "ToeplitzLab$Input" 17 yX6_init "ToeplitzLab", .methodLinkNest "ToeplitzLab" 18 yX6_init "ToeplitzLab", .methodLinkNest "ToeplitzLab" 28 yX2_init "ToeplitzLab", .methodLinkNest "ToeplitzLab" 43 yX1_init "ToeplitzLab", .methodLinkNest "ToeplitzLab" 50 yX5_init "ToeplitzLab", .methodLinkNest "ToeplitzLab" 57 yX0_init "ToeplitzLab", .methodLinkNest "ToeplitzLab" 64 yX4_init "ToeplitzLab", .methodLinkNest "ToeplitzLab$Lifter" 11 yX1_init "ToeplitzLab"]
def gAr (U : State) : Prop := (Cond.arrayOver (.array .int)).before #[] U = true
theorem gAr_spec {s : State} (h : gAr s) : ∃ comp c k, s.vm.findClass (FieldType.array .int).toString = some comp ∧ (s.vm.classes.findIdx? fun (x : Class) => match x.kind with | .array component _ => component == comp | _ => false) = some c ∧ s.vm.classes[c]? = some k ∧ k.kind = .array comp (.array .int) ∧ s.vm.findClass ("[" ++ (FieldType.array .int).toString) = some c := by
  unfold gAr Cond.before at h
  simp only [Cond.holds, Cond.value, beq_iff_eq] at h
  cases hc : s.vm.findClass (FieldType.array .int).toString with
  | none => simp [hc] at h
  | some comp =>
    simp only [hc, Option.bind_some, Option.bind_eq_some_iff, Option.map_eq_some_iff] at h
    obtain ⟨c, hi, k, hk, hb⟩ := h
    obtain ⟨hlt, hp, -⟩ := Array.findIdx?_eq_some_iff_getElem.mp hi
    have hkk : s.vm.classes[c] = k := (Array.getElem?_eq_some_iff.mp hk).2
    rw [hkk] at hp
    cases hkind : k.kind with
    | array component ty =>
      rw [hkind] at hb hp
      simp at hb hp
      exact ⟨comp, c, k, rfl, hi, hk, by rw [hkind, hp, hb.1], hb.2⟩
    | _ => rw [hkind] at hb; simp at hb
theorem gAr.moved {u U : State} (hvm : u.vm.Alike U.vm) (h : gAr u) : gAr U := by
  obtain ⟨comp, c, k, h1, h2, h3, h4, h5⟩ := gAr_spec h
  obtain ⟨k', hk', he⟩ := hvm.2.2 _ _ h3
  have hi : (U.vm.classes.findIdx? fun (x : Class) => match x.kind with | .array component _ => component == comp | _ => false) = some c := by
    exact (hvm.findIdx?_eqK _ (fun _ => rfl)).trans h2
  have hkind : k'.kind = .array comp (.array .int) := by rw [he]; exact h4
  have f1 : U.vm.findClass (FieldType.array .int).toString = some comp := by rw [hvm.findClass]; exact h1
  have f2 : U.vm.findClass ("[" ++ (FieldType.array .int).toString) = some c := by rw [hvm.findClass]; exact h5
  unfold gAr Cond.before Cond.holds
  simp only [Cond.value]
  rw [f1, Option.bind_some]
  refine (congrArg (fun o : Option Nat => (o.bind (fun c => (U.vm.classes[c]?).map fun (k : Class) => match k.kind with | .array _ ty => decide (ty = FieldType.array .int) && decide (U.vm.findClass ("[" ++ (FieldType.array .int).toString) = some c) | _ => false) == some true)) hi).trans ?_
  simp [hk', hkind, f2]
/-- what the constructors need of the tables besides -/
def gNi (U : State) : Prop := (∀ w ∈ gNs2, va_Nw w U) ∧ va_AO "ToeplitzLab$State" U ∧ gAr U
theorem gNs2_is : ∀ w ∈ gNs2, ∃ a i x, w = .methodLinkNest a i x "ToeplitzLab" := by
  unfold gNs2
  simp only [List.forall_mem_cons, List.not_mem_nil, false_implies, implies_true, and_true]
  exact ⟨⟨_, _, _, rfl⟩, ⟨_, _, _, rfl⟩, ⟨_, _, _, rfl⟩, ⟨_, _, _, rfl⟩, ⟨_, _, _, rfl⟩, ⟨_, _, _, rfl⟩, ⟨_, _, _, rfl⟩, ⟨_, _, _, rfl⟩, ⟨_, _, _, rfl⟩⟩
theorem gNi.warm {s U : State} (h : gNi s) (hW : s.WarmedH U.vm) : gNi U := by
  refine ⟨fun w hw => ?_, va_AO.moved hW.alike h.2.1, gAr.moved hW.alike h.2.2⟩
  obtain ⟨a, i, x, rfl⟩ := gNs2_is w hw
  exact va_Nw.warmM hW (h.1 _ hw)
theorem gNi.same {s U : State} (h : gNi s) (hv : s.vm = U.vm) : gNi U := by
  refine ⟨fun w hw => ?_, va_AO.moved (hv ▸ Vm.Alike.refl _) h.2.1, gAr.moved (hv ▸ Vm.Alike.refl _) h.2.2⟩
  obtain ⟨a, i, x, rfl⟩ := gNs2_is w hw
  exact va_Nw.same rfl hv (h.1 _ hw)
def gmul (E : gEn) (q n k : Nat) : va_W := (q, .inl (gca E 5, n, .inr (.inr (.inr (.inr (fun i => some (q + 1 + i))))))) :: (List.range n).map (fun i => (q + 1 + i, .inl (gca E 0, k, .inl (fun _ => 0))))
theorem gi_bl1 {E : gEn} {W1 : va_W} {sz : Nat} {av : List Value} {a : Array Value} {U : State} {g : JFrame} {mk : MethodId} (z : va_Pc av (fun U => U.heap.size = sz ∧ va_P (gD E) vwCl W1 U.heap ∧ va_K (gD E) vwCl (gtys E) U) a U) : va_Pc av (fun U => U.heap.size = sz ∧ va_P (gD E) vwCl W1 U.heap ∧ va_K (gD E) vwCl (gtys E) U) a (U.calling g mk a) := by
  obtain ⟨q0, q1, qP, qK⟩ := z
  exact ⟨q0, q1, qP, va_K.moved (u := U) (U := U.calling g mk a) (Vm.Alike.refl U.vm) qK⟩
theorem gi_bl2 {E : gEn} {W1 : va_W} {sz : Nat} {av : List Value} {a : Array Value} {U : State} {g : JFrame} {mk : MethodId} (z : va_Pc av (fun U => U.heap.size = sz ∧ va_P (gD E) vwCl W1 U.heap ∧ va_K (gD E) vwCl (gtys E) U ∧ gNi U) a U) : va_Pc av (fun U => U.heap.size = sz ∧ va_P (gD E) vwCl W1 U.heap ∧ va_K (gD E) vwCl (gtys E) U ∧ gNi U) a (U.calling g mk a) := by
  obtain ⟨q0, q1, qP, qK, qN⟩ := z
  exact ⟨q0, q1, qP, va_K.moved (u := U) (U := U.calling g mk a) (Vm.Alike.refl U.vm) qK, qN.same rfl⟩
/-! a callee's world in the place of the new object's -/
theorem gj_P {D : va_G} {cl : List vw_C} {W0 : va_W} {x : Nat × va_E} {H : Heap} (hP : va_P D cl (W0 ++ [x]) H) : va_P D cl [x] H := hP.sub [W0.length] (by simp)
theorem gj_F {A0 : Nat → Prop} {W0 : va_W} {x : Nat × va_E} {H0 H : Heap} {locs : List Loc} (hD : va_D A0 (W0 ++ [x])) (hS : va_S A0 H0 H locs) (hA : ∀ q, H0.size ≤ q → A0 q) : ∀ q, va_A [x] H.size q → A0 q := va_free hD hS hA [W0.length] (by simp)
theorem gjoin {D : va_G} {cl : List vw_C} {A0 : Nat → Prop} {W0 w1 : va_W} {x : Nat × va_E} {H H1 : Heap} (hP : va_P D cl (W0 ++ [x]) H) (hD : va_D A0 (W0 ++ [x])) (hF : ∀ q, va_A [x] H.size q → A0 q) (hk : ∀ q : Nat, q < H.size → ¬ va_A [x] H.size q → H1[q]? = H[q]?) (hP1 : va_P D cl w1 H1) (hD1 : va_D (va_A [x] H.size) w1) : va_P D cl (W0 ++ w1) H1 ∧ va_D A0 (W0 ++ w1) :=
  va_join (wr := W0) hP hD [W0.length] (List.range W0.length) (by simp) (gidx_r _ _) (va_nd_of List.nodup_range) (by
    intro i hi hi2
    rw [List.mem_singleton.mp hi2] at hi
    exact absurd (List.mem_range.mp hi) (by omega)) hk hF hP1 hD1
theorem garrV_c {c : ClassId} {N : Nat} {f g : Nat → Value} (h : ∀ j, j < N → f j = g j) : arrV c N f = arrV c N g := by
  unfold arrV
  congr 2
  funext j
  exact h j.1 j.2
section MNA
variable {p : Program} {l : Launch} {e : Env} {R : Room} {s : State} {m : MethodId} {args : Array Value} {below : List Frame} {meth : Method} {c : Code} {H : Heap} {locs : List Loc} {cells slots : Nat} {Q : State → Prop}
variable {cc : ByteArray} {pc : Nat} {ls : Array Slot} {rest : List Value} {D : va_G} {cl : List vw_C} {A : Nat → Prop} {a : Nat} {tys : List (ClassId × FieldType)} {ws : va_W} {H0 : Heap}
theorem va_mnaQ (hexec : p.tables.exec = Jvm.exec) (hb : c.code = cc) {own : String} {index : Nat} {ty : FieldType} {cy : ClassId} (hown : s.vm.findClass own = some m.cls) (hclink : (Cond.classLink own index ("[" ++ (FieldType.array ty).toString)).before args s = true) (hover : (Cond.arrayOver (.array ty)).before #[] s = true) (harr : (Cond.arrayClass ty).before args s = true) (hcy : s.vm.findClass (FieldType.array ty).toString = some cy)
    (hK : va_K D cl tys s) (hP : va_P D cl ws H) (hD : va_D A ws) (hS : va_S A H0 H locs) (hA : ∀ q, H0.size ≤ q → A q) {n k : Int32} {N' K' : Nat} {z : vp_A} (hn : ¬ n < 0) (hk : ¬ k < 0) (hN : n.toNatClampNeg = N') (hM : k.toNatClampNeg = K')
    (hb1 : N' * 4 ≤ 536870912) (hb2 : K' * componentBytes ty ≤ 536870912) (hb3 : K' ≤ 536870912) (hdf : fits ty (defaultValue ty) = true) (hdd : (defaultValue ty).isDefault = true) (hcells : cells + (1 + N') ≤ R.cells) (hslots : slots + (N' + N' * K') ≤ R.slots) (hz : ∀ c : ClassId, Jvm.Free.Multi.innerC c K' (defaultValue ty) = vp_cell c z) (hdg : decode cc pc = .ok (.multianewarray index 2, 4))
    (kk : ∀ (q : Nat) (cA : ClassId) (H1 : Heap), va_K D cl (tys ++ [(cA, .array ty)]) s →
      va_P D cl (ws ++ (q, .inl (cA, N', .inr (.inr (.inr (.inr (fun i => some (q + 1 + i))))))) :: (List.range N').map (fun i => (q + 1 + i, .inl (cy, z)))) H1 → va_D A (ws ++ (q, .inl (cA, N', .inr (.inr (.inr (.inr (fun i => some (q + 1 + i))))))) :: (List.range N').map (fun i => (q + 1 + i, .inl (cy, z)))) → va_S A H0 H1 locs →
      W p l e R s m args below meth c H1 locs (cells + (1 + N')) (slots + (N' + N' * K')) Q (F0 m (pc + 4) ls (.ref q :: rest))) : W p l e R s m args below meth c H locs cells slots Q (F0 m pc ls (.int k :: .int n :: rest)) := by
  subst hN
  subst hM
  intro T hT Xs
  obtain ⟨vm₁, cA, comp, -, fA, fC, hO, -, X', step⟩ := Xs.multianewarray2F hexec hown hclink hover harr (g := F0 m pc ls (.int k :: .int n :: rest)) rfl (by rw [hb]; exact hdg) rfl hn hk hb1 hb2 hb3 hdf hdd hcells hslots
  have ec : some cy = some comp := hcy.symm.trans fC
  cases ec
  generalize hF : Jvm.Free.Multi.fill (T.setVm vm₁) cA cy n.toNatClampNeg k.toNatClampNeg (defaultValue ty) n.toNatClampNeg = F at X' step
  have hTh : (T.setVm vm₁).heap = H := hT
  obtain ⟨f1, f2, -, -⟩ := Jvm.Free.Multi.fill_facts (T.setVm vm₁) cA cy n.toNatClampNeg k.toNatClampNeg (defaultValue ty) n.toNatClampNeg
  rw [hF, hTh] at f1 f2
  have hold : ∀ x : Nat, x < H.size → F.heap[x]? = H[x]? := fun x hx => by
    have := Jvm.Free.Multi.fill_old (T.setVm vm₁) cA cy n.toNatClampNeg k.toNatClampNeg (defaultValue ty) (a := x) (by rw [hTh]; exact hx) n.toNatClampNeg
    rw [hF, hTh] at this
    exact this
  have hrow : ∀ j : Nat, j < n.toNatClampNeg → F.heap[H.size + 1 + j]? = some (vp_cell cy z) := fun j hj => by
    have := Jvm.Free.Multi.fill_inner (T.setVm vm₁) cA cy n.toNatClampNeg k.toNatClampNeg (defaultValue ty) n.toNatClampNeg j hj
    rw [hF, hTh, hz] at this
    exact this
  have hout : Jvm.Free.Multi.outerC cA n.toNatClampNeg H.size n.toNatClampNeg = vp_cell cA (n.toNatClampNeg, .inr (.inr (.inr (.inr (fun i => some (H.size + 1 + i)))))) := by
    rw [vp_cell_q, vr_outer]
    exact garrV_c (fun j hj => by rw [if_pos hj])
  rw [hout] at f2
  have hlt : ∀ (k9 : Nat) (x : Nat × va_E), ws[k9]? = some x → x.1 < H.size := fun k9 x hx => (hP k9 _ hx).lt
  have hP0 : va_P D cl ws F.heap := hP.kept (fun k9 x hx => hold x.1 (hlt k9 x hx))
  have hr : ∀ (k9 : Nat) (x : Nat × va_E), ((H.size, .inl (cA, n.toNatClampNeg, .inr (.inr (.inr (.inr (fun i => some (H.size + 1 + i))))))) :: (List.range n.toNatClampNeg).map (fun i => ((H.size + 1 + i, .inl (cy, z)) : Nat × va_E)) : va_W)[k9]? = some x → x.1 = H.size + k9 ∧ va_at D cl x F.heap := fun k9 x hx => by
    cases k9 with
    | zero =>
      cases hx
      exact ⟨rfl, f2⟩
    | succ i =>
      rw [List.getElem?_cons_succ, List.getElem?_map] at hx
      by_cases h9 : i < n.toNatClampNeg
      · rw [List.getElem?_range h9] at hx
        cases hx
        exact ⟨by show H.size + 1 + i = H.size + (i + 1); omega, hrow i h9⟩
      · rw [List.getElem?_eq_none (show (List.range n.toNatClampNeg).length ≤ i by rw [List.length_range]; omega)] at hx
        cases hx
  have hP2 := hP0.app (fun k9 x hx => (hr k9 x hx).2)
  have hD2 : va_D A (ws ++ (H.size, .inl (cA, n.toNatClampNeg, .inr (.inr (.inr (.inr (fun i => some (H.size + 1 + i))))))) :: (List.range n.toNatClampNeg).map (fun i => ((H.size + 1 + i, .inl (cy, z)) : Nat × va_E))) := by
    refine ⟨fun i j x y hi hj hxy => ?_, fun k9 x hx => ?_⟩
    · by_cases h1 : i < ws.length <;> by_cases h2 : j < ws.length
      · rw [List.getElem?_append_left h1] at hi
        rw [List.getElem?_append_left h2] at hj
        exact hD.1 i j x y hi hj hxy
      · rw [List.getElem?_append_left h1] at hi
        rw [List.getElem?_append_right (by omega)] at hj
        have := hlt _ _ hi
        have := (hr _ _ hj).1
        omega
      · rw [List.getElem?_append_right (by omega)] at hi
        rw [List.getElem?_append_left h2] at hj
        have := hlt _ _ hj
        have := (hr _ _ hi).1
        omega
      · rw [List.getElem?_append_right (by omega)] at hi
        rw [List.getElem?_append_right (by omega)] at hj
        have := (hr _ _ hi).1
        have := (hr _ _ hj).1
        omega
    · by_cases h1 : k9 < ws.length
      · rw [List.getElem?_append_left h1] at hx
        exact hD.2 k9 x hx
      · rw [List.getElem?_append_right (by omega)] at hx
        rw [(hr _ _ hx).1]
        exact hA _ (Nat.le_trans hS.1 (Nat.le_add_right _ _))
  have hS2 : va_S A H0 F.heap locs := ⟨by rw [f1]; exact Nat.le_trans hS.1 (by omega), fun q h1 h2 => (hold q (Nat.lt_of_lt_of_le h1 hS.1)).trans (hS.2.1 q h1 h2), hS.2.2⟩
  have hK2 : va_K D cl (tys ++ [(cA, .array ty)]) s := hK.app ⟨hK.1, fun k9 x hx => by
    have h0 : k9 < 1 := (List.getElem?_eq_some_iff.mp hx).1
    rw [show k9 = 0 by omega] at hx
    cases hx
    exact ⟨fun N9 z9 => by
      obtain ⟨-, k9, hk9, cm9, hkk9⟩ := (hO 0 0 0).1
      exact ⟨(fun q hq => by cases hq), k9, hk9, cm9, hkk9⟩, fA⟩⟩
  have hW := kk H.size cA F.heap hK2 hP2 hD2 hS2
  rw [← Nat.add_assoc, ← Nat.add_assoc] at hW
  obtain ⟨t, a1, b1⟩ := hW F rfl X'
  refine ⟨t, step t ?_, b1⟩
  have e : T.heap.size = H.size := by rw [hT]
  rw [e]
  exact a1
end MNA
theorem gwk_0 : (Cond.methodLink RX0 3 objectInit) ∈ gBig := gBig_of (gpc1 (List.mem_of_getElem? (i := 227) rfl)) rfl
theorem gwk_1 : (Cond.arrayClass .long) ∈ gBig := gBig_of (gpc1 (List.mem_of_getElem? (i := 110) rfl)) rfl
theorem gwk_2 : (Cond.fieldLink RX0 9 "ToeplitzLab$Fractions" "tops" "[J") ∈ gBig := gBig_of (gpc1 (List.mem_of_getElem? (i := 228) rfl)) rfl
theorem gwk_3 : (Cond.fieldLink RX0 15 "ToeplitzLab$Fractions" "bottoms" "[J") ∈ gBig := gBig_of (gpc1 (List.mem_of_getElem? (i := 230) rfl)) rfl
theorem gwk_4 : (Cond.methodLink RX1 3 objectInit) ∈ gBig := gBig_of (gpc1 (List.mem_of_getElem? (i := 184) rfl)) rfl
theorem gwk_5 : (Cond.classLink RX1 9 "[[I") ∈ gBig := gBig_of (gpc1 (List.mem_of_getElem? (i := 185) rfl)) rfl
theorem gwk_6 : (Cond.arrayClass .int) ∈ gBig := gBig_of (gpc1 (List.mem_of_getElem? (i := 109) rfl)) rfl
theorem gwk_7 : (Cond.fieldLink RX1 11 "ToeplitzLab$Grid" "cells" "[[I") ∈ gBig := gBig_of (gpc1 (List.mem_of_getElem? (i := 187) rfl)) rfl
theorem gwk_8 : (Cond.methodLink RX2 3 objectInit) ∈ gBig := gBig_of (gpc1 (List.mem_of_getElem? (i := 165) rfl)) rfl
theorem gwk_9 : (Cond.classLink RX2 9 RX6) ∈ gBig := gBig_of (gpc1 (List.mem_of_getElem? (i := 166) rfl)) rfl
theorem gwk_10 : (Cond.fieldLink RX2 11 "ToeplitzLab$History" "kept" "[LToeplitzLab$State;") ∈ gBig := gBig_of (gpc1 (List.mem_of_getElem? (i := 168) rfl)) rfl
theorem gwk_11 : (Cond.methodLink RX5 3 objectInit) ∈ gBig := gBig_of (gpc1 (List.mem_of_getElem? (i := 213) rfl)) rfl
theorem gwk_12 : (Cond.classLink RX5 9 "[[I") ∈ gBig := gBig_of (gpc1 (List.mem_of_getElem? (i := 214) rfl)) rfl
theorem gwk_13 : (Cond.fieldLink RX5 11 "ToeplitzLab$Pairs" "lefts" "[[I") ∈ gBig := gBig_of (gpc1 (List.mem_of_getElem? (i := 215) rfl)) rfl
theorem gwk_14 : (Cond.fieldLink RX5 16 "ToeplitzLab$Pairs" "rights" "[[I") ∈ gBig := gBig_of (gpc1 (List.mem_of_getElem? (i := 216) rfl)) rfl
theorem gwk_15 : (Cond.methodLink RX3 3 objectInit) ∈ gBig := gBig_of (gpc1 (List.mem_of_getElem? (i := 42) rfl)) rfl
theorem gwk_16 : (Cond.arrayClass .byte) ∈ gBig := gBig_of (gpc1 (List.mem_of_getElem? (i := 108) rfl)) rfl
theorem gwk_17 : (Cond.fieldLink RX3 9 "ToeplitzLab$Input" "text" "[B") ∈ gBig := gBig_of (gpc1 (List.mem_of_getElem? (i := 111) rfl)) rfl
theorem gwk_18 : (Cond.classLink RX3 15 RX6) ∈ gBig := gBig_of (gpc1 (List.mem_of_getElem? (i := 43) rfl)) rfl
theorem gwk_19 : (Cond.instantiable RX6 11) ∈ gBig := gBig_of (gpc1 (List.mem_of_getElem? (i := 44) rfl)) rfl
theorem gwk_20 : (Cond.initialized RX6) ∈ gBig := gBig_of (gpc1 (List.mem_of_getElem? (i := 17) rfl)) rfl
theorem gwk_21 : (Cond.code yX6_init cX6_init 1 none) ∈ gBig := gBig_of (gpc1 (List.mem_of_getElem? (i := 47) rfl)) rfl
theorem gwk_22 : (Cond.instanceMethod yX6_init) ∈ gBig := gBig_of (gpc1 (List.mem_of_getElem? (i := 46) rfl)) rfl
theorem gwk_23 : (Cond.fieldLink RX3 18 "ToeplitzLab$Input" "system" "LToeplitzLab$State;") ∈ gBig := gBig_of (gpc1 (List.mem_of_getElem? (i := 114) rfl)) rfl
theorem gwk_24 : (Cond.methodLink RX4 3 objectInit) ∈ gBig := gBig_of (gpc2 (List.mem_of_getElem? (i := 1) rfl)) rfl
theorem gwk_25 : (Cond.classLink RX4 9 RX1) ∈ gBig := gBig_of (gpc2 (List.mem_of_getElem? (i := 2) rfl)) rfl
theorem gwk_26 : (Cond.instantiable RX1 6) ∈ gBig := gBig_of (gpc1 (List.mem_of_getElem? (i := 180) rfl)) rfl
theorem gwk_27 : (Cond.initialized RX1) ∈ gBig := gBig_of (gpc1 (List.mem_of_getElem? (i := 19) rfl)) rfl
theorem gwk_28 : (Cond.code yX1_init cX1_init 1 none) ∈ gBig := gBig_of (gpc1 (List.mem_of_getElem? (i := 183) rfl)) rfl
theorem gwk_29 : (Cond.instanceMethod yX1_init) ∈ gBig := gBig_of (gpc1 (List.mem_of_getElem? (i := 182) rfl)) rfl
theorem gwk_30 : (Cond.fieldLink RX4 12 "ToeplitzLab$Lifter" "grid" "LToeplitzLab$Grid;") ∈ gBig := gBig_of (gpc2 (List.mem_of_getElem? (i := 4) rfl)) rfl
theorem gwk_31 : (Cond.fieldLink RX4 18 "ToeplitzLab$Lifter" "fresh" "[I") ∈ gBig := gBig_of (gpc2 (List.mem_of_getElem? (i := 5) rfl)) rfl
theorem gwk_32 : (Cond.methodLink RX7 1 objectInit) ∈ gBig := gBig_of (gpc1 (List.mem_of_getElem? (i := 34) rfl)) rfl
theorem gwk_33 : (Cond.classLink RX7 7 RX3) ∈ gBig := gBig_of (gpc1 (List.mem_of_getElem? (i := 37) rfl)) rfl
theorem gwk_34 : (Cond.instantiable RX3 14) ∈ gBig := gBig_of (gpc1 (List.mem_of_getElem? (i := 38) rfl)) rfl
theorem gwk_35 : (Cond.initialized RX3) ∈ gBig := gBig_of (gpc1 (List.mem_of_getElem? (i := 16) rfl)) rfl
theorem gwk_36 : (Cond.code yX3_init cX3_init 1 none) ∈ gBig := gBig_of (gpc1 (List.mem_of_getElem? (i := 41) rfl)) rfl
theorem gwk_37 : (Cond.instanceMethod yX3_init) ∈ gBig := gBig_of (gpc1 (List.mem_of_getElem? (i := 40) rfl)) rfl
theorem gwk_38 : (Cond.fieldLink RX7 10 "ToeplitzLab" "input" "LToeplitzLab$Input;") ∈ gBig := gBig_of (gpc2 (List.mem_of_getElem? (i := 11) rfl)) rfl
theorem gwk_39 : (Cond.classLink RX7 16 RX6) ∈ gBig := gBig_of (gpc1 (List.mem_of_getElem? (i := 158) rfl)) rfl
theorem gwk_40 : (Cond.fieldLink RX7 19 "ToeplitzLab" "state" "LToeplitzLab$State;") ∈ gBig := gBig_of (gpc2 (List.mem_of_getElem? (i := 12) rfl)) rfl
theorem gwk_41 : (Cond.fieldLink RX7 23 "ToeplitzLab" "draft" "LToeplitzLab$State;") ∈ gBig := gBig_of (gpc2 (List.mem_of_getElem? (i := 13) rfl)) rfl
theorem gwk_42 : (Cond.classLink RX7 26 RX2) ∈ gBig := gBig_of (gpc1 (List.mem_of_getElem? (i := 160) rfl)) rfl
theorem gwk_43 : (Cond.instantiable RX2 3) ∈ gBig := gBig_of (gpc1 (List.mem_of_getElem? (i := 161) rfl)) rfl
theorem gwk_44 : (Cond.initialized RX2) ∈ gBig := gBig_of (gpc1 (List.mem_of_getElem? (i := 18) rfl)) rfl
theorem gwk_45 : (Cond.code yX2_init cX2_init 1 none) ∈ gBig := gBig_of (gpc1 (List.mem_of_getElem? (i := 164) rfl)) rfl
theorem gwk_46 : (Cond.instanceMethod yX2_init) ∈ gBig := gBig_of (gpc1 (List.mem_of_getElem? (i := 163) rfl)) rfl
theorem gwk_47 : (Cond.fieldLink RX7 29 "ToeplitzLab" "history" "LToeplitzLab$History;") ∈ gBig := gBig_of (gpc2 (List.mem_of_getElem? (i := 14) rfl)) rfl
theorem gwk_48 : (Cond.fieldLink RX7 33 "ToeplitzLab" "slots" "[LToeplitzLab$State;") ∈ gBig := gBig_of (gpc2 (List.mem_of_getElem? (i := 15) rfl)) rfl
theorem gwk_49 : (Cond.arrayClass .boolean) ∈ gBig := gBig_of (gpc1 (List.mem_of_getElem? (i := 207) rfl)) rfl
theorem gwk_50 : (Cond.fieldLink RX7 37 "ToeplitzLab" "slotUsed" "[Z") ∈ gBig := gBig_of (gpc2 (List.mem_of_getElem? (i := 16) rfl)) rfl
theorem gwk_51 : (Cond.classLink RX7 41 RX1) ∈ gBig := gBig_of (gpc1 (List.mem_of_getElem? (i := 179) rfl)) rfl
theorem gwk_52 : (Cond.fieldLink RX7 44 "ToeplitzLab" "grid" "LToeplitzLab$Grid;") ∈ gBig := gBig_of (gpc2 (List.mem_of_getElem? (i := 17) rfl)) rfl
theorem gwk_53 : (Cond.classLink RX7 48 RX5) ∈ gBig := gBig_of (gpc1 (List.mem_of_getElem? (i := 208) rfl)) rfl
theorem gwk_54 : (Cond.instantiable RX5 2) ∈ gBig := gBig_of (gpc1 (List.mem_of_getElem? (i := 209) rfl)) rfl
theorem gwk_55 : (Cond.initialized RX5) ∈ gBig := gBig_of (gpc1 (List.mem_of_getElem? (i := 20) rfl)) rfl
theorem gwk_56 : (Cond.code yX5_init cX5_init 1 none) ∈ gBig := gBig_of (gpc1 (List.mem_of_getElem? (i := 212) rfl)) rfl
theorem gwk_57 : (Cond.instanceMethod yX5_init) ∈ gBig := gBig_of (gpc1 (List.mem_of_getElem? (i := 211) rfl)) rfl
theorem gwk_58 : (Cond.fieldLink RX7 51 "ToeplitzLab" "pairs" "LToeplitzLab$Pairs;") ∈ gBig := gBig_of (gpc2 (List.mem_of_getElem? (i := 18) rfl)) rfl
theorem gwk_59 : (Cond.classLink RX7 55 RX0) ∈ gBig := gBig_of (gpc1 (List.mem_of_getElem? (i := 222) rfl)) rfl
theorem gwk_60 : (Cond.instantiable RX0 2) ∈ gBig := gBig_of (gpc1 (List.mem_of_getElem? (i := 223) rfl)) rfl
theorem gwk_61 : (Cond.initialized RX0) ∈ gBig := gBig_of (gpc1 (List.mem_of_getElem? (i := 21) rfl)) rfl
theorem gwk_62 : (Cond.code yX0_init cX0_init 1 none) ∈ gBig := gBig_of (gpc1 (List.mem_of_getElem? (i := 226) rfl)) rfl
theorem gwk_63 : (Cond.instanceMethod yX0_init) ∈ gBig := gBig_of (gpc1 (List.mem_of_getElem? (i := 225) rfl)) rfl
theorem gwk_64 : (Cond.fieldLink RX7 58 "ToeplitzLab" "fractions" "LToeplitzLab$Fractions;") ∈ gBig := gBig_of (gpc2 (List.mem_of_getElem? (i := 19) rfl)) rfl
theorem gwk_65 : (Cond.classLink RX7 62 RX4) ∈ gBig := gBig_of (gpc1 (List.mem_of_getElem? (i := 236) rfl)) rfl
theorem gwk_66 : (Cond.instantiable RX4 2) ∈ gBig := gBig_of (gpc1 (List.mem_of_getElem? (i := 237) rfl)) rfl
theorem gwk_67 : (Cond.initialized RX4) ∈ gBig := gBig_of (gpc1 (List.mem_of_getElem? (i := 22) rfl)) rfl
theorem gwk_68 : (Cond.code yX4_init cX4_init 1 none) ∈ gBig := gBig_of (gpc2 (List.mem_of_getElem? (i := 0) rfl)) rfl
theorem gwk_69 : (Cond.instanceMethod yX4_init) ∈ gBig := gBig_of (gpc1 (List.mem_of_getElem? (i := 239) rfl)) rfl
theorem gwk_70 : (Cond.fieldLink RX7 65 "ToeplitzLab" "lifter" "LToeplitzLab$Lifter;") ∈ gBig := gBig_of (gpc2 (List.mem_of_getElem? (i := 20) rfl)) rfl
theorem gwk_71 : (Cond.fieldLink RX7 69 "ToeplitzLab" "ends" "[I") ∈ gBig := gBig_of (gpc2 (List.mem_of_getElem? (i := 21) rfl)) rfl
