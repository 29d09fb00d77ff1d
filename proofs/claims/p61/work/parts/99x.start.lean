/-! ===== the start (by wip/p61/p99x.py) ===== -/
theorem gz_l {a b : Cond} {A : Array Value} {s : State} (h : (Cond.and a b).before A s = true) : a.before A s = true := by
  rw [Cond.before_and, Bool.and_eq_true] at h
  exact h.1
theorem gz_r {a b : Cond} {A : Array Value} {s : State} (h : (Cond.and a b).before A s = true) : b.before A s = true := by
  rw [Cond.before_and, Bool.and_eq_true] at h
  exact h.2
theorem gz_arr {ty : FieldType} {A : Array Value} {s : State} (h : (Cond.arrayClass ty).before A s = true) (ht : (match ty with | .object _ => false | _ => true) = true) : ∃ cA : ClassId, ArrOfT s cA ty ∧ va_RA s cA ty := by
  obtain ⟨c, k, comp, h1, h2, h3⟩ := Cond.arrayClass_spec h
  refine ⟨c, fun n z => ⟨(fun q hq => by cases hq), k, h2, comp, h3⟩, ?_⟩
  cases ty <;> first | exact h1 | cases ht
theorem gz_arrA {s : State} (h : gAr s) : ∃ cA : ClassId, ArrOfT s cA (.array .int) ∧ va_RA s cA (.array .int) := by
  obtain ⟨comp, c, k, h1, h2, h3, h4, h5⟩ := gAr_spec h
  exact ⟨c, fun n z => ⟨(fun q hq => by cases hq), k, h3, comp, h4⟩, h5⟩
theorem gz_arrO {s : State} {C : String} (h : va_AO C s) : ∃ cA : ClassId, ArrOfT s cA (.object C) ∧ va_RA s cA (.object C) := by
  obtain ⟨comp, c, k, h1, h2, h3, h4, h5⟩ := Cond.arrayOver_spec h
  exact ⟨c, fun n z => ⟨(fun q hq => by cases hq), k, h3, comp, h4⟩, k, comp, h3, h4, h1, h5⟩
section START
variable {s : State} {b : Addr}
abbrev gHt (s : State) (b : Addr) : Prop := ∀ w ∈ lw_tbl, w.before #[Value.ref b] s = true
abbrev gHg (s : State) (b : Addr) : Prop := (Jvm.Cond.and given_1 narrow_1).before #[Value.ref b] s = true
theorem gz_AO (hts : gHt s b) : va_AO "ToeplitzLab$State" s := va_AO.of (hts _ (gpc1 (List.mem_of_getElem? (i := 167) rfl)))
theorem gz_Ar (hts : gHt s b) : gAr s := (show (Cond.arrayOver (.array .int)).before #[Value.ref b] s = true from (hts _ (gpc1 (List.mem_of_getElem? (i := 186) rfl))))
theorem gz_K (hts : gHt s b) : ∃ (D : va_G) (ca : Nat → ClassId), va_K D vwCl [(ca 0, .int), (ca 1, .long), (ca 2, .boolean), (ca 3, .byte), (ca 4, .boolean), (ca 5, .array .int), (ca 6, .object "ToeplitzLab$State")] s := by
  obtain ⟨c0, i0, k0⟩ := u_known (T := TX0) (N := 2) (C := RX0) hts guw_0 (show (Cond.instantiable RX0 2).before #[Value.ref b] s = true from (hts _ (gpc1 (List.mem_of_getElem? (i := 223) rfl))))
  obtain ⟨c1, i1, k1⟩ := u_known (T := TX1) (N := 6) (C := RX1) hts guw_1 (show (Cond.instantiable RX1 6).before #[Value.ref b] s = true from (hts _ (gpc1 (List.mem_of_getElem? (i := 180) rfl))))
  obtain ⟨c2, i2, k2⟩ := u_known (T := TX2) (N := 3) (C := RX2) hts guw_2 (show (Cond.instantiable RX2 3).before #[Value.ref b] s = true from (hts _ (gpc1 (List.mem_of_getElem? (i := 161) rfl))))
  obtain ⟨c3, i3, k3⟩ := u_known (T := TX3) (N := 14) (C := RX3) hts guw_3 (show (Cond.instantiable RX3 14).before #[Value.ref b] s = true from (hts _ (gpc1 (List.mem_of_getElem? (i := 38) rfl))))
  obtain ⟨c4, i4, k4⟩ := u_known (T := TX4) (N := 2) (C := RX4) hts guw_4 (show (Cond.instantiable RX4 2).before #[Value.ref b] s = true from (hts _ (gpc1 (List.mem_of_getElem? (i := 237) rfl))))
  obtain ⟨c5, i5, k5⟩ := u_known (T := TX5) (N := 2) (C := RX5) hts guw_5 (show (Cond.instantiable RX5 2).before #[Value.ref b] s = true from (hts _ (gpc1 (List.mem_of_getElem? (i := 209) rfl))))
  obtain ⟨c6, i6, k6⟩ := u_known (T := TX6) (N := 11) (C := RX6) hts guw_6 (show (Cond.instantiable RX6 11).before #[Value.ref b] s = true from (hts _ (gpc1 (List.mem_of_getElem? (i := 44) rfl))))
  obtain ⟨c7, i7, k7⟩ := u_known (T := TX7) (N := 11) (C := RX7) hts guw_7 (show (Cond.instantiable RX7 11).before #[Value.ref b] s = true from (hts _ (gpc1 (List.mem_of_getElem? (i := 30) rfl))))
  obtain ⟨c8, i8, k8⟩ := u_known (T := TX8) (N := 2) (C := RX8) hts guw_8 (show (Cond.instantiable RX8 2).before #[Value.ref b] s = true from (hts _ (gpc2 (List.mem_of_getElem? (i := 70) rfl))))
  obtain ⟨c9, i9, k9⟩ := u_known (T := TX9) (N := 6) (C := RX9) hts guw_9 (show (Cond.instantiable RX9 6).before #[Value.ref b] s = true from (hts _ (gpc2 (List.mem_of_getElem? (i := 88) rfl))))
  obtain ⟨c10, i10, k10⟩ := u_known (T := TJ0) (N := 4) (C := RJ0) hts kguS (show (Cond.instantiable RJ0 4).before #[Value.ref b] s = true from (hts _ (gpc6 (List.mem_of_getElem? (i := 143) rfl))))
  obtain ⟨c11, i11, k11⟩ := u_known (T := TJ4) (N := 4) (C := RJ4) hts kguw (show (Cond.instantiable RJ4 4).before #[Value.ref b] s = true from (hts _ (gpc2 (List.mem_of_getElem? (i := 94) rfl))))
  obtain ⟨a0, p0, q0⟩ := gz_arr (ty := .int) (show (Cond.arrayClass .int).before #[Value.ref b] s = true from (hts _ (gpc1 (List.mem_of_getElem? (i := 109) rfl)))) rfl
  obtain ⟨a1, p1, q1⟩ := gz_arr (ty := .long) (show (Cond.arrayClass .long).before #[Value.ref b] s = true from (hts _ (gpc1 (List.mem_of_getElem? (i := 110) rfl)))) rfl
  obtain ⟨a2, p2, q2⟩ := gz_arr (ty := .boolean) (show (Cond.arrayClass .boolean).before #[Value.ref b] s = true from (hts _ (gpc1 (List.mem_of_getElem? (i := 207) rfl)))) rfl
  obtain ⟨a3, p3, q3⟩ := gz_arr (ty := .byte) (show (Cond.arrayClass .byte).before #[Value.ref b] s = true from (hts _ (gpc1 (List.mem_of_getElem? (i := 108) rfl)))) rfl
  obtain ⟨a5, p5, q5⟩ := gz_arrA (gz_Ar hts)
  obtain ⟨a6, p6, q6⟩ := gz_arrO (gz_AO hts)
  refine ⟨(fun c => match c with | 0 => c0 | 1 => c1 | 2 => c2 | 3 => c3 | 4 => c4 | 5 => c5 | 6 => c6 | 7 => c7 | 8 => c8 | 9 => c9 | 10 => c10 | 11 => c11 | _ => 0, fun c => match c with | 0 => i0 | 1 => i1 | 2 => i2 | 3 => i3 | 4 => i4 | 5 => i5 | 6 => i6 | 7 => i7 | 8 => i8 | 9 => i9 | 10 => i10 | 11 => i11 | _ => fun _ => 0), (fun j => match j with | 0 => a0 | 1 => a1 | 2 => a2 | 3 => a3 | 4 => a2 | 5 => a5 | 6 => a6 | _ => 0), fun c q hq => ?_, fun k q hq => ?_⟩
  · have hc : c < 12 := (List.getElem?_eq_some_iff.mp hq).1
    rcases (show c = 0 ∨ c = 1 ∨ c = 2 ∨ c = 3 ∨ c = 4 ∨ c = 5 ∨ c = 6 ∨ c = 7 ∨ c = 8 ∨ c = 9 ∨ c = 10 ∨ c = 11 by omega) with rfl | rfl | rfl | rfl | rfl | rfl | rfl | rfl | rfl | rfl | rfl | rfl
    · cases hq; exact k0
    · cases hq; exact k1
    · cases hq; exact k2
    · cases hq; exact k3
    · cases hq; exact k4
    · cases hq; exact k5
    · cases hq; exact k6
    · cases hq; exact k7
    · cases hq; exact k8
    · cases hq; exact k9
    · cases hq; exact k10
    · cases hq; exact k11
  · have hc : k < 7 := (List.getElem?_eq_some_iff.mp hq).1
    rcases (show k = 0 ∨ k = 1 ∨ k = 2 ∨ k = 3 ∨ k = 4 ∨ k = 5 ∨ k = 6 by omega) with rfl | rfl | rfl | rfl | rfl | rfl | rfl
    · cases hq; exact ⟨p0, q0⟩
    · cases hq; exact ⟨p1, q1⟩
    · cases hq; exact ⟨p2, q2⟩
    · cases hq; exact ⟨p3, q3⟩
    · cases hq; exact ⟨p2, q2⟩
    · cases hq; exact ⟨p5, q5⟩
    · cases hq; exact ⟨p6, q6⟩
theorem gz_Nst (hts : gHt s b) : ∀ w ∈ gNst, va_Nw w s := by
  unfold gNst
  refine List.forall_mem_append.mpr ⟨?_, ?_⟩
  · simp only [List.forall_mem_cons, List.not_mem_nil, false_implies, implies_true, and_true]
    exact ⟨va_Nw.of rfl (hts _ (gpc1 (List.mem_of_getElem? (i := 191) rfl))), va_Nw.of rfl (hts _ (gpc4 (List.mem_of_getElem? (i := 148) rfl))), va_Nw.of rfl (hts _ (gpc5 (List.mem_of_getElem? (i := 197) rfl))), va_Nw.of rfl (hts _ (gpc5 (List.mem_of_getElem? (i := 13) rfl))), va_Nw.of rfl (hts _ (gpc4 (List.mem_of_getElem? (i := 15) rfl))), va_Nw.of rfl (hts _ (gpc5 (List.mem_of_getElem? (i := 149) rfl))), va_Nw.of rfl (hts _ (gpc1 (List.mem_of_getElem? (i := 159) rfl))), va_Nw.of rfl (hts _ (gpc3 (List.mem_of_getElem? (i := 135) rfl))), va_Nw.of rfl (hts _ (gpc3 (List.mem_of_getElem? (i := 137) rfl))), va_Nw.of rfl (hts _ (gpc3 (List.mem_of_getElem? (i := 139) rfl))), va_Nw.of rfl (hts _ (gpc4 (List.mem_of_getElem? (i := 88) rfl))), va_Nw.of rfl (hts _ (gpc3 (List.mem_of_getElem? (i := 133) rfl))), va_Nw.of rfl (hts _ (gpc4 (List.mem_of_getElem? (i := 47) rfl)))⟩
  · unfold gNsF gNfl
    simp only [List.map_cons, List.map_nil, List.forall_mem_cons, List.not_mem_nil, false_implies, implies_true, and_true]
    exact ⟨va_Nw.of rfl (hts _ (gpc3 (List.mem_of_getElem? (i := 78) rfl))), va_Nw.of rfl (hts _ (gpc3 (List.mem_of_getElem? (i := 80) rfl))), va_Nw.of rfl (hts _ (gpc3 (List.mem_of_getElem? (i := 72) rfl))), va_Nw.of rfl (hts _ (gpc3 (List.mem_of_getElem? (i := 74) rfl))), va_Nw.of rfl (hts _ (gpc3 (List.mem_of_getElem? (i := 76) rfl))), va_Nw.of rfl (hts _ (gpc3 (List.mem_of_getElem? (i := 70) rfl)))⟩
theorem gz_Ni (hts : gHt s b) : gNi s := by
  refine ⟨?_, gz_AO hts, gz_Ar hts⟩
  unfold gNs2
  simp only [List.forall_mem_cons, List.not_mem_nil, false_implies, implies_true, and_true]
  exact ⟨va_Nw.of rfl (hts _ (gpc1 (List.mem_of_getElem? (i := 39) rfl))), va_Nw.of rfl (hts _ (gpc1 (List.mem_of_getElem? (i := 45) rfl))), va_Nw.of rfl (hts _ (gpc1 (List.mem_of_getElem? (i := 159) rfl))), va_Nw.of rfl (hts _ (gpc1 (List.mem_of_getElem? (i := 162) rfl))), va_Nw.of rfl (hts _ (gpc1 (List.mem_of_getElem? (i := 181) rfl))), va_Nw.of rfl (hts _ (gpc1 (List.mem_of_getElem? (i := 210) rfl))), va_Nw.of rfl (hts _ (gpc1 (List.mem_of_getElem? (i := 224) rfl))), va_Nw.of rfl (hts _ (gpc1 (List.mem_of_getElem? (i := 238) rfl))), va_Nw.of rfl (hts _ (gpc2 (List.mem_of_getElem? (i := 3) rfl)))⟩
theorem gz_Sel (hts : gHt s b) : ∀ w ∈ kSel, w.before #[Value.ref b] s = true := by
  have h0 : (Cond.selects RJ4 yJ5_getValue_6d5f1 yJ5_getValue_6d5f1).before #[Value.ref b] s = true := (hts _ (gpc6 (List.mem_of_getElem? (i := 154) rfl)))
  have hi : (Cond.instantiable RJ4 4).before #[Value.ref b] s = true := (hts _ (gpc2 (List.mem_of_getElem? (i := 94) rfl)))
  unfold kSel
  simp only [List.forall_mem_cons, List.not_mem_nil, false_implies, implies_true, and_true]
  exact ⟨k_selpriv (y := yJ5_ensureCapacityInternal_d00df) h0 rfl ⟨by decide +kernel, by decide +kernel⟩ hi (hts _ (gpc2 (List.mem_of_getElem? (i := 141) rfl))) (hts _ (gpc2 (List.mem_of_getElem? (i := 142) rfl))), k_selpriv (y := yJ5_newCapacity_0f7a4) h0 rfl ⟨by decide +kernel, by decide +kernel⟩ hi (hts _ (gpc2 (List.mem_of_getElem? (i := 145) rfl))) (hts _ (gpc2 (List.mem_of_getElem? (i := 146) rfl))), k_selpriv (y := yJ5_putStringAt_47b60) h0 rfl ⟨by decide +kernel, by decide +kernel⟩ hi (hts _ (gpc2 (List.mem_of_getElem? (i := 207) rfl))) (hts _ (gpc2 (List.mem_of_getElem? (i := 208) rfl))), k_selpriv (y := yJ5_inflateIfNeededFor_a7421) h0 rfl ⟨by decide +kernel, by decide +kernel⟩ hi (hts _ (gpc2 (List.mem_of_getElem? (i := 211) rfl))) (hts _ (gpc2 (List.mem_of_getElem? (i := 212) rfl)))⟩
variable {A : Nat → Prop}
theorem gz_us (hts : gHt s b) (h : gHg s b) (hA : ∀ a : Nat, a < s.heap.size → ¬ A a) : vx_Zq "java/lang/Throwable" "UNASSIGNED_STACK" "[Ljava/lang/StackTraceElement;" A s s.heap := vx_Zqof (hts _ (gpc3 (List.mem_of_getElem? (i := 158) rfl))) (hts _ (gpc1 (List.mem_of_getElem? (i := 23) rfl))) (gz_r (gz_r (gz_l (gz_l (gz_l (gz_r (gz_l (gz_l (gz_r (gz_l (gz_l (gz_r h)))))))))))) hA
theorem gz_ss (hts : gHt s b) (h : gHg s b) (hA : ∀ a : Nat, a < s.heap.size → ¬ A a) : vx_Zq "java/lang/Throwable" "SUPPRESSED_SENTINEL" "Ljava/util/List;" A s s.heap := vx_Zqof (hts _ (gpc3 (List.mem_of_getElem? (i := 160) rfl))) (hts _ (gpc1 (List.mem_of_getElem? (i := 23) rfl))) (gz_l (gz_r (gz_l (gz_l (gz_r (gz_l (gz_l (gz_r (gz_l (gz_l (gz_r h))))))))))) hA
theorem gz_si (hts : gHt s b) (h : gHg s b) (hA : ∀ a : Nat, a < s.heap.size → ¬ A a) : va_Zq "jdk/internal/util/Preconditions" "SIOOBE_FORMATTER" "Ljava/util/function/BiFunction;" A s s.heap := va_Zqof (hts _ (gpc2 (List.mem_of_getElem? (i := 193) rfl))) (hts _ (gpc1 (List.mem_of_getElem? (i := 11) rfl))) (gz_l (gz_r (gz_l (gz_l (gz_l (gz_l (gz_l (gz_l (gz_l (gz_l (gz_r h))))))))))) hA
theorem gz_cs (hts : gHt s b) (h : gHg s b) (hA : ∀ a : Nat, a < s.heap.size → ¬ A a) : va_Z "java/lang/String" "COMPACT_STRINGS" "Z" (.int 1) A s s.heap := va_Zof (hts _ (gpc2 (List.mem_of_getElem? (i := 112) rfl))) (hts _ (gpc1 (List.mem_of_getElem? (i := 5) rfl))) (va_eqt (gz_r (gz_r (gz_l (gz_l (gz_l (gz_l (gz_l (gz_l (gz_l (gz_l (gz_l (gz_r h))))))))))))) hA
theorem gz_pr (hts : gHt s b) (h : gHg s b) (hA : ∀ a : Nat, a < s.heap.size → ¬ A a) : ∃ t : Nat, va_Z "ToeplitzLab" "PRIMES" "[I" (.ref t) A s s.heap ∧ va_T .int t 11 (fun j => .int (gprime j)) A s s.heap := by
  have hel : ∀ j : Nat, j < 11 → (Term.elem (Term.static "ToeplitzLab" "PRIMES" "[I") (.int (Int32.ofNat j))).eval #[Value.ref b] s none [] s = some (.int (gprime j)) := by
    intro j hj
    match j, hj with
    | 0, _ => exact (va_eqt (gz_l (gz_r (gz_l (gz_r (gz_l (gz_r (gz_l (gz_l (gz_r (gz_l (gz_l (gz_r h))))))))))))).trans (congrArg some (congrArg Value.int (by decide)))
    | 1, _ => exact (va_eqt (gz_r (gz_r (gz_l (gz_r (gz_l (gz_r (gz_l (gz_l (gz_r (gz_l (gz_l (gz_r h))))))))))))).trans (congrArg some (congrArg Value.int (by decide)))
    | 2, _ => exact (va_eqt (gz_l (gz_r (gz_r (gz_l (gz_r (gz_l (gz_l (gz_r (gz_l (gz_l (gz_r h)))))))))))).trans (congrArg some (congrArg Value.int (by decide)))
    | 3, _ => exact (va_eqt (gz_l (gz_r (gz_r (gz_r (gz_l (gz_r (gz_l (gz_l (gz_r (gz_l (gz_l (gz_r h))))))))))))).trans (congrArg some (congrArg Value.int (by decide)))
    | 4, _ => exact (va_eqt (gz_r (gz_r (gz_r (gz_r (gz_l (gz_r (gz_l (gz_l (gz_r (gz_l (gz_l (gz_r h))))))))))))).trans (congrArg some (congrArg Value.int (by decide)))
    | 5, _ => exact (va_eqt (gz_l (gz_l (gz_l (gz_r (gz_r (gz_l (gz_l (gz_r (gz_l (gz_l (gz_r h)))))))))))).trans (congrArg some (congrArg Value.int (by decide)))
    | 6, _ => exact (va_eqt (gz_l (gz_r (gz_l (gz_l (gz_r (gz_r (gz_l (gz_l (gz_r (gz_l (gz_l (gz_r h))))))))))))).trans (congrArg some (congrArg Value.int (by decide)))
    | 7, _ => exact (va_eqt (gz_r (gz_r (gz_l (gz_l (gz_r (gz_r (gz_l (gz_l (gz_r (gz_l (gz_l (gz_r h))))))))))))).trans (congrArg some (congrArg Value.int (by decide)))
    | 8, _ => exact (va_eqt (gz_l (gz_r (gz_l (gz_r (gz_r (gz_l (gz_l (gz_r (gz_l (gz_l (gz_r h)))))))))))).trans (congrArg some (congrArg Value.int (by decide)))
    | 9, _ => exact (va_eqt (gz_l (gz_r (gz_r (gz_l (gz_r (gz_r (gz_l (gz_l (gz_r (gz_l (gz_l (gz_r h))))))))))))).trans (congrArg some (congrArg Value.int (by decide)))
    | 10, _ => exact (va_eqt (gz_r (gz_r (gz_r (gz_l (gz_r (gz_r (gz_l (gz_l (gz_r (gz_l (gz_l (gz_r h))))))))))))).trans (congrArg some (congrArg Value.int (by decide)))
    | k + 11, hj => omega
  obtain ⟨t, ht, hT⟩ := va_Tof (A := A) (f := fun j => .int (gprime j)) (N := 11) (by decide) (gz_r (gz_r (gz_r (gz_l (gz_l (gz_r (gz_l (gz_l (gz_r (gz_l (gz_l (gz_r h)))))))))))) (va_eqt (gz_l (gz_l (gz_r (gz_l (gz_r (gz_l (gz_l (gz_r (gz_l (gz_l (gz_r h)))))))))))) hel hA
  exact ⟨t, va_Zof (hts _ (gpc4 (List.mem_of_getElem? (i := 19) rfl))) (hts _ (gpc1 (List.mem_of_getElem? (i := 15) rfl))) ht hA, hT⟩
theorem gz_pr2 (hts : gHt s b) (h : gHg s b) (hA : ∀ a : Nat, a < s.heap.size → ¬ A a) : ∃ t : Nat, va_Z "ToeplitzLabLaw" "PRIMES" "[I" (.ref t) A s s.heap ∧ va_T .int t 11 (fun j => .int (gprime j)) A s s.heap := by
  have hel : ∀ j : Nat, j < 11 → (Term.elem (Term.static "ToeplitzLabLaw" "PRIMES" "[I") (.int (Int32.ofNat j))).eval #[Value.ref b] s none [] s = some (.int (gprime j)) := by
    intro j hj
    match j, hj with
    | 0, _ => exact (va_eqt (gz_l (gz_r (gz_r (gz_r (gz_l (gz_l (gz_l (gz_l (gz_l (gz_l (gz_l (gz_r h))))))))))))).trans (congrArg some (congrArg Value.int (by decide)))
    | 1, _ => exact (va_eqt (gz_r (gz_r (gz_r (gz_r (gz_l (gz_l (gz_l (gz_l (gz_l (gz_l (gz_l (gz_r h))))))))))))).trans (congrArg some (congrArg Value.int (by decide)))
    | 2, _ => exact (va_eqt (gz_l (gz_l (gz_l (gz_r (gz_l (gz_l (gz_l (gz_l (gz_l (gz_l (gz_r h)))))))))))).trans (congrArg some (congrArg Value.int (by decide)))
    | 3, _ => exact (va_eqt (gz_l (gz_r (gz_l (gz_l (gz_r (gz_l (gz_l (gz_l (gz_l (gz_l (gz_l (gz_r h))))))))))))).trans (congrArg some (congrArg Value.int (by decide)))
    | 4, _ => exact (va_eqt (gz_r (gz_r (gz_l (gz_l (gz_r (gz_l (gz_l (gz_l (gz_l (gz_l (gz_l (gz_r h))))))))))))).trans (congrArg some (congrArg Value.int (by decide)))
    | 5, _ => exact (va_eqt (gz_l (gz_r (gz_l (gz_r (gz_l (gz_l (gz_l (gz_l (gz_l (gz_l (gz_r h)))))))))))).trans (congrArg some (congrArg Value.int (by decide)))
    | 6, _ => exact (va_eqt (gz_l (gz_r (gz_r (gz_l (gz_r (gz_l (gz_l (gz_l (gz_l (gz_l (gz_l (gz_r h))))))))))))).trans (congrArg some (congrArg Value.int (by decide)))
    | 7, _ => exact (va_eqt (gz_r (gz_r (gz_r (gz_l (gz_r (gz_l (gz_l (gz_l (gz_l (gz_l (gz_l (gz_r h))))))))))))).trans (congrArg some (congrArg Value.int (by decide)))
    | 8, _ => exact (va_eqt (gz_l (gz_l (gz_r (gz_r (gz_l (gz_l (gz_l (gz_l (gz_l (gz_l (gz_r h)))))))))))).trans (congrArg some (congrArg Value.int (by decide)))
    | 9, _ => exact (va_eqt (gz_l (gz_r (gz_l (gz_r (gz_r (gz_l (gz_l (gz_l (gz_l (gz_l (gz_l (gz_r h))))))))))))).trans (congrArg some (congrArg Value.int (by decide)))
    | 10, _ => exact (va_eqt (gz_r (gz_r (gz_l (gz_r (gz_r (gz_l (gz_l (gz_l (gz_l (gz_l (gz_l (gz_r h))))))))))))).trans (congrArg some (congrArg Value.int (by decide)))
    | k + 11, hj => omega
  obtain ⟨t, ht, hT⟩ := va_Tof (A := A) (f := fun j => .int (gprime j)) (N := 11) (by decide) (gz_r (gz_r (gz_l (gz_r (gz_l (gz_l (gz_l (gz_l (gz_l (gz_l (gz_l (gz_r h)))))))))))) (va_eqt (gz_l (gz_r (gz_r (gz_l (gz_l (gz_l (gz_l (gz_l (gz_l (gz_l (gz_r h)))))))))))) hel hA
  exact ⟨t, va_Zof (hts _ (gpc3 (List.mem_of_getElem? (i := 13) rfl))) (hts _ (gpc1 (List.mem_of_getElem? (i := 0) rfl))) ht hA, hT⟩
theorem gz_d1 (hts : gHt s b) (h : gHg s b) (hA : ∀ a : Nat, a < s.heap.size → ¬ A a) : ∃ t : Nat, va_Z "java/lang/Integer" "DigitOnes" "[B" (.ref t) A s s.heap ∧ va_T .byte t 100 (fun j => .int (gi (48 + (j % 10 : Nat)))) A s s.heap := by
  have hel : ∀ j : Nat, j < 100 → (Term.elem (Term.static "java/lang/Integer" "DigitOnes" "[B") (.int (Int32.ofNat j))).eval #[Value.ref b] s none [] s = some (.int (gi (48 + (j % 10 : Nat)))) := by
    intro j hj
    match j, hj with
    | 0, _ => exact (va_eqt (gz_r (gz_r (gz_r (gz_r (gz_r (gz_l (gz_l (gz_l (gz_l (gz_l (gz_l (gz_r h))))))))))))).trans (congrArg some (congrArg Value.int (by decide)))
    | 1, _ => exact (va_eqt (gz_l (gz_l (gz_l (gz_l (gz_r (gz_l (gz_l (gz_l (gz_l (gz_l (gz_r h)))))))))))).trans (congrArg some (congrArg Value.int (by decide)))
    | 2, _ => exact (va_eqt (gz_l (gz_r (gz_l (gz_l (gz_l (gz_r (gz_l (gz_l (gz_l (gz_l (gz_l (gz_r h))))))))))))).trans (congrArg some (congrArg Value.int (by decide)))
    | 3, _ => exact (va_eqt (gz_r (gz_r (gz_l (gz_l (gz_l (gz_r (gz_l (gz_l (gz_l (gz_l (gz_l (gz_r h))))))))))))).trans (congrArg some (congrArg Value.int (by decide)))
    | 4, _ => exact (va_eqt (gz_l (gz_r (gz_l (gz_l (gz_r (gz_l (gz_l (gz_l (gz_l (gz_l (gz_r h)))))))))))).trans (congrArg some (congrArg Value.int (by decide)))
    | 5, _ => exact (va_eqt (gz_l (gz_r (gz_r (gz_l (gz_l (gz_r (gz_l (gz_l (gz_l (gz_l (gz_l (gz_r h))))))))))))).trans (congrArg some (congrArg Value.int (by decide)))
    | 6, _ => exact (va_eqt (gz_r (gz_r (gz_r (gz_l (gz_l (gz_r (gz_l (gz_l (gz_l (gz_l (gz_l (gz_r h))))))))))))).trans (congrArg some (congrArg Value.int (by decide)))
    | 7, _ => exact (va_eqt (gz_l (gz_l (gz_r (gz_l (gz_r (gz_l (gz_l (gz_l (gz_l (gz_l (gz_r h)))))))))))).trans (congrArg some (congrArg Value.int (by decide)))
    | 8, _ => exact (va_eqt (gz_l (gz_r (gz_l (gz_r (gz_l (gz_r (gz_l (gz_l (gz_l (gz_l (gz_l (gz_r h))))))))))))).trans (congrArg some (congrArg Value.int (by decide)))
    | 9, _ => exact (va_eqt (gz_r (gz_r (gz_l (gz_r (gz_l (gz_r (gz_l (gz_l (gz_l (gz_l (gz_l (gz_r h))))))))))))).trans (congrArg some (congrArg Value.int (by decide)))
    | 10, _ => exact (va_eqt (gz_l (gz_r (gz_r (gz_l (gz_r (gz_l (gz_l (gz_l (gz_l (gz_l (gz_r h)))))))))))).trans (congrArg some (congrArg Value.int (by decide)))
    | 11, _ => exact (va_eqt (gz_l (gz_r (gz_r (gz_r (gz_l (gz_r (gz_l (gz_l (gz_l (gz_l (gz_l (gz_r h))))))))))))).trans (congrArg some (congrArg Value.int (by decide)))
    | 12, _ => exact (va_eqt (gz_r (gz_r (gz_r (gz_r (gz_l (gz_r (gz_l (gz_l (gz_l (gz_l (gz_l (gz_r h))))))))))))).trans (congrArg some (congrArg Value.int (by decide)))
    | 13, _ => exact (va_eqt (gz_l (gz_l (gz_l (gz_r (gz_r (gz_l (gz_l (gz_l (gz_l (gz_l (gz_r h)))))))))))).trans (congrArg some (congrArg Value.int (by decide)))
    | 14, _ => exact (va_eqt (gz_l (gz_r (gz_l (gz_l (gz_r (gz_r (gz_l (gz_l (gz_l (gz_l (gz_l (gz_r h))))))))))))).trans (congrArg some (congrArg Value.int (by decide)))
    | 15, _ => exact (va_eqt (gz_r (gz_r (gz_l (gz_l (gz_r (gz_r (gz_l (gz_l (gz_l (gz_l (gz_l (gz_r h))))))))))))).trans (congrArg some (congrArg Value.int (by decide)))
    | 16, _ => exact (va_eqt (gz_l (gz_r (gz_l (gz_r (gz_r (gz_l (gz_l (gz_l (gz_l (gz_l (gz_r h)))))))))))).trans (congrArg some (congrArg Value.int (by decide)))
    | 17, _ => exact (va_eqt (gz_l (gz_r (gz_r (gz_l (gz_r (gz_r (gz_l (gz_l (gz_l (gz_l (gz_l (gz_r h))))))))))))).trans (congrArg some (congrArg Value.int (by decide)))
    | 18, _ => exact (va_eqt (gz_r (gz_r (gz_r (gz_l (gz_r (gz_r (gz_l (gz_l (gz_l (gz_l (gz_l (gz_r h))))))))))))).trans (congrArg some (congrArg Value.int (by decide)))
    | 19, _ => exact (va_eqt (gz_l (gz_l (gz_r (gz_r (gz_r (gz_l (gz_l (gz_l (gz_l (gz_l (gz_r h)))))))))))).trans (congrArg some (congrArg Value.int (by decide)))
    | 20, _ => exact (va_eqt (gz_l (gz_r (gz_l (gz_r (gz_r (gz_r (gz_l (gz_l (gz_l (gz_l (gz_l (gz_r h))))))))))))).trans (congrArg some (congrArg Value.int (by decide)))
    | 21, _ => exact (va_eqt (gz_r (gz_r (gz_l (gz_r (gz_r (gz_r (gz_l (gz_l (gz_l (gz_l (gz_l (gz_r h))))))))))))).trans (congrArg some (congrArg Value.int (by decide)))
    | 22, _ => exact (va_eqt (gz_l (gz_l (gz_r (gz_r (gz_r (gz_r (gz_l (gz_l (gz_l (gz_l (gz_l (gz_r h))))))))))))).trans (congrArg some (congrArg Value.int (by decide)))
    | 23, _ => exact (va_eqt (gz_r (gz_l (gz_r (gz_r (gz_r (gz_r (gz_l (gz_l (gz_l (gz_l (gz_l (gz_r h))))))))))))).trans (congrArg some (congrArg Value.int (by decide)))
    | 24, _ => exact (va_eqt (gz_l (gz_r (gz_r (gz_r (gz_r (gz_r (gz_l (gz_l (gz_l (gz_l (gz_l (gz_r h))))))))))))).trans (congrArg some (congrArg Value.int (by decide)))
    | 25, _ => exact (va_eqt (gz_r (gz_r (gz_r (gz_r (gz_r (gz_r (gz_l (gz_l (gz_l (gz_l (gz_l (gz_r h))))))))))))).trans (congrArg some (congrArg Value.int (by decide)))
    | 26, _ => exact (va_eqt (gz_l (gz_l (gz_l (gz_l (gz_l (gz_r (gz_l (gz_l (gz_l (gz_l (gz_r h)))))))))))).trans (congrArg some (congrArg Value.int (by decide)))
    | 27, _ => exact (va_eqt (gz_l (gz_r (gz_l (gz_l (gz_l (gz_l (gz_r (gz_l (gz_l (gz_l (gz_l (gz_r h))))))))))))).trans (congrArg some (congrArg Value.int (by decide)))
    | 28, _ => exact (va_eqt (gz_r (gz_r (gz_l (gz_l (gz_l (gz_l (gz_r (gz_l (gz_l (gz_l (gz_l (gz_r h))))))))))))).trans (congrArg some (congrArg Value.int (by decide)))
    | 29, _ => exact (va_eqt (gz_l (gz_r (gz_l (gz_l (gz_l (gz_r (gz_l (gz_l (gz_l (gz_l (gz_r h)))))))))))).trans (congrArg some (congrArg Value.int (by decide)))
    | 30, _ => exact (va_eqt (gz_l (gz_r (gz_r (gz_l (gz_l (gz_l (gz_r (gz_l (gz_l (gz_l (gz_l (gz_r h))))))))))))).trans (congrArg some (congrArg Value.int (by decide)))
    | 31, _ => exact (va_eqt (gz_r (gz_r (gz_r (gz_l (gz_l (gz_l (gz_r (gz_l (gz_l (gz_l (gz_l (gz_r h))))))))))))).trans (congrArg some (congrArg Value.int (by decide)))
    | 32, _ => exact (va_eqt (gz_l (gz_l (gz_r (gz_l (gz_l (gz_r (gz_l (gz_l (gz_l (gz_l (gz_r h)))))))))))).trans (congrArg some (congrArg Value.int (by decide)))
    | 33, _ => exact (va_eqt (gz_l (gz_r (gz_l (gz_r (gz_l (gz_l (gz_r (gz_l (gz_l (gz_l (gz_l (gz_r h))))))))))))).trans (congrArg some (congrArg Value.int (by decide)))
    | 34, _ => exact (va_eqt (gz_r (gz_r (gz_l (gz_r (gz_l (gz_l (gz_r (gz_l (gz_l (gz_l (gz_l (gz_r h))))))))))))).trans (congrArg some (congrArg Value.int (by decide)))
    | 35, _ => exact (va_eqt (gz_l (gz_r (gz_r (gz_l (gz_l (gz_r (gz_l (gz_l (gz_l (gz_l (gz_r h)))))))))))).trans (congrArg some (congrArg Value.int (by decide)))
    | 36, _ => exact (va_eqt (gz_l (gz_r (gz_r (gz_r (gz_l (gz_l (gz_r (gz_l (gz_l (gz_l (gz_l (gz_r h))))))))))))).trans (congrArg some (congrArg Value.int (by decide)))
    | 37, _ => exact (va_eqt (gz_r (gz_r (gz_r (gz_r (gz_l (gz_l (gz_r (gz_l (gz_l (gz_l (gz_l (gz_r h))))))))))))).trans (congrArg some (congrArg Value.int (by decide)))
    | 38, _ => exact (va_eqt (gz_l (gz_l (gz_l (gz_r (gz_l (gz_r (gz_l (gz_l (gz_l (gz_l (gz_r h)))))))))))).trans (congrArg some (congrArg Value.int (by decide)))
    | 39, _ => exact (va_eqt (gz_l (gz_r (gz_l (gz_l (gz_r (gz_l (gz_r (gz_l (gz_l (gz_l (gz_l (gz_r h))))))))))))).trans (congrArg some (congrArg Value.int (by decide)))
    | 40, _ => exact (va_eqt (gz_r (gz_r (gz_l (gz_l (gz_r (gz_l (gz_r (gz_l (gz_l (gz_l (gz_l (gz_r h))))))))))))).trans (congrArg some (congrArg Value.int (by decide)))
    | 41, _ => exact (va_eqt (gz_l (gz_r (gz_l (gz_r (gz_l (gz_r (gz_l (gz_l (gz_l (gz_l (gz_r h)))))))))))).trans (congrArg some (congrArg Value.int (by decide)))
    | 42, _ => exact (va_eqt (gz_l (gz_r (gz_r (gz_l (gz_r (gz_l (gz_r (gz_l (gz_l (gz_l (gz_l (gz_r h))))))))))))).trans (congrArg some (congrArg Value.int (by decide)))
    | 43, _ => exact (va_eqt (gz_r (gz_r (gz_r (gz_l (gz_r (gz_l (gz_r (gz_l (gz_l (gz_l (gz_l (gz_r h))))))))))))).trans (congrArg some (congrArg Value.int (by decide)))
    | 44, _ => exact (va_eqt (gz_l (gz_l (gz_r (gz_r (gz_l (gz_r (gz_l (gz_l (gz_l (gz_l (gz_r h)))))))))))).trans (congrArg some (congrArg Value.int (by decide)))
    | 45, _ => exact (va_eqt (gz_l (gz_r (gz_l (gz_r (gz_r (gz_l (gz_r (gz_l (gz_l (gz_l (gz_l (gz_r h))))))))))))).trans (congrArg some (congrArg Value.int (by decide)))
    | 46, _ => exact (va_eqt (gz_r (gz_r (gz_l (gz_r (gz_r (gz_l (gz_r (gz_l (gz_l (gz_l (gz_l (gz_r h))))))))))))).trans (congrArg some (congrArg Value.int (by decide)))
    | 47, _ => exact (va_eqt (gz_l (gz_l (gz_r (gz_r (gz_r (gz_l (gz_r (gz_l (gz_l (gz_l (gz_l (gz_r h))))))))))))).trans (congrArg some (congrArg Value.int (by decide)))
    | 48, _ => exact (va_eqt (gz_r (gz_l (gz_r (gz_r (gz_r (gz_l (gz_r (gz_l (gz_l (gz_l (gz_l (gz_r h))))))))))))).trans (congrArg some (congrArg Value.int (by decide)))
    | 49, _ => exact (va_eqt (gz_l (gz_r (gz_r (gz_r (gz_r (gz_l (gz_r (gz_l (gz_l (gz_l (gz_l (gz_r h))))))))))))).trans (congrArg some (congrArg Value.int (by decide)))
    | 50, _ => exact (va_eqt (gz_r (gz_r (gz_r (gz_r (gz_r (gz_l (gz_r (gz_l (gz_l (gz_l (gz_l (gz_r h))))))))))))).trans (congrArg some (congrArg Value.int (by decide)))
    | 51, _ => exact (va_eqt (gz_l (gz_l (gz_l (gz_l (gz_r (gz_r (gz_l (gz_l (gz_l (gz_l (gz_r h)))))))))))).trans (congrArg some (congrArg Value.int (by decide)))
    | 52, _ => exact (va_eqt (gz_l (gz_r (gz_l (gz_l (gz_l (gz_r (gz_r (gz_l (gz_l (gz_l (gz_l (gz_r h))))))))))))).trans (congrArg some (congrArg Value.int (by decide)))
    | 53, _ => exact (va_eqt (gz_r (gz_r (gz_l (gz_l (gz_l (gz_r (gz_r (gz_l (gz_l (gz_l (gz_l (gz_r h))))))))))))).trans (congrArg some (congrArg Value.int (by decide)))
    | 54, _ => exact (va_eqt (gz_l (gz_r (gz_l (gz_l (gz_r (gz_r (gz_l (gz_l (gz_l (gz_l (gz_r h)))))))))))).trans (congrArg some (congrArg Value.int (by decide)))
    | 55, _ => exact (va_eqt (gz_l (gz_r (gz_r (gz_l (gz_l (gz_r (gz_r (gz_l (gz_l (gz_l (gz_l (gz_r h))))))))))))).trans (congrArg some (congrArg Value.int (by decide)))
    | 56, _ => exact (va_eqt (gz_r (gz_r (gz_r (gz_l (gz_l (gz_r (gz_r (gz_l (gz_l (gz_l (gz_l (gz_r h))))))))))))).trans (congrArg some (congrArg Value.int (by decide)))
    | 57, _ => exact (va_eqt (gz_l (gz_l (gz_r (gz_l (gz_r (gz_r (gz_l (gz_l (gz_l (gz_l (gz_r h)))))))))))).trans (congrArg some (congrArg Value.int (by decide)))
    | 58, _ => exact (va_eqt (gz_l (gz_r (gz_l (gz_r (gz_l (gz_r (gz_r (gz_l (gz_l (gz_l (gz_l (gz_r h))))))))))))).trans (congrArg some (congrArg Value.int (by decide)))
    | 59, _ => exact (va_eqt (gz_r (gz_r (gz_l (gz_r (gz_l (gz_r (gz_r (gz_l (gz_l (gz_l (gz_l (gz_r h))))))))))))).trans (congrArg some (congrArg Value.int (by decide)))
    | 60, _ => exact (va_eqt (gz_l (gz_r (gz_r (gz_l (gz_r (gz_r (gz_l (gz_l (gz_l (gz_l (gz_r h)))))))))))).trans (congrArg some (congrArg Value.int (by decide)))
    | 61, _ => exact (va_eqt (gz_l (gz_r (gz_r (gz_r (gz_l (gz_r (gz_r (gz_l (gz_l (gz_l (gz_l (gz_r h))))))))))))).trans (congrArg some (congrArg Value.int (by decide)))
    | 62, _ => exact (va_eqt (gz_r (gz_r (gz_r (gz_r (gz_l (gz_r (gz_r (gz_l (gz_l (gz_l (gz_l (gz_r h))))))))))))).trans (congrArg some (congrArg Value.int (by decide)))
    | 63, _ => exact (va_eqt (gz_l (gz_l (gz_l (gz_r (gz_r (gz_r (gz_l (gz_l (gz_l (gz_l (gz_r h)))))))))))).trans (congrArg some (congrArg Value.int (by decide)))
    | 64, _ => exact (va_eqt (gz_l (gz_r (gz_l (gz_l (gz_r (gz_r (gz_r (gz_l (gz_l (gz_l (gz_l (gz_r h))))))))))))).trans (congrArg some (congrArg Value.int (by decide)))
    | 65, _ => exact (va_eqt (gz_r (gz_r (gz_l (gz_l (gz_r (gz_r (gz_r (gz_l (gz_l (gz_l (gz_l (gz_r h))))))))))))).trans (congrArg some (congrArg Value.int (by decide)))
    | 66, _ => exact (va_eqt (gz_l (gz_r (gz_l (gz_r (gz_r (gz_r (gz_l (gz_l (gz_l (gz_l (gz_r h)))))))))))).trans (congrArg some (congrArg Value.int (by decide)))
    | 67, _ => exact (va_eqt (gz_l (gz_r (gz_r (gz_l (gz_r (gz_r (gz_r (gz_l (gz_l (gz_l (gz_l (gz_r h))))))))))))).trans (congrArg some (congrArg Value.int (by decide)))
    | 68, _ => exact (va_eqt (gz_r (gz_r (gz_r (gz_l (gz_r (gz_r (gz_r (gz_l (gz_l (gz_l (gz_l (gz_r h))))))))))))).trans (congrArg some (congrArg Value.int (by decide)))
    | 69, _ => exact (va_eqt (gz_l (gz_l (gz_r (gz_r (gz_r (gz_r (gz_l (gz_l (gz_l (gz_l (gz_r h)))))))))))).trans (congrArg some (congrArg Value.int (by decide)))
    | 70, _ => exact (va_eqt (gz_l (gz_r (gz_l (gz_r (gz_r (gz_r (gz_r (gz_l (gz_l (gz_l (gz_l (gz_r h))))))))))))).trans (congrArg some (congrArg Value.int (by decide)))
    | 71, _ => exact (va_eqt (gz_r (gz_r (gz_l (gz_r (gz_r (gz_r (gz_r (gz_l (gz_l (gz_l (gz_l (gz_r h))))))))))))).trans (congrArg some (congrArg Value.int (by decide)))
    | 72, _ => exact (va_eqt (gz_l (gz_l (gz_r (gz_r (gz_r (gz_r (gz_r (gz_l (gz_l (gz_l (gz_l (gz_r h))))))))))))).trans (congrArg some (congrArg Value.int (by decide)))
    | 73, _ => exact (va_eqt (gz_r (gz_l (gz_r (gz_r (gz_r (gz_r (gz_r (gz_l (gz_l (gz_l (gz_l (gz_r h))))))))))))).trans (congrArg some (congrArg Value.int (by decide)))
    | 74, _ => exact (va_eqt (gz_l (gz_r (gz_r (gz_r (gz_r (gz_r (gz_r (gz_l (gz_l (gz_l (gz_l (gz_r h))))))))))))).trans (congrArg some (congrArg Value.int (by decide)))
    | 75, _ => exact (va_eqt (gz_r (gz_r (gz_r (gz_r (gz_r (gz_r (gz_r (gz_l (gz_l (gz_l (gz_l (gz_r h))))))))))))).trans (congrArg some (congrArg Value.int (by decide)))
    | 76, _ => exact (va_eqt (gz_l (gz_l (gz_l (gz_l (gz_l (gz_l (gz_r (gz_l (gz_l (gz_l (gz_r h)))))))))))).trans (congrArg some (congrArg Value.int (by decide)))
    | 77, _ => exact (va_eqt (gz_l (gz_r (gz_l (gz_l (gz_l (gz_l (gz_l (gz_r (gz_l (gz_l (gz_l (gz_r h))))))))))))).trans (congrArg some (congrArg Value.int (by decide)))
    | 78, _ => exact (va_eqt (gz_r (gz_r (gz_l (gz_l (gz_l (gz_l (gz_l (gz_r (gz_l (gz_l (gz_l (gz_r h))))))))))))).trans (congrArg some (congrArg Value.int (by decide)))
    | 79, _ => exact (va_eqt (gz_l (gz_r (gz_l (gz_l (gz_l (gz_l (gz_r (gz_l (gz_l (gz_l (gz_r h)))))))))))).trans (congrArg some (congrArg Value.int (by decide)))
    | 80, _ => exact (va_eqt (gz_l (gz_r (gz_r (gz_l (gz_l (gz_l (gz_l (gz_r (gz_l (gz_l (gz_l (gz_r h))))))))))))).trans (congrArg some (congrArg Value.int (by decide)))
    | 81, _ => exact (va_eqt (gz_r (gz_r (gz_r (gz_l (gz_l (gz_l (gz_l (gz_r (gz_l (gz_l (gz_l (gz_r h))))))))))))).trans (congrArg some (congrArg Value.int (by decide)))
    | 82, _ => exact (va_eqt (gz_l (gz_l (gz_r (gz_l (gz_l (gz_l (gz_r (gz_l (gz_l (gz_l (gz_r h)))))))))))).trans (congrArg some (congrArg Value.int (by decide)))
    | 83, _ => exact (va_eqt (gz_l (gz_r (gz_l (gz_r (gz_l (gz_l (gz_l (gz_r (gz_l (gz_l (gz_l (gz_r h))))))))))))).trans (congrArg some (congrArg Value.int (by decide)))
    | 84, _ => exact (va_eqt (gz_r (gz_r (gz_l (gz_r (gz_l (gz_l (gz_l (gz_r (gz_l (gz_l (gz_l (gz_r h))))))))))))).trans (congrArg some (congrArg Value.int (by decide)))
    | 85, _ => exact (va_eqt (gz_l (gz_r (gz_r (gz_l (gz_l (gz_l (gz_r (gz_l (gz_l (gz_l (gz_r h)))))))))))).trans (congrArg some (congrArg Value.int (by decide)))
    | 86, _ => exact (va_eqt (gz_l (gz_r (gz_r (gz_r (gz_l (gz_l (gz_l (gz_r (gz_l (gz_l (gz_l (gz_r h))))))))))))).trans (congrArg some (congrArg Value.int (by decide)))
    | 87, _ => exact (va_eqt (gz_r (gz_r (gz_r (gz_r (gz_l (gz_l (gz_l (gz_r (gz_l (gz_l (gz_l (gz_r h))))))))))))).trans (congrArg some (congrArg Value.int (by decide)))
    | 88, _ => exact (va_eqt (gz_l (gz_l (gz_l (gz_r (gz_l (gz_l (gz_r (gz_l (gz_l (gz_l (gz_r h)))))))))))).trans (congrArg some (congrArg Value.int (by decide)))
    | 89, _ => exact (va_eqt (gz_l (gz_r (gz_l (gz_l (gz_r (gz_l (gz_l (gz_r (gz_l (gz_l (gz_l (gz_r h))))))))))))).trans (congrArg some (congrArg Value.int (by decide)))
    | 90, _ => exact (va_eqt (gz_r (gz_r (gz_l (gz_l (gz_r (gz_l (gz_l (gz_r (gz_l (gz_l (gz_l (gz_r h))))))))))))).trans (congrArg some (congrArg Value.int (by decide)))
    | 91, _ => exact (va_eqt (gz_l (gz_r (gz_l (gz_r (gz_l (gz_l (gz_r (gz_l (gz_l (gz_l (gz_r h)))))))))))).trans (congrArg some (congrArg Value.int (by decide)))
    | 92, _ => exact (va_eqt (gz_l (gz_r (gz_r (gz_l (gz_r (gz_l (gz_l (gz_r (gz_l (gz_l (gz_l (gz_r h))))))))))))).trans (congrArg some (congrArg Value.int (by decide)))
    | 93, _ => exact (va_eqt (gz_r (gz_r (gz_r (gz_l (gz_r (gz_l (gz_l (gz_r (gz_l (gz_l (gz_l (gz_r h))))))))))))).trans (congrArg some (congrArg Value.int (by decide)))
    | 94, _ => exact (va_eqt (gz_l (gz_l (gz_r (gz_r (gz_l (gz_l (gz_r (gz_l (gz_l (gz_l (gz_r h)))))))))))).trans (congrArg some (congrArg Value.int (by decide)))
    | 95, _ => exact (va_eqt (gz_l (gz_r (gz_l (gz_r (gz_r (gz_l (gz_l (gz_r (gz_l (gz_l (gz_l (gz_r h))))))))))))).trans (congrArg some (congrArg Value.int (by decide)))
    | 96, _ => exact (va_eqt (gz_r (gz_r (gz_l (gz_r (gz_r (gz_l (gz_l (gz_r (gz_l (gz_l (gz_l (gz_r h))))))))))))).trans (congrArg some (congrArg Value.int (by decide)))
    | 97, _ => exact (va_eqt (gz_l (gz_l (gz_r (gz_r (gz_r (gz_l (gz_l (gz_r (gz_l (gz_l (gz_l (gz_r h))))))))))))).trans (congrArg some (congrArg Value.int (by decide)))
    | 98, _ => exact (va_eqt (gz_r (gz_l (gz_r (gz_r (gz_r (gz_l (gz_l (gz_r (gz_l (gz_l (gz_l (gz_r h))))))))))))).trans (congrArg some (congrArg Value.int (by decide)))
    | 99, _ => exact (va_eqt (gz_l (gz_r (gz_r (gz_r (gz_r (gz_l (gz_l (gz_r (gz_l (gz_l (gz_l (gz_r h))))))))))))).trans (congrArg some (congrArg Value.int (by decide)))
    | k + 100, hj => omega
  obtain ⟨t, ht, hT⟩ := va_Tof (A := A) (f := fun j => .int (gi (48 + (j % 10 : Nat)))) (N := 100) (by decide) (gz_r (gz_l (gz_r (gz_r (gz_r (gz_l (gz_l (gz_l (gz_l (gz_l (gz_l (gz_r h)))))))))))) (va_eqt (gz_l (gz_r (gz_r (gz_r (gz_r (gz_l (gz_l (gz_l (gz_l (gz_l (gz_l (gz_r h))))))))))))) hel hA
  exact ⟨t, va_Zof (hts _ (gpc3 (List.mem_of_getElem? (i := 28) rfl))) (hts _ (gpc1 (List.mem_of_getElem? (i := 14) rfl))) ht hA, hT⟩
theorem gz_d2 (hts : gHt s b) (h : gHg s b) (hA : ∀ a : Nat, a < s.heap.size → ¬ A a) : ∃ t : Nat, va_Z "java/lang/Integer" "DigitTens" "[B" (.ref t) A s s.heap ∧ va_T .byte t 100 (fun j => .int (gi (48 + (j / 10 : Nat)))) A s s.heap := by
  have hel : ∀ j : Nat, j < 100 → (Term.elem (Term.static "java/lang/Integer" "DigitTens" "[B") (.int (Int32.ofNat j))).eval #[Value.ref b] s none [] s = some (.int (gi (48 + (j / 10 : Nat)))) := by
    intro j hj
    match j, hj with
    | 0, _ => exact (va_eqt (gz_r (gz_r (gz_l (gz_l (gz_l (gz_r (gz_l (gz_r (gz_l (gz_l (gz_l (gz_r h))))))))))))).trans (congrArg some (congrArg Value.int (by decide)))
    | 1, _ => exact (va_eqt (gz_l (gz_r (gz_l (gz_l (gz_r (gz_l (gz_r (gz_l (gz_l (gz_l (gz_r h)))))))))))).trans (congrArg some (congrArg Value.int (by decide)))
    | 2, _ => exact (va_eqt (gz_l (gz_r (gz_r (gz_l (gz_l (gz_r (gz_l (gz_r (gz_l (gz_l (gz_l (gz_r h))))))))))))).trans (congrArg some (congrArg Value.int (by decide)))
    | 3, _ => exact (va_eqt (gz_r (gz_r (gz_r (gz_l (gz_l (gz_r (gz_l (gz_r (gz_l (gz_l (gz_l (gz_r h))))))))))))).trans (congrArg some (congrArg Value.int (by decide)))
    | 4, _ => exact (va_eqt (gz_l (gz_l (gz_r (gz_l (gz_r (gz_l (gz_r (gz_l (gz_l (gz_l (gz_r h)))))))))))).trans (congrArg some (congrArg Value.int (by decide)))
    | 5, _ => exact (va_eqt (gz_l (gz_r (gz_l (gz_r (gz_l (gz_r (gz_l (gz_r (gz_l (gz_l (gz_l (gz_r h))))))))))))).trans (congrArg some (congrArg Value.int (by decide)))
    | 6, _ => exact (va_eqt (gz_r (gz_r (gz_l (gz_r (gz_l (gz_r (gz_l (gz_r (gz_l (gz_l (gz_l (gz_r h))))))))))))).trans (congrArg some (congrArg Value.int (by decide)))
    | 7, _ => exact (va_eqt (gz_l (gz_r (gz_r (gz_l (gz_r (gz_l (gz_r (gz_l (gz_l (gz_l (gz_r h)))))))))))).trans (congrArg some (congrArg Value.int (by decide)))
    | 8, _ => exact (va_eqt (gz_l (gz_r (gz_r (gz_r (gz_l (gz_r (gz_l (gz_r (gz_l (gz_l (gz_l (gz_r h))))))))))))).trans (congrArg some (congrArg Value.int (by decide)))
    | 9, _ => exact (va_eqt (gz_r (gz_r (gz_r (gz_r (gz_l (gz_r (gz_l (gz_r (gz_l (gz_l (gz_l (gz_r h))))))))))))).trans (congrArg some (congrArg Value.int (by decide)))
    | 10, _ => exact (va_eqt (gz_l (gz_l (gz_l (gz_r (gz_r (gz_l (gz_r (gz_l (gz_l (gz_l (gz_r h)))))))))))).trans (congrArg some (congrArg Value.int (by decide)))
    | 11, _ => exact (va_eqt (gz_l (gz_r (gz_l (gz_l (gz_r (gz_r (gz_l (gz_r (gz_l (gz_l (gz_l (gz_r h))))))))))))).trans (congrArg some (congrArg Value.int (by decide)))
    | 12, _ => exact (va_eqt (gz_r (gz_r (gz_l (gz_l (gz_r (gz_r (gz_l (gz_r (gz_l (gz_l (gz_l (gz_r h))))))))))))).trans (congrArg some (congrArg Value.int (by decide)))
    | 13, _ => exact (va_eqt (gz_l (gz_r (gz_l (gz_r (gz_r (gz_l (gz_r (gz_l (gz_l (gz_l (gz_r h)))))))))))).trans (congrArg some (congrArg Value.int (by decide)))
    | 14, _ => exact (va_eqt (gz_l (gz_r (gz_r (gz_l (gz_r (gz_r (gz_l (gz_r (gz_l (gz_l (gz_l (gz_r h))))))))))))).trans (congrArg some (congrArg Value.int (by decide)))
    | 15, _ => exact (va_eqt (gz_r (gz_r (gz_r (gz_l (gz_r (gz_r (gz_l (gz_r (gz_l (gz_l (gz_l (gz_r h))))))))))))).trans (congrArg some (congrArg Value.int (by decide)))
    | 16, _ => exact (va_eqt (gz_l (gz_l (gz_r (gz_r (gz_r (gz_l (gz_r (gz_l (gz_l (gz_l (gz_r h)))))))))))).trans (congrArg some (congrArg Value.int (by decide)))
    | 17, _ => exact (va_eqt (gz_l (gz_r (gz_l (gz_r (gz_r (gz_r (gz_l (gz_r (gz_l (gz_l (gz_l (gz_r h))))))))))))).trans (congrArg some (congrArg Value.int (by decide)))
    | 18, _ => exact (va_eqt (gz_r (gz_r (gz_l (gz_r (gz_r (gz_r (gz_l (gz_r (gz_l (gz_l (gz_l (gz_r h))))))))))))).trans (congrArg some (congrArg Value.int (by decide)))
    | 19, _ => exact (va_eqt (gz_l (gz_l (gz_r (gz_r (gz_r (gz_r (gz_l (gz_r (gz_l (gz_l (gz_l (gz_r h))))))))))))).trans (congrArg some (congrArg Value.int (by decide)))
    | 20, _ => exact (va_eqt (gz_r (gz_l (gz_r (gz_r (gz_r (gz_r (gz_l (gz_r (gz_l (gz_l (gz_l (gz_r h))))))))))))).trans (congrArg some (congrArg Value.int (by decide)))
    | 21, _ => exact (va_eqt (gz_l (gz_r (gz_r (gz_r (gz_r (gz_r (gz_l (gz_r (gz_l (gz_l (gz_l (gz_r h))))))))))))).trans (congrArg some (congrArg Value.int (by decide)))
    | 22, _ => exact (va_eqt (gz_r (gz_r (gz_r (gz_r (gz_r (gz_r (gz_l (gz_r (gz_l (gz_l (gz_l (gz_r h))))))))))))).trans (congrArg some (congrArg Value.int (by decide)))
    | 23, _ => exact (va_eqt (gz_l (gz_l (gz_l (gz_l (gz_l (gz_r (gz_r (gz_l (gz_l (gz_l (gz_r h)))))))))))).trans (congrArg some (congrArg Value.int (by decide)))
    | 24, _ => exact (va_eqt (gz_l (gz_r (gz_l (gz_l (gz_l (gz_l (gz_r (gz_r (gz_l (gz_l (gz_l (gz_r h))))))))))))).trans (congrArg some (congrArg Value.int (by decide)))
    | 25, _ => exact (va_eqt (gz_r (gz_r (gz_l (gz_l (gz_l (gz_l (gz_r (gz_r (gz_l (gz_l (gz_l (gz_r h))))))))))))).trans (congrArg some (congrArg Value.int (by decide)))
    | 26, _ => exact (va_eqt (gz_l (gz_r (gz_l (gz_l (gz_l (gz_r (gz_r (gz_l (gz_l (gz_l (gz_r h)))))))))))).trans (congrArg some (congrArg Value.int (by decide)))
    | 27, _ => exact (va_eqt (gz_l (gz_r (gz_r (gz_l (gz_l (gz_l (gz_r (gz_r (gz_l (gz_l (gz_l (gz_r h))))))))))))).trans (congrArg some (congrArg Value.int (by decide)))
    | 28, _ => exact (va_eqt (gz_r (gz_r (gz_r (gz_l (gz_l (gz_l (gz_r (gz_r (gz_l (gz_l (gz_l (gz_r h))))))))))))).trans (congrArg some (congrArg Value.int (by decide)))
    | 29, _ => exact (va_eqt (gz_l (gz_l (gz_r (gz_l (gz_l (gz_r (gz_r (gz_l (gz_l (gz_l (gz_r h)))))))))))).trans (congrArg some (congrArg Value.int (by decide)))
    | 30, _ => exact (va_eqt (gz_l (gz_r (gz_l (gz_r (gz_l (gz_l (gz_r (gz_r (gz_l (gz_l (gz_l (gz_r h))))))))))))).trans (congrArg some (congrArg Value.int (by decide)))
    | 31, _ => exact (va_eqt (gz_r (gz_r (gz_l (gz_r (gz_l (gz_l (gz_r (gz_r (gz_l (gz_l (gz_l (gz_r h))))))))))))).trans (congrArg some (congrArg Value.int (by decide)))
    | 32, _ => exact (va_eqt (gz_l (gz_r (gz_r (gz_l (gz_l (gz_r (gz_r (gz_l (gz_l (gz_l (gz_r h)))))))))))).trans (congrArg some (congrArg Value.int (by decide)))
    | 33, _ => exact (va_eqt (gz_l (gz_r (gz_r (gz_r (gz_l (gz_l (gz_r (gz_r (gz_l (gz_l (gz_l (gz_r h))))))))))))).trans (congrArg some (congrArg Value.int (by decide)))
    | 34, _ => exact (va_eqt (gz_r (gz_r (gz_r (gz_r (gz_l (gz_l (gz_r (gz_r (gz_l (gz_l (gz_l (gz_r h))))))))))))).trans (congrArg some (congrArg Value.int (by decide)))
    | 35, _ => exact (va_eqt (gz_l (gz_l (gz_l (gz_r (gz_l (gz_r (gz_r (gz_l (gz_l (gz_l (gz_r h)))))))))))).trans (congrArg some (congrArg Value.int (by decide)))
    | 36, _ => exact (va_eqt (gz_l (gz_r (gz_l (gz_l (gz_r (gz_l (gz_r (gz_r (gz_l (gz_l (gz_l (gz_r h))))))))))))).trans (congrArg some (congrArg Value.int (by decide)))
    | 37, _ => exact (va_eqt (gz_r (gz_r (gz_l (gz_l (gz_r (gz_l (gz_r (gz_r (gz_l (gz_l (gz_l (gz_r h))))))))))))).trans (congrArg some (congrArg Value.int (by decide)))
    | 38, _ => exact (va_eqt (gz_l (gz_r (gz_l (gz_r (gz_l (gz_r (gz_r (gz_l (gz_l (gz_l (gz_r h)))))))))))).trans (congrArg some (congrArg Value.int (by decide)))
    | 39, _ => exact (va_eqt (gz_l (gz_r (gz_r (gz_l (gz_r (gz_l (gz_r (gz_r (gz_l (gz_l (gz_l (gz_r h))))))))))))).trans (congrArg some (congrArg Value.int (by decide)))
    | 40, _ => exact (va_eqt (gz_r (gz_r (gz_r (gz_l (gz_r (gz_l (gz_r (gz_r (gz_l (gz_l (gz_l (gz_r h))))))))))))).trans (congrArg some (congrArg Value.int (by decide)))
    | 41, _ => exact (va_eqt (gz_l (gz_l (gz_r (gz_r (gz_l (gz_r (gz_r (gz_l (gz_l (gz_l (gz_r h)))))))))))).trans (congrArg some (congrArg Value.int (by decide)))
    | 42, _ => exact (va_eqt (gz_l (gz_r (gz_l (gz_r (gz_r (gz_l (gz_r (gz_r (gz_l (gz_l (gz_l (gz_r h))))))))))))).trans (congrArg some (congrArg Value.int (by decide)))
    | 43, _ => exact (va_eqt (gz_r (gz_r (gz_l (gz_r (gz_r (gz_l (gz_r (gz_r (gz_l (gz_l (gz_l (gz_r h))))))))))))).trans (congrArg some (congrArg Value.int (by decide)))
    | 44, _ => exact (va_eqt (gz_l (gz_l (gz_r (gz_r (gz_r (gz_l (gz_r (gz_r (gz_l (gz_l (gz_l (gz_r h))))))))))))).trans (congrArg some (congrArg Value.int (by decide)))
    | 45, _ => exact (va_eqt (gz_r (gz_l (gz_r (gz_r (gz_r (gz_l (gz_r (gz_r (gz_l (gz_l (gz_l (gz_r h))))))))))))).trans (congrArg some (congrArg Value.int (by decide)))
    | 46, _ => exact (va_eqt (gz_l (gz_r (gz_r (gz_r (gz_r (gz_l (gz_r (gz_r (gz_l (gz_l (gz_l (gz_r h))))))))))))).trans (congrArg some (congrArg Value.int (by decide)))
    | 47, _ => exact (va_eqt (gz_r (gz_r (gz_r (gz_r (gz_r (gz_l (gz_r (gz_r (gz_l (gz_l (gz_l (gz_r h))))))))))))).trans (congrArg some (congrArg Value.int (by decide)))
    | 48, _ => exact (va_eqt (gz_l (gz_l (gz_l (gz_l (gz_r (gz_r (gz_r (gz_l (gz_l (gz_l (gz_r h)))))))))))).trans (congrArg some (congrArg Value.int (by decide)))
    | 49, _ => exact (va_eqt (gz_l (gz_r (gz_l (gz_l (gz_l (gz_r (gz_r (gz_r (gz_l (gz_l (gz_l (gz_r h))))))))))))).trans (congrArg some (congrArg Value.int (by decide)))
    | 50, _ => exact (va_eqt (gz_r (gz_r (gz_l (gz_l (gz_l (gz_r (gz_r (gz_r (gz_l (gz_l (gz_l (gz_r h))))))))))))).trans (congrArg some (congrArg Value.int (by decide)))
    | 51, _ => exact (va_eqt (gz_l (gz_r (gz_l (gz_l (gz_r (gz_r (gz_r (gz_l (gz_l (gz_l (gz_r h)))))))))))).trans (congrArg some (congrArg Value.int (by decide)))
    | 52, _ => exact (va_eqt (gz_l (gz_r (gz_r (gz_l (gz_l (gz_r (gz_r (gz_r (gz_l (gz_l (gz_l (gz_r h))))))))))))).trans (congrArg some (congrArg Value.int (by decide)))
    | 53, _ => exact (va_eqt (gz_r (gz_r (gz_r (gz_l (gz_l (gz_r (gz_r (gz_r (gz_l (gz_l (gz_l (gz_r h))))))))))))).trans (congrArg some (congrArg Value.int (by decide)))
    | 54, _ => exact (va_eqt (gz_l (gz_l (gz_r (gz_l (gz_r (gz_r (gz_r (gz_l (gz_l (gz_l (gz_r h)))))))))))).trans (congrArg some (congrArg Value.int (by decide)))
    | 55, _ => exact (va_eqt (gz_l (gz_r (gz_l (gz_r (gz_l (gz_r (gz_r (gz_r (gz_l (gz_l (gz_l (gz_r h))))))))))))).trans (congrArg some (congrArg Value.int (by decide)))
    | 56, _ => exact (va_eqt (gz_r (gz_r (gz_l (gz_r (gz_l (gz_r (gz_r (gz_r (gz_l (gz_l (gz_l (gz_r h))))))))))))).trans (congrArg some (congrArg Value.int (by decide)))
    | 57, _ => exact (va_eqt (gz_l (gz_r (gz_r (gz_l (gz_r (gz_r (gz_r (gz_l (gz_l (gz_l (gz_r h)))))))))))).trans (congrArg some (congrArg Value.int (by decide)))
    | 58, _ => exact (va_eqt (gz_l (gz_r (gz_r (gz_r (gz_l (gz_r (gz_r (gz_r (gz_l (gz_l (gz_l (gz_r h))))))))))))).trans (congrArg some (congrArg Value.int (by decide)))
    | 59, _ => exact (va_eqt (gz_r (gz_r (gz_r (gz_r (gz_l (gz_r (gz_r (gz_r (gz_l (gz_l (gz_l (gz_r h))))))))))))).trans (congrArg some (congrArg Value.int (by decide)))
    | 60, _ => exact (va_eqt (gz_l (gz_l (gz_l (gz_r (gz_r (gz_r (gz_r (gz_l (gz_l (gz_l (gz_r h)))))))))))).trans (congrArg some (congrArg Value.int (by decide)))
    | 61, _ => exact (va_eqt (gz_l (gz_r (gz_l (gz_l (gz_r (gz_r (gz_r (gz_r (gz_l (gz_l (gz_l (gz_r h))))))))))))).trans (congrArg some (congrArg Value.int (by decide)))
    | 62, _ => exact (va_eqt (gz_r (gz_r (gz_l (gz_l (gz_r (gz_r (gz_r (gz_r (gz_l (gz_l (gz_l (gz_r h))))))))))))).trans (congrArg some (congrArg Value.int (by decide)))
    | 63, _ => exact (va_eqt (gz_l (gz_r (gz_l (gz_r (gz_r (gz_r (gz_r (gz_l (gz_l (gz_l (gz_r h)))))))))))).trans (congrArg some (congrArg Value.int (by decide)))
    | 64, _ => exact (va_eqt (gz_l (gz_r (gz_r (gz_l (gz_r (gz_r (gz_r (gz_r (gz_l (gz_l (gz_l (gz_r h))))))))))))).trans (congrArg some (congrArg Value.int (by decide)))
    | 65, _ => exact (va_eqt (gz_r (gz_r (gz_r (gz_l (gz_r (gz_r (gz_r (gz_r (gz_l (gz_l (gz_l (gz_r h))))))))))))).trans (congrArg some (congrArg Value.int (by decide)))
    | 66, _ => exact (va_eqt (gz_l (gz_l (gz_r (gz_r (gz_r (gz_r (gz_r (gz_l (gz_l (gz_l (gz_r h)))))))))))).trans (congrArg some (congrArg Value.int (by decide)))
    | 67, _ => exact (va_eqt (gz_l (gz_r (gz_l (gz_r (gz_r (gz_r (gz_r (gz_r (gz_l (gz_l (gz_l (gz_r h))))))))))))).trans (congrArg some (congrArg Value.int (by decide)))
    | 68, _ => exact (va_eqt (gz_r (gz_r (gz_l (gz_r (gz_r (gz_r (gz_r (gz_r (gz_l (gz_l (gz_l (gz_r h))))))))))))).trans (congrArg some (congrArg Value.int (by decide)))
    | 69, _ => exact (va_eqt (gz_l (gz_l (gz_r (gz_r (gz_r (gz_r (gz_r (gz_r (gz_l (gz_l (gz_l (gz_r h))))))))))))).trans (congrArg some (congrArg Value.int (by decide)))
    | 70, _ => exact (va_eqt (gz_r (gz_l (gz_r (gz_r (gz_r (gz_r (gz_r (gz_r (gz_l (gz_l (gz_l (gz_r h))))))))))))).trans (congrArg some (congrArg Value.int (by decide)))
    | 71, _ => exact (va_eqt (gz_l (gz_r (gz_r (gz_r (gz_r (gz_r (gz_r (gz_r (gz_l (gz_l (gz_l (gz_r h))))))))))))).trans (congrArg some (congrArg Value.int (by decide)))
    | 72, _ => exact (va_eqt (gz_r (gz_r (gz_r (gz_r (gz_r (gz_r (gz_r (gz_r (gz_l (gz_l (gz_l (gz_r h))))))))))))).trans (congrArg some (congrArg Value.int (by decide)))
    | 73, _ => exact (va_eqt (gz_l (gz_l (gz_l (gz_l (gz_l (gz_l (gz_l (gz_r (gz_l (gz_l (gz_r h)))))))))))).trans (congrArg some (congrArg Value.int (by decide)))
    | 74, _ => exact (va_eqt (gz_l (gz_r (gz_l (gz_l (gz_l (gz_l (gz_l (gz_l (gz_r (gz_l (gz_l (gz_r h))))))))))))).trans (congrArg some (congrArg Value.int (by decide)))
    | 75, _ => exact (va_eqt (gz_r (gz_r (gz_l (gz_l (gz_l (gz_l (gz_l (gz_l (gz_r (gz_l (gz_l (gz_r h))))))))))))).trans (congrArg some (congrArg Value.int (by decide)))
    | 76, _ => exact (va_eqt (gz_l (gz_r (gz_l (gz_l (gz_l (gz_l (gz_l (gz_r (gz_l (gz_l (gz_r h)))))))))))).trans (congrArg some (congrArg Value.int (by decide)))
    | 77, _ => exact (va_eqt (gz_l (gz_r (gz_r (gz_l (gz_l (gz_l (gz_l (gz_l (gz_r (gz_l (gz_l (gz_r h))))))))))))).trans (congrArg some (congrArg Value.int (by decide)))
    | 78, _ => exact (va_eqt (gz_r (gz_r (gz_r (gz_l (gz_l (gz_l (gz_l (gz_l (gz_r (gz_l (gz_l (gz_r h))))))))))))).trans (congrArg some (congrArg Value.int (by decide)))
    | 79, _ => exact (va_eqt (gz_l (gz_l (gz_r (gz_l (gz_l (gz_l (gz_l (gz_r (gz_l (gz_l (gz_r h)))))))))))).trans (congrArg some (congrArg Value.int (by decide)))
    | 80, _ => exact (va_eqt (gz_l (gz_r (gz_l (gz_r (gz_l (gz_l (gz_l (gz_l (gz_r (gz_l (gz_l (gz_r h))))))))))))).trans (congrArg some (congrArg Value.int (by decide)))
    | 81, _ => exact (va_eqt (gz_r (gz_r (gz_l (gz_r (gz_l (gz_l (gz_l (gz_l (gz_r (gz_l (gz_l (gz_r h))))))))))))).trans (congrArg some (congrArg Value.int (by decide)))
    | 82, _ => exact (va_eqt (gz_l (gz_r (gz_r (gz_l (gz_l (gz_l (gz_l (gz_r (gz_l (gz_l (gz_r h)))))))))))).trans (congrArg some (congrArg Value.int (by decide)))
    | 83, _ => exact (va_eqt (gz_l (gz_r (gz_r (gz_r (gz_l (gz_l (gz_l (gz_l (gz_r (gz_l (gz_l (gz_r h))))))))))))).trans (congrArg some (congrArg Value.int (by decide)))
    | 84, _ => exact (va_eqt (gz_r (gz_r (gz_r (gz_r (gz_l (gz_l (gz_l (gz_l (gz_r (gz_l (gz_l (gz_r h))))))))))))).trans (congrArg some (congrArg Value.int (by decide)))
    | 85, _ => exact (va_eqt (gz_l (gz_l (gz_l (gz_r (gz_l (gz_l (gz_l (gz_r (gz_l (gz_l (gz_r h)))))))))))).trans (congrArg some (congrArg Value.int (by decide)))
    | 86, _ => exact (va_eqt (gz_l (gz_r (gz_l (gz_l (gz_r (gz_l (gz_l (gz_l (gz_r (gz_l (gz_l (gz_r h))))))))))))).trans (congrArg some (congrArg Value.int (by decide)))
    | 87, _ => exact (va_eqt (gz_r (gz_r (gz_l (gz_l (gz_r (gz_l (gz_l (gz_l (gz_r (gz_l (gz_l (gz_r h))))))))))))).trans (congrArg some (congrArg Value.int (by decide)))
    | 88, _ => exact (va_eqt (gz_l (gz_r (gz_l (gz_r (gz_l (gz_l (gz_l (gz_r (gz_l (gz_l (gz_r h)))))))))))).trans (congrArg some (congrArg Value.int (by decide)))
    | 89, _ => exact (va_eqt (gz_l (gz_r (gz_r (gz_l (gz_r (gz_l (gz_l (gz_l (gz_r (gz_l (gz_l (gz_r h))))))))))))).trans (congrArg some (congrArg Value.int (by decide)))
    | 90, _ => exact (va_eqt (gz_r (gz_r (gz_r (gz_l (gz_r (gz_l (gz_l (gz_l (gz_r (gz_l (gz_l (gz_r h))))))))))))).trans (congrArg some (congrArg Value.int (by decide)))
    | 91, _ => exact (va_eqt (gz_l (gz_l (gz_r (gz_r (gz_l (gz_l (gz_l (gz_r (gz_l (gz_l (gz_r h)))))))))))).trans (congrArg some (congrArg Value.int (by decide)))
    | 92, _ => exact (va_eqt (gz_l (gz_r (gz_l (gz_r (gz_r (gz_l (gz_l (gz_l (gz_r (gz_l (gz_l (gz_r h))))))))))))).trans (congrArg some (congrArg Value.int (by decide)))
    | 93, _ => exact (va_eqt (gz_r (gz_r (gz_l (gz_r (gz_r (gz_l (gz_l (gz_l (gz_r (gz_l (gz_l (gz_r h))))))))))))).trans (congrArg some (congrArg Value.int (by decide)))
    | 94, _ => exact (va_eqt (gz_l (gz_l (gz_r (gz_r (gz_r (gz_l (gz_l (gz_l (gz_r (gz_l (gz_l (gz_r h))))))))))))).trans (congrArg some (congrArg Value.int (by decide)))
    | 95, _ => exact (va_eqt (gz_r (gz_l (gz_r (gz_r (gz_r (gz_l (gz_l (gz_l (gz_r (gz_l (gz_l (gz_r h))))))))))))).trans (congrArg some (congrArg Value.int (by decide)))
    | 96, _ => exact (va_eqt (gz_l (gz_r (gz_r (gz_r (gz_r (gz_l (gz_l (gz_l (gz_r (gz_l (gz_l (gz_r h))))))))))))).trans (congrArg some (congrArg Value.int (by decide)))
    | 97, _ => exact (va_eqt (gz_r (gz_r (gz_r (gz_r (gz_r (gz_l (gz_l (gz_l (gz_r (gz_l (gz_l (gz_r h))))))))))))).trans (congrArg some (congrArg Value.int (by decide)))
    | 98, _ => exact (va_eqt (gz_l (gz_l (gz_l (gz_l (gz_r (gz_l (gz_l (gz_r (gz_l (gz_l (gz_r h)))))))))))).trans (congrArg some (congrArg Value.int (by decide)))
    | 99, _ => exact (va_eqt (gz_l (gz_r (gz_l (gz_l (gz_l (gz_r (gz_l (gz_l (gz_r (gz_l (gz_l (gz_r h))))))))))))).trans (congrArg some (congrArg Value.int (by decide)))
    | k + 100, hj => omega
  obtain ⟨t, ht, hT⟩ := va_Tof (A := A) (f := fun j => .int (gi (48 + (j / 10 : Nat)))) (N := 100) (by decide) (gz_l (gz_l (gz_l (gz_l (gz_r (gz_l (gz_r (gz_l (gz_l (gz_l (gz_r h))))))))))) (va_eqt (gz_l (gz_r (gz_l (gz_l (gz_l (gz_r (gz_l (gz_r (gz_l (gz_l (gz_l (gz_r h))))))))))))) hel hA
  exact ⟨t, va_Zof (hts _ (gpc3 (List.mem_of_getElem? (i := 30) rfl))) (hts _ (gpc1 (List.mem_of_getElem? (i := 14) rfl))) ht hA, hT⟩
theorem gz_ex {own tx : String} {k : Nat} (h1 : (Cond.stringRef own k tx).before #[Value.ref b] s = true) (h2 : (Cond.exactly (Term.string own k) "java/lang/String").before #[Value.ref b] s = true) : ∃ a, vk_R own k tx a s := by
  obtain ⟨a, c, cA, kA, q1, -⟩ := Cond.exactly_spec (args := #[Value.ref b]) (first := s) (o := none) (s := s) (idx := []) (t := Term.string own k) (cls := "java/lang/String") h2
  exact ⟨a, vk_R.of h1 q1⟩
theorem gz_Txt (hts : gHt s b) (h : gHg s b) : ∀ q ∈ gTxt, ∃ a, vk_R q.1 q.2.1 q.2.2 a s := by
  unfold gTxt
  simp only [List.forall_mem_cons, List.not_mem_nil, false_implies, implies_true, and_true]
  exact ⟨gz_ex (hts _ (gpc3 (List.mem_of_getElem? (i := 172) rfl))) (gz_l (gz_r (gz_l (gz_r (gz_r (gz_r (gz_l (gz_r (gz_r (gz_l (gz_l (gz_r h)))))))))))), gz_ex (hts _ (gpc4 (List.mem_of_getElem? (i := 54) rfl))) (gz_r (gz_r (gz_l (gz_r (gz_l (gz_r (gz_l (gz_l (gz_l (gz_r (gz_l (gz_r h)))))))))))), gz_ex (hts _ (gpc4 (List.mem_of_getElem? (i := 95) rfl))) (gz_r (gz_r (gz_l (gz_r (gz_l (gz_l (gz_r (gz_l (gz_l (gz_r (gz_l (gz_r h)))))))))))), gz_ex (hts _ (gpc4 (List.mem_of_getElem? (i := 106) rfl))) (gz_r (gz_r (gz_r (gz_l (gz_l (gz_r (gz_r (gz_l (gz_l (gz_r (gz_l (gz_r h)))))))))))), gz_ex (hts _ (gpc4 (List.mem_of_getElem? (i := 119) rfl))) (gz_l (gz_r (gz_r (gz_l (gz_l (gz_l (gz_r (gz_l (gz_r (gz_l (gz_r h))))))))))), gz_ex (hts _ (gpc4 (List.mem_of_getElem? (i := 136) rfl))) (gz_l (gz_l (gz_r (gz_r (gz_r (gz_l (gz_r (gz_l (gz_r (gz_l (gz_r h))))))))))), gz_ex (hts _ (gpc4 (List.mem_of_getElem? (i := 190) rfl))) (gz_l (gz_l (gz_r (gz_r (gz_l (gz_r (gz_r (gz_l (gz_r (gz_l (gz_r h))))))))))), gz_ex (hts _ (gpc4 (List.mem_of_getElem? (i := 198) rfl))) (gz_l (gz_l (gz_r (gz_r (gz_r (gz_r (gz_r (gz_l (gz_r (gz_l (gz_r h))))))))))), gz_ex (hts _ (gpc4 (List.mem_of_getElem? (i := 208) rfl))) (gz_l (gz_l (gz_l (gz_l (gz_r (gz_l (gz_l (gz_r (gz_r (gz_l (gz_r h))))))))))), gz_ex (hts _ (gpc5 (List.mem_of_getElem? (i := 23) rfl))) (gz_l (gz_l (gz_l (gz_l (gz_r (gz_r (gz_l (gz_r (gz_r (gz_l (gz_r h))))))))))), gz_ex (hts _ (gpc5 (List.mem_of_getElem? (i := 37) rfl))) (gz_l (gz_l (gz_l (gz_l (gz_l (gz_l (gz_r (gz_r (gz_r (gz_l (gz_r h))))))))))), gz_ex (hts _ (gpc5 (List.mem_of_getElem? (i := 63) rfl))) (gz_l (gz_r (gz_r (gz_l (gz_l (gz_r (gz_l (gz_r (gz_r (gz_r (gz_l (gz_r h)))))))))))), gz_ex (hts _ (gpc5 (List.mem_of_getElem? (i := 72) rfl))) (gz_l (gz_r (gz_r (gz_l (gz_l (gz_l (gz_r (gz_r (gz_r (gz_r (gz_l (gz_r h)))))))))))), gz_ex (hts _ (gpc5 (List.mem_of_getElem? (i := 108) rfl))) (gz_r (gz_r (gz_r (gz_l (gz_l (gz_r (gz_r (gz_r (gz_r (gz_r (gz_l (gz_r h)))))))))))), gz_ex (hts _ (gpc5 (List.mem_of_getElem? (i := 125) rfl))) (gz_l (gz_r (gz_r (gz_l (gz_l (gz_l (gz_l (gz_l (gz_l (gz_l (gz_r (gz_r h)))))))))))), gz_ex (hts _ (gpc5 (List.mem_of_getElem? (i := 139) rfl))) (gz_r (gz_r (gz_r (gz_l (gz_l (gz_l (gz_r (gz_l (gz_l (gz_l (gz_r (gz_r h)))))))))))), gz_ex (hts _ (gpc5 (List.mem_of_getElem? (i := 140) rfl))) (gz_l (gz_l (gz_r (gz_l (gz_r (gz_r (gz_l (gz_l (gz_l (gz_r (gz_r h))))))))))), gz_ex (hts _ (gpc5 (List.mem_of_getElem? (i := 166) rfl))) (gz_l (gz_r (gz_r (gz_r (gz_l (gz_l (gz_l (gz_r (gz_l (gz_l (gz_r (gz_r h)))))))))))), gz_ex (hts _ (gpc5 (List.mem_of_getElem? (i := 171) rfl))) (gz_l (gz_r (gz_l (gz_r (gz_r (gz_l (gz_r (gz_l (gz_l (gz_r (gz_r h))))))))))), gz_ex (hts _ (gpc5 (List.mem_of_getElem? (i := 176) rfl))) (gz_l (gz_r (gz_l (gz_l (gz_l (gz_r (gz_r (gz_r (gz_l (gz_l (gz_r (gz_r h)))))))))))), gz_ex (hts _ (gpc5 (List.mem_of_getElem? (i := 186) rfl))) (gz_l (gz_l (gz_l (gz_r (gz_l (gz_l (gz_l (gz_r (gz_l (gz_r (gz_r h))))))))))), gz_ex (hts _ (gpc5 (List.mem_of_getElem? (i := 229) rfl))) (gz_l (gz_r (gz_l (gz_r (gz_r (gz_r (gz_l (gz_l (gz_r (gz_l (gz_r (gz_r h)))))))))))), gz_ex (hts _ (gpc6 (List.mem_of_getElem? (i := 0) rfl))) (gz_l (gz_l (gz_l (gz_r (gz_r (gz_r (gz_l (gz_r (gz_l (gz_r (gz_r h))))))))))), gz_ex (hts _ (gpc6 (List.mem_of_getElem? (i := 8) rfl))) (gz_l (gz_r (gz_l (gz_r (gz_l (gz_l (gz_r (gz_r (gz_l (gz_r (gz_r h))))))))))), gz_ex (hts _ (gpc6 (List.mem_of_getElem? (i := 13) rfl))) (gz_l (gz_r (gz_l (gz_r (gz_r (gz_l (gz_r (gz_r (gz_l (gz_r (gz_r h)))))))))))⟩
theorem gz_one {own tx : String} {k n : Nat} {bs : List Int32} (hn : n < 2 ^ 31) (h1 : (Cond.stringRef own k tx).before #[Value.ref b] s = true) (h2 : (Cond.exactly (Term.string own k) "java/lang/String").before #[Value.ref b] s = true) (h3 : (Cond.eq (.field (Term.string own k) "java/lang/String" "coder" "B") (.int 0)).before #[Value.ref b] s = true)
    (h4 : (Cond.arrayOf (.field (Term.string own k) "java/lang/String" "value" "[B") .byte).before #[Value.ref b] s = true) (h5 : (Cond.eq (.length (.field (Term.string own k) "java/lang/String" "value" "[B")) (.int (Int32.ofNat n))).before #[Value.ref b] s = true)
    (h6 : ∀ j : Nat, j < n → (Cond.eq (.elem (.field (Term.string own k) "java/lang/String" "value" "[B") (.int (Int32.ofNat j))) (.int (bs.getD j 0))).before #[Value.ref b] s = true) (hA : ∀ a : Nat, a < s.heap.size → ¬ A a) :
    ∃ a v : Nat, vk_R own k tx a s ∧ (Term.string own k).eval #[Value.ref b] s none [] s = some (.ref a) ∧ va_O "java/lang/String" a A s s.heap ∧ va_OF "java/lang/String" "coder" "B" (.int 0) a A s s.heap ∧ va_OF "java/lang/String" "value" "[B" (.ref v) a A s s.heap ∧ va_T .byte v n (fun j => .int (bs.getD j 0)) A s s.heap := by
  obtain ⟨aK, aV, hS, hE⟩ := vk_Sof (N := 1) (tm := fun _ => Term.string own k) (len := [n]) (byt := [bs]) (A := A) (s := s) (args := #[Value.ref b]) (fun i hi => by rw [show i = 0 by omega]; exact hn) (fun _ _ => h2) (fun _ _ => h3) (fun _ _ => h4) (fun i hi => by rw [show i = 0 by omega]; exact h5) (fun i hi => by rw [show i = 0 by omega]; exact h6) (fun i j hi hj e => absurd (show i = j by omega) e) hA
  have e := hE 0 (by decide)
  exact ⟨aK 0, aV 0, vk_R.of h1 e, e, hS.1 0 (by decide)⟩
theorem gz_OF1 {o n d : String} {v v2 : Value} {t : Nat} {U : State} {H : Heap} (h1 : va_OF o n d v t A U H) (h2 : va_OF o n d v2 t A U H) : v = v2 := by
  obtain ⟨cf, k, i, f, cell, a1, a2, a3, a4, a5, a6⟩ := h1
  obtain ⟨cf', k', i', f', cell', b1, b2, b3, b4, b5, b6⟩ := h2
  cases a1.symm.trans b1
  cases a3.symm.trans b3
  exact Option.some.inj (a5.symm.trans b5)
theorem gz_T1 {ty : FieldType} {t N M : Nat} {f g : Nat → Value} {U : State} {H : Heap} (hN : N < 2 ^ 31) (hM : M < 2 ^ 31) (h1 : va_T ty t N f A U H) (h2 : va_T ty t M g A U H) : N = M ∧ ∀ j, j < N → f j = g j := by
  obtain ⟨cell, a1, a2, a3, a4, a5, a6, a7⟩ := h1
  obtain ⟨cell', b1, b2, b3, b4, b5, b6, b7⟩ := h2
  cases a1.symm.trans b1
  have e : Int32.ofNat N = Int32.ofNat M := a5.symm.trans b5
  have e2 : N = M := by
    have h3 := congrArg Int32.toInt e
    rw [Int32.toInt_ofNat_of_lt hN, Int32.toInt_ofNat_of_lt hM] at h3
    exact Int.ofNat.inj h3
  subst e2
  exact ⟨rfl, fun j hj => Option.some.inj ((a6 j hj).symm.trans (b6 j hj))⟩
theorem gz_vkS {N : Nat} {len : List Nat} {byt : List (List Int32)} {aK aV : Nat → Nat} (hS : ∀ i : Nat, i < N → va_O "java/lang/String" (aK i) A s s.heap ∧ va_OF "java/lang/String" "coder" "B" (.int 0) (aK i) A s s.heap ∧ va_OF "java/lang/String" "value" "[B" (.ref (aV i)) (aK i) A s s.heap ∧ va_T .byte (aV i) (len.getD i 0) (fun j => .int ((byt.getD i []).getD j 0)) A s s.heap)
    (hb : ∀ i, i < N → len.getD i 0 < 2 ^ 31) (key : (List.range N).all (fun i => (List.range N).all (fun j => decide (i = j) || !(decide (len.getD i 0 = len.getD j 0)) || (List.range (len.getD i 0)).any (fun k => !(decide ((byt.getD i []).getD k 0 = (byt.getD j []).getD k 0))))) = true) : vk_S N len byt aK aV A s s.heap := by
  refine ⟨hS, fun i j hi hj e => ?_⟩
  obtain ⟨-, -, o1, t1⟩ := hS i hi
  obtain ⟨-, -, o2, t2⟩ := hS j hj
  rw [e] at o1
  have ev : aV i = aV j := Value.ref.inj (gz_OF1 o1 o2)
  rw [ev] at t1
  obtain ⟨n1, n2⟩ := gz_T1 (hb i hi) (hb j hj) t1 t2
  have k1 := List.all_eq_true.mp (List.all_eq_true.mp key i (List.mem_range.mpr hi)) j (List.mem_range.mpr hj)
  rcases Bool.or_eq_true_iff.mp k1 with k2 | k2
  · rcases Bool.or_eq_true_iff.mp k2 with k3 | k3
    · exact of_decide_eq_true k3
    · rw [n1] at k3
      simp at k3
  · obtain ⟨k, hk, hk2⟩ := List.any_eq_true.mp k2
    have := Value.int.inj (n2 k (List.mem_range.mp hk))
    rw [this] at hk2
    simp at hk2
theorem gz_S (hts : gHt s b) (h : gHg s b) (hA : ∀ a : Nat, a < s.heap.size → ¬ A a) : ∃ aK aV kK kV : Nat → Nat, vk_S 7 (gTl ++ [(kTb.getD 0 []).length]) (gTb ++ [kTb.getD 0 []]) aK aV A s s.heap ∧ (∀ q ∈ gTx2, vk_R q.1 q.2.1 q.2.2.1 (aK q.2.2.2) s) ∧ vk_S 5 kTl kTb kK kV A s s.heap ∧ ∀ q ∈ kTx2, vk_R "ToeplitzLabLaw$Lab" q.1 q.2.1 (kK q.2.2) s := by
  have e0 : ∀ j : Nat, j < 8 → (Cond.eq (.elem (.field (Term.string "ToeplitzLab$Input" 76) "java/lang/String" "value" "[B") (.int (Int32.ofNat j))) (.int (([116, 111, 101, 112, 108, 105, 116, 122] : List Int32).getD j 0))).before #[Value.ref b] s = true := by
    intro j hj
    rcases (show j = 0 ∨ j = 1 ∨ j = 2 ∨ j = 3 ∨ j = 4 ∨ j = 5 ∨ j = 6 ∨ j = 7 by omega) with rfl | rfl | rfl | rfl | rfl | rfl | rfl | rfl
    · exact (gz_l (gz_r (gz_r (gz_l (gz_l (gz_r (gz_r (gz_r (gz_r (gz_l (gz_l (gz_r h))))))))))))
    · exact (gz_r (gz_r (gz_r (gz_l (gz_l (gz_r (gz_r (gz_r (gz_r (gz_l (gz_l (gz_r h))))))))))))
    · exact (gz_l (gz_l (gz_r (gz_l (gz_r (gz_r (gz_r (gz_r (gz_l (gz_l (gz_r h)))))))))))
    · exact (gz_l (gz_r (gz_l (gz_r (gz_l (gz_r (gz_r (gz_r (gz_r (gz_l (gz_l (gz_r h))))))))))))
    · exact (gz_r (gz_r (gz_l (gz_r (gz_l (gz_r (gz_r (gz_r (gz_r (gz_l (gz_l (gz_r h))))))))))))
    · exact (gz_l (gz_r (gz_r (gz_l (gz_r (gz_r (gz_r (gz_r (gz_l (gz_l (gz_r h)))))))))))
    · exact (gz_l (gz_r (gz_r (gz_r (gz_l (gz_r (gz_r (gz_r (gz_r (gz_l (gz_l (gz_r h))))))))))))
    · exact (gz_r (gz_r (gz_r (gz_r (gz_l (gz_r (gz_r (gz_r (gz_r (gz_l (gz_l (gz_r h))))))))))))
  obtain ⟨a0, v0, r0, x0, s0⟩ := gz_one (A := A) (own := "ToeplitzLab$Input") (k := 76) (tx := "toeplitz") (n := 8) (bs := [116, 111, 101, 112, 108, 105, 116, 122]) (by decide) (hts _ (gpc3 (List.mem_of_getElem? (i := 239) rfl))) (gz_l (gz_l (gz_l (gz_l (gz_r (gz_r (gz_r (gz_r (gz_l (gz_l (gz_r h))))))))))) (gz_l (gz_r (gz_l (gz_l (gz_l (gz_r (gz_r (gz_r (gz_r (gz_l (gz_l (gz_r h)))))))))))) (gz_r (gz_r (gz_l (gz_l (gz_l (gz_r (gz_r (gz_r (gz_r (gz_l (gz_l (gz_r h)))))))))))) (gz_l (gz_r (gz_l (gz_l (gz_r (gz_r (gz_r (gz_r (gz_l (gz_l (gz_r h))))))))))) e0 hA
  have e1 : ∀ j : Nat, j < 5 → (Cond.eq (.elem (.field (Term.string "ToeplitzLab$Input" 92) "java/lang/String" "value" "[B") (.int (Int32.ofNat j))) (.int (([112, 114, 105, 109, 101] : List Int32).getD j 0))).before #[Value.ref b] s = true := by
    intro j hj
    rcases (show j = 0 ∨ j = 1 ∨ j = 2 ∨ j = 3 ∨ j = 4 by omega) with rfl | rfl | rfl | rfl | rfl
    · exact (gz_l (gz_r (gz_r (gz_l (gz_r (gz_r (gz_r (gz_r (gz_r (gz_l (gz_l (gz_r h))))))))))))
    · exact (gz_r (gz_r (gz_r (gz_l (gz_r (gz_r (gz_r (gz_r (gz_r (gz_l (gz_l (gz_r h))))))))))))
    · exact (gz_l (gz_l (gz_r (gz_r (gz_r (gz_r (gz_r (gz_r (gz_l (gz_l (gz_r h)))))))))))
    · exact (gz_l (gz_r (gz_l (gz_r (gz_r (gz_r (gz_r (gz_r (gz_r (gz_l (gz_l (gz_r h))))))))))))
    · exact (gz_r (gz_r (gz_l (gz_r (gz_r (gz_r (gz_r (gz_r (gz_r (gz_l (gz_l (gz_r h))))))))))))
  obtain ⟨a1, v1, r1, x1, s1⟩ := gz_one (A := A) (own := "ToeplitzLab$Input") (k := 92) (tx := "prime") (n := 5) (bs := [112, 114, 105, 109, 101]) (by decide) (hts _ (gpc4 (List.mem_of_getElem? (i := 14) rfl))) (gz_l (gz_l (gz_l (gz_r (gz_r (gz_r (gz_r (gz_r (gz_l (gz_l (gz_r h))))))))))) (gz_l (gz_r (gz_l (gz_l (gz_r (gz_r (gz_r (gz_r (gz_r (gz_l (gz_l (gz_r h)))))))))))) (gz_r (gz_r (gz_l (gz_l (gz_r (gz_r (gz_r (gz_r (gz_r (gz_l (gz_l (gz_r h)))))))))))) (gz_l (gz_r (gz_l (gz_r (gz_r (gz_r (gz_r (gz_r (gz_l (gz_l (gz_r h))))))))))) e1 hA
  have e2 : ∀ j : Nat, j < 8 → (Cond.eq (.elem (.field (Term.string "ToeplitzLab$Input" 100) "java/lang/String" "value" "[B") (.int (Int32.ofNat j))) (.int (([100, 105, 97, 103, 111, 110, 97, 108] : List Int32).getD j 0))).before #[Value.ref b] s = true := by
    intro j hj
    rcases (show j = 0 ∨ j = 1 ∨ j = 2 ∨ j = 3 ∨ j = 4 ∨ j = 5 ∨ j = 6 ∨ j = 7 by omega) with rfl | rfl | rfl | rfl | rfl | rfl | rfl | rfl
    · exact (gz_l (gz_l (gz_l (gz_l (gz_l (gz_l (gz_l (gz_l (gz_r (gz_l (gz_r h)))))))))))
    · exact (gz_l (gz_r (gz_l (gz_l (gz_l (gz_l (gz_l (gz_l (gz_l (gz_r (gz_l (gz_r h))))))))))))
    · exact (gz_r (gz_r (gz_l (gz_l (gz_l (gz_l (gz_l (gz_l (gz_l (gz_r (gz_l (gz_r h))))))))))))
    · exact (gz_l (gz_r (gz_l (gz_l (gz_l (gz_l (gz_l (gz_l (gz_r (gz_l (gz_r h)))))))))))
    · exact (gz_l (gz_r (gz_r (gz_l (gz_l (gz_l (gz_l (gz_l (gz_l (gz_r (gz_l (gz_r h))))))))))))
    · exact (gz_r (gz_r (gz_r (gz_l (gz_l (gz_l (gz_l (gz_l (gz_l (gz_r (gz_l (gz_r h))))))))))))
    · exact (gz_l (gz_l (gz_r (gz_l (gz_l (gz_l (gz_l (gz_l (gz_r (gz_l (gz_r h)))))))))))
    · exact (gz_l (gz_r (gz_l (gz_r (gz_l (gz_l (gz_l (gz_l (gz_l (gz_r (gz_l (gz_r h))))))))))))
  obtain ⟨a2, v2, r2, x2, s2⟩ := gz_one (A := A) (own := "ToeplitzLab$Input") (k := 100) (tx := "diagonal") (n := 8) (bs := [100, 105, 97, 103, 111, 110, 97, 108]) (by decide) (hts _ (gpc4 (List.mem_of_getElem? (i := 24) rfl))) (gz_l (gz_l (gz_r (gz_r (gz_r (gz_r (gz_r (gz_r (gz_r (gz_l (gz_l (gz_r h)))))))))))) (gz_r (gz_l (gz_r (gz_r (gz_r (gz_r (gz_r (gz_r (gz_r (gz_l (gz_l (gz_r h)))))))))))) (gz_l (gz_r (gz_r (gz_r (gz_r (gz_r (gz_r (gz_r (gz_r (gz_l (gz_l (gz_r h)))))))))))) (gz_r (gz_r (gz_r (gz_r (gz_r (gz_r (gz_r (gz_r (gz_r (gz_l (gz_l (gz_r h)))))))))))) e2 hA
  have e3 : ∀ j : Nat, j < 4 → (Cond.eq (.elem (.field (Term.string "ToeplitzLab$Input" 109) "java/lang/String" "value" "[B") (.int (Int32.ofNat j))) (.int (([98, 97, 110, 100] : List Int32).getD j 0))).before #[Value.ref b] s = true := by
    intro j hj
    rcases (show j = 0 ∨ j = 1 ∨ j = 2 ∨ j = 3 by omega) with rfl | rfl | rfl | rfl
    · exact (gz_l (gz_l (gz_l (gz_r (gz_l (gz_l (gz_l (gz_l (gz_r (gz_l (gz_r h)))))))))))
    · exact (gz_l (gz_r (gz_l (gz_l (gz_r (gz_l (gz_l (gz_l (gz_l (gz_r (gz_l (gz_r h))))))))))))
    · exact (gz_r (gz_r (gz_l (gz_l (gz_r (gz_l (gz_l (gz_l (gz_l (gz_r (gz_l (gz_r h))))))))))))
    · exact (gz_l (gz_r (gz_l (gz_r (gz_l (gz_l (gz_l (gz_l (gz_r (gz_l (gz_r h)))))))))))
  obtain ⟨a3, v3, r3, x3, s3⟩ := gz_one (A := A) (own := "ToeplitzLab$Input") (k := 109) (tx := "band") (n := 4) (bs := [98, 97, 110, 100]) (by decide) (hts _ (gpc4 (List.mem_of_getElem? (i := 37) rfl))) (gz_r (gz_r (gz_l (gz_r (gz_l (gz_l (gz_l (gz_l (gz_l (gz_r (gz_l (gz_r h)))))))))))) (gz_l (gz_r (gz_r (gz_l (gz_l (gz_l (gz_l (gz_l (gz_r (gz_l (gz_r h))))))))))) (gz_l (gz_r (gz_r (gz_r (gz_l (gz_l (gz_l (gz_l (gz_l (gz_r (gz_l (gz_r h)))))))))))) (gz_r (gz_r (gz_r (gz_r (gz_l (gz_l (gz_l (gz_l (gz_l (gz_r (gz_l (gz_r h)))))))))))) e3 hA
  have e4 : ∀ j : Nat, j < 4 → (Cond.eq (.elem (.field (Term.string "ToeplitzLab$Input" 111) "java/lang/String" "value" "[B") (.int (Int32.ofNat j))) (.int (([115, 105, 100, 101] : List Int32).getD j 0))).before #[Value.ref b] s = true := by
    intro j hj
    rcases (show j = 0 ∨ j = 1 ∨ j = 2 ∨ j = 3 by omega) with rfl | rfl | rfl | rfl
    · exact (gz_r (gz_r (gz_l (gz_r (gz_r (gz_l (gz_l (gz_l (gz_l (gz_r (gz_l (gz_r h))))))))))))
    · exact (gz_l (gz_l (gz_r (gz_r (gz_r (gz_l (gz_l (gz_l (gz_l (gz_r (gz_l (gz_r h))))))))))))
    · exact (gz_r (gz_l (gz_r (gz_r (gz_r (gz_l (gz_l (gz_l (gz_l (gz_r (gz_l (gz_r h))))))))))))
    · exact (gz_l (gz_r (gz_r (gz_r (gz_r (gz_l (gz_l (gz_l (gz_l (gz_r (gz_l (gz_r h))))))))))))
  obtain ⟨a4, v4, r4, x4, s4⟩ := gz_one (A := A) (own := "ToeplitzLab$Input") (k := 111) (tx := "side") (n := 4) (bs := [115, 105, 100, 101]) (by decide) (hts _ (gpc4 (List.mem_of_getElem? (i := 38) rfl))) (gz_l (gz_r (gz_r (gz_l (gz_r (gz_l (gz_l (gz_l (gz_l (gz_r (gz_l (gz_r h)))))))))))) (gz_r (gz_r (gz_r (gz_l (gz_r (gz_l (gz_l (gz_l (gz_l (gz_r (gz_l (gz_r h)))))))))))) (gz_l (gz_l (gz_r (gz_r (gz_l (gz_l (gz_l (gz_l (gz_r (gz_l (gz_r h))))))))))) (gz_l (gz_r (gz_l (gz_r (gz_r (gz_l (gz_l (gz_l (gz_l (gz_r (gz_l (gz_r h)))))))))))) e4 hA
  have e5 : ∀ j : Nat, j < 5 → (Cond.eq (.elem (.field (Term.string "ToeplitzLab$Input" 121) "java/lang/String" "value" "[B") (.int (Int32.ofNat j))) (.int (([112, 114, 111, 98, 101] : List Int32).getD j 0))).before #[Value.ref b] s = true := by
    intro j hj
    rcases (show j = 0 ∨ j = 1 ∨ j = 2 ∨ j = 3 ∨ j = 4 by omega) with rfl | rfl | rfl | rfl | rfl
    · exact (gz_l (gz_r (gz_l (gz_l (gz_r (gz_l (gz_l (gz_l (gz_r (gz_l (gz_r h)))))))))))
    · exact (gz_l (gz_r (gz_r (gz_l (gz_l (gz_r (gz_l (gz_l (gz_l (gz_r (gz_l (gz_r h))))))))))))
    · exact (gz_r (gz_r (gz_r (gz_l (gz_l (gz_r (gz_l (gz_l (gz_l (gz_r (gz_l (gz_r h))))))))))))
    · exact (gz_l (gz_l (gz_r (gz_l (gz_r (gz_l (gz_l (gz_l (gz_r (gz_l (gz_r h)))))))))))
    · exact (gz_l (gz_r (gz_l (gz_r (gz_l (gz_r (gz_l (gz_l (gz_l (gz_r (gz_l (gz_r h))))))))))))
  obtain ⟨a5, v5, r5, x5, s5⟩ := gz_one (A := A) (own := "ToeplitzLab$Input") (k := 121) (tx := "probe") (n := 5) (bs := [112, 114, 111, 98, 101]) (by decide) (hts _ (gpc4 (List.mem_of_getElem? (i := 43) rfl))) (gz_r (gz_r (gz_r (gz_r (gz_r (gz_l (gz_l (gz_l (gz_l (gz_r (gz_l (gz_r h)))))))))))) (gz_l (gz_l (gz_l (gz_l (gz_r (gz_l (gz_l (gz_l (gz_r (gz_l (gz_r h))))))))))) (gz_l (gz_r (gz_l (gz_l (gz_l (gz_r (gz_l (gz_l (gz_l (gz_r (gz_l (gz_r h)))))))))))) (gz_r (gz_r (gz_l (gz_l (gz_l (gz_r (gz_l (gz_l (gz_l (gz_r (gz_l (gz_r h)))))))))))) e5 hA
  have e6 : ∀ j : Nat, j < 9 → (Cond.eq (.elem (.field (Term.string "ToeplitzLabLaw$Lab" 9) "java/lang/String" "value" "[B") (.int (Int32.ofNat j))) (.int (([116, 111, 101, 112, 108, 105, 116, 122, 32] : List Int32).getD j 0))).before #[Value.ref b] s = true := by
    intro j hj
    rcases (show j = 0 ∨ j = 1 ∨ j = 2 ∨ j = 3 ∨ j = 4 ∨ j = 5 ∨ j = 6 ∨ j = 7 ∨ j = 8 by omega) with rfl | rfl | rfl | rfl | rfl | rfl | rfl | rfl | rfl
    · exact (gz_r (gz_r (gz_l (gz_l (gz_r (gz_r (gz_r (gz_l (gz_r (gz_l (gz_l (gz_r h))))))))))))
    · exact (gz_l (gz_r (gz_l (gz_r (gz_r (gz_r (gz_l (gz_r (gz_l (gz_l (gz_r h)))))))))))
    · exact (gz_l (gz_r (gz_r (gz_l (gz_r (gz_r (gz_r (gz_l (gz_r (gz_l (gz_l (gz_r h))))))))))))
    · exact (gz_r (gz_r (gz_r (gz_l (gz_r (gz_r (gz_r (gz_l (gz_r (gz_l (gz_l (gz_r h))))))))))))
    · exact (gz_l (gz_l (gz_r (gz_r (gz_r (gz_r (gz_l (gz_r (gz_l (gz_l (gz_r h)))))))))))
    · exact (gz_l (gz_r (gz_l (gz_r (gz_r (gz_r (gz_r (gz_l (gz_r (gz_l (gz_l (gz_r h))))))))))))
    · exact (gz_r (gz_r (gz_l (gz_r (gz_r (gz_r (gz_r (gz_l (gz_r (gz_l (gz_l (gz_r h))))))))))))
    · exact (gz_l (gz_l (gz_r (gz_r (gz_r (gz_r (gz_r (gz_l (gz_r (gz_l (gz_l (gz_r h))))))))))))
    · exact (gz_r (gz_l (gz_r (gz_r (gz_r (gz_r (gz_r (gz_l (gz_r (gz_l (gz_l (gz_r h))))))))))))
  obtain ⟨a6, v6, r6, x6, s6⟩ := gz_one (A := A) (own := "ToeplitzLabLaw$Lab") (k := 9) (tx := "toeplitz ") (n := 9) (bs := [116, 111, 101, 112, 108, 105, 116, 122, 32]) (by decide) (hts _ (gpc2 (List.mem_of_getElem? (i := 95) rfl))) (gz_l (gz_r (gz_r (gz_r (gz_l (gz_r (gz_r (gz_l (gz_r (gz_l (gz_l (gz_r h)))))))))))) (gz_r (gz_r (gz_r (gz_r (gz_l (gz_r (gz_r (gz_l (gz_r (gz_l (gz_l (gz_r h)))))))))))) (gz_l (gz_l (gz_l (gz_r (gz_r (gz_r (gz_l (gz_r (gz_l (gz_l (gz_r h))))))))))) (gz_l (gz_r (gz_l (gz_l (gz_r (gz_r (gz_r (gz_l (gz_r (gz_l (gz_l (gz_r h)))))))))))) e6 hA
  have e7 : ∀ j : Nat, j < 7 → (Cond.eq (.elem (.field (Term.string "ToeplitzLabLaw$Lab" 52) "java/lang/String" "value" "[B") (.int (Int32.ofNat j))) (.int (([32, 112, 114, 105, 109, 101, 32] : List Int32).getD j 0))).before #[Value.ref b] s = true := by
    intro j hj
    rcases (show j = 0 ∨ j = 1 ∨ j = 2 ∨ j = 3 ∨ j = 4 ∨ j = 5 ∨ j = 6 by omega) with rfl | rfl | rfl | rfl | rfl | rfl | rfl
    · exact (gz_r (gz_r (gz_l (gz_l (gz_l (gz_l (gz_l (gz_r (gz_r (gz_l (gz_l (gz_r h))))))))))))
    · exact (gz_l (gz_r (gz_l (gz_l (gz_l (gz_l (gz_r (gz_r (gz_l (gz_l (gz_r h)))))))))))
    · exact (gz_l (gz_r (gz_r (gz_l (gz_l (gz_l (gz_l (gz_r (gz_r (gz_l (gz_l (gz_r h))))))))))))
    · exact (gz_r (gz_r (gz_r (gz_l (gz_l (gz_l (gz_l (gz_r (gz_r (gz_l (gz_l (gz_r h))))))))))))
    · exact (gz_l (gz_l (gz_r (gz_l (gz_l (gz_l (gz_r (gz_r (gz_l (gz_l (gz_r h)))))))))))
    · exact (gz_l (gz_r (gz_l (gz_r (gz_l (gz_l (gz_l (gz_r (gz_r (gz_l (gz_l (gz_r h))))))))))))
    · exact (gz_r (gz_r (gz_l (gz_r (gz_l (gz_l (gz_l (gz_r (gz_r (gz_l (gz_l (gz_r h))))))))))))
  obtain ⟨a7, v7, r7, x7, s7⟩ := gz_one (A := A) (own := "ToeplitzLabLaw$Lab") (k := 52) (tx := " prime ") (n := 7) (bs := [32, 112, 114, 105, 109, 101, 32]) (by decide) (hts _ (gpc3 (List.mem_of_getElem? (i := 39) rfl))) (gz_l (gz_r (gz_r (gz_r (gz_r (gz_r (gz_r (gz_l (gz_r (gz_l (gz_l (gz_r h)))))))))))) (gz_r (gz_r (gz_r (gz_r (gz_r (gz_r (gz_r (gz_l (gz_r (gz_l (gz_l (gz_r h)))))))))))) (gz_l (gz_l (gz_l (gz_l (gz_l (gz_l (gz_r (gz_r (gz_l (gz_l (gz_r h))))))))))) (gz_l (gz_r (gz_l (gz_l (gz_l (gz_l (gz_l (gz_r (gz_r (gz_l (gz_l (gz_r h)))))))))))) e7 hA
  have e8 : ∀ j : Nat, j < 10 → (Cond.eq (.elem (.field (Term.string "ToeplitzLabLaw$Lab" 57) "java/lang/String" "value" "[B") (.int (Int32.ofNat j))) (.int (([59, 100, 105, 97, 103, 111, 110, 97, 108, 32] : List Int32).getD j 0))).before #[Value.ref b] s = true := by
    intro j hj
    rcases (show j = 0 ∨ j = 1 ∨ j = 2 ∨ j = 3 ∨ j = 4 ∨ j = 5 ∨ j = 6 ∨ j = 7 ∨ j = 8 ∨ j = 9 by omega) with rfl | rfl | rfl | rfl | rfl | rfl | rfl | rfl | rfl | rfl
    · exact (gz_l (gz_r (gz_l (gz_l (gz_r (gz_l (gz_l (gz_r (gz_r (gz_l (gz_l (gz_r h))))))))))))
    · exact (gz_r (gz_r (gz_l (gz_l (gz_r (gz_l (gz_l (gz_r (gz_r (gz_l (gz_l (gz_r h))))))))))))
    · exact (gz_l (gz_r (gz_l (gz_r (gz_l (gz_l (gz_r (gz_r (gz_l (gz_l (gz_r h)))))))))))
    · exact (gz_l (gz_r (gz_r (gz_l (gz_r (gz_l (gz_l (gz_r (gz_r (gz_l (gz_l (gz_r h))))))))))))
    · exact (gz_r (gz_r (gz_r (gz_l (gz_r (gz_l (gz_l (gz_r (gz_r (gz_l (gz_l (gz_r h))))))))))))
    · exact (gz_l (gz_l (gz_r (gz_r (gz_l (gz_l (gz_r (gz_r (gz_l (gz_l (gz_r h)))))))))))
    · exact (gz_l (gz_r (gz_l (gz_r (gz_r (gz_l (gz_l (gz_r (gz_r (gz_l (gz_l (gz_r h))))))))))))
    · exact (gz_r (gz_r (gz_l (gz_r (gz_r (gz_l (gz_l (gz_r (gz_r (gz_l (gz_l (gz_r h))))))))))))
    · exact (gz_l (gz_l (gz_r (gz_r (gz_r (gz_l (gz_l (gz_r (gz_r (gz_l (gz_l (gz_r h))))))))))))
    · exact (gz_r (gz_l (gz_r (gz_r (gz_r (gz_l (gz_l (gz_r (gz_r (gz_l (gz_l (gz_r h))))))))))))
  obtain ⟨a8, v8, r8, x8, s8⟩ := gz_one (A := A) (own := "ToeplitzLabLaw$Lab") (k := 57) (tx := ";diagonal ") (n := 10) (bs := [59, 100, 105, 97, 103, 111, 110, 97, 108, 32]) (by decide) (hts _ (gpc3 (List.mem_of_getElem? (i := 41) rfl))) (gz_l (gz_r (gz_r (gz_l (gz_l (gz_l (gz_r (gz_r (gz_l (gz_l (gz_r h))))))))))) (gz_l (gz_r (gz_r (gz_r (gz_l (gz_l (gz_l (gz_r (gz_r (gz_l (gz_l (gz_r h)))))))))))) (gz_r (gz_r (gz_r (gz_r (gz_l (gz_l (gz_l (gz_r (gz_r (gz_l (gz_l (gz_r h)))))))))))) (gz_l (gz_l (gz_l (gz_r (gz_l (gz_l (gz_r (gz_r (gz_l (gz_l (gz_r h))))))))))) e8 hA
  have e9 : ∀ j : Nat, j < 6 → (Cond.eq (.elem (.field (Term.string "ToeplitzLabLaw$Lab" 66) "java/lang/String" "value" "[B") (.int (Int32.ofNat j))) (.int (([59, 115, 105, 100, 101, 32] : List Int32).getD j 0))).before #[Value.ref b] s = true := by
    intro j hj
    rcases (show j = 0 ∨ j = 1 ∨ j = 2 ∨ j = 3 ∨ j = 4 ∨ j = 5 by omega) with rfl | rfl | rfl | rfl | rfl | rfl
    · exact (gz_r (gz_r (gz_l (gz_l (gz_l (gz_r (gz_l (gz_r (gz_r (gz_l (gz_l (gz_r h))))))))))))
    · exact (gz_l (gz_r (gz_l (gz_l (gz_r (gz_l (gz_r (gz_r (gz_l (gz_l (gz_r h)))))))))))
    · exact (gz_l (gz_r (gz_r (gz_l (gz_l (gz_r (gz_l (gz_r (gz_r (gz_l (gz_l (gz_r h))))))))))))
    · exact (gz_r (gz_r (gz_r (gz_l (gz_l (gz_r (gz_l (gz_r (gz_r (gz_l (gz_l (gz_r h))))))))))))
    · exact (gz_l (gz_l (gz_r (gz_l (gz_r (gz_l (gz_r (gz_r (gz_l (gz_l (gz_r h)))))))))))
    · exact (gz_l (gz_r (gz_l (gz_r (gz_l (gz_r (gz_l (gz_r (gz_r (gz_l (gz_l (gz_r h))))))))))))
  obtain ⟨a9, v9, r9, x9, s9⟩ := gz_one (A := A) (own := "ToeplitzLabLaw$Lab") (k := 66) (tx := ";side ") (n := 6) (bs := [59, 115, 105, 100, 101, 32]) (by decide) (hts _ (gpc3 (List.mem_of_getElem? (i := 67) rfl))) (gz_l (gz_r (gz_r (gz_r (gz_r (gz_l (gz_l (gz_r (gz_r (gz_l (gz_l (gz_r h)))))))))))) (gz_r (gz_r (gz_r (gz_r (gz_r (gz_l (gz_l (gz_r (gz_r (gz_l (gz_l (gz_r h)))))))))))) (gz_l (gz_l (gz_l (gz_l (gz_r (gz_l (gz_r (gz_r (gz_l (gz_l (gz_r h))))))))))) (gz_l (gz_r (gz_l (gz_l (gz_l (gz_r (gz_l (gz_r (gz_r (gz_l (gz_l (gz_r h)))))))))))) e9 hA
  have e10 : ∀ j : Nat, j < 7 → (Cond.eq (.elem (.field (Term.string "ToeplitzLabLaw$Lab" 68) "java/lang/String" "value" "[B") (.int (Int32.ofNat j))) (.int (([59, 112, 114, 111, 98, 101, 32] : List Int32).getD j 0))).before #[Value.ref b] s = true := by
    intro j hj
    rcases (show j = 0 ∨ j = 1 ∨ j = 2 ∨ j = 3 ∨ j = 4 ∨ j = 5 ∨ j = 6 by omega) with rfl | rfl | rfl | rfl | rfl | rfl | rfl
    · exact (gz_l (gz_l (gz_l (gz_r (gz_r (gz_l (gz_r (gz_r (gz_l (gz_l (gz_r h)))))))))))
    · exact (gz_l (gz_r (gz_l (gz_l (gz_r (gz_r (gz_l (gz_r (gz_r (gz_l (gz_l (gz_r h))))))))))))
    · exact (gz_r (gz_r (gz_l (gz_l (gz_r (gz_r (gz_l (gz_r (gz_r (gz_l (gz_l (gz_r h))))))))))))
    · exact (gz_l (gz_r (gz_l (gz_r (gz_r (gz_l (gz_r (gz_r (gz_l (gz_l (gz_r h)))))))))))
    · exact (gz_l (gz_r (gz_r (gz_l (gz_r (gz_r (gz_l (gz_r (gz_r (gz_l (gz_l (gz_r h))))))))))))
    · exact (gz_r (gz_r (gz_r (gz_l (gz_r (gz_r (gz_l (gz_r (gz_r (gz_l (gz_l (gz_r h))))))))))))
    · exact (gz_l (gz_l (gz_r (gz_r (gz_r (gz_l (gz_r (gz_r (gz_l (gz_l (gz_r h)))))))))))
  obtain ⟨a10, v10, r10, x10, s10⟩ := gz_one (A := A) (own := "ToeplitzLabLaw$Lab") (k := 68) (tx := ";probe ") (n := 7) (bs := [59, 112, 114, 111, 98, 101, 32]) (by decide) (hts _ (gpc3 (List.mem_of_getElem? (i := 68) rfl))) (gz_r (gz_r (gz_l (gz_r (gz_l (gz_r (gz_l (gz_r (gz_r (gz_l (gz_l (gz_r h)))))))))))) (gz_l (gz_r (gz_r (gz_l (gz_r (gz_l (gz_r (gz_r (gz_l (gz_l (gz_r h))))))))))) (gz_l (gz_r (gz_r (gz_r (gz_l (gz_r (gz_l (gz_r (gz_r (gz_l (gz_l (gz_r h)))))))))))) (gz_r (gz_r (gz_r (gz_r (gz_l (gz_r (gz_l (gz_r (gz_r (gz_l (gz_l (gz_r h)))))))))))) e10 hA
  let aK : Nat → Nat := fun i => match i with | 0 => a0 | 1 => a1 | 2 => a2 | 3 => a3 | 4 => a4 | 5 => a5 | 6 => a6 | _ => 0
  let aV : Nat → Nat := fun i => match i with | 0 => v0 | 1 => v1 | 2 => v2 | 3 => v3 | 4 => v4 | 5 => v5 | 6 => v6 | _ => 0
  let kK : Nat → Nat := fun i => match i with | 0 => a6 | 1 => a7 | 2 => a8 | 3 => a9 | 4 => a10 | _ => 0
  let kV : Nat → Nat := fun i => match i with | 0 => v6 | 1 => v7 | 2 => v8 | 3 => v9 | 4 => v10 | _ => 0
  refine ⟨aK, aV, kK, kV, gz_vkS (fun i hi => ?_) (by decide +kernel) (by decide +kernel), ?_, gz_vkS (fun i hi => ?_) (by decide +kernel) (by decide +kernel), ?_⟩
  · rcases (show i = 0 ∨ i = 1 ∨ i = 2 ∨ i = 3 ∨ i = 4 ∨ i = 5 ∨ i = 6 by omega) with rfl | rfl | rfl | rfl | rfl | rfl | rfl
    · exact s0
    · exact s1
    · exact s2
    · exact s3
    · exact s4
    · exact s5
    · exact s6
  · unfold gTx2
    simp only [List.forall_mem_cons, List.not_mem_nil, false_implies, implies_true, and_true]
    exact ⟨r0, r1, r2, r3, r4, r5⟩
  · rcases (show i = 0 ∨ i = 1 ∨ i = 2 ∨ i = 3 ∨ i = 4 by omega) with rfl | rfl | rfl | rfl | rfl
    · exact s6
    · exact s7
    · exact s8
    · exact s9
    · exact s10
  · unfold kTx2
    simp only [List.forall_mem_cons, List.not_mem_nil, false_implies, implies_true, and_true]
    exact ⟨r6, r7, r8, r9, r10⟩
theorem gz_Nc (h : gHg s b) : ∀ k k2 : Nat, k < 3 → k2 < 3 → k ≠ k2 → va_Nc (gxn k) (gxn k2) s := by
  intro k k2 h1 h2 h3
  rcases (show (k = 0 ∧ k2 = 1) ∨ (k = 0 ∧ k2 = 2) ∨ (k = 1 ∧ k2 = 0) ∨ (k = 1 ∧ k2 = 2) ∨ (k = 2 ∧ k2 = 0) ∨ (k = 2 ∧ k2 = 1) by omega) with ⟨rfl, rfl⟩ | ⟨rfl, rfl⟩ | ⟨rfl, rfl⟩ | ⟨rfl, rfl⟩ | ⟨rfl, rfl⟩ | ⟨rfl, rfl⟩
  · exact va_Nc.of (gz_l (gz_l (gz_r (gz_r (gz_l (gz_r (gz_l (gz_r (gz_l (gz_l (gz_r h)))))))))))
  · exact va_Nc.of (gz_l (gz_r (gz_l (gz_r (gz_l (gz_r (gz_r (gz_l (gz_r (gz_l (gz_l (gz_r h))))))))))))
  · exact va_Nc.of (gz_l (gz_r (gz_r (gz_l (gz_l (gz_l (gz_r (gz_l (gz_r (gz_l (gz_l (gz_r h))))))))))))
  · exact va_Nc.of (gz_r (gz_r (gz_l (gz_r (gz_l (gz_r (gz_r (gz_l (gz_r (gz_l (gz_l (gz_r h))))))))))))
  · exact va_Nc.of (gz_r (gz_r (gz_r (gz_l (gz_l (gz_l (gz_r (gz_l (gz_r (gz_l (gz_l (gz_r h))))))))))))
  · exact va_Nc.of (gz_l (gz_r (gz_l (gz_r (gz_r (gz_l (gz_r (gz_l (gz_r (gz_l (gz_l (gz_r h))))))))))))
/-- the start's world -/
theorem gz_E (l : Launch) (hflags : l.flags = flags0) {L : Nat} {xs : Nat → Int32} (hts : gHt s b) (h : gHg s b) (hX : va_X b L xs s s.heap) (hbl : b < s.heap.size) : ∃ (E : gEn) (K : kEn), gl E = l ∧ gB0 E = s.heap.size ∧ gax E (0, 0, 0) = b ∧ gL E = L ∧ gEx E = [] ∧ kF E K s s.heap := by
  obtain ⟨D, ca, hK⟩ := gz_K hts
  have hA : ∀ a : Nat, a < s.heap.size → ¬ (fun q => s.heap.size ≤ q ∧ q ∉ ([] : List Nat)) a := fun a h1 h2 => absurd h1 (Nat.not_lt.mpr h2.1)
  obtain ⟨t, hZ, hT⟩ := gz_pr (A := fun q => s.heap.size ≤ q ∧ q ∉ ([] : List Nat)) hts h hA
  obtain ⟨t2, hZ2, hT2⟩ := gz_pr2 (A := fun q => s.heap.size ≤ q ∧ q ∉ ([] : List Nat)) hts h hA
  obtain ⟨t3, hZ3, hT3⟩ := gz_d1 (A := fun q => s.heap.size ≤ q ∧ q ∉ ([] : List Nat)) hts h hA
  obtain ⟨t4, hZ4, hT4⟩ := gz_d2 (A := fun q => s.heap.size ≤ q ∧ q ∉ ([] : List Nat)) hts h hA
  obtain ⟨aK, aV, kK, kV, hS, hR, hS2, hR2⟩ := gz_S (A := fun q => s.heap.size ≤ q ∧ q ∉ ([] : List Nat)) hts h hA
  refine ⟨(l, D, ca, s.heap.size, fun r => match r with | (0, _, _) => b | (1, 0, _) => t | (1, _, _) => t2 | (_, k, 0) => aK k | (_, k, _) => aV k, L, xs, kTb.getD 0 [], []), (kK, kV, t3, t4), rfl, rfl, rfl, rfl, rfl, ?_⟩
  refine ⟨⟨hK, gz_Nst hts, gz_us hts h hA, gz_ss hts h hA, hZ, hT, hZ2, hT2, hX, ⟨hA b hbl, hbl⟩, gz_Txt hts h, hR, hS, gz_cs hts h hA, gz_si hts h hA, gz_Nc h, ?_, Nat.le_refl _, fun q hq => absurd hq List.not_mem_nil⟩, hS2, ⟨⟨hR2, va_Nw.of rfl (hts _ (gpc3 (List.mem_of_getElem? (i := 12) rfl)))⟩, va_Nw.of rfl (hts _ (gpc2 (List.mem_of_getElem? (i := 166) rfl)))⟩, hZ3, hT3, hZ4, hT4⟩
  show l.stackTraces = false
  unfold Launch.stackTraces
  rw [hflags]
  decide +kernel
end START
