/-! ===== the start (by wip/whole/p98e.py) ===== -/
theorem gz_l {a b : Cond} {A : Array Value} {s : State} (h : (Cond.and a b).before A s = true) : a.before A s = true := by
  rw [Cond.before_and, Bool.and_eq_true] at h
  exact h.1
theorem gz_r {a b : Cond} {A : Array Value} {s : State} (h : (Cond.and a b).before A s = true) : b.before A s = true := by
  rw [Cond.before_and, Bool.and_eq_true] at h
  exact h.2
theorem gz_arr {ty : FieldType} {A : Array Value} {s : State} (h : (Cond.arrayClass ty).before A s = true) (ht : (match ty with | .object _ => false | _ => true) = true) : ∃ cA : ClassId, ArrOfT s cA ty ∧ va_RA s cA ty := by
  obtain ⟨c, k, comp, h1, h2, h3⟩ := Cond.arrayClass_spec h
  refine ⟨c, fun n z => ⟨(fun q hq => by cases hq), k, h2, comp, h3⟩, ?_⟩
  cases ty <;> first | exact h1 | cases ht
theorem gz_arrA {s : State} (h : gAr s) : ∃ cA : ClassId, ArrOfT s cA (.array .int) ∧ va_RA s cA (.array .int) := by
  obtain ⟨comp, c, k, h1, h2, h3, h4, h5⟩ := gAr_spec h
  exact ⟨c, fun n z => ⟨(fun q hq => by cases hq), k, h3, comp, h4⟩, h5⟩
theorem gz_arrO {s : State} {C : String} (h : va_AO C s) : ∃ cA : ClassId, ArrOfT s cA (.object C) ∧ va_RA s cA (.object C) := by
  obtain ⟨comp, c, k, h1, h2, h3, h4, h5⟩ := Cond.arrayOver_spec h
  exact ⟨c, fun n z => ⟨(fun q hq => by cases hq), k, h3, comp, h4⟩, k, comp, h3, h4, h1, h5⟩
section START
variable {s : State} {b : Addr}
abbrev gHt (s : State) (b : Addr) : Prop := ∀ w ∈ lw_tbl, w.before #[Value.ref b] s = true
abbrev gHg (s : State) (b : Addr) : Prop := (Jvm.Cond.and given_1 narrow_1).before #[Value.ref b] s = true
theorem gz_AO (hts : gHt s b) : va_AO "ToeplitzLab$State" s := va_AO.of (hts _ (gpc1 (List.mem_of_getElem? (i := 162) rfl)))
theorem gz_Ar (hts : gHt s b) : gAr s := (show (Cond.arrayOver (.array .int)).before #[Value.ref b] s = true from (hts _ (gpc1 (List.mem_of_getElem? (i := 181) rfl))))
theorem gz_K (hts : gHt s b) : ∃ (D : va_G) (ca : Nat → ClassId), va_K D vwCl [(ca 0, .int), (ca 1, .long), (ca 2, .boolean), (ca 3, .byte), (ca 4, .double), (ca 5, .array .int), (ca 6, .object "ToeplitzLab$State")] s := by
  obtain ⟨c0, i0, k0⟩ := u_known (T := TX0) (N := 2) (C := RX0) hts guw_0 (show (Cond.instantiable RX0 2).before #[Value.ref b] s = true from (hts _ (gpc1 (List.mem_of_getElem? (i := 218) rfl))))
  obtain ⟨c1, i1, k1⟩ := u_known (T := TX1) (N := 6) (C := RX1) hts guw_1 (show (Cond.instantiable RX1 6).before #[Value.ref b] s = true from (hts _ (gpc1 (List.mem_of_getElem? (i := 175) rfl))))
  obtain ⟨c2, i2, k2⟩ := u_known (T := TX2) (N := 3) (C := RX2) hts guw_2 (show (Cond.instantiable RX2 3).before #[Value.ref b] s = true from (hts _ (gpc1 (List.mem_of_getElem? (i := 156) rfl))))
  obtain ⟨c3, i3, k3⟩ := u_known (T := TX3) (N := 14) (C := RX3) hts guw_3 (show (Cond.instantiable RX3 14).before #[Value.ref b] s = true from (hts _ (gpc1 (List.mem_of_getElem? (i := 32) rfl))))
  obtain ⟨c4, i4, k4⟩ := u_known (T := TX4) (N := 2) (C := RX4) hts guw_4 (show (Cond.instantiable RX4 2).before #[Value.ref b] s = true from (hts _ (gpc1 (List.mem_of_getElem? (i := 233) rfl))))
  obtain ⟨c5, i5, k5⟩ := u_known (T := TX5) (N := 2) (C := RX5) hts guw_5 (show (Cond.instantiable RX5 2).before #[Value.ref b] s = true from (hts _ (gpc1 (List.mem_of_getElem? (i := 204) rfl))))
  obtain ⟨c6, i6, k6⟩ := u_known (T := TX6) (N := 11) (C := RX6) hts guw_6 (show (Cond.instantiable RX6 11).before #[Value.ref b] s = true from (hts _ (gpc1 (List.mem_of_getElem? (i := 38) rfl))))
  obtain ⟨c7, i7, k7⟩ := u_known (T := TX7) (N := 11) (C := RX7) hts guw_7 (show (Cond.instantiable RX7 11).before #[Value.ref b] s = true from (hts _ (gpc1 (List.mem_of_getElem? (i := 24) rfl))))
  obtain ⟨c8, i8, k8⟩ := u_known (T := TX8) (N := 32) (C := RX8) hts guw_8 (show (Cond.instantiable RX8 32).before #[Value.ref b] s = true from (hts _ (gpc5 (List.mem_of_getElem? (i := 228) rfl))))
  obtain ⟨a0, p0, q0⟩ := gz_arr (ty := .int) (show (Cond.arrayClass .int).before #[Value.ref b] s = true from (hts _ (gpc1 (List.mem_of_getElem? (i := 104) rfl)))) rfl
  obtain ⟨a1, p1, q1⟩ := gz_arr (ty := .long) (show (Cond.arrayClass .long).before #[Value.ref b] s = true from (hts _ (gpc1 (List.mem_of_getElem? (i := 105) rfl)))) rfl
  obtain ⟨a2, p2, q2⟩ := gz_arr (ty := .boolean) (show (Cond.arrayClass .boolean).before #[Value.ref b] s = true from (hts _ (gpc1 (List.mem_of_getElem? (i := 202) rfl)))) rfl
  obtain ⟨a3, p3, q3⟩ := gz_arr (ty := .byte) (show (Cond.arrayClass .byte).before #[Value.ref b] s = true from (hts _ (gpc1 (List.mem_of_getElem? (i := 103) rfl)))) rfl
  obtain ⟨a4, p4, q4⟩ := gz_arr (ty := .double) (show (Cond.arrayClass .double).before #[Value.ref b] s = true from (hts _ (gpc8 (List.mem_of_getElem? (i := 113) rfl)))) rfl
  obtain ⟨a5, p5, q5⟩ := gz_arrA (gz_Ar hts)
  obtain ⟨a6, p6, q6⟩ := gz_arrO (gz_AO hts)
  refine ⟨(fun c => match c with | 0 => c0 | 1 => c1 | 2 => c2 | 3 => c3 | 4 => c4 | 5 => c5 | 6 => c6 | 7 => c7 | 8 => c8 | _ => 0, fun c => match c with | 0 => i0 | 1 => i1 | 2 => i2 | 3 => i3 | 4 => i4 | 5 => i5 | 6 => i6 | 7 => i7 | 8 => i8 | _ => fun _ => 0), (fun j => match j with | 0 => a0 | 1 => a1 | 2 => a2 | 3 => a3 | 4 => a4 | 5 => a5 | 6 => a6 | _ => 0), fun c q hq => ?_, fun k q hq => ?_⟩
  · have hc : c < 9 := (List.getElem?_eq_some_iff.mp hq).1
    rcases (show c = 0 ∨ c = 1 ∨ c = 2 ∨ c = 3 ∨ c = 4 ∨ c = 5 ∨ c = 6 ∨ c = 7 ∨ c = 8 by omega) with rfl | rfl | rfl | rfl | rfl | rfl | rfl | rfl | rfl
    · cases hq; exact k0
    · cases hq; exact k1
    · cases hq; exact k2
    · cases hq; exact k3
    · cases hq; exact k4
    · cases hq; exact k5
    · cases hq; exact k6
    · cases hq; exact k7
    · cases hq; exact k8
  · have hc : k < 7 := (List.getElem?_eq_some_iff.mp hq).1
    rcases (show k = 0 ∨ k = 1 ∨ k = 2 ∨ k = 3 ∨ k = 4 ∨ k = 5 ∨ k = 6 by omega) with rfl | rfl | rfl | rfl | rfl | rfl | rfl
    · cases hq; exact ⟨p0, q0⟩
    · cases hq; exact ⟨p1, q1⟩
    · cases hq; exact ⟨p2, q2⟩
    · cases hq; exact ⟨p3, q3⟩
    · cases hq; exact ⟨p4, q4⟩
    · cases hq; exact ⟨p5, q5⟩
    · cases hq; exact ⟨p6, q6⟩
theorem gz_Nst (hts : gHt s b) : ∀ w ∈ gNst, va_Nw w s := by
  unfold gNst
  simp only [List.forall_mem_cons, List.not_mem_nil, false_implies, implies_true, and_true]
  exact ⟨va_Nw.of rfl (hts _ (gpc1 (List.mem_of_getElem? (i := 186) rfl))), va_Nw.of rfl (hts _ (gpc3 (List.mem_of_getElem? (i := 162) rfl))), va_Nw.of rfl (hts _ (gpc5 (List.mem_of_getElem? (i := 54) rfl))), va_Nw.of rfl (hts _ (gpc4 (List.mem_of_getElem? (i := 85) rfl))), va_Nw.of rfl (hts _ (gpc3 (List.mem_of_getElem? (i := 22) rfl))), va_Nw.of rfl (hts _ (gpc5 (List.mem_of_getElem? (i := 122) rfl))), va_Nw.of rfl (hts _ (gpc1 (List.mem_of_getElem? (i := 154) rfl))), va_Nw.of rfl (hts _ (gpc2 (List.mem_of_getElem? (i := 90) rfl))), va_Nw.of rfl (hts _ (gpc2 (List.mem_of_getElem? (i := 92) rfl))), va_Nw.of rfl (hts _ (gpc2 (List.mem_of_getElem? (i := 94) rfl))), va_Nw.of rfl (hts _ (gpc3 (List.mem_of_getElem? (i := 90) rfl))), va_Nw.of rfl (hts _ (gpc2 (List.mem_of_getElem? (i := 88) rfl))), va_Nw.of rfl (hts _ (gpc3 (List.mem_of_getElem? (i := 54) rfl)))⟩
theorem gz_Ni (hts : gHt s b) : gNi s := by
  refine ⟨?_, gz_AO hts, gz_Ar hts⟩
  unfold gNs2
  simp only [List.forall_mem_cons, List.not_mem_nil, false_implies, implies_true, and_true]
  exact ⟨va_Nw.of rfl (hts _ (gpc1 (List.mem_of_getElem? (i := 33) rfl))), va_Nw.of rfl (hts _ (gpc1 (List.mem_of_getElem? (i := 39) rfl))), va_Nw.of rfl (hts _ (gpc1 (List.mem_of_getElem? (i := 154) rfl))), va_Nw.of rfl (hts _ (gpc1 (List.mem_of_getElem? (i := 157) rfl))), va_Nw.of rfl (hts _ (gpc1 (List.mem_of_getElem? (i := 176) rfl))), va_Nw.of rfl (hts _ (gpc1 (List.mem_of_getElem? (i := 205) rfl))), va_Nw.of rfl (hts _ (gpc1 (List.mem_of_getElem? (i := 219) rfl))), va_Nw.of rfl (hts _ (gpc1 (List.mem_of_getElem? (i := 234) rfl))), va_Nw.of rfl (hts _ (gpc1 (List.mem_of_getElem? (i := 239) rfl)))⟩
variable {A : Nat → Prop}
theorem gz_us (hts : gHt s b) (h : gHg s b) (hA : ∀ a : Nat, a < s.heap.size → ¬ A a) : vx_Zq "java/lang/Throwable" "UNASSIGNED_STACK" "[Ljava/lang/StackTraceElement;" A s s.heap := vx_Zqof (hts _ (gpc2 (List.mem_of_getElem? (i := 113) rfl))) (hts _ (gpc1 (List.mem_of_getElem? (i := 10) rfl))) (gz_r (gz_r (gz_l (gz_l (gz_l (gz_l (gz_l (gz_l (gz_l (gz_l (gz_r h))))))))))) hA
theorem gz_ss (hts : gHt s b) (h : gHg s b) (hA : ∀ a : Nat, a < s.heap.size → ¬ A a) : vx_Zq "java/lang/Throwable" "SUPPRESSED_SENTINEL" "Ljava/util/List;" A s s.heap := vx_Zqof (hts _ (gpc2 (List.mem_of_getElem? (i := 115) rfl))) (hts _ (gpc1 (List.mem_of_getElem? (i := 10) rfl))) (gz_l (gz_l (gz_r (gz_l (gz_l (gz_l (gz_l (gz_l (gz_l (gz_l (gz_r h))))))))))) hA
theorem gz_si (hts : gHt s b) (h : gHg s b) (hA : ∀ a : Nat, a < s.heap.size → ¬ A a) : va_Zq "jdk/internal/util/Preconditions" "SIOOBE_FORMATTER" "Ljava/util/function/BiFunction;" A s s.heap := va_Zqof (hts _ (gpc2 (List.mem_of_getElem? (i := 230) rfl))) (hts _ (gpc1 (List.mem_of_getElem? (i := 19) rfl))) (gz_l (gz_r (gz_r (gz_l (gz_l (gz_l (gz_l (gz_l (gz_l (gz_l (gz_r h))))))))))) hA
theorem gz_cs (hts : gHt s b) (h : gHg s b) (hA : ∀ a : Nat, a < s.heap.size → ¬ A a) : va_Z "java/lang/String" "COMPACT_STRINGS" "Z" (.int 1) A s s.heap := va_Zof (hts _ (gpc2 (List.mem_of_getElem? (i := 214) rfl))) (hts _ (gpc1 (List.mem_of_getElem? (i := 17) rfl))) (va_eqt (gz_r (gz_l (gz_r (gz_l (gz_l (gz_l (gz_l (gz_l (gz_l (gz_l (gz_r h)))))))))))) hA
theorem gz_pr (hts : gHt s b) (h : gHg s b) (hA : ∀ a : Nat, a < s.heap.size → ¬ A a) : ∃ t : Nat, va_Z "ToeplitzLab" "PRIMES" "[I" (.ref t) A s s.heap ∧ va_T .int t 11 (fun j => .int (gprime j)) A s s.heap := by
  have hel : ∀ j : Nat, j < 11 → (Term.elem (Term.static "ToeplitzLab" "PRIMES" "[I") (.int (Int32.ofNat j))).eval #[Value.ref b] s none [] s = some (.int (gprime j)) := by
    intro j hj
    rcases (show j = 0 ∨ j = 1 ∨ j = 2 ∨ j = 3 ∨ j = 4 ∨ j = 5 ∨ j = 6 ∨ j = 7 ∨ j = 8 ∨ j = 9 ∨ j = 10 by omega) with rfl | rfl | rfl | rfl | rfl | rfl | rfl | rfl | rfl | rfl | rfl
    · exact va_eqt (gz_l (gz_r (gz_r (gz_r (gz_l (gz_l (gz_l (gz_l (gz_l (gz_l (gz_r h)))))))))))
    · exact va_eqt (gz_r (gz_r (gz_r (gz_r (gz_l (gz_l (gz_l (gz_l (gz_l (gz_l (gz_r h)))))))))))
    · exact va_eqt (gz_l (gz_l (gz_l (gz_r (gz_l (gz_l (gz_l (gz_l (gz_l (gz_r h))))))))))
    · exact va_eqt (gz_l (gz_r (gz_l (gz_l (gz_r (gz_l (gz_l (gz_l (gz_l (gz_l (gz_r h)))))))))))
    · exact va_eqt (gz_r (gz_r (gz_l (gz_l (gz_r (gz_l (gz_l (gz_l (gz_l (gz_l (gz_r h)))))))))))
    · exact va_eqt (gz_l (gz_l (gz_r (gz_l (gz_r (gz_l (gz_l (gz_l (gz_l (gz_l (gz_r h)))))))))))
    · exact va_eqt (gz_r (gz_l (gz_r (gz_l (gz_r (gz_l (gz_l (gz_l (gz_l (gz_l (gz_r h)))))))))))
    · exact va_eqt (gz_l (gz_r (gz_r (gz_l (gz_r (gz_l (gz_l (gz_l (gz_l (gz_l (gz_r h)))))))))))
    · exact va_eqt (gz_r (gz_r (gz_r (gz_l (gz_r (gz_l (gz_l (gz_l (gz_l (gz_l (gz_r h)))))))))))
    · exact va_eqt (gz_l (gz_l (gz_l (gz_r (gz_r (gz_l (gz_l (gz_l (gz_l (gz_l (gz_r h)))))))))))
    · exact va_eqt (gz_r (gz_l (gz_l (gz_r (gz_r (gz_l (gz_l (gz_l (gz_l (gz_l (gz_r h)))))))))))
  obtain ⟨t, ht, hT⟩ := va_Tof (A := A) (f := fun j => .int (gprime j)) (N := 11) (by decide) (gz_l (gz_l (gz_r (gz_r (gz_l (gz_l (gz_l (gz_l (gz_l (gz_l (gz_r h))))))))))) (va_eqt (gz_r (gz_l (gz_r (gz_r (gz_l (gz_l (gz_l (gz_l (gz_l (gz_l (gz_r h)))))))))))) hel hA
  exact ⟨t, va_Zof (hts _ (gpc3 (List.mem_of_getElem? (i := 26) rfl))) (hts _ (gpc1 (List.mem_of_getElem? (i := 1) rfl))) ht hA, hT⟩
theorem gz_ex {own tx : String} {k : Nat} (h1 : (Cond.stringRef own k tx).before #[Value.ref b] s = true) (h2 : (Cond.exactly (Term.string own k) "java/lang/String").before #[Value.ref b] s = true) : ∃ a, vk_R own k tx a s := by
  obtain ⟨a, c, cA, kA, q1, -⟩ := Cond.exactly_spec (args := #[Value.ref b]) (first := s) (o := none) (s := s) (idx := []) (t := Term.string own k) (cls := "java/lang/String") h2
  exact ⟨a, vk_R.of h1 q1⟩
theorem gz_Txt (hts : gHt s b) (h : gHg s b) : ∀ q ∈ gTxt, ∃ a, vk_R q.1 q.2.1 q.2.2 a s := by
  unfold gTxt
  simp only [List.forall_mem_cons, List.not_mem_nil, false_implies, implies_true, and_true]
  exact ⟨gz_ex (hts _ (gpc2 (List.mem_of_getElem? (i := 127) rfl))) (gz_l (gz_r (gz_r (gz_r (gz_r (gz_r (gz_l (gz_l (gz_l (gz_l (gz_r h))))))))))), gz_ex (hts _ (gpc3 (List.mem_of_getElem? (i := 61) rfl))) (gz_r (gz_r (gz_r (gz_r (gz_r (gz_l (gz_l (gz_r (gz_l (gz_l (gz_r h))))))))))), gz_ex (hts _ (gpc3 (List.mem_of_getElem? (i := 97) rfl))) (gz_l (gz_r (gz_l (gz_r (gz_r (gz_r (gz_l (gz_r (gz_l (gz_l (gz_r h))))))))))), gz_ex (hts _ (gpc3 (List.mem_of_getElem? (i := 108) rfl))) (gz_r (gz_r (gz_l (gz_l (gz_r (gz_l (gz_r (gz_r (gz_l (gz_l (gz_r h))))))))))), gz_ex (hts _ (gpc3 (List.mem_of_getElem? (i := 124) rfl))) (gz_l (gz_r (gz_l (gz_l (gz_r (gz_r (gz_r (gz_r (gz_l (gz_l (gz_r h))))))))))), gz_ex (hts _ (gpc3 (List.mem_of_getElem? (i := 150) rfl))) (gz_r (gz_r (gz_r (gz_l (gz_r (gz_l (gz_l (gz_l (gz_r (gz_l (gz_r h))))))))))), gz_ex (hts _ (gpc3 (List.mem_of_getElem? (i := 228) rfl))) (gz_l (gz_r (gz_l (gz_l (gz_r (gz_r (gz_l (gz_l (gz_r (gz_l (gz_r h))))))))))), gz_ex (hts _ (gpc4 (List.mem_of_getElem? (i := 21) rfl))) (gz_r (gz_l (gz_r (gz_r (gz_l (gz_l (gz_r (gz_l (gz_r (gz_l (gz_r h))))))))))), gz_ex (hts _ (gpc4 (List.mem_of_getElem? (i := 34) rfl))) (gz_r (gz_r (gz_r (gz_r (gz_l (gz_r (gz_r (gz_l (gz_r (gz_l (gz_r h))))))))))), gz_ex (hts _ (gpc4 (List.mem_of_getElem? (i := 98) rfl))) (gz_l (gz_r (gz_r (gz_l (gz_l (gz_r (gz_l (gz_r (gz_r (gz_l (gz_r h))))))))))), gz_ex (hts _ (gpc4 (List.mem_of_getElem? (i := 122) rfl))) (gz_l (gz_l (gz_l (gz_l (gz_l (gz_r (gz_r (gz_r (gz_l (gz_r h)))))))))), gz_ex (hts _ (gpc4 (List.mem_of_getElem? (i := 154) rfl))) (gz_l (gz_l (gz_l (gz_l (gz_r (gz_r (gz_r (gz_r (gz_l (gz_r h)))))))))), gz_ex (hts _ (gpc4 (List.mem_of_getElem? (i := 192) rfl))) (gz_r (gz_r (gz_l (gz_r (gz_r (gz_r (gz_r (gz_r (gz_r (gz_l (gz_r h))))))))))), gz_ex (hts _ (gpc5 (List.mem_of_getElem? (i := 5) rfl))) (gz_l (gz_l (gz_l (gz_r (gz_r (gz_l (gz_l (gz_l (gz_l (gz_r (gz_r h))))))))))), gz_ex (hts _ (gpc5 (List.mem_of_getElem? (i := 82) rfl))) (gz_l (gz_r (gz_l (gz_l (gz_r (gz_r (gz_l (gz_l (gz_l (gz_r (gz_r h))))))))))), gz_ex (hts _ (gpc5 (List.mem_of_getElem? (i := 109) rfl))) (gz_r (gz_l (gz_l (gz_r (gz_l (gz_r (gz_r (gz_l (gz_l (gz_r (gz_r h))))))))))), gz_ex (hts _ (gpc5 (List.mem_of_getElem? (i := 110) rfl))) (gz_r (gz_l (gz_r (gz_l (gz_l (gz_l (gz_l (gz_r (gz_l (gz_r (gz_r h))))))))))), gz_ex (hts _ (gpc5 (List.mem_of_getElem? (i := 148) rfl))) (gz_r (gz_l (gz_r (gz_l (gz_l (gz_r (gz_l (gz_r (gz_l (gz_r (gz_r h))))))))))), gz_ex (hts _ (gpc5 (List.mem_of_getElem? (i := 156) rfl))) (gz_r (gz_l (gz_r (gz_l (gz_l (gz_l (gz_r (gz_r (gz_l (gz_r (gz_r h))))))))))), gz_ex (hts _ (gpc5 (List.mem_of_getElem? (i := 164) rfl))) (gz_l (gz_l (gz_r (gz_r (gz_l (gz_r (gz_r (gz_r (gz_l (gz_r (gz_r h))))))))))), gz_ex (hts _ (gpc5 (List.mem_of_getElem? (i := 172) rfl))) (gz_l (gz_l (gz_r (gz_l (gz_r (gz_l (gz_l (gz_l (gz_r (gz_r (gz_r h))))))))))), gz_ex (hts _ (gpc5 (List.mem_of_getElem? (i := 194) rfl))) (gz_l (gz_r (gz_r (gz_l (gz_r (gz_r (gz_l (gz_l (gz_r (gz_r (gz_r h))))))))))), gz_ex (hts _ (gpc5 (List.mem_of_getElem? (i := 207) rfl))) (gz_r (gz_l (gz_r (gz_l (gz_l (gz_r (gz_r (gz_l (gz_r (gz_r (gz_r h))))))))))), gz_ex (hts _ (gpc5 (List.mem_of_getElem? (i := 218) rfl))) (gz_r (gz_r (gz_l (gz_l (gz_l (gz_l (gz_l (gz_r (gz_r (gz_r (gz_r h))))))))))), gz_ex (hts _ (gpc5 (List.mem_of_getElem? (i := 226) rfl))) (gz_l (gz_r (gz_r (gz_r (gz_r (gz_l (gz_l (gz_r (gz_r (gz_r (gz_r h)))))))))))⟩
theorem gz_one {own tx : String} {k n : Nat} {bs : List Int32} (hn : n < 2 ^ 31) (h1 : (Cond.stringRef own k tx).before #[Value.ref b] s = true) (h2 : (Cond.exactly (Term.string own k) "java/lang/String").before #[Value.ref b] s = true) (h3 : (Cond.eq (.field (Term.string own k) "java/lang/String" "coder" "B") (.int 0)).before #[Value.ref b] s = true)
    (h4 : (Cond.arrayOf (.field (Term.string own k) "java/lang/String" "value" "[B") .byte).before #[Value.ref b] s = true) (h5 : (Cond.eq (.length (.field (Term.string own k) "java/lang/String" "value" "[B")) (.int (Int32.ofNat n))).before #[Value.ref b] s = true)
    (h6 : ∀ j : Nat, j < n → (Cond.eq (.elem (.field (Term.string own k) "java/lang/String" "value" "[B") (.int (Int32.ofNat j))) (.int (bs.getD j 0))).before #[Value.ref b] s = true) (hA : ∀ a : Nat, a < s.heap.size → ¬ A a) :
    ∃ a v : Nat, vk_R own k tx a s ∧ (Term.string own k).eval #[Value.ref b] s none [] s = some (.ref a) ∧ va_O "java/lang/String" a A s s.heap ∧ va_OF "java/lang/String" "coder" "B" (.int 0) a A s s.heap ∧ va_OF "java/lang/String" "value" "[B" (.ref v) a A s s.heap ∧ va_T .byte v n (fun j => .int (bs.getD j 0)) A s s.heap := by
  obtain ⟨aK, aV, hS, hE⟩ := vk_Sof (N := 1) (tm := fun _ => Term.string own k) (len := [n]) (byt := [bs]) (A := A) (s := s) (args := #[Value.ref b]) (fun i hi => by rw [show i = 0 by omega]; exact hn) (fun _ _ => h2) (fun _ _ => h3) (fun _ _ => h4) (fun i hi => by rw [show i = 0 by omega]; exact h5) (fun i hi => by rw [show i = 0 by omega]; exact h6) (fun i j hi hj e => absurd (show i = j by omega) e) hA
  have e := hE 0 (by decide)
  exact ⟨aK 0, aV 0, vk_R.of h1 e, e, hS.1 0 (by decide)⟩
theorem gz_OF1 {o n d : String} {v v2 : Value} {t : Nat} {U : State} {H : Heap} (h1 : va_OF o n d v t A U H) (h2 : va_OF o n d v2 t A U H) : v = v2 := by
  obtain ⟨cf, k, i, f, cell, a1, a2, a3, a4, a5, a6⟩ := h1
  obtain ⟨cf', k', i', f', cell', b1, b2, b3, b4, b5, b6⟩ := h2
  cases a1.symm.trans b1
  cases a3.symm.trans b3
  exact Option.some.inj (a5.symm.trans b5)
theorem gz_T1 {ty : FieldType} {t N M : Nat} {f g : Nat → Value} {U : State} {H : Heap} (hN : N < 2 ^ 31) (hM : M < 2 ^ 31) (h1 : va_T ty t N f A U H) (h2 : va_T ty t M g A U H) : N = M ∧ ∀ j, j < N → f j = g j := by
  obtain ⟨cell, a1, a2, a3, a4, a5, a6, a7⟩ := h1
  obtain ⟨cell', b1, b2, b3, b4, b5, b6, b7⟩ := h2
  cases a1.symm.trans b1
  have e : Int32.ofNat N = Int32.ofNat M := a5.symm.trans b5
  have e2 : N = M := by
    have h3 := congrArg Int32.toInt e
    rw [Int32.toInt_ofNat_of_lt hN, Int32.toInt_ofNat_of_lt hM] at h3
    exact Int.ofNat.inj h3
  subst e2
  exact ⟨rfl, fun j hj => Option.some.inj ((a6 j hj).symm.trans (b6 j hj))⟩
theorem gz_dif : ∀ i, i < 6 → ∀ j, j < 6 → i = j ∨ gTl.getD i 0 ≠ gTl.getD j 0 ∨ ∃ k, k < gTl.getD i 0 ∧ (gTb.getD i []).getD k 0 ≠ (gTb.getD j []).getD k 0 := by
  intro i hi j hj
  have key : (List.range 6).all (fun i => (List.range 6).all (fun j => decide (i = j) || !(decide (gTl.getD i 0 = gTl.getD j 0)) || (List.range (gTl.getD i 0)).any (fun k => !(decide ((gTb.getD i []).getD k 0 = (gTb.getD j []).getD k 0))))) = true := by decide +kernel
  have k1 := List.all_eq_true.mp (List.all_eq_true.mp key i (List.mem_range.mpr hi)) j (List.mem_range.mpr hj)
  rcases Bool.or_eq_true_iff.mp k1 with k2 | k2
  · rcases Bool.or_eq_true_iff.mp k2 with k3 | k3
    · exact Or.inl (of_decide_eq_true k3)
    · refine Or.inr (Or.inl (fun e => ?_))
      rw [e] at k3
      simp at k3
  · obtain ⟨k, hk, hk2⟩ := List.any_eq_true.mp k2
    refine Or.inr (Or.inr ⟨k, List.mem_range.mp hk, fun e => ?_⟩)
    rw [e] at hk2
    simp at hk2
theorem gz_S (hts : gHt s b) (h : gHg s b) (hA : ∀ a : Nat, a < s.heap.size → ¬ A a) : ∃ aK aV : Nat → Nat, vk_S 6 gTl gTb aK aV A s s.heap ∧ ∀ q ∈ gTx2, vk_R q.1 q.2.1 q.2.2.1 (aK q.2.2.2) s := by
  have e0 : ∀ j : Nat, j < 8 → (Cond.eq (.elem (.field (Term.string "ToeplitzLab$Input" 76) "java/lang/String" "value" "[B") (.int (Int32.ofNat j))) (.int (([116, 111, 101, 112, 108, 105, 116, 122] : List Int32).getD j 0))).before #[Value.ref b] s = true := by
    intro j hj
    rcases (show j = 0 ∨ j = 1 ∨ j = 2 ∨ j = 3 ∨ j = 4 ∨ j = 5 ∨ j = 6 ∨ j = 7 by omega) with rfl | rfl | rfl | rfl | rfl | rfl | rfl | rfl
    · exact (gz_r (gz_l (gz_r (gz_l (gz_l (gz_r (gz_r (gz_l (gz_l (gz_l (gz_r h)))))))))))
    · exact (gz_l (gz_r (gz_r (gz_l (gz_l (gz_r (gz_r (gz_l (gz_l (gz_l (gz_r h)))))))))))
    · exact (gz_r (gz_r (gz_r (gz_l (gz_l (gz_r (gz_r (gz_l (gz_l (gz_l (gz_r h)))))))))))
    · exact (gz_l (gz_l (gz_l (gz_r (gz_l (gz_r (gz_r (gz_l (gz_l (gz_l (gz_r h)))))))))))
    · exact (gz_r (gz_l (gz_l (gz_r (gz_l (gz_r (gz_r (gz_l (gz_l (gz_l (gz_r h)))))))))))
    · exact (gz_l (gz_r (gz_l (gz_r (gz_l (gz_r (gz_r (gz_l (gz_l (gz_l (gz_r h)))))))))))
    · exact (gz_r (gz_r (gz_l (gz_r (gz_l (gz_r (gz_r (gz_l (gz_l (gz_l (gz_r h)))))))))))
    · exact (gz_l (gz_l (gz_r (gz_r (gz_l (gz_r (gz_r (gz_l (gz_l (gz_l (gz_r h)))))))))))
  obtain ⟨a0, v0, r0, x0, s0⟩ := gz_one (A := A) (own := "ToeplitzLab$Input") (k := 76) (tx := "toeplitz") (n := 8) (bs := [116, 111, 101, 112, 108, 105, 116, 122]) (by decide) (hts _ (gpc2 (List.mem_of_getElem? (i := 200) rfl))) (gz_l (gz_l (gz_l (gz_l (gz_r (gz_r (gz_l (gz_l (gz_l (gz_r h)))))))))) (gz_l (gz_r (gz_l (gz_l (gz_l (gz_r (gz_r (gz_l (gz_l (gz_l (gz_r h))))))))))) (gz_r (gz_r (gz_l (gz_l (gz_l (gz_r (gz_r (gz_l (gz_l (gz_l (gz_r h))))))))))) (gz_l (gz_l (gz_r (gz_l (gz_l (gz_r (gz_r (gz_l (gz_l (gz_l (gz_r h))))))))))) e0 hA
  have e1 : ∀ j : Nat, j < 5 → (Cond.eq (.elem (.field (Term.string "ToeplitzLab$Input" 92) "java/lang/String" "value" "[B") (.int (Int32.ofNat j))) (.int (([112, 114, 105, 109, 101] : List Int32).getD j 0))).before #[Value.ref b] s = true := by
    intro j hj
    rcases (show j = 0 ∨ j = 1 ∨ j = 2 ∨ j = 3 ∨ j = 4 by omega) with rfl | rfl | rfl | rfl | rfl
    · exact (gz_l (gz_r (gz_l (gz_l (gz_r (gz_r (gz_r (gz_l (gz_l (gz_l (gz_r h)))))))))))
    · exact (gz_r (gz_r (gz_l (gz_l (gz_r (gz_r (gz_r (gz_l (gz_l (gz_l (gz_r h)))))))))))
    · exact (gz_l (gz_l (gz_r (gz_l (gz_r (gz_r (gz_r (gz_l (gz_l (gz_l (gz_r h)))))))))))
    · exact (gz_r (gz_l (gz_r (gz_l (gz_r (gz_r (gz_r (gz_l (gz_l (gz_l (gz_r h)))))))))))
    · exact (gz_l (gz_r (gz_r (gz_l (gz_r (gz_r (gz_r (gz_l (gz_l (gz_l (gz_r h)))))))))))
  obtain ⟨a1, v1, r1, x1, s1⟩ := gz_one (A := A) (own := "ToeplitzLab$Input") (k := 92) (tx := "prime") (n := 5) (bs := [112, 114, 105, 109, 101]) (by decide) (hts _ (gpc3 (List.mem_of_getElem? (i := 21) rfl))) (gz_r (gz_l (gz_r (gz_r (gz_l (gz_r (gz_r (gz_l (gz_l (gz_l (gz_r h))))))))))) (gz_l (gz_r (gz_r (gz_r (gz_l (gz_r (gz_r (gz_l (gz_l (gz_l (gz_r h))))))))))) (gz_r (gz_r (gz_r (gz_r (gz_l (gz_r (gz_r (gz_l (gz_l (gz_l (gz_r h))))))))))) (gz_l (gz_l (gz_l (gz_r (gz_r (gz_r (gz_l (gz_l (gz_l (gz_r h)))))))))) e1 hA
  have e2 : ∀ j : Nat, j < 8 → (Cond.eq (.elem (.field (Term.string "ToeplitzLab$Input" 100) "java/lang/String" "value" "[B") (.int (Int32.ofNat j))) (.int (([100, 105, 97, 103, 111, 110, 97, 108] : List Int32).getD j 0))).before #[Value.ref b] s = true := by
    intro j hj
    rcases (show j = 0 ∨ j = 1 ∨ j = 2 ∨ j = 3 ∨ j = 4 ∨ j = 5 ∨ j = 6 ∨ j = 7 by omega) with rfl | rfl | rfl | rfl | rfl | rfl | rfl | rfl
    · exact (gz_r (gz_r (gz_l (gz_r (gz_r (gz_r (gz_r (gz_l (gz_l (gz_l (gz_r h)))))))))))
    · exact (gz_l (gz_l (gz_r (gz_r (gz_r (gz_r (gz_r (gz_l (gz_l (gz_l (gz_r h)))))))))))
    · exact (gz_r (gz_l (gz_r (gz_r (gz_r (gz_r (gz_r (gz_l (gz_l (gz_l (gz_r h)))))))))))
    · exact (gz_l (gz_r (gz_r (gz_r (gz_r (gz_r (gz_r (gz_l (gz_l (gz_l (gz_r h)))))))))))
    · exact (gz_r (gz_r (gz_r (gz_r (gz_r (gz_r (gz_r (gz_l (gz_l (gz_l (gz_r h)))))))))))
    · exact (gz_l (gz_l (gz_l (gz_l (gz_l (gz_l (gz_r (gz_l (gz_l (gz_r h))))))))))
    · exact (gz_l (gz_r (gz_l (gz_l (gz_l (gz_l (gz_l (gz_r (gz_l (gz_l (gz_r h)))))))))))
    · exact (gz_r (gz_r (gz_l (gz_l (gz_l (gz_l (gz_l (gz_r (gz_l (gz_l (gz_r h)))))))))))
  obtain ⟨a2, v2, r2, x2, s2⟩ := gz_one (A := A) (own := "ToeplitzLab$Input") (k := 100) (tx := "diagonal") (n := 8) (bs := [100, 105, 97, 103, 111, 110, 97, 108]) (by decide) (hts _ (gpc3 (List.mem_of_getElem? (i := 31) rfl))) (gz_r (gz_r (gz_r (gz_l (gz_r (gz_r (gz_r (gz_l (gz_l (gz_l (gz_r h))))))))))) (gz_l (gz_l (gz_l (gz_r (gz_r (gz_r (gz_r (gz_l (gz_l (gz_l (gz_r h))))))))))) (gz_r (gz_l (gz_l (gz_r (gz_r (gz_r (gz_r (gz_l (gz_l (gz_l (gz_r h))))))))))) (gz_l (gz_r (gz_l (gz_r (gz_r (gz_r (gz_r (gz_l (gz_l (gz_l (gz_r h))))))))))) e2 hA
  have e3 : ∀ j : Nat, j < 4 → (Cond.eq (.elem (.field (Term.string "ToeplitzLab$Input" 109) "java/lang/String" "value" "[B") (.int (Int32.ofNat j))) (.int (([98, 97, 110, 100] : List Int32).getD j 0))).before #[Value.ref b] s = true := by
    intro j hj
    rcases (show j = 0 ∨ j = 1 ∨ j = 2 ∨ j = 3 by omega) with rfl | rfl | rfl | rfl
    · exact (gz_l (gz_l (gz_r (gz_l (gz_l (gz_l (gz_r (gz_l (gz_l (gz_r h))))))))))
    · exact (gz_l (gz_r (gz_l (gz_r (gz_l (gz_l (gz_l (gz_r (gz_l (gz_l (gz_r h)))))))))))
    · exact (gz_r (gz_r (gz_l (gz_r (gz_l (gz_l (gz_l (gz_r (gz_l (gz_l (gz_r h)))))))))))
    · exact (gz_l (gz_l (gz_r (gz_r (gz_l (gz_l (gz_l (gz_r (gz_l (gz_l (gz_r h)))))))))))
  obtain ⟨a3, v3, r3, x3, s3⟩ := gz_one (A := A) (own := "ToeplitzLab$Input") (k := 109) (tx := "band") (n := 4) (bs := [98, 97, 110, 100]) (by decide) (hts _ (gpc3 (List.mem_of_getElem? (i := 44) rfl))) (gz_l (gz_l (gz_r (gz_l (gz_l (gz_l (gz_l (gz_r (gz_l (gz_l (gz_r h))))))))))) (gz_r (gz_l (gz_r (gz_l (gz_l (gz_l (gz_l (gz_r (gz_l (gz_l (gz_r h))))))))))) (gz_l (gz_r (gz_r (gz_l (gz_l (gz_l (gz_l (gz_r (gz_l (gz_l (gz_r h))))))))))) (gz_r (gz_r (gz_r (gz_l (gz_l (gz_l (gz_l (gz_r (gz_l (gz_l (gz_r h))))))))))) e3 hA
  have e4 : ∀ j : Nat, j < 4 → (Cond.eq (.elem (.field (Term.string "ToeplitzLab$Input" 111) "java/lang/String" "value" "[B") (.int (Int32.ofNat j))) (.int (([115, 105, 100, 101] : List Int32).getD j 0))).before #[Value.ref b] s = true := by
    intro j hj
    rcases (show j = 0 ∨ j = 1 ∨ j = 2 ∨ j = 3 by omega) with rfl | rfl | rfl | rfl
    · exact (gz_l (gz_r (gz_l (gz_l (gz_r (gz_l (gz_l (gz_r (gz_l (gz_l (gz_r h)))))))))))
    · exact (gz_r (gz_r (gz_l (gz_l (gz_r (gz_l (gz_l (gz_r (gz_l (gz_l (gz_r h)))))))))))
    · exact (gz_l (gz_l (gz_r (gz_l (gz_r (gz_l (gz_l (gz_r (gz_l (gz_l (gz_r h)))))))))))
    · exact (gz_r (gz_l (gz_r (gz_l (gz_r (gz_l (gz_l (gz_r (gz_l (gz_l (gz_r h)))))))))))
  obtain ⟨a4, v4, r4, x4, s4⟩ := gz_one (A := A) (own := "ToeplitzLab$Input") (k := 111) (tx := "side") (n := 4) (bs := [115, 105, 100, 101]) (by decide) (hts _ (gpc3 (List.mem_of_getElem? (i := 45) rfl))) (gz_r (gz_l (gz_r (gz_r (gz_l (gz_l (gz_l (gz_r (gz_l (gz_l (gz_r h))))))))))) (gz_l (gz_r (gz_r (gz_r (gz_l (gz_l (gz_l (gz_r (gz_l (gz_l (gz_r h))))))))))) (gz_r (gz_r (gz_r (gz_r (gz_l (gz_l (gz_l (gz_r (gz_l (gz_l (gz_r h))))))))))) (gz_l (gz_l (gz_l (gz_r (gz_l (gz_l (gz_r (gz_l (gz_l (gz_r h)))))))))) e4 hA
  have e5 : ∀ j : Nat, j < 5 → (Cond.eq (.elem (.field (Term.string "ToeplitzLab$Input" 121) "java/lang/String" "value" "[B") (.int (Int32.ofNat j))) (.int (([112, 114, 111, 98, 101] : List Int32).getD j 0))).before #[Value.ref b] s = true := by
    intro j hj
    rcases (show j = 0 ∨ j = 1 ∨ j = 2 ∨ j = 3 ∨ j = 4 by omega) with rfl | rfl | rfl | rfl | rfl
    · exact (gz_l (gz_r (gz_l (gz_r (gz_r (gz_l (gz_l (gz_r (gz_l (gz_l (gz_r h)))))))))))
    · exact (gz_r (gz_r (gz_l (gz_r (gz_r (gz_l (gz_l (gz_r (gz_l (gz_l (gz_r h)))))))))))
    · exact (gz_l (gz_l (gz_r (gz_r (gz_r (gz_l (gz_l (gz_r (gz_l (gz_l (gz_r h)))))))))))
    · exact (gz_r (gz_l (gz_r (gz_r (gz_r (gz_l (gz_l (gz_r (gz_l (gz_l (gz_r h)))))))))))
    · exact (gz_l (gz_r (gz_r (gz_r (gz_r (gz_l (gz_l (gz_r (gz_l (gz_l (gz_r h)))))))))))
  obtain ⟨a5, v5, r5, x5, s5⟩ := gz_one (A := A) (own := "ToeplitzLab$Input") (k := 121) (tx := "probe") (n := 5) (bs := [112, 114, 111, 98, 101]) (by decide) (hts _ (gpc3 (List.mem_of_getElem? (i := 50) rfl))) (gz_l (gz_r (gz_r (gz_l (gz_r (gz_l (gz_l (gz_r (gz_l (gz_l (gz_r h))))))))))) (gz_r (gz_r (gz_r (gz_l (gz_r (gz_l (gz_l (gz_r (gz_l (gz_l (gz_r h))))))))))) (gz_l (gz_l (gz_l (gz_r (gz_r (gz_l (gz_l (gz_r (gz_l (gz_l (gz_r h))))))))))) (gz_r (gz_l (gz_l (gz_r (gz_r (gz_l (gz_l (gz_r (gz_l (gz_l (gz_r h))))))))))) e5 hA
  let aK : Nat → Nat := fun i => match i with | 0 => a0 | 1 => a1 | 2 => a2 | 3 => a3 | 4 => a4 | 5 => a5 | _ => 0
  let aV : Nat → Nat := fun i => match i with | 0 => v0 | 1 => v1 | 2 => v2 | 3 => v3 | 4 => v4 | 5 => v5 | _ => 0
  have hS : ∀ i : Nat, i < 6 → va_O "java/lang/String" (aK i) A s s.heap ∧ va_OF "java/lang/String" "coder" "B" (.int 0) (aK i) A s s.heap ∧ va_OF "java/lang/String" "value" "[B" (.ref (aV i)) (aK i) A s s.heap ∧ va_T .byte (aV i) (gTl.getD i 0) (fun j => .int ((gTb.getD i []).getD j 0)) A s s.heap := by
    intro i hi
    rcases (show i = 0 ∨ i = 1 ∨ i = 2 ∨ i = 3 ∨ i = 4 ∨ i = 5 by omega) with rfl | rfl | rfl | rfl | rfl | rfl
    · exact s0
    · exact s1
    · exact s2
    · exact s3
    · exact s4
    · exact s5
  refine ⟨aK, aV, ⟨hS, fun i j hi hj e => ?_⟩, ?_⟩
  · obtain ⟨-, -, o1, t1⟩ := hS i hi
    obtain ⟨-, -, o2, t2⟩ := hS j hj
    rw [e] at o1
    have ev : aV i = aV j := Value.ref.inj (gz_OF1 o1 o2)
    rw [ev] at t1
    have hb : ∀ i, i < 6 → gTl.getD i 0 < 2 ^ 31 := by decide +kernel
    obtain ⟨n1, n2⟩ := gz_T1 (hb i hi) (hb j hj) t1 t2
    rcases gz_dif i hi j hj with h1 | h1 | ⟨k, hk, h1⟩
    · exact h1
    · exact absurd n1 h1
    · exact absurd (Value.int.inj (n2 k hk)) h1
  · unfold gTx2
    simp only [List.forall_mem_cons, List.not_mem_nil, false_implies, implies_true, and_true]
    exact ⟨r0, r1, r2, r3, r4, r5, vk_R.of (hts _ (gpc6 (List.mem_of_getElem? (i := 139) rfl))) (va_eqR (gz_r (gz_r (gz_r (gz_l (gz_l (gz_l (gz_r (gz_r (gz_r (gz_r (gz_r h))))))))))) x0), vk_R.of (hts _ (gpc6 (List.mem_of_getElem? (i := 166) rfl))) (va_eqR (gz_r (gz_r (gz_l (gz_l (gz_r (gz_l (gz_r (gz_r (gz_r (gz_r (gz_r h))))))))))) x1), vk_R.of (hts _ (gpc6 (List.mem_of_getElem? (i := 173) rfl))) (va_eqR (gz_l (gz_l (gz_l (gz_l (gz_r (gz_r (gz_r (gz_r (gz_r (gz_r h)))))))))) x2), vk_R.of (hts _ (gpc6 (List.mem_of_getElem? (i := 186) rfl))) (va_eqR (gz_l (gz_r (gz_l (gz_r (gz_l (gz_r (gz_r (gz_r (gz_r (gz_r (gz_r h))))))))))) x3), vk_R.of (hts _ (gpc6 (List.mem_of_getElem? (i := 191) rfl))) (va_eqR (gz_l (gz_l (gz_r (gz_l (gz_r (gz_r (gz_r (gz_r (gz_r (gz_r (gz_r h))))))))))) x4), vk_R.of (hts _ (gpc6 (List.mem_of_getElem? (i := 196) rfl))) (va_eqR (gz_l (gz_r (gz_r (gz_r (gz_r (gz_r (gz_r (gz_r (gz_r (gz_r (gz_r h))))))))))) x5)⟩
theorem gz_Nc (h : gHg s b) : ∀ k k2 : Nat, k < 3 → k2 < 3 → k ≠ k2 → va_Nc (gxn k) (gxn k2) s := by
  intro k k2 h1 h2 h3
  rcases (show (k = 0 ∧ k2 = 1) ∨ (k = 0 ∧ k2 = 2) ∨ (k = 1 ∧ k2 = 0) ∨ (k = 1 ∧ k2 = 2) ∨ (k = 2 ∧ k2 = 0) ∨ (k = 2 ∧ k2 = 1) by omega) with ⟨rfl, rfl⟩ | ⟨rfl, rfl⟩ | ⟨rfl, rfl⟩ | ⟨rfl, rfl⟩ | ⟨rfl, rfl⟩ | ⟨rfl, rfl⟩
  · exact va_Nc.of (gz_r (gz_l (gz_r (gz_l (gz_l (gz_r (gz_l (gz_l (gz_l (gz_l (gz_r h)))))))))))
  · exact va_Nc.of (gz_l (gz_r (gz_l (gz_l (gz_r (gz_r (gz_l (gz_l (gz_l (gz_l (gz_r h)))))))))))
  · exact va_Nc.of (gz_l (gz_l (gz_r (gz_r (gz_r (gz_r (gz_l (gz_l (gz_l (gz_l (gz_r h)))))))))))
  · exact va_Nc.of (gz_l (gz_l (gz_l (gz_r (gz_r (gz_l (gz_l (gz_l (gz_l (gz_r h))))))))))
  · exact va_Nc.of (gz_r (gz_l (gz_r (gz_r (gz_r (gz_r (gz_l (gz_l (gz_l (gz_l (gz_r h)))))))))))
  · exact va_Nc.of (gz_l (gz_l (gz_r (gz_l (gz_l (gz_r (gz_l (gz_l (gz_l (gz_l (gz_r h)))))))))))
/-- the start's world -/
theorem gz_E (l : Launch) (hflags : l.flags = flags0) {L : Nat} {xs : Nat → Int32} (hts : gHt s b) (h : gHg s b) (hX : va_X b L xs s s.heap) (hbl : b < s.heap.size) : ∃ E : gEn, gl E = l ∧ gB0 E = s.heap.size ∧ gax E (0, 0, 0) = b ∧ gL E = L ∧ gXs E = xs ∧ gEv E s s.heap := by
  obtain ⟨D, ca, hK⟩ := gz_K hts
  have hA : ∀ a : Nat, a < s.heap.size → ¬ (fun q => s.heap.size ≤ q) a := fun a h1 h2 => absurd h1 (Nat.not_lt.mpr h2)
  obtain ⟨t, hZ, hT⟩ := gz_pr (A := fun q => s.heap.size ≤ q) hts h hA
  obtain ⟨aK, aV, hS, hR⟩ := gz_S (A := fun q => s.heap.size ≤ q) hts h hA
  refine ⟨(l, D, ca, s.heap.size, fun r => match r with | (0, _, _) => b | (1, _, _) => t | (_, k, 0) => aK k | (_, k, _) => aV k, L, xs), rfl, rfl, rfl, rfl, rfl, ?_⟩
  refine ⟨hK, gz_Nst hts, gz_us hts h hA, gz_ss hts h hA, hZ, hT, hX, ⟨hA b hbl, hbl⟩, gz_Txt hts h, hR, hS, gz_cs hts h hA, gz_si hts h hA, gz_Nc h, ?_, Nat.le_refl _⟩
  show l.stackTraces = false
  unfold Launch.stackTraces
  rw [hflags]
  decide +kernel
end START
