theorem gNst_warm {w : Cond} (hw : w ∈ gNst) {s U : State} (hW : s.WarmedH U.vm) (h : va_Nw w s) : va_Nw w U := by
  rcases List.mem_append.mp hw with hw | hw
  rotate_left
  · obtain ⟨t, -, rfl⟩ := List.mem_map.mp hw
    exact va_Nw.warmF hW h
  simp only [List.mem_cons, List.not_mem_nil, or_false] at hw
  rcases hw with rfl | rfl | rfl | rfl | rfl | rfl | rfl | rfl | rfl | rfl | rfl | rfl | rfl
  · exact va_Nw.warmF hW h
  · exact va_Nw.warmM hW h
  · exact va_Nw.warmM hW h
  · exact va_Nw.warmM hW h
  · exact va_Nw.warmM hW h
  · exact va_Nw.warmM hW h
  · exact va_Nw.warmM hW h
  · exact va_Nw.warmD hW h
  · exact va_Nw.warmD hW h
  · exact va_Nw.warmD hW h
  · exact va_Nw.warmC hW h
  · exact va_Nw.warmC hW h
  · exact va_Nw.warmC hW h
/-- what is known goes on -/
theorem gEv.to {E : gEn} {s U : State} {H H1 : Heap} (hW : s.WarmedH U.vm) (h : gEv E s H) (hz : H.size ≤ H1.size) (hq : ∀ a : Nat, a < H.size → ¬ gA E a → H1[a]? = H[a]?) : gEv E U H1 := by
  obtain ⟨h1, h2, h3, h4, h5, h6, h5b, h6b, h7, ⟨h8, h9⟩, h10, h11, h12, h13, h14, h17, h15, h16, h18⟩ := h
  have hv := hW.alike
  exact ⟨h1.moved hv, fun w hw => gNst_warm hw hW (h2 w hw), (h3.moved hv).kept hq, (h4.moved hv).kept hq, (h5.moved hv).kept hq, (h6.moved hv).kept hq, (h5b.moved hv).kept hq, (h6b.moved hv).kept hq,
    (h7.moved hv).kept (hq _ h9 h8), ⟨h8, Nat.lt_of_lt_of_le h9 hz⟩, fun q hq => (h10 q hq).imp fun a ha => ha.warm hW, fun q hq => (h11 q hq).warm hW,
    (h12.moved hv).kept hq, (h13.moved hv).kept hq, (h14.moved hv).kept hq, fun k k2 hk hk2 hn => (h17 k k2 hk hk2 hn).moved hv, h15, Nat.le_trans h16 hz, fun q hq => Nat.lt_of_lt_of_le (h18 q hq) hz⟩
section GP
variable {E : gEn} {y pc : Nat} {ls : List (Nat × gV)} {st r : List gV} {I : gI} {J : gJ} {B : gB} {c w : Nat} {Q : gQt} {X : gXt}
theorem gSt.tk {ad0 : gR → Nat} {Bs : gB} {s : State} {H : Heap} {locs : List Loc} {LS : Array Slot} {ad : gR → Nat} {st2 : List gV} (h : gSt E y ad0 Bs s H locs LS ad ls st I J B) (hv : ∀ v ∈ st2, gVv B v) : gSt E y ad0 Bs s H locs LS ad ls st2 I J B := ⟨h.1, h.2.1, h.2.2.1, h.2.2.2.1, h.2.2.2.2.1, h.2.2.2.2.2.1, hv⟩
theorem gSt.vs {ad0 : gR → Nat} {Bs : gB} {s : State} {H : Heap} {locs : List Loc} {LS : Array Slot} {ad : gR → Nat} (h : gSt E y ad0 Bs s H locs LS ad ls st I J B) : ∀ v ∈ st, gVv B v := h.2.2.2.2.2.2
theorem gvs_n {z : Value} (h : ∀ v ∈ r, gVv B v) : ∀ v ∈ (.inl z :: r : List gV), gVv B v := List.forall_mem_cons.mpr ⟨trivial, h⟩
theorem gvs_d {z : gV} (h : ∀ v ∈ (z :: r), gVv B v) : ∀ v ∈ r, gVv B v := (List.forall_mem_cons.mp h).2
theorem gvs_h {z : gV} (h : ∀ v ∈ (z :: r), gVv B v) : gVv B z := (List.forall_mem_cons.mp h).1
theorem gvs_c {z : gV} (h0 : gVv B z) (h : ∀ v ∈ r, gVv B v) : ∀ v ∈ (z :: r), gVv B v := List.forall_mem_cons.mpr ⟨h0, h⟩
theorem gp_iadd {x : Int32} {z : Int32} (hd : decode (hb y) pc = .ok (.iadd, 1)) (k : gG E y (pc + 1) ls (.inl (.int (x + z)) :: r) I J B c w Q X) : gG E y pc ls (.inl (.int z) :: .inl (.int x) :: r) I J B c w Q X := by
  intro hc hw p e s m args below meth cc ad0 Bs hC hT H locs LS ad hS
  exact lv_iadd hC.1 hC.2.1 hd (k hc hw p e s m args below meth cc ad0 Bs hC hT H locs LS ad (hS.tk (gvs_n (gvs_d (gvs_d (hS.vs))))))
theorem gp_isub {x : Int32} {z : Int32} (hd : decode (hb y) pc = .ok (.isub, 1)) (k : gG E y (pc + 1) ls (.inl (.int (x - z)) :: r) I J B c w Q X) : gG E y pc ls (.inl (.int z) :: .inl (.int x) :: r) I J B c w Q X := by
  intro hc hw p e s m args below meth cc ad0 Bs hC hT H locs LS ad hS
  exact lv_isub hC.1 hC.2.1 hd (k hc hw p e s m args below meth cc ad0 Bs hC hT H locs LS ad (hS.tk (gvs_n (gvs_d (gvs_d (hS.vs))))))
theorem gp_imul {x : Int32} {z : Int32} (hd : decode (hb y) pc = .ok (.imul, 1)) (k : gG E y (pc + 1) ls (.inl (.int (x * z)) :: r) I J B c w Q X) : gG E y pc ls (.inl (.int z) :: .inl (.int x) :: r) I J B c w Q X := by
  intro hc hw p e s m args below meth cc ad0 Bs hC hT H locs LS ad hS
  exact lv_imul hC.1 hC.2.1 hd (k hc hw p e s m args below meth cc ad0 Bs hC hT H locs LS ad (hS.tk (gvs_n (gvs_d (gvs_d (hS.vs))))))
theorem gp_iand {x : Int32} {z : Int32} (hd : decode (hb y) pc = .ok (.iand, 1)) (k : gG E y (pc + 1) ls (.inl (.int (x &&& z)) :: r) I J B c w Q X) : gG E y pc ls (.inl (.int z) :: .inl (.int x) :: r) I J B c w Q X := by
  intro hc hw p e s m args below meth cc ad0 Bs hC hT H locs LS ad hS
  exact lv_iand hC.1 hC.2.1 hd (k hc hw p e s m args below meth cc ad0 Bs hC hT H locs LS ad (hS.tk (gvs_n (gvs_d (gvs_d (hS.vs))))))
theorem gp_ior {x : Int32} {z : Int32} (hd : decode (hb y) pc = .ok (.ior, 1)) (k : gG E y (pc + 1) ls (.inl (.int (x ||| z)) :: r) I J B c w Q X) : gG E y pc ls (.inl (.int z) :: .inl (.int x) :: r) I J B c w Q X := by
  intro hc hw p e s m args below meth cc ad0 Bs hC hT H locs LS ad hS
  exact lv_ior hC.1 hC.2.1 hd (k hc hw p e s m args below meth cc ad0 Bs hC hT H locs LS ad (hS.tk (gvs_n (gvs_d (gvs_d (hS.vs))))))
theorem gp_ixor {x : Int32} {z : Int32} (hd : decode (hb y) pc = .ok (.ixor, 1)) (k : gG E y (pc + 1) ls (.inl (.int (x ^^^ z)) :: r) I J B c w Q X) : gG E y pc ls (.inl (.int z) :: .inl (.int x) :: r) I J B c w Q X := by
  intro hc hw p e s m args below meth cc ad0 Bs hC hT H locs LS ad hS
  exact lv_ixor hC.1 hC.2.1 hd (k hc hw p e s m args below meth cc ad0 Bs hC hT H locs LS ad (hS.tk (gvs_n (gvs_d (gvs_d (hS.vs))))))
theorem gp_ishl {x : Int32} {z : Int32} (hd : decode (hb y) pc = .ok (.ishl, 1)) (k : gG E y (pc + 1) ls (.inl (.int (x <<< (z &&& 31))) :: r) I J B c w Q X) : gG E y pc ls (.inl (.int z) :: .inl (.int x) :: r) I J B c w Q X := by
  intro hc hw p e s m args below meth cc ad0 Bs hC hT H locs LS ad hS
  exact lv_ishl hC.1 hC.2.1 hd (k hc hw p e s m args below meth cc ad0 Bs hC hT H locs LS ad (hS.tk (gvs_n (gvs_d (gvs_d (hS.vs))))))
theorem gp_ishr {x : Int32} {z : Int32} (hd : decode (hb y) pc = .ok (.ishr, 1)) (k : gG E y (pc + 1) ls (.inl (.int (x >>> (z &&& 31))) :: r) I J B c w Q X) : gG E y pc ls (.inl (.int z) :: .inl (.int x) :: r) I J B c w Q X := by
  intro hc hw p e s m args below meth cc ad0 Bs hC hT H locs LS ad hS
  exact lv_ishr hC.1 hC.2.1 hd (k hc hw p e s m args below meth cc ad0 Bs hC hT H locs LS ad (hS.tk (gvs_n (gvs_d (gvs_d (hS.vs))))))
theorem gp_iushr {x : Int32} {z : Int32} (hd : decode (hb y) pc = .ok (.iushr, 1)) (k : gG E y (pc + 1) ls (.inl (.int ((x.toUInt32 >>> (z.toUInt32 &&& Int32.toUInt32 31)).toInt32)) :: r) I J B c w Q X) : gG E y pc ls (.inl (.int z) :: .inl (.int x) :: r) I J B c w Q X := by
  intro hc hw p e s m args below meth cc ad0 Bs hC hT H locs LS ad hS
  exact lv_iushr hC.1 hC.2.1 hd rfl (k hc hw p e s m args below meth cc ad0 Bs hC hT H locs LS ad (hS.tk (gvs_n (gvs_d (gvs_d hS.vs)))))
theorem gp_ldcw {n : Nat} {x : Int32} (hd : decode (hb y) pc = .ok (.ldc_w n, 3)) (h0 : Cond.constant (hy y).cls n x ∈ gBig) (k : gG E y (pc + 3) ls (.inl (.int x) :: r) I J B c w Q X) : gG E y pc ls r I J B c w Q X := by
  intro hc hw p e s m args below meth cc ad0 Bs hC hT H locs LS ad hS
  exact lv_ldcw hC.1 hC.2.1 hC.2.2.2.2.1 (hC.2.2.2.2.2.1 _ h0) hd (k hc hw p e s m args below meth cc ad0 Bs hC hT H locs LS ad (hS.tk (gvs_n hS.vs)))
theorem gp_ldcI {n : Nat} {x : Int32} (hd : decode (hb y) pc = .ok (.ldc n, 2)) (h0 : Cond.constant (hy y).cls n x ∈ gBig) (k : gG E y (pc + 2) ls (.inl (.int x) :: r) I J B c w Q X) : gG E y pc ls r I J B c w Q X := by
  intro hc hw p e s m args below meth cc ad0 Bs hC hT H locs LS ad hS
  exact lv_ldc hC.1 hC.2.1 hC.2.2.2.2.1 (hC.2.2.2.2.2.1 _ h0) hd (k hc hw p e s m args below meth cc ad0 Bs hC hT H locs LS ad (hS.tk (gvs_n hS.vs)))
theorem gp_idiv {x : Int32} {z : Int32} (hd : decode (hb y) pc = .ok (.idiv, 1)) (h0 : ¬ z = 0) (k : gG E y (pc + 1) ls (.inl (.int (x / z)) :: r) I J B c w Q X) : gG E y pc ls (.inl (.int z) :: .inl (.int x) :: r) I J B c w Q X := by
  intro hc hw p e s m args below meth cc ad0 Bs hC hT H locs LS ad hS
  exact lv_idiv hC.1 hC.2.1 hd h0 (k hc hw p e s m args below meth cc ad0 Bs hC hT H locs LS ad (hS.tk (gvs_n (gvs_d (gvs_d (hS.vs))))))
theorem gp_irem {x : Int32} {z : Int32} (hd : decode (hb y) pc = .ok (.irem, 1)) (h0 : ¬ z = 0) (k : gG E y (pc + 1) ls (.inl (.int (x - x / z * z)) :: r) I J B c w Q X) : gG E y pc ls (.inl (.int z) :: .inl (.int x) :: r) I J B c w Q X := by
  intro hc hw p e s m args below meth cc ad0 Bs hC hT H locs LS ad hS
  exact lv_irem hC.1 hC.2.1 hd h0 (k hc hw p e s m args below meth cc ad0 Bs hC hT H locs LS ad (hS.tk (gvs_n (gvs_d (gvs_d (hS.vs))))))
theorem gp_ladd {x : Int64} {z : Int64} (hd : decode (hb y) pc = .ok (.ladd, 1)) (k : gG E y (pc + 1) ls (.inl (.long (x + z)) :: r) I J B c w Q X) : gG E y pc ls (.inl (.long z) :: .inl (.long x) :: r) I J B c w Q X := by
  intro hc hw p e s m args below meth cc ad0 Bs hC hT H locs LS ad hS
  exact lv_ladd hC.1 hC.2.1 hd (k hc hw p e s m args below meth cc ad0 Bs hC hT H locs LS ad (hS.tk (gvs_n (gvs_d (gvs_d (hS.vs))))))
theorem gp_lsub {x : Int64} {z : Int64} (hd : decode (hb y) pc = .ok (.lsub, 1)) (k : gG E y (pc + 1) ls (.inl (.long (x - z)) :: r) I J B c w Q X) : gG E y pc ls (.inl (.long z) :: .inl (.long x) :: r) I J B c w Q X := by
  intro hc hw p e s m args below meth cc ad0 Bs hC hT H locs LS ad hS
  exact lv_lsub hC.1 hC.2.1 hd (k hc hw p e s m args below meth cc ad0 Bs hC hT H locs LS ad (hS.tk (gvs_n (gvs_d (gvs_d (hS.vs))))))
theorem gp_lmul {x : Int64} {z : Int64} (hd : decode (hb y) pc = .ok (.lmul, 1)) (k : gG E y (pc + 1) ls (.inl (.long (x * z)) :: r) I J B c w Q X) : gG E y pc ls (.inl (.long z) :: .inl (.long x) :: r) I J B c w Q X := by
  intro hc hw p e s m args below meth cc ad0 Bs hC hT H locs LS ad hS
  exact lv_lmul hC.1 hC.2.1 hd (k hc hw p e s m args below meth cc ad0 Bs hC hT H locs LS ad (hS.tk (gvs_n (gvs_d (gvs_d (hS.vs))))))
theorem gp_ldiv {x : Int64} {z : Int64} (hd : decode (hb y) pc = .ok (.ldiv, 1)) (h0 : ¬ z = 0) (k : gG E y (pc + 1) ls (.inl (.long (x / z)) :: r) I J B c w Q X) : gG E y pc ls (.inl (.long z) :: .inl (.long x) :: r) I J B c w Q X := by
  intro hc hw p e s m args below meth cc ad0 Bs hC hT H locs LS ad hS
  exact lv_ldiv hC.1 hC.2.1 hd h0 (k hc hw p e s m args below meth cc ad0 Bs hC hT H locs LS ad (hS.tk (gvs_n (gvs_d (gvs_d (hS.vs))))))
theorem gp_lrem {x : Int64} {z : Int64} (hd : decode (hb y) pc = .ok (.lrem, 1)) (h0 : ¬ z = 0) (k : gG E y (pc + 1) ls (.inl (.long (x - x / z * z)) :: r) I J B c w Q X) : gG E y pc ls (.inl (.long z) :: .inl (.long x) :: r) I J B c w Q X := by
  intro hc hw p e s m args below meth cc ad0 Bs hC hT H locs LS ad hS
  exact lv_lrem hC.1 hC.2.1 hd h0 (k hc hw p e s m args below meth cc ad0 Bs hC hT H locs LS ad (hS.tk (gvs_n (gvs_d (gvs_d (hS.vs))))))
theorem gp_ineg {x : Int32} (hd : decode (hb y) pc = .ok (.ineg, 1)) (k : gG E y (pc + 1) ls (.inl (.int (-x)) :: r) I J B c w Q X) : gG E y pc ls (.inl (.int x) :: r) I J B c w Q X := by
  intro hc hw p e s m args below meth cc ad0 Bs hC hT H locs LS ad hS
  exact lv_ineg hC.1 hC.2.1 hd (k hc hw p e s m args below meth cc ad0 Bs hC hT H locs LS ad (hS.tk (gvs_n (gvs_d (hS.vs)))))
theorem gp_lneg {x : Int64} (hd : decode (hb y) pc = .ok (.lneg, 1)) (k : gG E y (pc + 1) ls (.inl (.long (-x)) :: r) I J B c w Q X) : gG E y pc ls (.inl (.long x) :: r) I J B c w Q X := by
  intro hc hw p e s m args below meth cc ad0 Bs hC hT H locs LS ad hS
  exact lv_lneg hC.1 hC.2.1 hd (k hc hw p e s m args below meth cc ad0 Bs hC hT H locs LS ad (hS.tk (gvs_n (gvs_d (hS.vs)))))
theorem gp_lcmp {x : Int64} {z : Int64} (hd : decode (hb y) pc = .ok (.lcmp, 1)) (k : gG E y (pc + 1) ls (.inl (.int (lg_cmp x z)) :: r) I J B c w Q X) : gG E y pc ls (.inl (.long z) :: .inl (.long x) :: r) I J B c w Q X := by
  intro hc hw p e s m args below meth cc ad0 Bs hC hT H locs LS ad hS
  exact W.lcmp hC.1 hC.2.1 hd (k hc hw p e s m args below meth cc ad0 Bs hC hT H locs LS ad (hS.tk (gvs_n (gvs_d (gvs_d (hS.vs))))))
theorem gp_i2l {x : Int32} (hd : decode (hb y) pc = .ok (.i2l, 1)) (k : gG E y (pc + 1) ls (.inl (.long (x.toInt64)) :: r) I J B c w Q X) : gG E y pc ls (.inl (.int x) :: r) I J B c w Q X := by
  intro hc hw p e s m args below meth cc ad0 Bs hC hT H locs LS ad hS
  exact lv_i2l hC.1 hC.2.1 hd rfl (k hc hw p e s m args below meth cc ad0 Bs hC hT H locs LS ad (hS.tk (gvs_n (gvs_d (hS.vs)))))
theorem gp_l2i {x : Int64} (hd : decode (hb y) pc = .ok (.l2i, 1)) (k : gG E y (pc + 1) ls (.inl (.int (x.toInt32)) :: r) I J B c w Q X) : gG E y pc ls (.inl (.long x) :: r) I J B c w Q X := by
  intro hc hw p e s m args below meth cc ad0 Bs hC hT H locs LS ad hS
  exact lv_l2i hC.1 hC.2.1 hd rfl (k hc hw p e s m args below meth cc ad0 Bs hC hT H locs LS ad (hS.tk (gvs_n (gvs_d (hS.vs)))))
theorem gp_i2b {x : Int32} (hd : decode (hb y) pc = .ok (.i2b, 1)) (k : gG E y (pc + 1) ls (.inl (.int (x.toInt8.toInt32)) :: r) I J B c w Q X) : gG E y pc ls (.inl (.int x) :: r) I J B c w Q X := by
  intro hc hw p e s m args below meth cc ad0 Bs hC hT H locs LS ad hS
  exact lv_i2b hC.1 hC.2.1 hd rfl (k hc hw p e s m args below meth cc ad0 Bs hC hT H locs LS ad (hS.tk (gvs_n (gvs_d (hS.vs)))))
theorem gp_l2d {x : Int64} (hd : decode (hb y) pc = .ok (.l2d, 1)) (k : gG E y (pc + 1) ls (.inl (.double (FP.l2d x)) :: r) I J B c w Q X) : gG E y pc ls (.inl (.long x) :: r) I J B c w Q X := by
  intro hc hw p e s m args below meth cc ad0 Bs hC hT H locs LS ad hS
  exact lv_l2d hC.1 hC.2.1 hd (k hc hw p e s m args below meth cc ad0 Bs hC hT H locs LS ad (hS.tk (gvs_n (gvs_d (hS.vs)))))
theorem gp_ddiv {x : UInt64} {z : UInt64} (hd : decode (hb y) pc = .ok (.ddiv, 1)) (h0 : vf_n64 (FP.ddiv x z)) (k : gG E y (pc + 1) ls (.inl (.double (FP.ddiv x z)) :: r) I J B c w Q X) : gG E y pc ls (.inl (.double z) :: .inl (.double x) :: r) I J B c w Q X := by
  intro hc hw p e s m args below meth cc ad0 Bs hC hT H locs LS ad hS
  exact lv_ddiv hC.1 hC.2.1 hd h0 (k hc hw p e s m args below meth cc ad0 Bs hC hT H locs LS ad (hS.tk (gvs_n (gvs_d (gvs_d (hS.vs))))))
theorem gp_dcmp {x : UInt64} {z : UInt64} {o : CmpOp} (hd : decode (hb y) pc = .ok (.dcmp o, 1)) (k : gG E y (pc + 1) ls (.inl (.int (Op.cmpValue (FP.dcmp x z) o)) :: r) I J B c w Q X) : gG E y pc ls (.inl (.double z) :: .inl (.double x) :: r) I J B c w Q X := by
  intro hc hw p e s m args below meth cc ad0 Bs hC hT H locs LS ad hS
  exact lv_dcmp hC.1 hC.2.1 hd (k hc hw p e s m args below meth cc ad0 Bs hC hT H locs LS ad (hS.tk (gvs_n (gvs_d (gvs_d (hS.vs))))))
theorem gp_iconst  {n : Int} {x : Int32} (hd : decode (hb y) pc = .ok (.iconst n, 1)) (h0 : Int32.ofInt n = x) (k : gG E y (pc + 1) ls (.inl (.int (x)) :: r) I J B c w Q X) : gG E y pc ls (r) I J B c w Q X := by
  intro hc hw p e s m args below meth cc ad0 Bs hC hT H locs LS ad hS
  exact lv_iconst hC.1 hC.2.1 hd h0 (k hc hw p e s m args below meth cc ad0 Bs hC hT H locs LS ad (hS.tk (gvs_n (hS.vs))))
theorem gp_bipush  {n : Int} {x : Int32} (hd : decode (hb y) pc = .ok (.bipush n, 2)) (h0 : (Int8.ofInt n).toInt32 = x) (k : gG E y (pc + 2) ls (.inl (.int (x)) :: r) I J B c w Q X) : gG E y pc ls (r) I J B c w Q X := by
  intro hc hw p e s m args below meth cc ad0 Bs hC hT H locs LS ad hS
  exact lv_bipush hC.1 hC.2.1 hd h0 (k hc hw p e s m args below meth cc ad0 Bs hC hT H locs LS ad (hS.tk (gvs_n (hS.vs))))
theorem gp_sipush  {n : Int} {x : Int32} (hd : decode (hb y) pc = .ok (.sipush n, 3)) (h0 : (Int16.ofInt n).toInt32 = x) (k : gG E y (pc + 3) ls (.inl (.int (x)) :: r) I J B c w Q X) : gG E y pc ls (r) I J B c w Q X := by
  intro hc hw p e s m args below meth cc ad0 Bs hC hT H locs LS ad hS
  exact lv_sipush hC.1 hC.2.1 hd h0 (k hc hw p e s m args below meth cc ad0 Bs hC hT H locs LS ad (hS.tk (gvs_n (hS.vs))))
theorem gp_lconst  {n : Fin 2} {x : Int64} (hd : decode (hb y) pc = .ok (.lconst n, 1)) (h0 : Int64.ofNat (n : Nat) = x) (k : gG E y (pc + 1) ls (.inl (.long (x)) :: r) I J B c w Q X) : gG E y pc ls (r) I J B c w Q X := by
  intro hc hw p e s m args below meth cc ad0 Bs hC hT H locs LS ad hS
  exact lv_lconst hC.1 hC.2.1 hd h0 (k hc hw p e s m args below meth cc ad0 Bs hC hT H locs LS ad (hS.tk (gvs_n (hS.vs))))
theorem gp_dconst  (hd : decode (hb y) pc = .ok (.dconst 0, 1)) (k : gG E y (pc + 1) ls (.inl (.double (FP.dconst0)) :: r) I J B c w Q X) : gG E y pc ls (r) I J B c w Q X := by
  intro hc hw p e s m args below meth cc ad0 Bs hC hT H locs LS ad hS
  exact lv_dconst0 hC.1 hC.2.1 hd (k hc hw p e s m args below meth cc ad0 Bs hC hT H locs LS ad (hS.tk (gvs_n (hS.vs))))
theorem gp_null (hd : decode (hb y) pc = .ok (.aconst_null, 1)) (k : gG E y (pc + 1) ls (.inl .null :: r) I J B c w Q X) : gG E y pc ls r I J B c w Q X := by
  intro hc hw p e s m args below meth cc ad0 Bs hC hT H locs LS ad hS
  exact lv_null hC.1 hC.2.1 hd (k hc hw p e s m args below meth cc ad0 Bs hC hT H locs LS ad (hS.tk (gvs_n hS.vs)))
theorem gp_ldc2 {n : Nat} {x : Int64} (hd : decode (hb y) pc = .ok (.ldc2_w n, 3)) (h0 : Cond.constantLong (hy y).cls n x ∈ gBig) (k : gG E y (pc + 3) ls (.inl (.long x) :: r) I J B c w Q X) : gG E y pc ls r I J B c w Q X := by
  intro hc hw p e s m args below meth cc ad0 Bs hC hT H locs LS ad hS
  exact lv_ldc2 hC.1 hC.2.1 hC.2.2.2.2.1 (hC.2.2.2.2.2.1 _ h0) hd (k hc hw p e s m args below meth cc ad0 Bs hC hT H locs LS ad (hS.tk (gvs_n hS.vs)))
theorem gTx2_lt : ∀ q ∈ gTx2, q.2.2.2 < 6 := by decide
theorem gp_ldcS {n k0 : Nat} {tx : String} (hd : decode (hb y) pc = .ok (.ldc n, 2)) (h0 : ((hy y).cls, n, tx, k0) ∈ gTx2) (k : gG E y (pc + 2) ls (.inr (2, k0, 0) :: r) I J B c w Q X) : gG E y pc ls r I J B c w Q X := by
  intro hc hw p e s m args below meth cc ad0 Bs hC hT H locs LS ad hS
  obtain ⟨hx, hb, hr, hml, hown, hts, hlk, hE⟩ := hC
  have hq := hE.2.2.2.2.2.2.2.2.2.2.2.1 _ h0
  have e2 : ad (2, k0, 0) = gax E (2, k0, 0) := hS.1.2.2.1 _ (Nat.le_refl 2)
  refine va_ldcS hx hb hown hq hd ?_
  have kk := k hc hw p e s m args below meth cc ad0 Bs ⟨hx, hb, hr, hml, hown, hts, hlk, hE⟩ hT H locs LS ad (hS.tk (gvs_c (Or.inr (Or.inr (Or.inl ⟨rfl, Nat.lt_of_lt_of_le (gTx2_lt _ h0) (by decide), rfl⟩))) hS.vs))
  rw [List.map_cons] at kk
  rw [show gcv ad (.inr (2, k0, 0)) = .ref (gax E (2, k0, 0)) from congrArg Value.ref e2] at kk
  exact kk
theorem gcat_cv (ad : gR → Nat) (v : gV) : (gcv ad v).category = gcat v := by cases v <;> rfl
theorem gp_pop {v : gV} (h0 : gcat v = 1) (hd : decode (hb y) pc = .ok (.pop, 1)) (k : gG E y (pc + 1) ls r I J B c w Q X) : gG E y pc ls (v :: r) I J B c w Q X := by
  intro hc hw p e s m args below meth cc ad0 Bs hC hT H locs LS ad hS
  exact lv_pop hC.1 hC.2.1 hd ((gcat_cv ad v).trans h0) (k hc hw p e s m args below meth cc ad0 Bs hC hT H locs LS ad (hS.tk (gvs_d hS.vs)))
theorem gp_dup {v : gV} (h0 : gcat v = 1) (hd : decode (hb y) pc = .ok (.dup, 1)) (k : gG E y (pc + 1) ls (v :: v :: r) I J B c w Q X) : gG E y pc ls (v :: r) I J B c w Q X := by
  intro hc hw p e s m args below meth cc ad0 Bs hC hT H locs LS ad hS
  exact lv_dup hC.1 hC.2.1 hd ((gcat_cv ad v).trans h0) (k hc hw p e s m args below meth cc ad0 Bs hC hT H locs LS ad (hS.tk (gvs_c (gvs_h hS.vs) hS.vs)))
theorem gp_dup2 {v : gV} (h0 : gcat v = 2) (hd : decode (hb y) pc = .ok (.dup2, 1)) (k : gG E y (pc + 1) ls (v :: v :: r) I J B c w Q X) : gG E y pc ls (v :: r) I J B c w Q X := by
  intro hc hw p e s m args below meth cc ad0 Bs hC hT H locs LS ad hS
  exact lv_dup2_2 hC.1 hC.2.1 hd ((gcat_cv ad v).trans h0) (k hc hw p e s m args below meth cc ad0 Bs hC hT H locs LS ad (hS.tk (gvs_c (gvs_h hS.vs) hS.vs)))
theorem gp_dup2b {v u : gV} (h0 : gcat v = 1) (h1 : gcat u = 1) (hd : decode (hb y) pc = .ok (.dup2, 1)) (k : gG E y (pc + 1) ls (v :: u :: v :: u :: r) I J B c w Q X) : gG E y pc ls (v :: u :: r) I J B c w Q X := by
  intro hc hw p e s m args below meth cc ad0 Bs hC hT H locs LS ad hS
  exact lv_dup2_11 hC.1 hC.2.1 hd ((gcat_cv ad v).trans h0) ((gcat_cv ad u).trans h1) (k hc hw p e s m args below meth cc ad0 Bs hC hT H locs LS ad (hS.tk (gvs_c (gvs_h hS.vs) (gvs_c (gvs_h (gvs_d hS.vs)) hS.vs))))
theorem gp_goto {off : Int} {t : Nat} (hd : decode (hb y) pc = .ok (.goto off, 3)) (ht : (pc : Int) + off = (t : Int)) (k : gG E y t ls st I J B c w Q X) : gG E y pc ls st I J B c w Q X := by
  intro hc hw p e s m args below meth cc ad0 Bs hC hT H locs LS ad hS
  exact lv_goto hC.1 hC.2.1 hd ht (k hc hw p e s m args below meth cc ad0 Bs hC hT H locs LS ad hS)
theorem gp_if_eq {x : Int32} {off : Int} {t : Nat} (hd : decode (hb y) pc = .ok (.ifCond .eq off, 3)) (ht : (pc : Int) + off = (t : Int)) (kt : x = 0 → gG E y t ls r I J B c w Q X) (kf : ¬ (x = 0) → gG E y (pc + 3) ls r I J B c w Q X) : gG E y pc ls (.inl (.int x) :: r) I J B c w Q X := by
  intro hc hw p e s m args below meth cc ad0 Bs hC hT H locs LS ad hS
  exact lv_if_eq hC.1 hC.2.1 hd ht (fun h => kt h hc hw p e s m args below meth cc ad0 Bs hC hT H locs LS ad (hS.tk (gvs_d hS.vs))) (fun h => kf h hc hw p e s m args below meth cc ad0 Bs hC hT H locs LS ad (hS.tk (gvs_d hS.vs)))
theorem gp_if_ne {x : Int32} {off : Int} {t : Nat} (hd : decode (hb y) pc = .ok (.ifCond .ne off, 3)) (ht : (pc : Int) + off = (t : Int)) (kt : ¬ x = 0 → gG E y t ls r I J B c w Q X) (kf : x = 0 → gG E y (pc + 3) ls r I J B c w Q X) : gG E y pc ls (.inl (.int x) :: r) I J B c w Q X := by
  intro hc hw p e s m args below meth cc ad0 Bs hC hT H locs LS ad hS
  exact lv_if_ne hC.1 hC.2.1 hd ht (fun h => kt h hc hw p e s m args below meth cc ad0 Bs hC hT H locs LS ad (hS.tk (gvs_d hS.vs))) (fun h => kf h hc hw p e s m args below meth cc ad0 Bs hC hT H locs LS ad (hS.tk (gvs_d hS.vs)))
theorem gp_if_lt {x : Int32} {off : Int} {t : Nat} (hd : decode (hb y) pc = .ok (.ifCond .lt off, 3)) (ht : (pc : Int) + off = (t : Int)) (kt : x < 0 → gG E y t ls r I J B c w Q X) (kf : ¬ (x < 0) → gG E y (pc + 3) ls r I J B c w Q X) : gG E y pc ls (.inl (.int x) :: r) I J B c w Q X := by
  intro hc hw p e s m args below meth cc ad0 Bs hC hT H locs LS ad hS
  exact lv_if_lt hC.1 hC.2.1 hd ht (fun h => kt h hc hw p e s m args below meth cc ad0 Bs hC hT H locs LS ad (hS.tk (gvs_d hS.vs))) (fun h => kf h hc hw p e s m args below meth cc ad0 Bs hC hT H locs LS ad (hS.tk (gvs_d hS.vs)))
theorem gp_if_ge {x : Int32} {off : Int} {t : Nat} (hd : decode (hb y) pc = .ok (.ifCond .ge off, 3)) (ht : (pc : Int) + off = (t : Int)) (kt : 0 ≤ x → gG E y t ls r I J B c w Q X) (kf : ¬ (0 ≤ x) → gG E y (pc + 3) ls r I J B c w Q X) : gG E y pc ls (.inl (.int x) :: r) I J B c w Q X := by
  intro hc hw p e s m args below meth cc ad0 Bs hC hT H locs LS ad hS
  exact lv_if_ge hC.1 hC.2.1 hd ht (fun h => kt h hc hw p e s m args below meth cc ad0 Bs hC hT H locs LS ad (hS.tk (gvs_d hS.vs))) (fun h => kf h hc hw p e s m args below meth cc ad0 Bs hC hT H locs LS ad (hS.tk (gvs_d hS.vs)))
theorem gp_if_gt {x : Int32} {off : Int} {t : Nat} (hd : decode (hb y) pc = .ok (.ifCond .gt off, 3)) (ht : (pc : Int) + off = (t : Int)) (kt : 0 < x → gG E y t ls r I J B c w Q X) (kf : ¬ (0 < x) → gG E y (pc + 3) ls r I J B c w Q X) : gG E y pc ls (.inl (.int x) :: r) I J B c w Q X := by
  intro hc hw p e s m args below meth cc ad0 Bs hC hT H locs LS ad hS
  exact lv_if_gt hC.1 hC.2.1 hd ht (fun h => kt h hc hw p e s m args below meth cc ad0 Bs hC hT H locs LS ad (hS.tk (gvs_d hS.vs))) (fun h => kf h hc hw p e s m args below meth cc ad0 Bs hC hT H locs LS ad (hS.tk (gvs_d hS.vs)))
theorem gp_if_le {x : Int32} {off : Int} {t : Nat} (hd : decode (hb y) pc = .ok (.ifCond .le off, 3)) (ht : (pc : Int) + off = (t : Int)) (kt : x ≤ 0 → gG E y t ls r I J B c w Q X) (kf : ¬ (x ≤ 0) → gG E y (pc + 3) ls r I J B c w Q X) : gG E y pc ls (.inl (.int x) :: r) I J B c w Q X := by
  intro hc hw p e s m args below meth cc ad0 Bs hC hT H locs LS ad hS
  exact lv_if_le hC.1 hC.2.1 hd ht (fun h => kt h hc hw p e s m args below meth cc ad0 Bs hC hT H locs LS ad (hS.tk (gvs_d hS.vs))) (fun h => kf h hc hw p e s m args below meth cc ad0 Bs hC hT H locs LS ad (hS.tk (gvs_d hS.vs)))
theorem gp_icmp_eq {x z : Int32} {off : Int} {t : Nat} (hd : decode (hb y) pc = .ok (.if_icmp .eq off, 3)) (ht : (pc : Int) + off = (t : Int)) (kt : x = z → gG E y t ls r I J B c w Q X) (kf : ¬ (x = z) → gG E y (pc + 3) ls r I J B c w Q X) : gG E y pc ls (.inl (.int z) :: .inl (.int x) :: r) I J B c w Q X := by
  intro hc hw p e s m args below meth cc ad0 Bs hC hT H locs LS ad hS
  exact lv_icmp_eq hC.1 hC.2.1 hd ht (fun h => kt h hc hw p e s m args below meth cc ad0 Bs hC hT H locs LS ad (hS.tk (gvs_d (gvs_d hS.vs)))) (fun h => kf h hc hw p e s m args below meth cc ad0 Bs hC hT H locs LS ad (hS.tk (gvs_d (gvs_d hS.vs))))
theorem gp_icmp_ne {x z : Int32} {off : Int} {t : Nat} (hd : decode (hb y) pc = .ok (.if_icmp .ne off, 3)) (ht : (pc : Int) + off = (t : Int)) (kt : ¬ x = z → gG E y t ls r I J B c w Q X) (kf : x = z → gG E y (pc + 3) ls r I J B c w Q X) : gG E y pc ls (.inl (.int z) :: .inl (.int x) :: r) I J B c w Q X := by
  intro hc hw p e s m args below meth cc ad0 Bs hC hT H locs LS ad hS
  exact lv_icmp_ne hC.1 hC.2.1 hd ht (fun h => kt h hc hw p e s m args below meth cc ad0 Bs hC hT H locs LS ad (hS.tk (gvs_d (gvs_d hS.vs)))) (fun h => kf h hc hw p e s m args below meth cc ad0 Bs hC hT H locs LS ad (hS.tk (gvs_d (gvs_d hS.vs))))
theorem gp_icmp_lt {x z : Int32} {off : Int} {t : Nat} (hd : decode (hb y) pc = .ok (.if_icmp .lt off, 3)) (ht : (pc : Int) + off = (t : Int)) (kt : x < z → gG E y t ls r I J B c w Q X) (kf : ¬ (x < z) → gG E y (pc + 3) ls r I J B c w Q X) : gG E y pc ls (.inl (.int z) :: .inl (.int x) :: r) I J B c w Q X := by
  intro hc hw p e s m args below meth cc ad0 Bs hC hT H locs LS ad hS
  exact lv_icmp_lt hC.1 hC.2.1 hd ht (fun h => kt h hc hw p e s m args below meth cc ad0 Bs hC hT H locs LS ad (hS.tk (gvs_d (gvs_d hS.vs)))) (fun h => kf h hc hw p e s m args below meth cc ad0 Bs hC hT H locs LS ad (hS.tk (gvs_d (gvs_d hS.vs))))
theorem gp_icmp_ge {x z : Int32} {off : Int} {t : Nat} (hd : decode (hb y) pc = .ok (.if_icmp .ge off, 3)) (ht : (pc : Int) + off = (t : Int)) (kt : z ≤ x → gG E y t ls r I J B c w Q X) (kf : ¬ (z ≤ x) → gG E y (pc + 3) ls r I J B c w Q X) : gG E y pc ls (.inl (.int z) :: .inl (.int x) :: r) I J B c w Q X := by
  intro hc hw p e s m args below meth cc ad0 Bs hC hT H locs LS ad hS
  exact lv_icmp_ge hC.1 hC.2.1 hd ht (fun h => kt h hc hw p e s m args below meth cc ad0 Bs hC hT H locs LS ad (hS.tk (gvs_d (gvs_d hS.vs)))) (fun h => kf h hc hw p e s m args below meth cc ad0 Bs hC hT H locs LS ad (hS.tk (gvs_d (gvs_d hS.vs))))
theorem gp_icmp_gt {x z : Int32} {off : Int} {t : Nat} (hd : decode (hb y) pc = .ok (.if_icmp .gt off, 3)) (ht : (pc : Int) + off = (t : Int)) (kt : z < x → gG E y t ls r I J B c w Q X) (kf : ¬ (z < x) → gG E y (pc + 3) ls r I J B c w Q X) : gG E y pc ls (.inl (.int z) :: .inl (.int x) :: r) I J B c w Q X := by
  intro hc hw p e s m args below meth cc ad0 Bs hC hT H locs LS ad hS
  exact lv_icmp_gt hC.1 hC.2.1 hd ht (fun h => kt h hc hw p e s m args below meth cc ad0 Bs hC hT H locs LS ad (hS.tk (gvs_d (gvs_d hS.vs)))) (fun h => kf h hc hw p e s m args below meth cc ad0 Bs hC hT H locs LS ad (hS.tk (gvs_d (gvs_d hS.vs))))
theorem gp_icmp_le {x z : Int32} {off : Int} {t : Nat} (hd : decode (hb y) pc = .ok (.if_icmp .le off, 3)) (ht : (pc : Int) + off = (t : Int)) (kt : x ≤ z → gG E y t ls r I J B c w Q X) (kf : ¬ (x ≤ z) → gG E y (pc + 3) ls r I J B c w Q X) : gG E y pc ls (.inl (.int z) :: .inl (.int x) :: r) I J B c w Q X := by
  intro hc hw p e s m args below meth cc ad0 Bs hC hT H locs LS ad hS
  exact lv_icmp_le hC.1 hC.2.1 hd ht (fun h => kt h hc hw p e s m args below meth cc ad0 Bs hC hT H locs LS ad (hS.tk (gvs_d (gvs_d hS.vs)))) (fun h => kf h hc hw p e s m args below meth cc ad0 Bs hC hT H locs LS ad (hS.tk (gvs_d (gvs_d hS.vs))))
theorem gp_ifnull_r {q : gR} {off : Int} (hd : decode (hb y) pc = .ok (.ifnull off, 3)) (k : gG E y (pc + 3) ls r I J B c w Q X) : gG E y pc ls (.inr q :: r) I J B c w Q X := by
  intro hc hw p e s m args below meth cc ad0 Bs hC hT H locs LS ad hS
  exact lv_ifnull hC.1 hC.2.1 hd (k hc hw p e s m args below meth cc ad0 Bs hC hT H locs LS ad (hS.tk (gvs_d hS.vs)))
theorem gp_ifnull_n {off : Int} {t : Nat} (hd : decode (hb y) pc = .ok (.ifnull off, 3)) (ht : (pc : Int) + off = (t : Int)) (k : gG E y t ls r I J B c w Q X) : gG E y pc ls (.inl .null :: r) I J B c w Q X := by
  intro hc hw p e s m args below meth cc ad0 Bs hC hT H locs LS ad hS
  exact lv_ifnullN hC.1 hC.2.1 hd ht (k hc hw p e s m args below meth cc ad0 Bs hC hT H locs LS ad (hS.tk (gvs_d hS.vs)))
theorem gp_ifnonnull_r {q : gR} {off : Int} {t : Nat} (hd : decode (hb y) pc = .ok (.ifnonnull off, 3)) (ht : (pc : Int) + off = (t : Int)) (k : gG E y t ls r I J B c w Q X) : gG E y pc ls (.inr q :: r) I J B c w Q X := by
  intro hc hw p e s m args below meth cc ad0 Bs hC hT H locs LS ad hS
  exact lv_ifnonnull hC.1 hC.2.1 hd ht (k hc hw p e s m args below meth cc ad0 Bs hC hT H locs LS ad (hS.tk (gvs_d hS.vs)))
theorem gp_ifnonnull_n {off : Int} (hd : decode (hb y) pc = .ok (.ifnonnull off, 3)) (k : gG E y (pc + 3) ls r I J B c w Q X) : gG E y pc ls (.inl .null :: r) I J B c w Q X := by
  intro hc hw p e s m args below meth cc ad0 Bs hC hT H locs LS ad hS
  exact lv_ifnonnullN hC.1 hC.2.1 hd (k hc hw p e s m args below meth cc ad0 Bs hC hT H locs LS ad (hS.tk (gvs_d hS.vs)))
theorem glk {a : Nat} {v : gV} : ∀ {l : List (Nat × gV)}, l.lookup a = some v → (a, v) ∈ l
  | [], h => by cases h
  | (b, u) :: l, h => by
    rw [List.lookup_cons] at h
    by_cases e : a = b
    · subst e
      simp at h
      subst h
      exact List.mem_cons_self
    · rw [show (a == b) = false from by simpa using e] at h
      exact List.mem_cons_of_mem _ (glk h)
theorem gSt.ld {ad0 : gR → Nat} {Bs : gB} {s : State} {H : Heap} {locs : List Loc} {LS : Array Slot} {ad : gR → Nat} {a : Nat} {v : gV} (h : gSt E y ad0 Bs s H locs LS ad ls st I J B) (hl : ls.lookup a = some v) : LS[a]? = some (.val (gcv ad v)) ∧ gVv B v := ⟨h.2.2.1.2.2 (a, gcv ad v) (List.mem_map.mpr ⟨(a, v), glk hl, rfl⟩), h.2.2.2.2.2.1 _ (glk hl)⟩
theorem gp_iload_n {j : Fin 4} {a : Nat} {x : Int32} (hd : decode (hb y) pc = .ok (.iload_n j, 1)) (hj : (j : Nat) = a) (hl : ls.lookup a = some (.inl (.int x))) (k : gG E y (pc + 1) ls (.inl (.int x) :: r) I J B c w Q X) : gG E y pc ls r I J B c w Q X := by
  intro hc hw p e s m args below meth cc ad0 Bs hC hT H locs LS ad hS
  exact lv_iload_n hC.1 hC.2.1 hd hj (hS.ld hl).1 (k hc hw p e s m args below meth cc ad0 Bs hC hT H locs LS ad (hS.tk (gvs_n hS.vs)))
theorem gp_lload_n {j : Fin 4} {a : Nat} {x : Int64} (hd : decode (hb y) pc = .ok (.lload_n j, 1)) (hj : (j : Nat) = a) (hl : ls.lookup a = some (.inl (.long x))) (k : gG E y (pc + 1) ls (.inl (.long x) :: r) I J B c w Q X) : gG E y pc ls r I J B c w Q X := by
  intro hc hw p e s m args below meth cc ad0 Bs hC hT H locs LS ad hS
  exact lv_lload_n hC.1 hC.2.1 hd hj (hS.ld hl).1 (k hc hw p e s m args below meth cc ad0 Bs hC hT H locs LS ad (hS.tk (gvs_n hS.vs)))
theorem gp_iload {a : Nat} {x : Int32} (hd : decode (hb y) pc = .ok (.iload a, 2)) (hl : ls.lookup a = some (.inl (.int x))) (k : gG E y (pc + 2) ls (.inl (.int x) :: r) I J B c w Q X) : gG E y pc ls r I J B c w Q X := by
  intro hc hw p e s m args below meth cc ad0 Bs hC hT H locs LS ad hS
  exact lv_iload hC.1 hC.2.1 hd (hS.ld hl).1 (k hc hw p e s m args below meth cc ad0 Bs hC hT H locs LS ad (hS.tk (gvs_n hS.vs)))
theorem gp_lload {a : Nat} {x : Int64} (hd : decode (hb y) pc = .ok (.lload a, 2)) (hl : ls.lookup a = some (.inl (.long x))) (k : gG E y (pc + 2) ls (.inl (.long x) :: r) I J B c w Q X) : gG E y pc ls r I J B c w Q X := by
  intro hc hw p e s m args below meth cc ad0 Bs hC hT H locs LS ad hS
  exact lv_lload hC.1 hC.2.1 hd (hS.ld hl).1 (k hc hw p e s m args below meth cc ad0 Bs hC hT H locs LS ad (hS.tk (gvs_n hS.vs)))
theorem gp_dload {a : Nat} {x : UInt64} (hd : decode (hb y) pc = .ok (.dload a, 2)) (hl : ls.lookup a = some (.inl (.double x))) (k : gG E y (pc + 2) ls (.inl (.double x) :: r) I J B c w Q X) : gG E y pc ls r I J B c w Q X := by
  intro hc hw p e s m args below meth cc ad0 Bs hC hT H locs LS ad hS
  exact lv_dload hC.1 hC.2.1 hd (hS.ld hl).1 (k hc hw p e s m args below meth cc ad0 Bs hC hT H locs LS ad (hS.tk (gvs_n hS.vs)))
theorem gp_aload_n {j : Fin 4} {a : Nat} {x : gR} (hd : decode (hb y) pc = .ok (.aload_n j, 1)) (hj : (j : Nat) = a) (hl : ls.lookup a = some (.inr x)) (k : gG E y (pc + 1) ls (.inr x :: r) I J B c w Q X) : gG E y pc ls r I J B c w Q X := by
  intro hc hw p e s m args below meth cc ad0 Bs hC hT H locs LS ad hS
  exact lv_aload_n hC.1 hC.2.1 hd hj (hS.ld hl).1 (k hc hw p e s m args below meth cc ad0 Bs hC hT H locs LS ad (hS.tk (gvs_c (hS.ld hl).2 hS.vs)))
theorem gp_aload {a : Nat} {x : gR} (hd : decode (hb y) pc = .ok (.aload a, 2)) (hl : ls.lookup a = some (.inr x)) (k : gG E y (pc + 2) ls (.inr x :: r) I J B c w Q X) : gG E y pc ls r I J B c w Q X := by
  intro hc hw p e s m args below meth cc ad0 Bs hC hT H locs LS ad hS
  exact lv_aload hC.1 hC.2.1 hd (hS.ld hl).1 (k hc hw p e s m args below meth cc ad0 Bs hC hT H locs LS ad (hS.tk (gvs_c (hS.ld hl).2 hS.vs)))
theorem gp_aload_nN {j : Fin 4} {a : Nat} (hd : decode (hb y) pc = .ok (.aload_n j, 1)) (hj : (j : Nat) = a) (hl : ls.lookup a = some (.inl .null)) (k : gG E y (pc + 1) ls (.inl .null :: r) I J B c w Q X) : gG E y pc ls r I J B c w Q X := by
  intro hc hw p e s m args below meth cc ad0 Bs hC hT H locs LS ad hS
  exact lv_aload_nN hC.1 hC.2.1 hd hj (hS.ld hl).1 (k hc hw p e s m args below meth cc ad0 Bs hC hT H locs LS ad (hS.tk (gvs_n hS.vs)))
theorem gp_aloadN {a : Nat} (hd : decode (hb y) pc = .ok (.aload a, 2)) (hl : ls.lookup a = some (.inl .null)) (k : gG E y (pc + 2) ls (.inl .null :: r) I J B c w Q X) : gG E y pc ls r I J B c w Q X := by
  intro hc hw p e s m args below meth cc ad0 Bs hC hT H locs LS ad hS
  exact lv_aloadN hC.1 hC.2.1 hd (hS.ld hl).1 (k hc hw p e s m args below meth cc ad0 Bs hC hT H locs LS ad (hS.tk (gvs_n hS.vs)))
theorem gmap_f1 (ad : gR → Nat) (a : Nat) (v : gV) : (a, gcv ad v) :: (ls.map (gcp ad)).filter (fun q => !(q.1 == a) && !(q.1 + 1 == a && q.2.category == 2)) = (gset1 ls a v).map (gcp ad) := by
  unfold gset1
  rw [List.map_cons, List.filter_map]
  congr 2
  apply List.filter_congr
  intro q _
  simp only [Function.comp, gcp, gcat_cv]
theorem gmap_f2 (ad : gR → Nat) (a : Nat) (v : gV) : (a, gcv ad v) :: (ls.map (gcp ad)).filter (fun q => !(q.1 == a) && (!(q.1 == a + 1) && !(q.1 + 1 == a && q.2.category == 2))) = (gset2 ls a v).map (gcp ad) := by
  unfold gset2
  rw [List.map_cons, List.filter_map]
  congr 2
  apply List.filter_congr
  intro q _
  simp only [Function.comp, gcp, gcat_cv]
theorem gSt.sv {ad0 : gR → Nat} {Bs : gB} {s : State} {H : Heap} {locs : List Loc} {LS LS2 : Array Slot} {ad : gR → Nat} {ls2 : List (Nat × gV)} {st2 : List gV} (h : gSt E y ad0 Bs s H locs LS ad ls st I J B) (hl : lv_has LS2 (hml y) (ls2.map (gcp ad))) (h2 : ∀ q ∈ ls2, gVv B q.2) (hv : ∀ v ∈ st2, gVv B v) : gSt E y ad0 Bs s H locs LS2 ad ls2 st2 I J B := ⟨h.1, h.2.1, hl, h.2.2.2.1, h.2.2.2.2.1, h2, hv⟩
theorem gset1_v {a : Nat} {v : gV} (h : ∀ q ∈ ls, gVv B q.2) (hv : gVv B v) : ∀ q ∈ gset1 ls a v, gVv B q.2 := by
  intro q hq
  rcases List.mem_cons.mp hq with rfl | hq
  · exact hv
  · exact h q (List.mem_filter.mp hq).1
theorem gset2_v {a : Nat} {v : gV} (h : ∀ q ∈ ls, gVv B q.2) (hv : gVv B v) : ∀ q ∈ gset2 ls a v, gVv B q.2 := by
  intro q hq
  rcases List.mem_cons.mp hq with rfl | hq
  · exact hv
  · exact h q (List.mem_filter.mp hq).1
theorem gp_istore_n {j : Fin 4} {a : Nat} {x : Int32} (hd : decode (hb y) pc = .ok (.istore_n j, 1)) (hj : (j : Nat) = a) (hn : a < hml y) (k : gG E y (pc + 1) (gset1 ls a (.inl (.int x))) r I J B c w Q X) : gG E y pc ls (.inl (.int x) :: r) I J B c w Q X := by
  intro hc hw p e s m args below meth cc ad0 Bs hC hT H locs LS ad hS
  exact lv_istore_n hC.1 hC.2.1 hd hj hS.2.2.1 hn (gmap_f1 ad a (.inl (.int x))) (fun LS2 hl => k hc hw p e s m args below meth cc ad0 Bs hC hT H locs LS2 ad (hS.sv hl (gset1_v hS.2.2.2.2.2.1 trivial) (gvs_d hS.vs)))
theorem gp_istore {a : Nat} {x : Int32} (hd : decode (hb y) pc = .ok (.istore a, 2)) (hn : a < hml y) (k : gG E y (pc + 2) (gset1 ls a (.inl (.int x))) r I J B c w Q X) : gG E y pc ls (.inl (.int x) :: r) I J B c w Q X := by
  intro hc hw p e s m args below meth cc ad0 Bs hC hT H locs LS ad hS
  exact lv_istore hC.1 hC.2.1 hd hS.2.2.1 hn (gmap_f1 ad a (.inl (.int x))) (fun LS2 hl => k hc hw p e s m args below meth cc ad0 Bs hC hT H locs LS2 ad (hS.sv hl (gset1_v hS.2.2.2.2.2.1 trivial) (gvs_d hS.vs)))
theorem gp_lstore_n {j : Fin 4} {a : Nat} {x : Int64} (hd : decode (hb y) pc = .ok (.lstore_n j, 1)) (hj : (j : Nat) = a) (hn : a + 1 < hml y) (k : gG E y (pc + 1) (gset2 ls a (.inl (.long x))) r I J B c w Q X) : gG E y pc ls (.inl (.long x) :: r) I J B c w Q X := by
  intro hc hw p e s m args below meth cc ad0 Bs hC hT H locs LS ad hS
  exact lv_lstore_n hC.1 hC.2.1 hd hj hS.2.2.1 hn (gmap_f2 ad a (.inl (.long x))) (fun LS2 hl => k hc hw p e s m args below meth cc ad0 Bs hC hT H locs LS2 ad (hS.sv hl (gset2_v hS.2.2.2.2.2.1 trivial) (gvs_d hS.vs)))
theorem gp_lstore {a : Nat} {x : Int64} (hd : decode (hb y) pc = .ok (.lstore a, 2)) (hn : a + 1 < hml y) (k : gG E y (pc + 2) (gset2 ls a (.inl (.long x))) r I J B c w Q X) : gG E y pc ls (.inl (.long x) :: r) I J B c w Q X := by
  intro hc hw p e s m args below meth cc ad0 Bs hC hT H locs LS ad hS
  exact lv_lstore hC.1 hC.2.1 hd hS.2.2.1 hn (gmap_f2 ad a (.inl (.long x))) (fun LS2 hl => k hc hw p e s m args below meth cc ad0 Bs hC hT H locs LS2 ad (hS.sv hl (gset2_v hS.2.2.2.2.2.1 trivial) (gvs_d hS.vs)))
theorem gp_dstore {a : Nat} {x : UInt64} (hd : decode (hb y) pc = .ok (.dstore a, 2)) (hn : a + 1 < hml y) (k : gG E y (pc + 2) (gset2 ls a (.inl (.double x))) r I J B c w Q X) : gG E y pc ls (.inl (.double x) :: r) I J B c w Q X := by
  intro hc hw p e s m args below meth cc ad0 Bs hC hT H locs LS ad hS
  exact lv_dstore hC.1 hC.2.1 hd hS.2.2.1 hn (gmap_f2 ad a (.inl (.double x))) (fun LS2 hl => k hc hw p e s m args below meth cc ad0 Bs hC hT H locs LS2 ad (hS.sv hl (gset2_v hS.2.2.2.2.2.1 trivial) (gvs_d hS.vs)))
theorem gp_astore_n {j : Fin 4} {a : Nat} {x : gR} (hd : decode (hb y) pc = .ok (.astore_n j, 1)) (hj : (j : Nat) = a) (hn : a < hml y) (k : gG E y (pc + 1) (gset1 ls a (.inr x)) r I J B c w Q X) : gG E y pc ls (.inr x :: r) I J B c w Q X := by
  intro hc hw p e s m args below meth cc ad0 Bs hC hT H locs LS ad hS
  exact lv_astore_n hC.1 hC.2.1 hd hj hS.2.2.1 hn (gmap_f1 ad a (.inr x)) (fun LS2 hl => k hc hw p e s m args below meth cc ad0 Bs hC hT H locs LS2 ad (hS.sv hl (gset1_v hS.2.2.2.2.2.1 (gvs_h hS.vs)) (gvs_d hS.vs)))
theorem gp_astore_nN {j : Fin 4} {a : Nat} (hd : decode (hb y) pc = .ok (.astore_n j, 1)) (hj : (j : Nat) = a) (hn : a < hml y) (k : gG E y (pc + 1) (gset1 ls a (.inl .null)) r I J B c w Q X) : gG E y pc ls (.inl .null :: r) I J B c w Q X := by
  intro hc hw p e s m args below meth cc ad0 Bs hC hT H locs LS ad hS
  exact lv_astore_nN hC.1 hC.2.1 hd hj hS.2.2.1 hn (gmap_f1 ad a (.inl .null)) (fun LS2 hl => k hc hw p e s m args below meth cc ad0 Bs hC hT H locs LS2 ad (hS.sv hl (gset1_v hS.2.2.2.2.2.1 trivial) (gvs_d hS.vs)))
theorem gp_astore {a : Nat} {x : gR} (hd : decode (hb y) pc = .ok (.astore a, 2)) (hn : a < hml y) (k : gG E y (pc + 2) (gset1 ls a (.inr x)) r I J B c w Q X) : gG E y pc ls (.inr x :: r) I J B c w Q X := by
  intro hc hw p e s m args below meth cc ad0 Bs hC hT H locs LS ad hS
  exact lv_astore hC.1 hC.2.1 hd hS.2.2.1 hn (gmap_f1 ad a (.inr x)) (fun LS2 hl => k hc hw p e s m args below meth cc ad0 Bs hC hT H locs LS2 ad (hS.sv hl (gset1_v hS.2.2.2.2.2.1 (gvs_h hS.vs)) (gvs_d hS.vs)))
theorem gp_astoreN {a : Nat} (hd : decode (hb y) pc = .ok (.astore a, 2)) (hn : a < hml y) (k : gG E y (pc + 2) (gset1 ls a (.inl .null)) r I J B c w Q X) : gG E y pc ls (.inl .null :: r) I J B c w Q X := by
  intro hc hw p e s m args below meth cc ad0 Bs hC hT H locs LS ad hS
  exact lv_astoreN hC.1 hC.2.1 hd hS.2.2.1 hn (gmap_f1 ad a (.inl .null)) (fun LS2 hl => k hc hw p e s m args below meth cc ad0 Bs hC hT H locs LS2 ad (hS.sv hl (gset1_v hS.2.2.2.2.2.1 trivial) (gvs_d hS.vs)))
theorem gp_iinc {a : Nat} {n : Int} {x z : Int32} (hd : decode (hb y) pc = .ok (.iinc a n, 3)) (hz : Int32.ofInt n = z) (hl : ls.lookup a = some (.inl (.int x))) (hn : a < hml y) (k : gG E y (pc + 3) (gset1 ls a (.inl (.int (x + z)))) st I J B c w Q X) : gG E y pc ls st I J B c w Q X := by
  intro hc hw p e s m args below meth cc ad0 Bs hC hT H locs LS ad hS
  obtain ⟨q, hq⟩ := List.getElem?_of_mem (List.mem_map.mpr ⟨(a, .inl (.int x)), glk hl, rfl⟩ : ((a, Value.int x) : Nat × Value) ∈ ls.map (gcp ad))
  exact lv_iinc hC.1 hC.2.1 hd hS.2.2.1 hq (by rw [hz]) hn (gmap_f1 ad a (.inl (.int (x + z)))) (fun LS2 hl => k hc hw p e s m args below meth cc ad0 Bs hC hT H locs LS2 ad (hS.sv hl (gset1_v hS.2.2.2.2.2.1 trivial) hS.vs))
theorem gp_pick {live : List Nat} (k : gG E y pc (gpick live ls) st I J B c w Q X) : gG E y pc ls st I J B c w Q X := by
  intro hc hw p e s m args below meth cc ad0 Bs hC hT H locs LS ad hS
  have hm : ∀ q ∈ gpick live ls, q ∈ ls := by
    intro q hq
    obtain ⟨i, -, hi⟩ := List.mem_filterMap.mp hq
    cases e : ls.lookup i with
    | none => rw [e] at hi; cases hi
    | some v => rw [e] at hi; cases hi; exact glk e
  exact k hc hw p e s m args below meth cc ad0 Bs hC hT H locs LS ad (hS.sv ⟨hS.2.2.1.1, hS.2.2.1.2.1, fun q hq => by
    obtain ⟨z, hz, rfl⟩ := List.mem_map.mp hq
    exact hS.2.2.1.2.2 _ (List.mem_map.mpr ⟨z, hm z hz, rfl⟩)⟩ (fun q hq => hS.2.2.2.2.2.1 q (hm q hq)) hS.vs)
end GP
