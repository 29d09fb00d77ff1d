/-! ===== what the small machine's states say of the heap ===== -/
abbrev gEn : Type := Launch × va_G × (Nat → ClassId) × Nat × (gR → Nat) × Nat × (Nat → Int32) × List Int32 × List Nat
abbrev gl (E : gEn) : Launch := E.1
abbrev gD (E : gEn) : va_G := E.2.1
abbrev gca (E : gEn) : Nat → ClassId := E.2.2.1
abbrev gB0 (E : gEn) : Nat := E.2.2.2.1
abbrev gax (E : gEn) : gR → Nat := E.2.2.2.2.1
abbrev gL (E : gEn) : Nat := E.2.2.2.2.2.1
abbrev gXs (E : gEn) : Nat → Int32 := E.2.2.2.2.2.2.1
/-- the text that the law has made; the places that stay as they are -/
abbrev gTx (E : gEn) : List Int32 := E.2.2.2.2.2.2.2.1
abbrev gEx (E : gEn) : List Nat := E.2.2.2.2.2.2.2.2
def gA (E : gEn) : Nat → Prop := fun q => gB0 E ≤ q ∧ q ∉ gEx E
def gfval (ad : gR → Nat) (I : gI) (J : gJ) (k n j cd dn : Nat) : Value :=
  if cd = 1 then .long (J k n j) else if cd < 100 then .int (I k n 0 j) else .ref (ad (cd - 100, n + dn, 0))
def gfvals (ad : gR → Nat) (I : gI) (J : gJ) (k n : Nat) (fl : List (Nat × Nat)) : List Value := fl.mapIdx (fun j q => gfval ad I J k n j q.1 q.2)
def garrE (ca : Nat → ClassId) (ad : gR → Nat) (I : gI) (J : gJ) (B : gB) (r : gR) (t n rk : Nat) : va_E := match t with
  | 0 => .inl (ca 0, n, .inl (I r.1 r.2.1 r.2.2))
  | 1 => .inl (ca 1, n, .inr (.inl (J r.1 r.2.1)))
  | 2 => .inl (ca 2, n, .inl (I r.1 r.2.1 r.2.2))
  | 3 => .inl (ca 3, n, .inl (I r.1 r.2.1 r.2.2))
  | 4 => .inl (ca 4, n, .inr (.inr (.inr (.inl (fun j => (J r.1 r.2.1 j).toUInt64)))))
  | 5 => .inl (ca 5, n, .inr (.inr (.inr (.inr (fun j => some (ad (rk, r.2.1, j)))))))
  | _ => .inl (ca 6, n, .inr (.inr (.inr (.inr (fun j => if Nat.blt j n && B (rk + j + 17) then some (ad (6, rk + j, 0)) else none)))))
def genc (ca : Nat → ClassId) (ad : gR → Nat) (I : gI) (J : gJ) (B : gB) (r : gR) : va_E := match gobj r.1 with
  | some (ci, fl) => .inr (ci, gfvals ad I J r.1 r.2.1 fl)
  | none => match garr r.1 with
    | some (t, n, rk) => garrE ca ad I J B r t n rk
    | none => .inl (ca 0, 0, .inl (fun _ => 0))
def gws (E : gEn) (ad : gR → Nat) (I : gI) (J : gJ) (B : gB) : va_W := (gids B).map (fun r => (ad r, genc (gca E) ad I J B r))
/-- what stands late stands with what holds it -/
def gBok (B : gB) : Prop := ∀ n, 3 ≤ n → n ≤ 12 → B (n + 17) = true → B n = true
def gRep (E : gEn) (ad : gR → Nat) (I : gI) (J : gJ) (B : gB) (H : Heap) : Prop := va_P (gD E) vwCl (gws E ad I J B) H ∧ va_D (gA E) (gws E ad I J B) ∧ (∀ r : gR, r.1 ≤ 2 → ad r = gax E r) ∧ gBok B
def gtys (E : gEn) : List (ClassId × FieldType) := [(gca E 0, .int), (gca E 1, .long), (gca E 2, .boolean), (gca E 3, .byte), (gca E 4, .boolean), (gca E 5, .array .int), (gca E 6, .object "ToeplitzLab$State")]
def gVl (B : gB) (r : gR) : Prop := r = (0, 0, 0) ∨ (r.1 = 1 ∧ r.2.1 < 2 ∧ r.2.2 = 0) ∨ (r.1 = 2 ∧ r.2.1 < 7 ∧ r.2.2 = 0) ∨ r ∈ gids B
def gVv (B : gB) (v : gV) : Prop := match v with
  | .inl _ => True
  | .inr r => gVl B r
def gExt (ad0 : gR → Nat) (Bs : gB) (ad : gR → Nat) : Prop := ∀ r, gVl Bs r → ad r = ad0 r
def gLe (B B' : gB) : Prop := ∀ n, B n = true → B' n = true
/-- the words that ride along in every method's list -/
def gBig : List Cond := lw_tbl.filter goodWord
/-- the law's fields by the nest: the number in the pool, the field's -/
def gNfl : List (Nat × Nat) := [(154, 4), (162, 5), (164, 1), (168, 2), (170, 3), (268, 0)]
def gNsF : List Cond := gNfl.map (fun t => Cond.fieldLinkNest "ToeplitzLabLaw" t.1 (TX9 t.2).1 (TX9 t.2).2.1 (TX9 t.2).2.2.1 "ToeplitzLabLaw")
/-- words of the tables that are handed on by themselves -/
def gNst : List Cond := [.fieldLinkNest "ToeplitzLab$Pairs" 46 "ToeplitzLab$Grid" "modulus" "I" "ToeplitzLab", .methodLinkNest "ToeplitzLab$Grid" 41 yX7_reduced "ToeplitzLab", .methodLinkNest "ToeplitzLab$Lifter" 62 yX7_reduced "ToeplitzLab", .methodLinkNest "ToeplitzLab$Pairs" 50 yX7_reduced "ToeplitzLab", .methodLinkNest "ToeplitzLab$Input" 94 yX7_isListed "ToeplitzLab", .methodLinkNest "ToeplitzLab$History" 21 yX6_init "ToeplitzLab", .methodLinkNest "ToeplitzLab" 18 yX6_init "ToeplitzLab",
  .declares ⟨"java/lang/RuntimeException", "<init>", "(Ljava/lang/String;)V"⟩, .declares ⟨"java/lang/Exception", "<init>", "(Ljava/lang/String;)V"⟩, .declares ⟨"java/lang/Throwable", "<init>", "(Ljava/lang/String;)V"⟩,
  .castable "java/lang/IllegalStateException" "java/lang/IllegalStateException", .castable "java/lang/IndexOutOfBoundsException" "java/lang/IndexOutOfBoundsException", .castable "java/lang/IllegalArgumentException" "java/lang/IllegalArgumentException"] ++ gNsF
/-- the texts: where they stand in the pools -/
def gTxt : List (String × Nat × String) := [("ToeplitzLab", 83, "there are not so many bytes"), ("ToeplitzLab", 94, "the text has an error"), ("ToeplitzLab", 323, "there is no system"), ("ToeplitzLab", 331, "there is no such diagonal"), ("ToeplitzLab", 325, "there is no such row or column"), ("ToeplitzLab", 333, "there is no such size"), ("ToeplitzLab", 344, "there is no such step"), ("ToeplitzLab", 337, "a number is out of its range"), ("ToeplitzLab", 327, "there is no such row or column behind the step"), ("ToeplitzLab", 192, "there is no such pair"), ("ToeplitzLab", 201, "the matrix is not regular"), ("ToeplitzLab", 209, "the matrix is regular"), ("ToeplitzLab", 220, "there is no such digit"), ("ToeplitzLab", 339, "there is no fraction"), ("ToeplitzLab", 329, "there is no such row or column of the circulant"), ("ToeplitzLab", 273, "there is no such entry"), ("ToeplitzLab", 275, "there is no such property"), ("ToeplitzLab", 289, "this is none of the primes"), ("ToeplitzLab", 291, "the system has its greatest size"), ("ToeplitzLab", 293, "the system has its smallest size"), ("ToeplitzLab", 295, "there is no room for a digit"), ("ToeplitzLab", 301, "the number of lifts is out of its range"), ("ToeplitzLab", 312, "there is nothing to undo"), ("ToeplitzLab", 335, "there is no such slot"), ("ToeplitzLab", 321, "nothing is saved there")]
/-- the words that are looked for: where they stand in the pools, and their numbers -/
def gTx2 : List (String × Nat × String × Nat) := [("ToeplitzLab$Input", 76, "toeplitz", 0), ("ToeplitzLab$Input", 92, "prime", 1), ("ToeplitzLab$Input", 100, "diagonal", 2), ("ToeplitzLab$Input", 109, "band", 3), ("ToeplitzLab$Input", 111, "side", 4), ("ToeplitzLab$Input", 121, "probe", 5)]
def gTl : List Nat := [8, 5, 8, 4, 4, 5]
def gTb : List (List Int32) := [[116, 111, 101, 112, 108, 105, 116, 122], [112, 114, 105, 109, 101], [100, 105, 97, 103, 111, 110, 97, 108], [98, 97, 110, 100], [115, 105, 100, 101], [112, 114, 111, 98, 101]]
def gxn (k : Nat) : String := match k with
  | 0 => "java/lang/IllegalStateException"
  | 1 => "java/lang/IndexOutOfBoundsException"
  | _ => "java/lang/IllegalArgumentException"
/-- what is known of the tables and of what stood before -/
def gEv (E : gEn) (U : State) (H : Heap) : Prop :=
  va_K (gD E) vwCl (gtys E) U ∧ (∀ w ∈ gNst, va_Nw w U) ∧
  vx_Zq Bundle.tN "UNASSIGNED_STACK" Bundle.steD (gA E) U H ∧ vx_Zq Bundle.tN "SUPPRESSED_SENTINEL" Bundle.listD (gA E) U H ∧
  va_Z "ToeplitzLab" "PRIMES" "[I" (.ref (gax E (1, 0, 0))) (gA E) U H ∧ va_T .int (gax E (1, 0, 0)) 11 (fun j => .int (gprime j)) (gA E) U H ∧
  va_Z "ToeplitzLabLaw" "PRIMES" "[I" (.ref (gax E (1, 1, 0))) (gA E) U H ∧ va_T .int (gax E (1, 1, 0)) 11 (fun j => .int (gprime j)) (gA E) U H ∧
  va_X (gax E (0, 0, 0)) (gL E) (gXs E) U H ∧ (¬ gA E (gax E (0, 0, 0)) ∧ gax E (0, 0, 0) < H.size) ∧
  (∀ q ∈ gTxt, ∃ a, vk_R q.1 q.2.1 q.2.2 a U) ∧ (∀ q ∈ gTx2, vk_R q.1 q.2.1 q.2.2.1 (gax E (2, q.2.2.2, 0)) U) ∧
  vk_S 7 (gTl ++ [(gTx E).length]) (gTb ++ [gTx E]) (fun k => gax E (2, k, 0)) (fun k => gax E (2, k, 1)) (gA E) U H ∧ va_Z "java/lang/String" "COMPACT_STRINGS" "Z" (.int 1) (gA E) U H ∧
  va_Zq "jdk/internal/util/Preconditions" "SIOOBE_FORMATTER" "Ljava/util/function/BiFunction;" (gA E) U H ∧
  (∀ k k2 : Nat, k < 3 → k2 < 3 → k ≠ k2 → va_Nc (gxn k) (gxn k2) U) ∧
  (gl E).stackTraces = false ∧ gB0 E ≤ H.size ∧ (∀ q ∈ gEx E, q < H.size)
def gout (y : Nat) (ad : gR → Nat) (v : gV) : Option Value := match hr y with
  | none => none
  | some _ => some (gcv ad v)
def gQc (E : gEn) (y : Nat) (ad0 : gR → Nat) (Bs : gB) (Q : gQt) : Array Value → State → Outcome → State → Prop := fun _ st o t =>
  (∃ (v : gV) (I : gI) (J : gJ) (B : gB) (ad : gR → Nat), o = .returned (gout y ad v) ∧ Q v I J B ∧ gRep E ad I J B t.heap ∧ gExt ad0 Bs ad ∧ gLe Bs B ∧ gVv B v) ∧ va_F (gA E) st t
def gXc (E : gEn) (ad0 : gR → Nat) (Bs : gB) (X : gXt) : String → State → State → Prop := fun En st t =>
  (∃ (k : Nat) (I : gI) (J : gJ) (B : gB) (ad : gR → Nat), (k < 3 ∧ gxn k = En) ∧ X k I J B ∧ gRep E ad I J B t.heap ∧ gExt ad0 Bs ad ∧ gLe Bs B) ∧ va_F (gA E) st t
def hcw (y : Nat) : Cond := match hht y with
  | [] => Cond.code (hy y) (hb y) (hml y) (hr y)
  | hh => Cond.codeWith (hy y) (hb y) (hml y) (hr y) hh
def hws (y : Nat) : List Cond := hcw y :: gBig
/-- a method's contract: called with args over I, J, B it ends with Q, or throws with X -/
def gCm (E : gEn) (y : Nat) (ws : List Cond) (args : List gV) (I : gI) (J : gJ) (B : gB) (Q : gQt) (X : gXt) : Prop :=
  (∀ v ∈ args, gVv B v) → ∀ ad : gR → Nat, vx_Met (gl E) (hy y) ws (hrm y) (va_Pc (args.map (gcv ad)) (fun U => gEv E U U.heap ∧ gRep E ad I J B U.heap)) (gQc E y ad B Q) (gXc E ad B X) (hmc y) (hms y) (gA E)
abbrev gC (E : gEn) (y : Nat) (args : List gV) (I : gI) (J : gJ) (B : gB) (Q : gQt) (X : gXt) : Prop := gCm E y (hws y) args I J B Q X
def gCx (E : gEn) (y : Nat) (p : Program) (e : Env) (s : State) (m : MethodId) (args : Array Value) (below : List Frame) (meth : Method) (cc : Code) : Prop :=
  p.tables.exec = Jvm.exec ∧ cc.code = hb y ∧ meth.sig.returnType = hr y ∧ cc.maxLocals = hml y ∧ s.vm.findClass (hy y).cls = some m.cls ∧ (∀ w ∈ gBig, w.before args s = true) ∧ meth.locks = false ∧ gEv E s s.heap
def gSt (E : gEn) (y : Nat) (ad0 : gR → Nat) (Bs : gB) (s : State) (H : Heap) (locs : List Loc) (LS : Array Slot) (ad : gR → Nat) (ls : List (Nat × gV)) (st : List gV) (I : gI) (J : gJ) (B : gB) : Prop :=
  gRep E ad I J B H ∧ va_S (gA E) s.heap H locs ∧ lv_has LS (hml y) (ls.map (gcp ad)) ∧ gExt ad0 Bs ad ∧ gLe Bs B ∧ (∀ q ∈ ls, gVv B q.2) ∧ (∀ v ∈ st, gVv B v)
/-- from here on the method comes to its end -/
def gG (E : gEn) (y pc : Nat) (ls : List (Nat × gV)) (st : List gV) (I : gI) (J : gJ) (B : gB) (c w : Nat) (Q : gQt) (X : gXt) : Prop :=
  c ≤ hmc y → w ≤ hms y → ∀ (p : Program) (e : Env) (s : State) (m : MethodId) (args : Array Value) (below : List Frame) (meth : Method) (cc : Code) (ad0 : gR → Nat) (Bs : gB), gCx E y p e s m args below meth cc → cc.exceptionTable.toList = tableOf (hht y) →
    ∀ (H : Heap) (locs : List Loc) (LS : Array Slot) (ad : gR → Nat), gSt E y ad0 Bs s H locs LS ad ls st I J B →
      W p (gl E) e (hrm y) s m args below meth cc H locs c w (vx_MQ below (gQc E y ad0 Bs Q) (gXc E ad0 Bs X) args s (hmc y) (hms y) (gA E)) (F0 m pc LS (st.map (gcv ad)))
