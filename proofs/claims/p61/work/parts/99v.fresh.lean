/-! ===== the fresh world (by wip/p61/p99v.py) ===== -/
def gI1 (N pr : Int) (fd f1 f2 : Nat → Int32) (a : Nat) : gI := fun k _ _ => match k with
  | 48 => fun j => if j = 1 then gi (a : Int) else 0
  | 49 => fun j => if j = 4 then gi N else if j = 5 then gi pr else 0
  | 50 => fd
  | 51 => f1
  | 52 => f2
  | _ => fun _ => 0
def gJ0 : gJ := fun k _ j => if k = 6 ∧ j = 6 then 1 else 0
def gB00 : gB := fun _ => false
def gax1 (E : gEn) (tb : Nat) : gR → Nat := fun r => if r = (1, 2, 0) then tb else gax E r
def gad1 (E : gEn) (tb d lb da sa pa q7 : Nat) (u7 : (Nat → Nat) × (Nat → Nat → Nat)) : gR → Nat := fun r => ([fun n j => gax1 E tb (0, n, j), fun n j => gax1 E tb (1, n, j), fun n j => gax1 E tb (2, n, j), fun n j => q7, fun n j => (u7.1 0), fun n j => (u7.2 0 0), fun n j => if n = 0 then (u7.1 1) else if n = 1 then (u7.1 2) else (u7.2 0 1), fun n j => if n = 0 then (u7.2 1 0) else if n = 1 then (u7.2 2 0) else (u7.2 0 2), fun n j => if n = 0 then (u7.2 1 1) else if n = 1 then (u7.2 2 1) else (u7.2 0 3), fun n j => if n = 0 then (u7.2 1 2) else if n = 1 then (u7.2 2 2) else (u7.2 0 4), fun n j => if n = 0 then (u7.2 1 3) else if n = 1 then (u7.2 2 3) else (u7.2 0 5), fun n j => if n = 0 then (u7.2 1 4) else if n = 1 then (u7.2 2 4) else (u7.2 0 6), fun n j => if n = 0 then (u7.2 1 5) else if n = 1 then (u7.2 2 5) else (u7.2 0 7), fun n j => (u7.1 3), fun n j => (u7.2 3 0), fun n j => (u7.1 4), fun n j => (u7.1 5), fun n j => if n = 0 then (u7.1 6) else (u7.2 7 0), fun n j => if n = 0 then (u7.2 4 0) else (u7.2 7 2), fun n j => if n = 0 then (u7.2 4 0) + 1 + j else (u7.2 7 2) + 1 + j, fun n j => (u7.1 7), fun n j => (u7.2 5 0), fun n j => (u7.2 5 0) + 1 + j, fun n j => (u7.2 5 1), fun n j => (u7.2 5 1) + 1 + j, fun n j => (u7.1 8), fun n j => (u7.2 6 0), fun n j => (u7.2 6 1), fun n j => (u7.1 9), fun n j => (u7.2 7 1), fun n j => (u7.1 10), fun n j => 0, fun n j => 0, fun n j => 0, fun n j => 0, fun n j => 0, fun n j => 0, fun n j => 0, fun n j => 0, fun n j => 0, fun n j => 0, fun n j => 0, fun n j => 0, fun n j => 0, fun n j => 0, fun n j => 0, fun n j => 0, fun n j => 0, fun n j => d, fun n j => lb, fun n j => da, fun n j => sa, fun n j => pa] : List (Nat → Nat → Nat)).getD r.1 (fun _ _ => 0) r.2.1 r.2.2
def gW1 (E : gEn) (tb d lb da sa pa q7 : Nat) (u7 : (Nat → Nat) × (Nat → Nat → Nat)) (N pr : Int) (fd f1 f2 : Nat → Int32) (a : Nat) : va_W := [(d, kD E a), (lb, .inr (9, [.ref tb, .ref da, .ref sa, .ref pa, .int (gi N), .int (gi pr)])), (da, .inl (gca E 0, 13, .inl fd)), (sa, .inl (gca E 0, 7, .inl f1)), (pa, .inl (gca E 0, 7, .inl f2))] ++ gzw_7 E q7 u7
def gix0 : List Nat := [5, 6, 7, 15, 16, 17, 18, 19, 20, 21, 22, 23, 24, 25, 26, 27, 28, 8, 9, 10, 11, 12, 13, 14, 29, 30, 31, 32, 33, 34, 35, 36, 37, 38, 39, 40, 41, 63, 64, 65, 66, 67, 68, 69, 70, 71, 42, 43, 44, 45, 46, 47, 48, 49, 50, 51, 52, 53, 54, 55, 56, 57, 58, 59, 60, 61, 62, 72, 73, 0, 1, 2, 3, 4]
theorem gids0 : gids gB00 = gperm := by decide +kernel
theorem gperm_len : gperm.length = 74 := by decide +kernel
section FRESH
variable {E : gEn} {tb ba d lb da sa pa q7 : Nat} {u7 : (Nat → Nat) × (Nat → Nat → Nat)} {N pr : Int} {fd f1 f2 : Nat → Int32} {a : Nat}
theorem gw0_0 : (gW1 E tb d lb da sa pa q7 u7 N pr fd f1 f2 a)[5]? = some ((gad1 E tb d lb da sa pa q7 u7) (3, 0, 0), genc (gca E) (gad1 E tb d lb da sa pa q7 u7) (gI1 N pr fd f1 f2 a) gJ0 gB00 (3, 0, 0)) := rfl
theorem gw0_1 : (gW1 E tb d lb da sa pa q7 u7 N pr fd f1 f2 a)[6]? = some ((gad1 E tb d lb da sa pa q7 u7) (4, 0, 0), genc (gca E) (gad1 E tb d lb da sa pa q7 u7) (gI1 N pr fd f1 f2 a) gJ0 gB00 (4, 0, 0)) := rfl
theorem gw0_2 : (gW1 E tb d lb da sa pa q7 u7 N pr fd f1 f2 a)[7]? = some ((gad1 E tb d lb da sa pa q7 u7) (5, 0, 0), genc (gca E) (gad1 E tb d lb da sa pa q7 u7) (gI1 N pr fd f1 f2 a) gJ0 gB00 (5, 0, 0)) := rfl
theorem gw0_3 : (gW1 E tb d lb da sa pa q7 u7 N pr fd f1 f2 a)[15]? = some ((gad1 E tb d lb da sa pa q7 u7) (6, 0, 0), genc (gca E) (gad1 E tb d lb da sa pa q7 u7) (gI1 N pr fd f1 f2 a) gJ0 gB00 (6, 0, 0)) := rfl
theorem gw0_4 : (gW1 E tb d lb da sa pa q7 u7 N pr fd f1 f2 a)[16]? = some ((gad1 E tb d lb da sa pa q7 u7) (7, 0, 0), genc (gca E) (gad1 E tb d lb da sa pa q7 u7) (gI1 N pr fd f1 f2 a) gJ0 gB00 (7, 0, 0)) := rfl
theorem gw0_5 : (gW1 E tb d lb da sa pa q7 u7 N pr fd f1 f2 a)[17]? = some ((gad1 E tb d lb da sa pa q7 u7) (8, 0, 0), genc (gca E) (gad1 E tb d lb da sa pa q7 u7) (gI1 N pr fd f1 f2 a) gJ0 gB00 (8, 0, 0)) := rfl
theorem gw0_6 : (gW1 E tb d lb da sa pa q7 u7 N pr fd f1 f2 a)[18]? = some ((gad1 E tb d lb da sa pa q7 u7) (9, 0, 0), genc (gca E) (gad1 E tb d lb da sa pa q7 u7) (gI1 N pr fd f1 f2 a) gJ0 gB00 (9, 0, 0)) := rfl
theorem gw0_7 : (gW1 E tb d lb da sa pa q7 u7 N pr fd f1 f2 a)[19]? = some ((gad1 E tb d lb da sa pa q7 u7) (10, 0, 0), genc (gca E) (gad1 E tb d lb da sa pa q7 u7) (gI1 N pr fd f1 f2 a) gJ0 gB00 (10, 0, 0)) := rfl
theorem gw0_8 : (gW1 E tb d lb da sa pa q7 u7 N pr fd f1 f2 a)[20]? = some ((gad1 E tb d lb da sa pa q7 u7) (11, 0, 0), genc (gca E) (gad1 E tb d lb da sa pa q7 u7) (gI1 N pr fd f1 f2 a) gJ0 gB00 (11, 0, 0)) := rfl
theorem gw0_9 : (gW1 E tb d lb da sa pa q7 u7 N pr fd f1 f2 a)[21]? = some ((gad1 E tb d lb da sa pa q7 u7) (12, 0, 0), genc (gca E) (gad1 E tb d lb da sa pa q7 u7) (gI1 N pr fd f1 f2 a) gJ0 gB00 (12, 0, 0)) := rfl
theorem gw0_10 : (gW1 E tb d lb da sa pa q7 u7 N pr fd f1 f2 a)[22]? = some ((gad1 E tb d lb da sa pa q7 u7) (6, 1, 0), genc (gca E) (gad1 E tb d lb da sa pa q7 u7) (gI1 N pr fd f1 f2 a) gJ0 gB00 (6, 1, 0)) := rfl
theorem gw0_11 : (gW1 E tb d lb da sa pa q7 u7 N pr fd f1 f2 a)[23]? = some ((gad1 E tb d lb da sa pa q7 u7) (7, 1, 0), genc (gca E) (gad1 E tb d lb da sa pa q7 u7) (gI1 N pr fd f1 f2 a) gJ0 gB00 (7, 1, 0)) := rfl
theorem gw0_12 : (gW1 E tb d lb da sa pa q7 u7 N pr fd f1 f2 a)[24]? = some ((gad1 E tb d lb da sa pa q7 u7) (8, 1, 0), genc (gca E) (gad1 E tb d lb da sa pa q7 u7) (gI1 N pr fd f1 f2 a) gJ0 gB00 (8, 1, 0)) := rfl
theorem gw0_13 : (gW1 E tb d lb da sa pa q7 u7 N pr fd f1 f2 a)[25]? = some ((gad1 E tb d lb da sa pa q7 u7) (9, 1, 0), genc (gca E) (gad1 E tb d lb da sa pa q7 u7) (gI1 N pr fd f1 f2 a) gJ0 gB00 (9, 1, 0)) := rfl
theorem gw0_14 : (gW1 E tb d lb da sa pa q7 u7 N pr fd f1 f2 a)[26]? = some ((gad1 E tb d lb da sa pa q7 u7) (10, 1, 0), genc (gca E) (gad1 E tb d lb da sa pa q7 u7) (gI1 N pr fd f1 f2 a) gJ0 gB00 (10, 1, 0)) := rfl
theorem gw0_15 : (gW1 E tb d lb da sa pa q7 u7 N pr fd f1 f2 a)[27]? = some ((gad1 E tb d lb da sa pa q7 u7) (11, 1, 0), genc (gca E) (gad1 E tb d lb da sa pa q7 u7) (gI1 N pr fd f1 f2 a) gJ0 gB00 (11, 1, 0)) := rfl
theorem gw0_16 : (gW1 E tb d lb da sa pa q7 u7 N pr fd f1 f2 a)[28]? = some ((gad1 E tb d lb da sa pa q7 u7) (12, 1, 0), genc (gca E) (gad1 E tb d lb da sa pa q7 u7) (gI1 N pr fd f1 f2 a) gJ0 gB00 (12, 1, 0)) := rfl
theorem gw0_17 : (gW1 E tb d lb da sa pa q7 u7 N pr fd f1 f2 a)[8]? = some ((gad1 E tb d lb da sa pa q7 u7) (6, 2, 0), genc (gca E) (gad1 E tb d lb da sa pa q7 u7) (gI1 N pr fd f1 f2 a) gJ0 gB00 (6, 2, 0)) := rfl
theorem gw0_18 : (gW1 E tb d lb da sa pa q7 u7 N pr fd f1 f2 a)[9]? = some ((gad1 E tb d lb da sa pa q7 u7) (7, 2, 0), genc (gca E) (gad1 E tb d lb da sa pa q7 u7) (gI1 N pr fd f1 f2 a) gJ0 gB00 (7, 2, 0)) := rfl
theorem gw0_19 : (gW1 E tb d lb da sa pa q7 u7 N pr fd f1 f2 a)[10]? = some ((gad1 E tb d lb da sa pa q7 u7) (8, 2, 0), genc (gca E) (gad1 E tb d lb da sa pa q7 u7) (gI1 N pr fd f1 f2 a) gJ0 gB00 (8, 2, 0)) := rfl
theorem gw0_20 : (gW1 E tb d lb da sa pa q7 u7 N pr fd f1 f2 a)[11]? = some ((gad1 E tb d lb da sa pa q7 u7) (9, 2, 0), genc (gca E) (gad1 E tb d lb da sa pa q7 u7) (gI1 N pr fd f1 f2 a) gJ0 gB00 (9, 2, 0)) := rfl
theorem gw0_21 : (gW1 E tb d lb da sa pa q7 u7 N pr fd f1 f2 a)[12]? = some ((gad1 E tb d lb da sa pa q7 u7) (10, 2, 0), genc (gca E) (gad1 E tb d lb da sa pa q7 u7) (gI1 N pr fd f1 f2 a) gJ0 gB00 (10, 2, 0)) := rfl
theorem gw0_22 : (gW1 E tb d lb da sa pa q7 u7 N pr fd f1 f2 a)[13]? = some ((gad1 E tb d lb da sa pa q7 u7) (11, 2, 0), genc (gca E) (gad1 E tb d lb da sa pa q7 u7) (gI1 N pr fd f1 f2 a) gJ0 gB00 (11, 2, 0)) := rfl
theorem gw0_23 : (gW1 E tb d lb da sa pa q7 u7 N pr fd f1 f2 a)[14]? = some ((gad1 E tb d lb da sa pa q7 u7) (12, 2, 0), genc (gca E) (gad1 E tb d lb da sa pa q7 u7) (gI1 N pr fd f1 f2 a) gJ0 gB00 (12, 2, 0)) := rfl
theorem gw0_24 : (gW1 E tb d lb da sa pa q7 u7 N pr fd f1 f2 a)[29]? = some ((gad1 E tb d lb da sa pa q7 u7) (13, 0, 0), genc (gca E) (gad1 E tb d lb da sa pa q7 u7) (gI1 N pr fd f1 f2 a) gJ0 gB00 (13, 0, 0)) := rfl
theorem gw0_25 : (gW1 E tb d lb da sa pa q7 u7 N pr fd f1 f2 a)[30]? = some ((gad1 E tb d lb da sa pa q7 u7) (14, 0, 0), genc (gca E) (gad1 E tb d lb da sa pa q7 u7) (gI1 N pr fd f1 f2 a) gJ0 gB00 (14, 0, 0)) := by
  have e : genc (gca E) (gad1 E tb d lb da sa pa q7 u7) (gI1 N pr fd f1 f2 a) gJ0 gB00 (14, 0, 0) = .inl (gca E 6, 8, .inr (.inr (.inr (.inr (fun _ => none))))) := by
    show (.inl (gca E 6, 8, .inr (.inr (.inr (.inr (fun j => if Nat.blt j 8 && gB00 (3 + j + 17) then some ((gad1 E tb d lb da sa pa q7 u7) (6, 3 + j, 0)) else none))))) : va_E) = _
    refine congrArg (fun f => (Sum.inl (gca E 6, 8, .inr (.inr (.inr (.inr f)))) : va_E)) (funext fun j => ?_)
    rw [show gB00 (3 + j + 17) = false from rfl, Bool.and_false]
    rfl
  rw [e]
  rfl
theorem gw0_26 : (gW1 E tb d lb da sa pa q7 u7 N pr fd f1 f2 a)[31]? = some ((gad1 E tb d lb da sa pa q7 u7) (15, 0, 0), genc (gca E) (gad1 E tb d lb da sa pa q7 u7) (gI1 N pr fd f1 f2 a) gJ0 gB00 (15, 0, 0)) := by
  have e : genc (gca E) (gad1 E tb d lb da sa pa q7 u7) (gI1 N pr fd f1 f2 a) gJ0 gB00 (15, 0, 0) = .inl (gca E 6, 2, .inr (.inr (.inr (.inr (fun _ => none))))) := by
    show (.inl (gca E 6, 2, .inr (.inr (.inr (.inr (fun j => if Nat.blt j 2 && gB00 (11 + j + 17) then some ((gad1 E tb d lb da sa pa q7 u7) (6, 11 + j, 0)) else none))))) : va_E) = _
    refine congrArg (fun f => (Sum.inl (gca E 6, 2, .inr (.inr (.inr (.inr f)))) : va_E)) (funext fun j => ?_)
    rw [show gB00 (11 + j + 17) = false from rfl, Bool.and_false]
    rfl
  rw [e]
  rfl
theorem gw0_27 : (gW1 E tb d lb da sa pa q7 u7 N pr fd f1 f2 a)[32]? = some ((gad1 E tb d lb da sa pa q7 u7) (16, 0, 0), genc (gca E) (gad1 E tb d lb da sa pa q7 u7) (gI1 N pr fd f1 f2 a) gJ0 gB00 (16, 0, 0)) := rfl
theorem gw0_28 : (gW1 E tb d lb da sa pa q7 u7 N pr fd f1 f2 a)[33]? = some ((gad1 E tb d lb da sa pa q7 u7) (17, 0, 0), genc (gca E) (gad1 E tb d lb da sa pa q7 u7) (gI1 N pr fd f1 f2 a) gJ0 gB00 (17, 0, 0)) := rfl
theorem gw0_29 : (gW1 E tb d lb da sa pa q7 u7 N pr fd f1 f2 a)[34]? = some ((gad1 E tb d lb da sa pa q7 u7) (18, 0, 0), genc (gca E) (gad1 E tb d lb da sa pa q7 u7) (gI1 N pr fd f1 f2 a) gJ0 gB00 (18, 0, 0)) := rfl
theorem gw0_30 : (gW1 E tb d lb da sa pa q7 u7 N pr fd f1 f2 a)[35]? = some ((gad1 E tb d lb da sa pa q7 u7) (19, 0, 0), genc (gca E) (gad1 E tb d lb da sa pa q7 u7) (gI1 N pr fd f1 f2 a) gJ0 gB00 (19, 0, 0)) := rfl
theorem gw0_31 : (gW1 E tb d lb da sa pa q7 u7 N pr fd f1 f2 a)[36]? = some ((gad1 E tb d lb da sa pa q7 u7) (19, 0, 1), genc (gca E) (gad1 E tb d lb da sa pa q7 u7) (gI1 N pr fd f1 f2 a) gJ0 gB00 (19, 0, 1)) := rfl
theorem gw0_32 : (gW1 E tb d lb da sa pa q7 u7 N pr fd f1 f2 a)[37]? = some ((gad1 E tb d lb da sa pa q7 u7) (19, 0, 2), genc (gca E) (gad1 E tb d lb da sa pa q7 u7) (gI1 N pr fd f1 f2 a) gJ0 gB00 (19, 0, 2)) := rfl
theorem gw0_33 : (gW1 E tb d lb da sa pa q7 u7 N pr fd f1 f2 a)[38]? = some ((gad1 E tb d lb da sa pa q7 u7) (19, 0, 3), genc (gca E) (gad1 E tb d lb da sa pa q7 u7) (gI1 N pr fd f1 f2 a) gJ0 gB00 (19, 0, 3)) := rfl
theorem gw0_34 : (gW1 E tb d lb da sa pa q7 u7 N pr fd f1 f2 a)[39]? = some ((gad1 E tb d lb da sa pa q7 u7) (19, 0, 4), genc (gca E) (gad1 E tb d lb da sa pa q7 u7) (gI1 N pr fd f1 f2 a) gJ0 gB00 (19, 0, 4)) := rfl
theorem gw0_35 : (gW1 E tb d lb da sa pa q7 u7 N pr fd f1 f2 a)[40]? = some ((gad1 E tb d lb da sa pa q7 u7) (19, 0, 5), genc (gca E) (gad1 E tb d lb da sa pa q7 u7) (gI1 N pr fd f1 f2 a) gJ0 gB00 (19, 0, 5)) := rfl
theorem gw0_36 : (gW1 E tb d lb da sa pa q7 u7 N pr fd f1 f2 a)[41]? = some ((gad1 E tb d lb da sa pa q7 u7) (19, 0, 6), genc (gca E) (gad1 E tb d lb da sa pa q7 u7) (gI1 N pr fd f1 f2 a) gJ0 gB00 (19, 0, 6)) := rfl
theorem gw0_37 : (gW1 E tb d lb da sa pa q7 u7 N pr fd f1 f2 a)[63]? = some ((gad1 E tb d lb da sa pa q7 u7) (17, 1, 0), genc (gca E) (gad1 E tb d lb da sa pa q7 u7) (gI1 N pr fd f1 f2 a) gJ0 gB00 (17, 1, 0)) := rfl
theorem gw0_38 : (gW1 E tb d lb da sa pa q7 u7 N pr fd f1 f2 a)[64]? = some ((gad1 E tb d lb da sa pa q7 u7) (18, 1, 0), genc (gca E) (gad1 E tb d lb da sa pa q7 u7) (gI1 N pr fd f1 f2 a) gJ0 gB00 (18, 1, 0)) := rfl
theorem gw0_39 : (gW1 E tb d lb da sa pa q7 u7 N pr fd f1 f2 a)[65]? = some ((gad1 E tb d lb da sa pa q7 u7) (19, 1, 0), genc (gca E) (gad1 E tb d lb da sa pa q7 u7) (gI1 N pr fd f1 f2 a) gJ0 gB00 (19, 1, 0)) := rfl
theorem gw0_40 : (gW1 E tb d lb da sa pa q7 u7 N pr fd f1 f2 a)[66]? = some ((gad1 E tb d lb da sa pa q7 u7) (19, 1, 1), genc (gca E) (gad1 E tb d lb da sa pa q7 u7) (gI1 N pr fd f1 f2 a) gJ0 gB00 (19, 1, 1)) := rfl
theorem gw0_41 : (gW1 E tb d lb da sa pa q7 u7 N pr fd f1 f2 a)[67]? = some ((gad1 E tb d lb da sa pa q7 u7) (19, 1, 2), genc (gca E) (gad1 E tb d lb da sa pa q7 u7) (gI1 N pr fd f1 f2 a) gJ0 gB00 (19, 1, 2)) := rfl
theorem gw0_42 : (gW1 E tb d lb da sa pa q7 u7 N pr fd f1 f2 a)[68]? = some ((gad1 E tb d lb da sa pa q7 u7) (19, 1, 3), genc (gca E) (gad1 E tb d lb da sa pa q7 u7) (gI1 N pr fd f1 f2 a) gJ0 gB00 (19, 1, 3)) := rfl
theorem gw0_43 : (gW1 E tb d lb da sa pa q7 u7 N pr fd f1 f2 a)[69]? = some ((gad1 E tb d lb da sa pa q7 u7) (19, 1, 4), genc (gca E) (gad1 E tb d lb da sa pa q7 u7) (gI1 N pr fd f1 f2 a) gJ0 gB00 (19, 1, 4)) := rfl
theorem gw0_44 : (gW1 E tb d lb da sa pa q7 u7 N pr fd f1 f2 a)[70]? = some ((gad1 E tb d lb da sa pa q7 u7) (19, 1, 5), genc (gca E) (gad1 E tb d lb da sa pa q7 u7) (gI1 N pr fd f1 f2 a) gJ0 gB00 (19, 1, 5)) := rfl
theorem gw0_45 : (gW1 E tb d lb da sa pa q7 u7 N pr fd f1 f2 a)[71]? = some ((gad1 E tb d lb da sa pa q7 u7) (19, 1, 6), genc (gca E) (gad1 E tb d lb da sa pa q7 u7) (gI1 N pr fd f1 f2 a) gJ0 gB00 (19, 1, 6)) := rfl
theorem gw0_46 : (gW1 E tb d lb da sa pa q7 u7 N pr fd f1 f2 a)[42]? = some ((gad1 E tb d lb da sa pa q7 u7) (20, 0, 0), genc (gca E) (gad1 E tb d lb da sa pa q7 u7) (gI1 N pr fd f1 f2 a) gJ0 gB00 (20, 0, 0)) := rfl
theorem gw0_47 : (gW1 E tb d lb da sa pa q7 u7 N pr fd f1 f2 a)[43]? = some ((gad1 E tb d lb da sa pa q7 u7) (21, 0, 0), genc (gca E) (gad1 E tb d lb da sa pa q7 u7) (gI1 N pr fd f1 f2 a) gJ0 gB00 (21, 0, 0)) := rfl
theorem gw0_48 : (gW1 E tb d lb da sa pa q7 u7 N pr fd f1 f2 a)[44]? = some ((gad1 E tb d lb da sa pa q7 u7) (22, 0, 0), genc (gca E) (gad1 E tb d lb da sa pa q7 u7) (gI1 N pr fd f1 f2 a) gJ0 gB00 (22, 0, 0)) := rfl
theorem gw0_49 : (gW1 E tb d lb da sa pa q7 u7 N pr fd f1 f2 a)[45]? = some ((gad1 E tb d lb da sa pa q7 u7) (22, 0, 1), genc (gca E) (gad1 E tb d lb da sa pa q7 u7) (gI1 N pr fd f1 f2 a) gJ0 gB00 (22, 0, 1)) := rfl
theorem gw0_50 : (gW1 E tb d lb da sa pa q7 u7 N pr fd f1 f2 a)[46]? = some ((gad1 E tb d lb da sa pa q7 u7) (22, 0, 2), genc (gca E) (gad1 E tb d lb da sa pa q7 u7) (gI1 N pr fd f1 f2 a) gJ0 gB00 (22, 0, 2)) := rfl
theorem gw0_51 : (gW1 E tb d lb da sa pa q7 u7 N pr fd f1 f2 a)[47]? = some ((gad1 E tb d lb da sa pa q7 u7) (22, 0, 3), genc (gca E) (gad1 E tb d lb da sa pa q7 u7) (gI1 N pr fd f1 f2 a) gJ0 gB00 (22, 0, 3)) := rfl
theorem gw0_52 : (gW1 E tb d lb da sa pa q7 u7 N pr fd f1 f2 a)[48]? = some ((gad1 E tb d lb da sa pa q7 u7) (22, 0, 4), genc (gca E) (gad1 E tb d lb da sa pa q7 u7) (gI1 N pr fd f1 f2 a) gJ0 gB00 (22, 0, 4)) := rfl
theorem gw0_53 : (gW1 E tb d lb da sa pa q7 u7 N pr fd f1 f2 a)[49]? = some ((gad1 E tb d lb da sa pa q7 u7) (22, 0, 5), genc (gca E) (gad1 E tb d lb da sa pa q7 u7) (gI1 N pr fd f1 f2 a) gJ0 gB00 (22, 0, 5)) := rfl
theorem gw0_54 : (gW1 E tb d lb da sa pa q7 u7 N pr fd f1 f2 a)[50]? = some ((gad1 E tb d lb da sa pa q7 u7) (22, 0, 6), genc (gca E) (gad1 E tb d lb da sa pa q7 u7) (gI1 N pr fd f1 f2 a) gJ0 gB00 (22, 0, 6)) := rfl
theorem gw0_55 : (gW1 E tb d lb da sa pa q7 u7 N pr fd f1 f2 a)[51]? = some ((gad1 E tb d lb da sa pa q7 u7) (23, 0, 0), genc (gca E) (gad1 E tb d lb da sa pa q7 u7) (gI1 N pr fd f1 f2 a) gJ0 gB00 (23, 0, 0)) := rfl
theorem gw0_56 : (gW1 E tb d lb da sa pa q7 u7 N pr fd f1 f2 a)[52]? = some ((gad1 E tb d lb da sa pa q7 u7) (24, 0, 0), genc (gca E) (gad1 E tb d lb da sa pa q7 u7) (gI1 N pr fd f1 f2 a) gJ0 gB00 (24, 0, 0)) := rfl
theorem gw0_57 : (gW1 E tb d lb da sa pa q7 u7 N pr fd f1 f2 a)[53]? = some ((gad1 E tb d lb da sa pa q7 u7) (24, 0, 1), genc (gca E) (gad1 E tb d lb da sa pa q7 u7) (gI1 N pr fd f1 f2 a) gJ0 gB00 (24, 0, 1)) := rfl
theorem gw0_58 : (gW1 E tb d lb da sa pa q7 u7 N pr fd f1 f2 a)[54]? = some ((gad1 E tb d lb da sa pa q7 u7) (24, 0, 2), genc (gca E) (gad1 E tb d lb da sa pa q7 u7) (gI1 N pr fd f1 f2 a) gJ0 gB00 (24, 0, 2)) := rfl
theorem gw0_59 : (gW1 E tb d lb da sa pa q7 u7 N pr fd f1 f2 a)[55]? = some ((gad1 E tb d lb da sa pa q7 u7) (24, 0, 3), genc (gca E) (gad1 E tb d lb da sa pa q7 u7) (gI1 N pr fd f1 f2 a) gJ0 gB00 (24, 0, 3)) := rfl
theorem gw0_60 : (gW1 E tb d lb da sa pa q7 u7 N pr fd f1 f2 a)[56]? = some ((gad1 E tb d lb da sa pa q7 u7) (24, 0, 4), genc (gca E) (gad1 E tb d lb da sa pa q7 u7) (gI1 N pr fd f1 f2 a) gJ0 gB00 (24, 0, 4)) := rfl
theorem gw0_61 : (gW1 E tb d lb da sa pa q7 u7 N pr fd f1 f2 a)[57]? = some ((gad1 E tb d lb da sa pa q7 u7) (24, 0, 5), genc (gca E) (gad1 E tb d lb da sa pa q7 u7) (gI1 N pr fd f1 f2 a) gJ0 gB00 (24, 0, 5)) := rfl
theorem gw0_62 : (gW1 E tb d lb da sa pa q7 u7 N pr fd f1 f2 a)[58]? = some ((gad1 E tb d lb da sa pa q7 u7) (24, 0, 6), genc (gca E) (gad1 E tb d lb da sa pa q7 u7) (gI1 N pr fd f1 f2 a) gJ0 gB00 (24, 0, 6)) := rfl
theorem gw0_63 : (gW1 E tb d lb da sa pa q7 u7 N pr fd f1 f2 a)[59]? = some ((gad1 E tb d lb da sa pa q7 u7) (25, 0, 0), genc (gca E) (gad1 E tb d lb da sa pa q7 u7) (gI1 N pr fd f1 f2 a) gJ0 gB00 (25, 0, 0)) := rfl
theorem gw0_64 : (gW1 E tb d lb da sa pa q7 u7 N pr fd f1 f2 a)[60]? = some ((gad1 E tb d lb da sa pa q7 u7) (26, 0, 0), genc (gca E) (gad1 E tb d lb da sa pa q7 u7) (gI1 N pr fd f1 f2 a) gJ0 gB00 (26, 0, 0)) := rfl
theorem gw0_65 : (gW1 E tb d lb da sa pa q7 u7 N pr fd f1 f2 a)[61]? = some ((gad1 E tb d lb da sa pa q7 u7) (27, 0, 0), genc (gca E) (gad1 E tb d lb da sa pa q7 u7) (gI1 N pr fd f1 f2 a) gJ0 gB00 (27, 0, 0)) := rfl
theorem gw0_66 : (gW1 E tb d lb da sa pa q7 u7 N pr fd f1 f2 a)[62]? = some ((gad1 E tb d lb da sa pa q7 u7) (28, 0, 0), genc (gca E) (gad1 E tb d lb da sa pa q7 u7) (gI1 N pr fd f1 f2 a) gJ0 gB00 (28, 0, 0)) := rfl
theorem gw0_67 : (gW1 E tb d lb da sa pa q7 u7 N pr fd f1 f2 a)[72]? = some ((gad1 E tb d lb da sa pa q7 u7) (29, 0, 0), genc (gca E) (gad1 E tb d lb da sa pa q7 u7) (gI1 N pr fd f1 f2 a) gJ0 gB00 (29, 0, 0)) := rfl
theorem gw0_68 : (gW1 E tb d lb da sa pa q7 u7 N pr fd f1 f2 a)[73]? = some ((gad1 E tb d lb da sa pa q7 u7) (30, 0, 0), genc (gca E) (gad1 E tb d lb da sa pa q7 u7) (gI1 N pr fd f1 f2 a) gJ0 gB00 (30, 0, 0)) := rfl
theorem gw0_69 : (gW1 E tb d lb da sa pa q7 u7 N pr fd f1 f2 a)[0]? = some ((gad1 E tb d lb da sa pa q7 u7) (48, 0, 0), genc (gca E) (gad1 E tb d lb da sa pa q7 u7) (gI1 N pr fd f1 f2 a) gJ0 gB00 (48, 0, 0)) := rfl
theorem gw0_70 : (gW1 E tb d lb da sa pa q7 u7 N pr fd f1 f2 a)[1]? = some ((gad1 E tb d lb da sa pa q7 u7) (49, 0, 0), genc (gca E) (gad1 E tb d lb da sa pa q7 u7) (gI1 N pr fd f1 f2 a) gJ0 gB00 (49, 0, 0)) := rfl
theorem gw0_71 : (gW1 E tb d lb da sa pa q7 u7 N pr fd f1 f2 a)[2]? = some ((gad1 E tb d lb da sa pa q7 u7) (50, 0, 0), genc (gca E) (gad1 E tb d lb da sa pa q7 u7) (gI1 N pr fd f1 f2 a) gJ0 gB00 (50, 0, 0)) := rfl
theorem gw0_72 : (gW1 E tb d lb da sa pa q7 u7 N pr fd f1 f2 a)[3]? = some ((gad1 E tb d lb da sa pa q7 u7) (51, 0, 0), genc (gca E) (gad1 E tb d lb da sa pa q7 u7) (gI1 N pr fd f1 f2 a) gJ0 gB00 (51, 0, 0)) := rfl
theorem gw0_73 : (gW1 E tb d lb da sa pa q7 u7 N pr fd f1 f2 a)[4]? = some ((gad1 E tb d lb da sa pa q7 u7) (52, 0, 0), genc (gca E) (gad1 E tb d lb da sa pa q7 u7) (gI1 N pr fd f1 f2 a) gJ0 gB00 (52, 0, 0)) := rfl
theorem gw0_all : ∀ i, i < 74 → ∀ r, gperm[i]? = some r → (gW1 E tb d lb da sa pa q7 u7 N pr fd f1 f2 a)[gix0.getD i 0]? = some ((gad1 E tb d lb da sa pa q7 u7) r, genc (gca E) (gad1 E tb d lb da sa pa q7 u7) (gI1 N pr fd f1 f2 a) gJ0 gB00 r) := by
  intro i hi r hr
  have h : ∀ j, gperm[j]? = some r → j = i → (gW1 E tb d lb da sa pa q7 u7 N pr fd f1 f2 a)[gix0.getD j 0]? = some ((gad1 E tb d lb da sa pa q7 u7) r, genc (gca E) (gad1 E tb d lb da sa pa q7 u7) (gI1 N pr fd f1 f2 a) gJ0 gB00 r) := by
    intro j hj e
    match j, hj with
    | 0, hj => cases hj; exact gw0_0
    | 1, hj => cases hj; exact gw0_1
    | 2, hj => cases hj; exact gw0_2
    | 3, hj => cases hj; exact gw0_3
    | 4, hj => cases hj; exact gw0_4
    | 5, hj => cases hj; exact gw0_5
    | 6, hj => cases hj; exact gw0_6
    | 7, hj => cases hj; exact gw0_7
    | 8, hj => cases hj; exact gw0_8
    | 9, hj => cases hj; exact gw0_9
    | 10, hj => cases hj; exact gw0_10
    | 11, hj => cases hj; exact gw0_11
    | 12, hj => cases hj; exact gw0_12
    | 13, hj => cases hj; exact gw0_13
    | 14, hj => cases hj; exact gw0_14
    | 15, hj => cases hj; exact gw0_15
    | 16, hj => cases hj; exact gw0_16
    | 17, hj => cases hj; exact gw0_17
    | 18, hj => cases hj; exact gw0_18
    | 19, hj => cases hj; exact gw0_19
    | 20, hj => cases hj; exact gw0_20
    | 21, hj => cases hj; exact gw0_21
    | 22, hj => cases hj; exact gw0_22
    | 23, hj => cases hj; exact gw0_23
    | 24, hj => cases hj; exact gw0_24
    | 25, hj => cases hj; exact gw0_25
    | 26, hj => cases hj; exact gw0_26
    | 27, hj => cases hj; exact gw0_27
    | 28, hj => cases hj; exact gw0_28
    | 29, hj => cases hj; exact gw0_29
    | 30, hj => cases hj; exact gw0_30
    | 31, hj => cases hj; exact gw0_31
    | 32, hj => cases hj; exact gw0_32
    | 33, hj => cases hj; exact gw0_33
    | 34, hj => cases hj; exact gw0_34
    | 35, hj => cases hj; exact gw0_35
    | 36, hj => cases hj; exact gw0_36
    | 37, hj => cases hj; exact gw0_37
    | 38, hj => cases hj; exact gw0_38
    | 39, hj => cases hj; exact gw0_39
    | 40, hj => cases hj; exact gw0_40
    | 41, hj => cases hj; exact gw0_41
    | 42, hj => cases hj; exact gw0_42
    | 43, hj => cases hj; exact gw0_43
    | 44, hj => cases hj; exact gw0_44
    | 45, hj => cases hj; exact gw0_45
    | 46, hj => cases hj; exact gw0_46
    | 47, hj => cases hj; exact gw0_47
    | 48, hj => cases hj; exact gw0_48
    | 49, hj => cases hj; exact gw0_49
    | 50, hj => cases hj; exact gw0_50
    | 51, hj => cases hj; exact gw0_51
    | 52, hj => cases hj; exact gw0_52
    | 53, hj => cases hj; exact gw0_53
    | 54, hj => cases hj; exact gw0_54
    | 55, hj => cases hj; exact gw0_55
    | 56, hj => cases hj; exact gw0_56
    | 57, hj => cases hj; exact gw0_57
    | 58, hj => cases hj; exact gw0_58
    | 59, hj => cases hj; exact gw0_59
    | 60, hj => cases hj; exact gw0_60
    | 61, hj => cases hj; exact gw0_61
    | 62, hj => cases hj; exact gw0_62
    | 63, hj => cases hj; exact gw0_63
    | 64, hj => cases hj; exact gw0_64
    | 65, hj => cases hj; exact gw0_65
    | 66, hj => cases hj; exact gw0_66
    | 67, hj => cases hj; exact gw0_67
    | 68, hj => cases hj; exact gw0_68
    | 69, hj => cases hj; exact gw0_69
    | 70, hj => cases hj; exact gw0_70
    | 71, hj => cases hj; exact gw0_71
    | 72, hj => cases hj; exact gw0_72
    | 73, hj => cases hj; exact gw0_73
    | k + 74, hj => omega
  exact h i hr rfl
theorem gix0_inj : ∀ i, i < 74 → ∀ j, j < 74 → gix0.getD i 0 = gix0.getD j 0 → i = j := by
  intro i hi j hj e
  have key : (List.range 74).all (fun i => (List.range 74).all (fun j => !(Nat.beq (gix0.getD i 0) (gix0.getD j 0)) || Nat.beq i j)) = true := by decide +kernel
  have k1 := List.all_eq_true.mp (List.all_eq_true.mp key i (List.mem_range.mpr hi)) j (List.mem_range.mpr hj)
  rw [e, Nat.beq_refl] at k1
  exact Nat.eq_of_beq_eq_true k1
theorem gad1_le : ∀ r : gR, r.1 ≤ 2 → (gad1 E tb d lb da sa pa q7 u7) r = gax1 E tb r := by
  rintro ⟨k, n, j⟩ h
  have h : k ≤ 2 := h
  rcases (show k = 0 ∨ k = 1 ∨ k = 2 by omega) with rfl | rfl | rfl <;> rfl
theorem gRep1 {H : Heap} (hex : gEx E = []) (hP : va_P (gD E) vwCl (gW1 E tb d lb da sa pa q7 u7 N pr fd f1 f2 a) H) (hD : va_D (gA E) (gW1 E tb d lb da sa pa q7 u7 N pr fd f1 f2 a)) (hne : ∀ (k : Nat) (q : Nat × va_E), (gW1 E tb d lb da sa pa q7 u7 N pr fd f1 f2 a)[k]? = some q → q.1 ≠ tb ∧ q.1 ≠ ba) : gRep (gEm E (gax1 E tb) (gTx E) [tb, ba]) (gad1 E tb d lb da sa pa q7 u7) (gI1 N pr fd f1 f2 a) gJ0 gB00 H := by
  have get : ∀ (i : Nat) (z : Nat × va_E), (gws (gEm E (gax1 E tb) (gTx E) [tb, ba]) (gad1 E tb d lb da sa pa q7 u7) (gI1 N pr fd f1 f2 a) gJ0 gB00)[i]? = some z → i < 74 ∧ (gW1 E tb d lb da sa pa q7 u7 N pr fd f1 f2 a)[gix0.getD i 0]? = some z := by
    intro i z hz
    unfold gws at hz
    rw [gids0, List.getElem?_map] at hz
    cases hr : gperm[i]? with
    | none => rw [hr] at hz; cases hz
    | some r =>
      rw [hr] at hz
      cases hz
      have hi : i < 74 := by rw [← gperm_len]; exact (List.getElem?_eq_some_iff.mp hr).1
      exact ⟨hi, gw0_all i hi r hr⟩
  refine ⟨fun k z hz => hP _ z (get k z hz).2, ⟨fun i j p z hi hj e => ?_, fun k z hz => ⟨(hD.2 _ z (get k z hz).2).1, fun hm => ?_⟩⟩, gad1_le, fun n _ _ h => by cases h⟩
  · obtain ⟨h1, h2⟩ := get i p hi
    obtain ⟨h3, h4⟩ := get j z hj
    exact gix0_inj i h1 j h3 (hD.1 _ _ p z h2 h4 e)
  · have hm : z.1 ∈ [tb, ba] := hm
    obtain ⟨g1, g2⟩ := hne _ z (get k z hz).2
    simp only [List.mem_cons, List.not_mem_nil, or_false] at hm
    rcases hm with h | h
    · exact g1 h
    · exact g2 h
theorem hLab0 : hLab (gI1 N pr fd f1 f2 a) N pr fd f1 f2 a := ⟨rfl, rfl, fun _ _ => rfl, fun _ _ => rfl, fun _ _ => rfl, rfl, rfl, rfl⟩
theorem hSys0 : Sys none (gI1 N pr fd f1 f2 a) gJ0 := ⟨rfl, rfl, rfl⟩
theorem hB0 : Bk gB00 := fun _ _ _ => rfl
end FRESH
