/-! ===== the fresh world (by wip/whole/p98f.py) ===== -/
def gI0 : gI := fun k _ _ j => if k = 31 ∧ j = 9 then -1 else 0
def gJ0 : gJ := fun k _ j => if k = 6 ∧ j = 6 then 1 else 0
def gB00 : gB := fun _ => false
def gad0 (E : gEn) (q7 : Nat) (u7 : (Nat → Nat) × (Nat → Nat → Nat)) (q8 : Nat) (u8 : Nat → Nat) (x y : Nat) : gR → Nat := fun r => ([fun n j => gax E (0, n, j), fun n j => gax E (1, n, j), fun n j => gax E (2, n, j), fun n j => q7, fun n j => (u7.1 0), fun n j => (u7.2 0 0), fun n j => if n = 0 then (u7.1 1) else if n = 1 then (u7.1 2) else (u7.2 0 1), fun n j => if n = 0 then (u7.2 1 0) else if n = 1 then (u7.2 2 0) else (u7.2 0 2), fun n j => if n = 0 then (u7.2 1 1) else if n = 1 then (u7.2 2 1) else (u7.2 0 3), fun n j => if n = 0 then (u7.2 1 2) else if n = 1 then (u7.2 2 2) else (u7.2 0 4), fun n j => if n = 0 then (u7.2 1 3) else if n = 1 then (u7.2 2 3) else (u7.2 0 5), fun n j => if n = 0 then (u7.2 1 4) else if n = 1 then (u7.2 2 4) else (u7.2 0 6), fun n j => if n = 0 then (u7.2 1 5) else if n = 1 then (u7.2 2 5) else (u7.2 0 7), fun n j => (u7.1 3), fun n j => (u7.2 3 0), fun n j => (u7.1 4), fun n j => (u7.1 5), fun n j => if n = 0 then (u7.1 6) else (u7.2 7 0), fun n j => if n = 0 then (u7.2 4 0) else (u7.2 7 2), fun n j => if n = 0 then (u7.2 4 0) + 1 + j else (u7.2 7 2) + 1 + j, fun n j => (u7.1 7), fun n j => (u7.2 5 0), fun n j => (u7.2 5 0) + 1 + j, fun n j => (u7.2 5 1), fun n j => (u7.2 5 1) + 1 + j, fun n j => (u7.1 8), fun n j => (u7.2 6 0), fun n j => (u7.2 6 1), fun n j => (u7.1 9), fun n j => (u7.2 7 1), fun n j => (u7.1 10), fun n j => q8, fun n j => (u8 0), fun n j => (u8 1), fun n j => (u8 2), fun n j => (u8 3), fun n j => (u8 4), fun n j => (u8 5), fun n j => (u8 6), fun n j => (u8 7), fun n j => (u8 8), fun n j => (u8 9), fun n j => (u8 10), fun n j => (u8 11), fun n j => (u8 12), fun n j => (u8 13), fun n j => x, fun n j => y] : List (Nat → Nat → Nat)).getD r.1 (fun _ _ => 0) r.2.1 r.2.2
def gW0 (E : gEn) (q7 : Nat) (u7 : (Nat → Nat) × (Nat → Nat → Nat)) (q8 : Nat) (u8 : Nat → Nat) (x y : Nat) : va_W := gzw_7 E q7 u7 ++ (gzw_8 E q8 u8 ++ ([(x, .inl (gca E 1, 1, .inr (.inl (fun _ => 0))))] ++ [(y, .inl (gca E 4, 1, .inr (.inr (.inr (.inl (fun _ => 0))))))]))
def gix0 : List Nat := [0, 1, 2, 10, 11, 12, 13, 14, 15, 16, 17, 18, 19, 20, 21, 22, 23, 3, 4, 5, 6, 7, 8, 9, 24, 25, 26, 27, 28, 29, 30, 31, 32, 33, 34, 35, 36, 58, 59, 60, 61, 62, 63, 64, 65, 66, 37, 38, 39, 40, 41, 42, 43, 44, 45, 46, 47, 48, 49, 50, 51, 52, 53, 54, 55, 56, 57, 67, 68, 69, 70, 71, 72, 73, 74, 75, 76, 77, 78, 79, 80, 81, 82, 83, 84, 85]
theorem gids0 : gids gB00 = gperm := by decide +kernel
theorem gperm_len : gperm.length = 86 := by decide +kernel
section FRESH
variable {E : gEn} {q7 q8 x y : Nat} {u7 : (Nat → Nat) × (Nat → Nat → Nat)} {u8 : Nat → Nat}
theorem gw0_0 : (gW0 E q7 u7 q8 u8 x y)[0]? = some (gad0 E q7 u7 q8 u8 x y (3, 0, 0), genc (gca E) (gad0 E q7 u7 q8 u8 x y) gI0 gJ0 gB00 (3, 0, 0)) := rfl
theorem gw0_1 : (gW0 E q7 u7 q8 u8 x y)[1]? = some (gad0 E q7 u7 q8 u8 x y (4, 0, 0), genc (gca E) (gad0 E q7 u7 q8 u8 x y) gI0 gJ0 gB00 (4, 0, 0)) := rfl
theorem gw0_2 : (gW0 E q7 u7 q8 u8 x y)[2]? = some (gad0 E q7 u7 q8 u8 x y (5, 0, 0), genc (gca E) (gad0 E q7 u7 q8 u8 x y) gI0 gJ0 gB00 (5, 0, 0)) := rfl
theorem gw0_3 : (gW0 E q7 u7 q8 u8 x y)[10]? = some (gad0 E q7 u7 q8 u8 x y (6, 0, 0), genc (gca E) (gad0 E q7 u7 q8 u8 x y) gI0 gJ0 gB00 (6, 0, 0)) := rfl
theorem gw0_4 : (gW0 E q7 u7 q8 u8 x y)[11]? = some (gad0 E q7 u7 q8 u8 x y (7, 0, 0), genc (gca E) (gad0 E q7 u7 q8 u8 x y) gI0 gJ0 gB00 (7, 0, 0)) := rfl
theorem gw0_5 : (gW0 E q7 u7 q8 u8 x y)[12]? = some (gad0 E q7 u7 q8 u8 x y (8, 0, 0), genc (gca E) (gad0 E q7 u7 q8 u8 x y) gI0 gJ0 gB00 (8, 0, 0)) := rfl
theorem gw0_6 : (gW0 E q7 u7 q8 u8 x y)[13]? = some (gad0 E q7 u7 q8 u8 x y (9, 0, 0), genc (gca E) (gad0 E q7 u7 q8 u8 x y) gI0 gJ0 gB00 (9, 0, 0)) := rfl
theorem gw0_7 : (gW0 E q7 u7 q8 u8 x y)[14]? = some (gad0 E q7 u7 q8 u8 x y (10, 0, 0), genc (gca E) (gad0 E q7 u7 q8 u8 x y) gI0 gJ0 gB00 (10, 0, 0)) := rfl
theorem gw0_8 : (gW0 E q7 u7 q8 u8 x y)[15]? = some (gad0 E q7 u7 q8 u8 x y (11, 0, 0), genc (gca E) (gad0 E q7 u7 q8 u8 x y) gI0 gJ0 gB00 (11, 0, 0)) := rfl
theorem gw0_9 : (gW0 E q7 u7 q8 u8 x y)[16]? = some (gad0 E q7 u7 q8 u8 x y (12, 0, 0), genc (gca E) (gad0 E q7 u7 q8 u8 x y) gI0 gJ0 gB00 (12, 0, 0)) := rfl
theorem gw0_10 : (gW0 E q7 u7 q8 u8 x y)[17]? = some (gad0 E q7 u7 q8 u8 x y (6, 1, 0), genc (gca E) (gad0 E q7 u7 q8 u8 x y) gI0 gJ0 gB00 (6, 1, 0)) := rfl
theorem gw0_11 : (gW0 E q7 u7 q8 u8 x y)[18]? = some (gad0 E q7 u7 q8 u8 x y (7, 1, 0), genc (gca E) (gad0 E q7 u7 q8 u8 x y) gI0 gJ0 gB00 (7, 1, 0)) := rfl
theorem gw0_12 : (gW0 E q7 u7 q8 u8 x y)[19]? = some (gad0 E q7 u7 q8 u8 x y (8, 1, 0), genc (gca E) (gad0 E q7 u7 q8 u8 x y) gI0 gJ0 gB00 (8, 1, 0)) := rfl
theorem gw0_13 : (gW0 E q7 u7 q8 u8 x y)[20]? = some (gad0 E q7 u7 q8 u8 x y (9, 1, 0), genc (gca E) (gad0 E q7 u7 q8 u8 x y) gI0 gJ0 gB00 (9, 1, 0)) := rfl
theorem gw0_14 : (gW0 E q7 u7 q8 u8 x y)[21]? = some (gad0 E q7 u7 q8 u8 x y (10, 1, 0), genc (gca E) (gad0 E q7 u7 q8 u8 x y) gI0 gJ0 gB00 (10, 1, 0)) := rfl
theorem gw0_15 : (gW0 E q7 u7 q8 u8 x y)[22]? = some (gad0 E q7 u7 q8 u8 x y (11, 1, 0), genc (gca E) (gad0 E q7 u7 q8 u8 x y) gI0 gJ0 gB00 (11, 1, 0)) := rfl
theorem gw0_16 : (gW0 E q7 u7 q8 u8 x y)[23]? = some (gad0 E q7 u7 q8 u8 x y (12, 1, 0), genc (gca E) (gad0 E q7 u7 q8 u8 x y) gI0 gJ0 gB00 (12, 1, 0)) := rfl
theorem gw0_17 : (gW0 E q7 u7 q8 u8 x y)[3]? = some (gad0 E q7 u7 q8 u8 x y (6, 2, 0), genc (gca E) (gad0 E q7 u7 q8 u8 x y) gI0 gJ0 gB00 (6, 2, 0)) := rfl
theorem gw0_18 : (gW0 E q7 u7 q8 u8 x y)[4]? = some (gad0 E q7 u7 q8 u8 x y (7, 2, 0), genc (gca E) (gad0 E q7 u7 q8 u8 x y) gI0 gJ0 gB00 (7, 2, 0)) := rfl
theorem gw0_19 : (gW0 E q7 u7 q8 u8 x y)[5]? = some (gad0 E q7 u7 q8 u8 x y (8, 2, 0), genc (gca E) (gad0 E q7 u7 q8 u8 x y) gI0 gJ0 gB00 (8, 2, 0)) := rfl
theorem gw0_20 : (gW0 E q7 u7 q8 u8 x y)[6]? = some (gad0 E q7 u7 q8 u8 x y (9, 2, 0), genc (gca E) (gad0 E q7 u7 q8 u8 x y) gI0 gJ0 gB00 (9, 2, 0)) := rfl
theorem gw0_21 : (gW0 E q7 u7 q8 u8 x y)[7]? = some (gad0 E q7 u7 q8 u8 x y (10, 2, 0), genc (gca E) (gad0 E q7 u7 q8 u8 x y) gI0 gJ0 gB00 (10, 2, 0)) := rfl
theorem gw0_22 : (gW0 E q7 u7 q8 u8 x y)[8]? = some (gad0 E q7 u7 q8 u8 x y (11, 2, 0), genc (gca E) (gad0 E q7 u7 q8 u8 x y) gI0 gJ0 gB00 (11, 2, 0)) := rfl
theorem gw0_23 : (gW0 E q7 u7 q8 u8 x y)[9]? = some (gad0 E q7 u7 q8 u8 x y (12, 2, 0), genc (gca E) (gad0 E q7 u7 q8 u8 x y) gI0 gJ0 gB00 (12, 2, 0)) := rfl
theorem gw0_24 : (gW0 E q7 u7 q8 u8 x y)[24]? = some (gad0 E q7 u7 q8 u8 x y (13, 0, 0), genc (gca E) (gad0 E q7 u7 q8 u8 x y) gI0 gJ0 gB00 (13, 0, 0)) := rfl
theorem gw0_25 : (gW0 E q7 u7 q8 u8 x y)[25]? = some (gad0 E q7 u7 q8 u8 x y (14, 0, 0), genc (gca E) (gad0 E q7 u7 q8 u8 x y) gI0 gJ0 gB00 (14, 0, 0)) := by
  have e : genc (gca E) (gad0 E q7 u7 q8 u8 x y) gI0 gJ0 gB00 (14, 0, 0) = .inl (gca E 6, 8, .inr (.inr (.inr (.inr (fun _ => none))))) := by
    show (.inl (gca E 6, 8, .inr (.inr (.inr (.inr (fun j => if Nat.blt j 8 && gB00 (3 + j + 17) then some (gad0 E q7 u7 q8 u8 x y (6, 3 + j, 0)) else none))))) : va_E) = _
    refine congrArg (fun f => (Sum.inl (gca E 6, 8, .inr (.inr (.inr (.inr f)))) : va_E)) (funext fun j => ?_)
    rw [show gB00 (3 + j + 17) = false from rfl, Bool.and_false]
    rfl
  rw [e]
  rfl
theorem gw0_26 : (gW0 E q7 u7 q8 u8 x y)[26]? = some (gad0 E q7 u7 q8 u8 x y (15, 0, 0), genc (gca E) (gad0 E q7 u7 q8 u8 x y) gI0 gJ0 gB00 (15, 0, 0)) := by
  have e : genc (gca E) (gad0 E q7 u7 q8 u8 x y) gI0 gJ0 gB00 (15, 0, 0) = .inl (gca E 6, 2, .inr (.inr (.inr (.inr (fun _ => none))))) := by
    show (.inl (gca E 6, 2, .inr (.inr (.inr (.inr (fun j => if Nat.blt j 2 && gB00 (11 + j + 17) then some (gad0 E q7 u7 q8 u8 x y (6, 11 + j, 0)) else none))))) : va_E) = _
    refine congrArg (fun f => (Sum.inl (gca E 6, 2, .inr (.inr (.inr (.inr f)))) : va_E)) (funext fun j => ?_)
    rw [show gB00 (11 + j + 17) = false from rfl, Bool.and_false]
    rfl
  rw [e]
  rfl
theorem gw0_27 : (gW0 E q7 u7 q8 u8 x y)[27]? = some (gad0 E q7 u7 q8 u8 x y (16, 0, 0), genc (gca E) (gad0 E q7 u7 q8 u8 x y) gI0 gJ0 gB00 (16, 0, 0)) := rfl
theorem gw0_28 : (gW0 E q7 u7 q8 u8 x y)[28]? = some (gad0 E q7 u7 q8 u8 x y (17, 0, 0), genc (gca E) (gad0 E q7 u7 q8 u8 x y) gI0 gJ0 gB00 (17, 0, 0)) := rfl
theorem gw0_29 : (gW0 E q7 u7 q8 u8 x y)[29]? = some (gad0 E q7 u7 q8 u8 x y (18, 0, 0), genc (gca E) (gad0 E q7 u7 q8 u8 x y) gI0 gJ0 gB00 (18, 0, 0)) := rfl
theorem gw0_30 : (gW0 E q7 u7 q8 u8 x y)[30]? = some (gad0 E q7 u7 q8 u8 x y (19, 0, 0), genc (gca E) (gad0 E q7 u7 q8 u8 x y) gI0 gJ0 gB00 (19, 0, 0)) := rfl
theorem gw0_31 : (gW0 E q7 u7 q8 u8 x y)[31]? = some (gad0 E q7 u7 q8 u8 x y (19, 0, 1), genc (gca E) (gad0 E q7 u7 q8 u8 x y) gI0 gJ0 gB00 (19, 0, 1)) := rfl
theorem gw0_32 : (gW0 E q7 u7 q8 u8 x y)[32]? = some (gad0 E q7 u7 q8 u8 x y (19, 0, 2), genc (gca E) (gad0 E q7 u7 q8 u8 x y) gI0 gJ0 gB00 (19, 0, 2)) := rfl
theorem gw0_33 : (gW0 E q7 u7 q8 u8 x y)[33]? = some (gad0 E q7 u7 q8 u8 x y (19, 0, 3), genc (gca E) (gad0 E q7 u7 q8 u8 x y) gI0 gJ0 gB00 (19, 0, 3)) := rfl
theorem gw0_34 : (gW0 E q7 u7 q8 u8 x y)[34]? = some (gad0 E q7 u7 q8 u8 x y (19, 0, 4), genc (gca E) (gad0 E q7 u7 q8 u8 x y) gI0 gJ0 gB00 (19, 0, 4)) := rfl
theorem gw0_35 : (gW0 E q7 u7 q8 u8 x y)[35]? = some (gad0 E q7 u7 q8 u8 x y (19, 0, 5), genc (gca E) (gad0 E q7 u7 q8 u8 x y) gI0 gJ0 gB00 (19, 0, 5)) := rfl
theorem gw0_36 : (gW0 E q7 u7 q8 u8 x y)[36]? = some (gad0 E q7 u7 q8 u8 x y (19, 0, 6), genc (gca E) (gad0 E q7 u7 q8 u8 x y) gI0 gJ0 gB00 (19, 0, 6)) := rfl
theorem gw0_37 : (gW0 E q7 u7 q8 u8 x y)[58]? = some (gad0 E q7 u7 q8 u8 x y (17, 1, 0), genc (gca E) (gad0 E q7 u7 q8 u8 x y) gI0 gJ0 gB00 (17, 1, 0)) := rfl
theorem gw0_38 : (gW0 E q7 u7 q8 u8 x y)[59]? = some (gad0 E q7 u7 q8 u8 x y (18, 1, 0), genc (gca E) (gad0 E q7 u7 q8 u8 x y) gI0 gJ0 gB00 (18, 1, 0)) := rfl
theorem gw0_39 : (gW0 E q7 u7 q8 u8 x y)[60]? = some (gad0 E q7 u7 q8 u8 x y (19, 1, 0), genc (gca E) (gad0 E q7 u7 q8 u8 x y) gI0 gJ0 gB00 (19, 1, 0)) := rfl
theorem gw0_40 : (gW0 E q7 u7 q8 u8 x y)[61]? = some (gad0 E q7 u7 q8 u8 x y (19, 1, 1), genc (gca E) (gad0 E q7 u7 q8 u8 x y) gI0 gJ0 gB00 (19, 1, 1)) := rfl
theorem gw0_41 : (gW0 E q7 u7 q8 u8 x y)[62]? = some (gad0 E q7 u7 q8 u8 x y (19, 1, 2), genc (gca E) (gad0 E q7 u7 q8 u8 x y) gI0 gJ0 gB00 (19, 1, 2)) := rfl
theorem gw0_42 : (gW0 E q7 u7 q8 u8 x y)[63]? = some (gad0 E q7 u7 q8 u8 x y (19, 1, 3), genc (gca E) (gad0 E q7 u7 q8 u8 x y) gI0 gJ0 gB00 (19, 1, 3)) := rfl
theorem gw0_43 : (gW0 E q7 u7 q8 u8 x y)[64]? = some (gad0 E q7 u7 q8 u8 x y (19, 1, 4), genc (gca E) (gad0 E q7 u7 q8 u8 x y) gI0 gJ0 gB00 (19, 1, 4)) := rfl
theorem gw0_44 : (gW0 E q7 u7 q8 u8 x y)[65]? = some (gad0 E q7 u7 q8 u8 x y (19, 1, 5), genc (gca E) (gad0 E q7 u7 q8 u8 x y) gI0 gJ0 gB00 (19, 1, 5)) := rfl
theorem gw0_45 : (gW0 E q7 u7 q8 u8 x y)[66]? = some (gad0 E q7 u7 q8 u8 x y (19, 1, 6), genc (gca E) (gad0 E q7 u7 q8 u8 x y) gI0 gJ0 gB00 (19, 1, 6)) := rfl
theorem gw0_46 : (gW0 E q7 u7 q8 u8 x y)[37]? = some (gad0 E q7 u7 q8 u8 x y (20, 0, 0), genc (gca E) (gad0 E q7 u7 q8 u8 x y) gI0 gJ0 gB00 (20, 0, 0)) := rfl
theorem gw0_47 : (gW0 E q7 u7 q8 u8 x y)[38]? = some (gad0 E q7 u7 q8 u8 x y (21, 0, 0), genc (gca E) (gad0 E q7 u7 q8 u8 x y) gI0 gJ0 gB00 (21, 0, 0)) := rfl
theorem gw0_48 : (gW0 E q7 u7 q8 u8 x y)[39]? = some (gad0 E q7 u7 q8 u8 x y (22, 0, 0), genc (gca E) (gad0 E q7 u7 q8 u8 x y) gI0 gJ0 gB00 (22, 0, 0)) := rfl
theorem gw0_49 : (gW0 E q7 u7 q8 u8 x y)[40]? = some (gad0 E q7 u7 q8 u8 x y (22, 0, 1), genc (gca E) (gad0 E q7 u7 q8 u8 x y) gI0 gJ0 gB00 (22, 0, 1)) := rfl
theorem gw0_50 : (gW0 E q7 u7 q8 u8 x y)[41]? = some (gad0 E q7 u7 q8 u8 x y (22, 0, 2), genc (gca E) (gad0 E q7 u7 q8 u8 x y) gI0 gJ0 gB00 (22, 0, 2)) := rfl
theorem gw0_51 : (gW0 E q7 u7 q8 u8 x y)[42]? = some (gad0 E q7 u7 q8 u8 x y (22, 0, 3), genc (gca E) (gad0 E q7 u7 q8 u8 x y) gI0 gJ0 gB00 (22, 0, 3)) := rfl
theorem gw0_52 : (gW0 E q7 u7 q8 u8 x y)[43]? = some (gad0 E q7 u7 q8 u8 x y (22, 0, 4), genc (gca E) (gad0 E q7 u7 q8 u8 x y) gI0 gJ0 gB00 (22, 0, 4)) := rfl
theorem gw0_53 : (gW0 E q7 u7 q8 u8 x y)[44]? = some (gad0 E q7 u7 q8 u8 x y (22, 0, 5), genc (gca E) (gad0 E q7 u7 q8 u8 x y) gI0 gJ0 gB00 (22, 0, 5)) := rfl
theorem gw0_54 : (gW0 E q7 u7 q8 u8 x y)[45]? = some (gad0 E q7 u7 q8 u8 x y (22, 0, 6), genc (gca E) (gad0 E q7 u7 q8 u8 x y) gI0 gJ0 gB00 (22, 0, 6)) := rfl
theorem gw0_55 : (gW0 E q7 u7 q8 u8 x y)[46]? = some (gad0 E q7 u7 q8 u8 x y (23, 0, 0), genc (gca E) (gad0 E q7 u7 q8 u8 x y) gI0 gJ0 gB00 (23, 0, 0)) := rfl
theorem gw0_56 : (gW0 E q7 u7 q8 u8 x y)[47]? = some (gad0 E q7 u7 q8 u8 x y (24, 0, 0), genc (gca E) (gad0 E q7 u7 q8 u8 x y) gI0 gJ0 gB00 (24, 0, 0)) := rfl
theorem gw0_57 : (gW0 E q7 u7 q8 u8 x y)[48]? = some (gad0 E q7 u7 q8 u8 x y (24, 0, 1), genc (gca E) (gad0 E q7 u7 q8 u8 x y) gI0 gJ0 gB00 (24, 0, 1)) := rfl
theorem gw0_58 : (gW0 E q7 u7 q8 u8 x y)[49]? = some (gad0 E q7 u7 q8 u8 x y (24, 0, 2), genc (gca E) (gad0 E q7 u7 q8 u8 x y) gI0 gJ0 gB00 (24, 0, 2)) := rfl
theorem gw0_59 : (gW0 E q7 u7 q8 u8 x y)[50]? = some (gad0 E q7 u7 q8 u8 x y (24, 0, 3), genc (gca E) (gad0 E q7 u7 q8 u8 x y) gI0 gJ0 gB00 (24, 0, 3)) := rfl
theorem gw0_60 : (gW0 E q7 u7 q8 u8 x y)[51]? = some (gad0 E q7 u7 q8 u8 x y (24, 0, 4), genc (gca E) (gad0 E q7 u7 q8 u8 x y) gI0 gJ0 gB00 (24, 0, 4)) := rfl
theorem gw0_61 : (gW0 E q7 u7 q8 u8 x y)[52]? = some (gad0 E q7 u7 q8 u8 x y (24, 0, 5), genc (gca E) (gad0 E q7 u7 q8 u8 x y) gI0 gJ0 gB00 (24, 0, 5)) := rfl
theorem gw0_62 : (gW0 E q7 u7 q8 u8 x y)[53]? = some (gad0 E q7 u7 q8 u8 x y (24, 0, 6), genc (gca E) (gad0 E q7 u7 q8 u8 x y) gI0 gJ0 gB00 (24, 0, 6)) := rfl
theorem gw0_63 : (gW0 E q7 u7 q8 u8 x y)[54]? = some (gad0 E q7 u7 q8 u8 x y (25, 0, 0), genc (gca E) (gad0 E q7 u7 q8 u8 x y) gI0 gJ0 gB00 (25, 0, 0)) := rfl
theorem gw0_64 : (gW0 E q7 u7 q8 u8 x y)[55]? = some (gad0 E q7 u7 q8 u8 x y (26, 0, 0), genc (gca E) (gad0 E q7 u7 q8 u8 x y) gI0 gJ0 gB00 (26, 0, 0)) := rfl
theorem gw0_65 : (gW0 E q7 u7 q8 u8 x y)[56]? = some (gad0 E q7 u7 q8 u8 x y (27, 0, 0), genc (gca E) (gad0 E q7 u7 q8 u8 x y) gI0 gJ0 gB00 (27, 0, 0)) := rfl
theorem gw0_66 : (gW0 E q7 u7 q8 u8 x y)[57]? = some (gad0 E q7 u7 q8 u8 x y (28, 0, 0), genc (gca E) (gad0 E q7 u7 q8 u8 x y) gI0 gJ0 gB00 (28, 0, 0)) := rfl
theorem gw0_67 : (gW0 E q7 u7 q8 u8 x y)[67]? = some (gad0 E q7 u7 q8 u8 x y (29, 0, 0), genc (gca E) (gad0 E q7 u7 q8 u8 x y) gI0 gJ0 gB00 (29, 0, 0)) := rfl
theorem gw0_68 : (gW0 E q7 u7 q8 u8 x y)[68]? = some (gad0 E q7 u7 q8 u8 x y (30, 0, 0), genc (gca E) (gad0 E q7 u7 q8 u8 x y) gI0 gJ0 gB00 (30, 0, 0)) := rfl
theorem gw0_69 : (gW0 E q7 u7 q8 u8 x y)[69]? = some (gad0 E q7 u7 q8 u8 x y (31, 0, 0), genc (gca E) (gad0 E q7 u7 q8 u8 x y) gI0 gJ0 gB00 (31, 0, 0)) := by
  have e : genc (gca E) (gad0 E q7 u7 q8 u8 x y) gI0 gJ0 gB00 (31, 0, 0) = .inr (8, [.int 0, .int 0, .ref (u8 0), .ref (u8 1), .int 0, .ref (u8 2), .ref (u8 3), .int 0, .int 0, .int (-1), .int 0, .int 0, .int 0, .int 0, .int 0, .int 0, .int 0, .ref (u8 4), .ref (u8 5), .int 0, .ref (u8 6), .int 0, .ref (u8 7), .ref (u8 8), .int 0, .ref (u8 9), .ref (u8 10), .ref (u8 11), .long 0, .long 0, .ref (u8 12), .ref (u8 13)]) := by
    rw [genc_obj (show gobj 31 = some _ from rfl)]
    refine congrArg (fun l => (Sum.inr (8, l) : va_E)) ?_
    simp only [gfvals, List.mapIdx_cons, List.mapIdx_nil]
    rfl
  rw [e]
  rfl
theorem gw0_70 : (gW0 E q7 u7 q8 u8 x y)[70]? = some (gad0 E q7 u7 q8 u8 x y (32, 0, 0), genc (gca E) (gad0 E q7 u7 q8 u8 x y) gI0 gJ0 gB00 (32, 0, 0)) := rfl
theorem gw0_71 : (gW0 E q7 u7 q8 u8 x y)[71]? = some (gad0 E q7 u7 q8 u8 x y (33, 0, 0), genc (gca E) (gad0 E q7 u7 q8 u8 x y) gI0 gJ0 gB00 (33, 0, 0)) := rfl
theorem gw0_72 : (gW0 E q7 u7 q8 u8 x y)[72]? = some (gad0 E q7 u7 q8 u8 x y (34, 0, 0), genc (gca E) (gad0 E q7 u7 q8 u8 x y) gI0 gJ0 gB00 (34, 0, 0)) := rfl
theorem gw0_73 : (gW0 E q7 u7 q8 u8 x y)[73]? = some (gad0 E q7 u7 q8 u8 x y (35, 0, 0), genc (gca E) (gad0 E q7 u7 q8 u8 x y) gI0 gJ0 gB00 (35, 0, 0)) := rfl
theorem gw0_74 : (gW0 E q7 u7 q8 u8 x y)[74]? = some (gad0 E q7 u7 q8 u8 x y (36, 0, 0), genc (gca E) (gad0 E q7 u7 q8 u8 x y) gI0 gJ0 gB00 (36, 0, 0)) := rfl
theorem gw0_75 : (gW0 E q7 u7 q8 u8 x y)[75]? = some (gad0 E q7 u7 q8 u8 x y (37, 0, 0), genc (gca E) (gad0 E q7 u7 q8 u8 x y) gI0 gJ0 gB00 (37, 0, 0)) := rfl
theorem gw0_76 : (gW0 E q7 u7 q8 u8 x y)[76]? = some (gad0 E q7 u7 q8 u8 x y (38, 0, 0), genc (gca E) (gad0 E q7 u7 q8 u8 x y) gI0 gJ0 gB00 (38, 0, 0)) := rfl
theorem gw0_77 : (gW0 E q7 u7 q8 u8 x y)[77]? = some (gad0 E q7 u7 q8 u8 x y (39, 0, 0), genc (gca E) (gad0 E q7 u7 q8 u8 x y) gI0 gJ0 gB00 (39, 0, 0)) := rfl
theorem gw0_78 : (gW0 E q7 u7 q8 u8 x y)[78]? = some (gad0 E q7 u7 q8 u8 x y (40, 0, 0), genc (gca E) (gad0 E q7 u7 q8 u8 x y) gI0 gJ0 gB00 (40, 0, 0)) := rfl
theorem gw0_79 : (gW0 E q7 u7 q8 u8 x y)[79]? = some (gad0 E q7 u7 q8 u8 x y (41, 0, 0), genc (gca E) (gad0 E q7 u7 q8 u8 x y) gI0 gJ0 gB00 (41, 0, 0)) := rfl
theorem gw0_80 : (gW0 E q7 u7 q8 u8 x y)[80]? = some (gad0 E q7 u7 q8 u8 x y (42, 0, 0), genc (gca E) (gad0 E q7 u7 q8 u8 x y) gI0 gJ0 gB00 (42, 0, 0)) := rfl
theorem gw0_81 : (gW0 E q7 u7 q8 u8 x y)[81]? = some (gad0 E q7 u7 q8 u8 x y (43, 0, 0), genc (gca E) (gad0 E q7 u7 q8 u8 x y) gI0 gJ0 gB00 (43, 0, 0)) := rfl
theorem gw0_82 : (gW0 E q7 u7 q8 u8 x y)[82]? = some (gad0 E q7 u7 q8 u8 x y (44, 0, 0), genc (gca E) (gad0 E q7 u7 q8 u8 x y) gI0 gJ0 gB00 (44, 0, 0)) := rfl
theorem gw0_83 : (gW0 E q7 u7 q8 u8 x y)[83]? = some (gad0 E q7 u7 q8 u8 x y (45, 0, 0), genc (gca E) (gad0 E q7 u7 q8 u8 x y) gI0 gJ0 gB00 (45, 0, 0)) := rfl
theorem gw0_84 : (gW0 E q7 u7 q8 u8 x y)[84]? = some (gad0 E q7 u7 q8 u8 x y (46, 0, 0), genc (gca E) (gad0 E q7 u7 q8 u8 x y) gI0 gJ0 gB00 (46, 0, 0)) := rfl
theorem gw0_85 : (gW0 E q7 u7 q8 u8 x y)[85]? = some (gad0 E q7 u7 q8 u8 x y (47, 0, 0), genc (gca E) (gad0 E q7 u7 q8 u8 x y) gI0 gJ0 gB00 (47, 0, 0)) := rfl
theorem gw0_all : ∀ i, i < 86 → ∀ r, gperm[i]? = some r → (gW0 E q7 u7 q8 u8 x y)[gix0.getD i 0]? = some (gad0 E q7 u7 q8 u8 x y r, genc (gca E) (gad0 E q7 u7 q8 u8 x y) gI0 gJ0 gB00 r) := by
  intro i hi r hr
  have h : ∀ j, gperm[j]? = some r → j = i → (gW0 E q7 u7 q8 u8 x y)[gix0.getD j 0]? = some (gad0 E q7 u7 q8 u8 x y r, genc (gca E) (gad0 E q7 u7 q8 u8 x y) gI0 gJ0 gB00 r) := by
    intro j hj e
    match j, hj with
    | 0, hj => cases hj; exact gw0_0
    | 1, hj => cases hj; exact gw0_1
    | 2, hj => cases hj; exact gw0_2
    | 3, hj => cases hj; exact gw0_3
    | 4, hj => cases hj; exact gw0_4
    | 5, hj => cases hj; exact gw0_5
    | 6, hj => cases hj; exact gw0_6
    | 7, hj => cases hj; exact gw0_7
    | 8, hj => cases hj; exact gw0_8
    | 9, hj => cases hj; exact gw0_9
    | 10, hj => cases hj; exact gw0_10
    | 11, hj => cases hj; exact gw0_11
    | 12, hj => cases hj; exact gw0_12
    | 13, hj => cases hj; exact gw0_13
    | 14, hj => cases hj; exact gw0_14
    | 15, hj => cases hj; exact gw0_15
    | 16, hj => cases hj; exact gw0_16
    | 17, hj => cases hj; exact gw0_17
    | 18, hj => cases hj; exact gw0_18
    | 19, hj => cases hj; exact gw0_19
    | 20, hj => cases hj; exact gw0_20
    | 21, hj => cases hj; exact gw0_21
    | 22, hj => cases hj; exact gw0_22
    | 23, hj => cases hj; exact gw0_23
    | 24, hj => cases hj; exact gw0_24
    | 25, hj => cases hj; exact gw0_25
    | 26, hj => cases hj; exact gw0_26
    | 27, hj => cases hj; exact gw0_27
    | 28, hj => cases hj; exact gw0_28
    | 29, hj => cases hj; exact gw0_29
    | 30, hj => cases hj; exact gw0_30
    | 31, hj => cases hj; exact gw0_31
    | 32, hj => cases hj; exact gw0_32
    | 33, hj => cases hj; exact gw0_33
    | 34, hj => cases hj; exact gw0_34
    | 35, hj => cases hj; exact gw0_35
    | 36, hj => cases hj; exact gw0_36
    | 37, hj => cases hj; exact gw0_37
    | 38, hj => cases hj; exact gw0_38
    | 39, hj => cases hj; exact gw0_39
    | 40, hj => cases hj; exact gw0_40
    | 41, hj => cases hj; exact gw0_41
    | 42, hj => cases hj; exact gw0_42
    | 43, hj => cases hj; exact gw0_43
    | 44, hj => cases hj; exact gw0_44
    | 45, hj => cases hj; exact gw0_45
    | 46, hj => cases hj; exact gw0_46
    | 47, hj => cases hj; exact gw0_47
    | 48, hj => cases hj; exact gw0_48
    | 49, hj => cases hj; exact gw0_49
    | 50, hj => cases hj; exact gw0_50
    | 51, hj => cases hj; exact gw0_51
    | 52, hj => cases hj; exact gw0_52
    | 53, hj => cases hj; exact gw0_53
    | 54, hj => cases hj; exact gw0_54
    | 55, hj => cases hj; exact gw0_55
    | 56, hj => cases hj; exact gw0_56
    | 57, hj => cases hj; exact gw0_57
    | 58, hj => cases hj; exact gw0_58
    | 59, hj => cases hj; exact gw0_59
    | 60, hj => cases hj; exact gw0_60
    | 61, hj => cases hj; exact gw0_61
    | 62, hj => cases hj; exact gw0_62
    | 63, hj => cases hj; exact gw0_63
    | 64, hj => cases hj; exact gw0_64
    | 65, hj => cases hj; exact gw0_65
    | 66, hj => cases hj; exact gw0_66
    | 67, hj => cases hj; exact gw0_67
    | 68, hj => cases hj; exact gw0_68
    | 69, hj => cases hj; exact gw0_69
    | 70, hj => cases hj; exact gw0_70
    | 71, hj => cases hj; exact gw0_71
    | 72, hj => cases hj; exact gw0_72
    | 73, hj => cases hj; exact gw0_73
    | 74, hj => cases hj; exact gw0_74
    | 75, hj => cases hj; exact gw0_75
    | 76, hj => cases hj; exact gw0_76
    | 77, hj => cases hj; exact gw0_77
    | 78, hj => cases hj; exact gw0_78
    | 79, hj => cases hj; exact gw0_79
    | 80, hj => cases hj; exact gw0_80
    | 81, hj => cases hj; exact gw0_81
    | 82, hj => cases hj; exact gw0_82
    | 83, hj => cases hj; exact gw0_83
    | 84, hj => cases hj; exact gw0_84
    | 85, hj => cases hj; exact gw0_85
    | k + 86, hj => omega
  exact h i hr rfl
theorem gix0_inj : ∀ i, i < 86 → ∀ j, j < 86 → gix0.getD i 0 = gix0.getD j 0 → i = j := by
  intro i hi j hj e
  have key : (List.range 86).all (fun i => (List.range 86).all (fun j => !(Nat.beq (gix0.getD i 0) (gix0.getD j 0)) || Nat.beq i j)) = true := by decide +kernel
  have k1 := List.all_eq_true.mp (List.all_eq_true.mp key i (List.mem_range.mpr hi)) j (List.mem_range.mpr hj)
  rw [e, Nat.beq_refl] at k1
  exact Nat.eq_of_beq_eq_true k1
theorem gad0_le : ∀ r : gR, r.1 ≤ 2 → gad0 E q7 u7 q8 u8 x y r = gax E r := by
  rintro ⟨k, n, j⟩ h
  have h : k ≤ 2 := h
  rcases (show k = 0 ∨ k = 1 ∨ k = 2 by omega) with rfl | rfl | rfl <;> rfl
theorem gRep0 {H : Heap} (hP : va_P (gD E) vwCl (gW0 E q7 u7 q8 u8 x y) H) (hD : va_D (gA E) (gW0 E q7 u7 q8 u8 x y)) : gRep E (gad0 E q7 u7 q8 u8 x y) gI0 gJ0 gB00 H := by
  have get : ∀ (i : Nat) (z : Nat × va_E), (gws E (gad0 E q7 u7 q8 u8 x y) gI0 gJ0 gB00)[i]? = some z → i < 86 ∧ (gW0 E q7 u7 q8 u8 x y)[gix0.getD i 0]? = some z := by
    intro i z hz
    unfold gws at hz
    rw [gids0, List.getElem?_map] at hz
    cases hr : gperm[i]? with
    | none => rw [hr] at hz; cases hz
    | some r =>
      rw [hr] at hz
      cases hz
      have hi : i < 86 := by rw [← gperm_len]; exact (List.getElem?_eq_some_iff.mp hr).1
      exact ⟨hi, gw0_all i hi r hr⟩
  refine ⟨fun k z hz => hP _ z (get k z hz).2, ⟨fun i j p z hi hj e => ?_, fun k z hz => hD.2 _ z (get k z hz).2⟩, gad0_le, fun n _ _ h => by cases h⟩
  obtain ⟨h1, h2⟩ := get i p hi
  obtain ⟨h3, h4⟩ := get j z hj
  exact gix0_inj i h1 j h3 (hD.1 _ _ p z h2 h4 e)
end FRESH
theorem rl0 : Rl gI0 gJ0 gB00 := by
  refine ⟨⟨none, 0, 0, fun _ _ => 0, ⟨rfl, rfl, rfl, rfl, rfl⟩, ⟨rfl, rfl, by omega, by omega, fun j h => absurd h (Nat.not_lt_zero j)⟩, ⟨rfl, fun j h => absurd h (Nat.not_lt_zero j)⟩, fun _ => rfl, fun m _ _ => rfl, ⟨0, by omega, rfl, rfl, fun k h => absurd h (Nat.not_lt_zero k), rfl, ?_⟩, fun s hs => Or.inl ⟨rfl, rfl⟩⟩, fun _ s hs => rfl⟩
  rw [if_pos (show gI0 4 0 0 3 = gi 0 from rfl)]
  rfl
