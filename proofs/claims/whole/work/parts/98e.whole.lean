/-! ===== the fresh world (by wip/whole/p98f.py) ===== -/
def gI0 : gI := fun k _ _ j => if k = 31 ∧ j = 9 then -1 else 0
def gJ0 : gJ := fun k _ j => if k = 6 ∧ j = 6 then 1 else 0
def gB00 : gB := fun _ => false
def gad0 (E : gEn) (q7 : Nat) (u7 : (Nat → Nat) × (Nat → Nat → Nat)) (q8 : Nat) (u8 : Nat → Nat) (x y : Nat) : gR → Nat := fun r => ([fun n j => gax E (0, n, j), fun n j => gax E (1, n, j), fun n j => gax E (2, n, j), fun n j => q7, fun n j => (u7.1 0), fun n j => (u7.2 0 0), fun n j => if n = 0 then (u7.1 1) else if n = 1 then (u7.1 2) else (u7.2 0 1), fun n j => if n = 0 then (u7.2 1 0) else if n = 1 then (u7.2 2 0) else (u7.2 0 2), fun n j => if n = 0 then (u7.2 1 1) else if n = 1 then (u7.2 2 1) else (u7.2 0 3), fun n j => if n = 0 then (u7.2 1 2) else if n = 1 then (u7.2 2 2) else (u7.2 0 4), fun n j => if n = 0 then (u7.2 1 3) else if n = 1 then (u7.2 2 3) else (u7.2 0 5), fun n j => if n = 0 then (u7.2 1 4) else if n = 1 then (u7.2 2 4) else (u7.2 0 6), fun n j => if n = 0 then (u7.2 1 5) else if n = 1 then (u7.2 2 5) else (u7.2 0 7), fun n j => (u7.1 3), fun n j => (u7.2 3 0), fun n j => (u7.1 4), fun n j => (u7.1 5), fun n j => if n = 0 then (u7.1 6) else (u7.2 7 0), fun n j => if n = 0 then (u7.2 4 0) else (u7.2 7 2), fun n j => if n = 0 then (u7.2 4 0) + 1 + j else (u7.2 7 2) + 1 + j, fun n j => (u7.1 7), fun n j => (u7.2 5 0), fun n j => (u7.2 5 0) + 1 + j, fun n j => (u7.2 5 1), fun n j => (u7.2 5 1) + 1 + j, fun n j => (u7.1 8), fun n j => (u7.2 6 0), fun n j => (u7.2 6 1), fun n j => (u7.1 9), fun n j => (u7.2 7 1), fun n j => (u7.1 10), fun n j => q8, fun n j => (u8 0), fun n j => (u8 1), fun n j => (u8 2), fun n j => (u8 3), fun n j => (u8 4), fun n j => (u8 5), fun n j => (u8 6), fun n j => (u8 7), fun n j => (u8 8), fun n j => (u8 9), fun n j => (u8 10), fun n j => (u8 11), fun n j => (u8 12), fun n j => (u8 13), fun n j => x, fun n j => y] : List (Nat → Nat → Nat)).getD r.1 (fun _ _ => 0) r.2.1 r.2.2
def gW0 (E : gEn) (q7 : Nat) (u7 : (Nat → Nat) × (Nat → Nat → Nat)) (q8 : Nat) (u8 : Nat → Nat) (x y : Nat) : va_W := gzw_7 E q7 u7 ++ (gzw_8 E q8 u8 ++ ([(x, .inl (gca E 1, 1, .inr (.inl (fun _ => 0))))] ++ [(y, .inl (gca E 4, 1, .inr (.inr (.inr (.inl (fun _ => 0))))))]))
def gix0 : List Nat := [0, 1, 2, 10, 11, 12, 13, 14, 15, 16, 17, 18, 19, 20, 21, 22, 23, 3, 4, 5, 6, 7, 8, 9, 24, 25, 26, 27, 28, 29, 30, 31, 32, 33, 34, 35, 36, 58, 59, 60, 61, 62, 63, 64, 65, 66, 37, 38, 39, 40, 41, 42, 43, 44, 45, 46, 47, 48, 49, 50, 51, 52, 53, 54, 55, 56, 57, 67, 68, 69, 70, 71, 72, 73, 74, 75, 76, 77, 78, 79, 80, 81, 82, 83, 84, 85]
theorem gids0 : gids gB00 = gperm := by decide +kernel
theorem gperm_len : gperm.length = 86 := by decide +kernel
section FRESH
variable {E : gEn} {q7 q8 x y : Nat} {u7 : (Nat → Nat) × (Nat → Nat → Nat)} {u8 : Nat → Nat}
theorem gw0_0 : (gW0 E q7 u7 q8 u8 x y)[0]? = some (gad0 E q7 u7 q8 u8 x y (3, 0, 0), genc (gca E) (gad0 E q7 u7 q8 u8 x y) gI0 gJ0 gB00 (3, 0, 0)) := rfl
theorem gw0_1 : (gW0 E q7 u7 q8 u8 x y)[1]? = some (gad0 E q7 u7 q8 u8 x y (4, 0, 0), genc (gca E) (gad0 E q7 u7 q8 u8 x y) gI0 gJ0 gB00 (4, 0, 0)) := rfl
theorem gw0_2 : (gW0 E q7 u7 q8 u8 x y)[2]? = some (gad0 E q7 u7 q8 u8 x y (5, 0, 0), genc (gca E) (gad0 E q7 u7 q8 u8 x y) gI0 gJ0 gB00 (5, 0, 0)) := rfl
theorem gw0_3 : (gW0 E q7 u7 q8 u8 x y)[10]? = some (gad0 E q7 u7 q8 u8 x y (6, 0, 0), genc (gca E) (gad0 E q7 u7 q8 u8 x y) gI0 gJ0 gB00 (6, 0, 0)) := rfl
theorem gw0_4 : (gW0 E q7 u7 q8 u8 x y)[11]? = some (gad0 E q7 u7 q8 u8 x y (7, 0, 0), genc (gca E) (gad0 E q7 u7 q8 u8 x y) gI0 gJ0 gB00 (7, 0, 0)) := rfl
theorem gw0_5 : (gW0 E q7 u7 q8 u8 x y)[12]? = some (gad0 E q7 u7 q8 u8 x y (8, 0, 0), genc (gca E) (gad0 E q7 u7 q8 u8 x y) gI0 gJ0 gB00 (8, 0, 0)) := rfl
theorem gw0_6 : (gW0 E q7 u7 q8 u8 x y)[13]? = some (gad0 E q7 u7 q8 u8 x y (9, 0, 0), genc (gca E) (gad0 E q7 u7 q8 u8 x y) gI0 gJ0 gB00 (9, 0, 0)) := rfl
theorem gw0_7 : (gW0 E q7 u7 q8 u8 x y)[14]? = some (gad0 E q7 u7 q8 u8 x y (10, 0, 0), genc (gca E) (gad0 E q7 u7 q8 u8 x y) gI0 gJ0 gB00 (10, 0, 0)) := rfl
theorem gw0_8 : (gW0 E q7 u7 q8 u8 x y)[15]? = some (gad0 E q7 u7 q8 u8 x y (11, 0, 0), genc (gca E) (gad0 E q7 u7 q8 u8 x y) gI0 gJ0 gB00 (11, 0, 0)) := rfl
theorem gw0_9 : (gW0 E q7 u7 q8 u8 x y)[16]? = some (gad0 E q7 u7 q8 u8 x y (12, 0, 0), genc (gca E) (gad0 E q7 u7 q8 u8 x y) gI0 gJ0 gB00 (12, 0, 0)) := rfl
theorem gw0_10 : (gW0 E q7 u7 q8 u8 x y)[17]? = some (gad0 E q7 u7 q8 u8 x y (6, 1, 0), genc (gca E) (gad0 E q7 u7 q8 u8 x y) gI0 gJ0 gB00 (6, 1, 0)) := rfl
theorem gw0_11 : (gW0 E q7 u7 q8 u8 x y)[18]? = some (gad0 E q7 u7 q8 u8 x y (7, 1, 0), genc (gca E) (gad0 E q7 u7 q8 u8 x y) gI0 gJ0 gB00 (7, 1, 0)) := rfl
theorem gw0_12 : (gW0 E q7 u7 q8 u8 x y)[19]? = some (gad0 E q7 u7 q8 u8 x y (8, 1, 0), genc (gca E) (gad0 E q7 u7 q8 u8 x y) gI0 gJ0 gB00 (8, 1, 0)) := rfl
theorem gw0_13 : (gW0 E q7 u7 q8 u8 x y)[20]? = some (gad0 E q7 u7 q8 u8 x y (9, 1, 0), genc (gca E) (gad0 E q7 u7 q8 u8 x y) gI0 gJ0 gB00 (9, 1, 0)) := rfl
theorem gw0_14 : (gW0 E q7 u7 q8 u8 x y)[21]? = some (gad0 E q7 u7 q8 u8 x y (10, 1, 0), genc (gca E) (gad0 E q7 u7 q8 u8 x y) gI0 gJ0 gB00 (10, 1, 0)) := rfl
theorem gw0_15 : (gW0 E q7 u7 q8 u8 x y)[22]? = some (gad0 E q7 u7 q8 u8 x y (11, 1, 0), genc (gca E) (gad0 E q7 u7 q8 u8 x y) gI0 gJ0 gB00 (11, 1, 0)) := rfl
theorem gw0_16 : (gW0 E q7 u7 q8 u8 x y)[23]? = some (gad0 E q7 u7 q8 u8 x y (12, 1, 0), genc (gca E) (gad0 E q7 u7 q8 u8 x y) gI0 gJ0 gB00 (12, 1, 0)) := rfl
theorem gw0_17 : (gW0 E q7 u7 q8 u8 x y)[3]? = some (gad0 E q7 u7 q8 u8 x y (6, 2, 0), genc (gca E) (gad0 E q7 u7 q8 u8 x y) gI0 gJ0 gB00 (6, 2, 0)) := rfl
theorem gw0_18 : (gW0 E q7 u7 q8 u8 x y)[4]? = some (gad0 E q7 u7 q8 u8 x y (7, 2, 0), genc (gca E) (gad0 E q7 u7 q8 u8 x y) gI0 gJ0 gB00 (7, 2, 0)) := rfl
theorem gw0_19 : (gW0 E q7 u7 q8 u8 x y)[5]? = some (gad0 E q7 u7 q8 u8 x y (8, 2, 0), genc (gca E) (gad0 E q7 u7 q8 u8 x y) gI0 gJ0 gB00 (8, 2, 0)) := rfl
theorem gw0_20 : (gW0 E q7 u7 q8 u8 x y)[6]? = some (gad0 E q7 u7 q8 u8 x y (9, 2, 0), genc (gca E) (gad0 E q7 u7 q8 u8 x y) gI0 gJ0 gB00 (9, 2, 0)) := rfl
theorem gw0_21 : (gW0 E q7 u7 q8 u8 x y)[7]? = some (gad0 E q7 u7 q8 u8 x y (10, 2, 0), genc (gca E) (gad0 E q7 u7 q8 u8 x y) gI0 gJ0 gB00 (10, 2, 0)) := rfl
theorem gw0_22 : (gW0 E q7 u7 q8 u8 x y)[8]? = some (gad0 E q7 u7 q8 u8 x y (11, 2, 0), genc (gca E) (gad0 E q7 u7 q8 u8 x y) gI0 gJ0 gB00 (11, 2, 0)) := rfl
theorem gw0_23 : (gW0 E q7 u7 q8 u8 x y)[9]? = some (gad0 E q7 u7 q8 u8 x y (12, 2, 0), genc (gca E) (gad0 E q7 u7 q8 u8 x y) gI0 gJ0 gB00 (12, 2, 0)) := rfl
theorem gw0_24 : (gW0 E q7 u7 q8 u8 x y)[24]? = some (gad0 E q7 u7 q8 u8 x y (13, 0, 0), genc (gca E) (gad0 E q7 u7 q8 u8 x y) gI0 gJ0 gB00 (13, 0, 0)) := rfl
theorem gw0_25 : (gW0 E q7 u7 q8 u8 x y)[25]? = some (gad0 E q7 u7 q8 u8 x y (14, 0, 0), genc (gca E) (gad0 E q7 u7 q8 u8 x y) gI0 gJ0 gB00 (14, 0, 0)) := by
  have e : genc (gca E) (gad0 E q7 u7 q8 u8 x y) gI0 gJ0 gB00 (14, 0, 0) = .inl (gca E 6, 8, .inr (.inr (.inr (.inr (fun _ => none))))) := by
    show garrE (gca E) (gad0 E q7 u7 q8 u8 x y) gI0 gJ0 gB00 (14, 0, 0) 6 8 3 = _
    unfold garrE
    congr 7
    funext j
    rw [show gB00 (3 + j + 17) = false from rfl, Bool.and_false]
    rfl
  rw [e]
  rfl
theorem gw0_26 : (gW0 E q7 u7 q8 u8 x y)[26]? = some (gad0 E q7 u7 q8 u8 x y (15, 0, 0), genc (gca E) (gad0 E q7 u7 q8 u8 x y) gI0 gJ0 gB00 (15, 0, 0)) := by
  have e : genc (gca E) (gad0 E q7 u7 q8 u8 x y) gI0 gJ0 gB00 (15, 0, 0) = .inl (gca E 6, 2, .inr (.inr (.inr (.inr (fun _ => none))))) := by
    show garrE (gca E) (gad0 E q7 u7 q8 u8 x y) gI0 gJ0 gB00 (15, 0, 0) 6 2 11 = _
    unfold garrE
    congr 7
    funext j
    rw [show gB00 (11 + j + 17) = false from rfl, Bool.and_false]
    rfl
  rw [e]
  rfl
theorem gw0_27 : (gW0 E q7 u7 q8 u8 x y)[27]? = some (gad0 E q7 u7 q8 u8 x y (16, 0, 0), genc (gca E) (gad0 E q7 u7 q8 u8 x y) gI0 gJ0 gB00 (16, 0, 0)) := rfl
theorem gw0_28 : (gW0 E q7 u7 q8 u8 x y)[28]? = some (gad0 E q7 u7 q8 u8 x y (17, 0, 0), genc (gca E) (gad0 E q7 u7 q8 u8 x y) gI0 gJ0 gB00 (17, 0, 0)) := rfl
theorem gw0_29 : (gW0 E q7 u7 q8 u8 x y)[29]? = some (gad0 E q7 u7 q8 u8 x y (18, 0, 0), genc (gca E) (gad0 E q7 u7 q8 u8 x y) gI0 gJ0 gB00 (18, 0, 0)) := rfl
theorem gw0_30 : (gW0 E q7 u7 q8 u8 x y)[30]? = some (gad0 E q7 u7 q8 u8 x y (19, 0, 0), genc (gca E) (gad0 E q7 u7 q8 u8 x y) gI0 gJ0 gB00 (19, 0, 0)) := rfl
theorem gw0_31 : (gW0 E q7 u7 q8 u8 x y)[31]? = some (gad0 E q7 u7 q8 u8 x y (19, 0, 1), genc (gca E) (gad0 E q7 u7 q8 u8 x y) gI0 gJ0 gB00 (19, 0, 1)) := rfl
theorem gw0_32 : (gW0 E q7 u7 q8 u8 x y)[32]? = some (gad0 E q7 u7 q8 u8 x y (19, 0, 2), genc (gca E) (gad0 E q7 u7 q8 u8 x y) gI0 gJ0 gB00 (19, 0, 2)) := rfl
theorem gw0_33 : (gW0 E q7 u7 q8 u8 x y)[33]? = some (gad0 E q7 u7 q8 u8 x y (19, 0, 3), genc (gca E) (gad0 E q7 u7 q8 u8 x y) gI0 gJ0 gB00 (19, 0, 3)) := rfl
theorem gw0_34 : (gW0 E q7 u7 q8 u8 x y)[34]? = some (gad0 E q7 u7 q8 u8 x y (19, 0, 4), genc (gca E) (gad0 E q7 u7 q8 u8 x y) gI0 gJ0 gB00 (19, 0, 4)) := rfl
theorem gw0_35 : (gW0 E q7 u7 q8 u8 x y)[35]? = some (gad0 E q7 u7 q8 u8 x y (19, 0, 5), genc (gca E) (gad0 E q7 u7 q8 u8 x y) gI0 gJ0 gB00 (19, 0, 5)) := rfl
theorem gw0_36 : (gW0 E q7 u7 q8 u8 x y)[36]? = some (gad0 E q7 u7 q8 u8 x y (19, 0, 6), genc (gca E) (gad0 E q7 u7 q8 u8 x y) gI0 gJ0 gB00 (19, 0, 6)) := rfl
theorem gw0_37 : (gW0 E q7 u7 q8 u8 x y)[58]? = some (gad0 E q7 u7 q8 u8 x y (17, 1, 0), genc (gca E) (gad0 E q7 u7 q8 u8 x y) gI0 gJ0 gB00 (17, 1, 0)) := rfl
theorem gw0_38 : (gW0 E q7 u7 q8 u8 x y)[59]? = some (gad0 E q7 u7 q8 u8 x y (18, 1, 0), genc (gca E) (gad0 E q7 u7 q8 u8 x y) gI0 gJ0 gB00 (18, 1, 0)) := rfl
theorem gw0_39 : (gW0 E q7 u7 q8 u8 x y)[60]? = some (gad0 E q7 u7 q8 u8 x y (19, 1, 0), genc (gca E) (gad0 E q7 u7 q8 u8 x y) gI0 gJ0 gB00 (19, 1, 0)) := rfl
theorem gw0_40 : (gW0 E q7 u7 q8 u8 x y)[61]? = some (gad0 E q7 u7 q8 u8 x y (19, 1, 1), genc (gca E) (gad0 E q7 u7 q8 u8 x y) gI0 gJ0 gB00 (19, 1, 1)) := rfl
theorem gw0_41 : (gW0 E q7 u7 q8 u8 x y)[62]? = some (gad0 E q7 u7 q8 u8 x y (19, 1, 2), genc (gca E) (gad0 E q7 u7 q8 u8 x y) gI0 gJ0 gB00 (19, 1, 2)) := rfl
theorem gw0_42 : (gW0 E q7 u7 q8 u8 x y)[63]? = some (gad0 E q7 u7 q8 u8 x y (19, 1, 3), genc (gca E) (gad0 E q7 u7 q8 u8 x y) gI0 gJ0 gB00 (19, 1, 3)) := rfl
theorem gw0_43 : (gW0 E q7 u7 q8 u8 x y)[64]? = some (gad0 E q7 u7 q8 u8 x y (19, 1, 4), genc (gca E) (gad0 E q7 u7 q8 u8 x y) gI0 gJ0 gB00 (19, 1, 4)) := rfl
theorem gw0_44 : (gW0 E q7 u7 q8 u8 x y)[65]? = some (gad0 E q7 u7 q8 u8 x y (19, 1, 5), genc (gca E) (gad0 E q7 u7 q8 u8 x y) gI0 gJ0 gB00 (19, 1, 5)) := rfl
theorem gw0_45 : (gW0 E q7 u7 q8 u8 x y)[66]? = some (gad0 E q7 u7 q8 u8 x y (19, 1, 6), genc (gca E) (gad0 E q7 u7 q8 u8 x y) gI0 gJ0 gB00 (19, 1, 6)) := rfl
theorem gw0_46 : (gW0 E q7 u7 q8 u8 x y)[37]? = some (gad0 E q7 u7 q8 u8 x y (20, 0, 0), genc (gca E) (gad0 E q7 u7 q8 u8 x y) gI0 gJ0 gB00 (20, 0, 0)) := rfl
theorem gw0_47 : (gW0 E q7 u7 q8 u8 x y)[38]? = some (gad0 E q7 u7 q8 u8 x y (21, 0, 0), genc (gca E) (gad0 E q7 u7 q8 u8 x y) gI0 gJ0 gB00 (21, 0, 0)) := rfl
theorem gw0_48 : (gW0 E q7 u7 q8 u8 x y)[39]? = some (gad0 E q7 u7 q8 u8 x y (22, 0, 0), genc (gca E) (gad0 E q7 u7 q8 u8 x y) gI0 gJ0 gB00 (22, 0, 0)) := rfl
theorem gw0_49 : (gW0 E q7 u7 q8 u8 x y)[40]? = some (gad0 E q7 u7 q8 u8 x y (22, 0, 1), genc (gca E) (gad0 E q7 u7 q8 u8 x y) gI0 gJ0 gB00 (22, 0, 1)) := rfl
theorem gw0_50 : (gW0 E q7 u7 q8 u8 x y)[41]? = some (gad0 E q7 u7 q8 u8 x y (22, 0, 2), genc (gca E) (gad0 E q7 u7 q8 u8 x y) gI0 gJ0 gB00 (22, 0, 2)) := rfl
theorem gw0_51 : (gW0 E q7 u7 q8 u8 x y)[42]? = some (gad0 E q7 u7 q8 u8 x y (22, 0, 3), genc (gca E) (gad0 E q7 u7 q8 u8 x y) gI0 gJ0 gB00 (22, 0, 3)) := rfl
theorem gw0_52 : (gW0 E q7 u7 q8 u8 x y)[43]? = some (gad0 E q7 u7 q8 u8 x y (22, 0, 4), genc (gca E) (gad0 E q7 u7 q8 u8 x y) gI0 gJ0 gB00 (22, 0, 4)) := rfl
theorem gw0_53 : (gW0 E q7 u7 q8 u8 x y)[44]? = some (gad0 E q7 u7 q8 u8 x y (22, 0, 5), genc (gca E) (gad0 E q7 u7 q8 u8 x y) gI0 gJ0 gB00 (22, 0, 5)) := rfl
theorem gw0_54 : (gW0 E q7 u7 q8 u8 x y)[45]? = some (gad0 E q7 u7 q8 u8 x y (22, 0, 6), genc (gca E) (gad0 E q7 u7 q8 u8 x y) gI0 gJ0 gB00 (22, 0, 6)) := rfl
theorem gw0_55 : (gW0 E q7 u7 q8 u8 x y)[46]? = some (gad0 E q7 u7 q8 u8 x y (23, 0, 0), genc (gca E) (gad0 E q7 u7 q8 u8 x y) gI0 gJ0 gB00 (23, 0, 0)) := rfl
theorem gw0_56 : (gW0 E q7 u7 q8 u8 x y)[47]? = some (gad0 E q7 u7 q8 u8 x y (24, 0, 0), genc (gca E) (gad0 E q7 u7 q8 u8 x y) gI0 gJ0 gB00 (24, 0, 0)) := rfl
theorem gw0_57 : (gW0 E q7 u7 q8 u8 x y)[48]? = some (gad0 E q7 u7 q8 u8 x y (24, 0, 1), genc (gca E) (gad0 E q7 u7 q8 u8 x y) gI0 gJ0 gB00 (24, 0, 1)) := rfl
theorem gw0_58 : (gW0 E q7 u7 q8 u8 x y)[49]? = some (gad0 E q7 u7 q8 u8 x y (24, 0, 2), genc (gca E) (gad0 E q7 u7 q8 u8 x y) gI0 gJ0 gB00 (24, 0, 2)) := rfl
theorem gw0_59 : (gW0 E q7 u7 q8 u8 x y)[50]? = some (gad0 E q7 u7 q8 u8 x y (24, 0, 3), genc (gca E) (gad0 E q7 u7 q8 u8 x y) gI0 gJ0 gB00 (24, 0, 3)) := rfl
theorem gw0_60 : (gW0 E q7 u7 q8 u8 x y)[51]? = some (gad0 E q7 u7 q8 u8 x y (24, 0, 4), genc (gca E) (gad0 E q7 u7 q8 u8 x y) gI0 gJ0 gB00 (24, 0, 4)) := rfl
theorem gw0_61 : (gW0 E q7 u7 q8 u8 x y)[52]? = some (gad0 E q7 u7 q8 u8 x y (24, 0, 5), genc (gca E) (gad0 E q7 u7 q8 u8 x y) gI0 gJ0 gB00 (24, 0, 5)) := rfl
theorem gw0_62 : (gW0 E q7 u7 q8 u8 x y)[53]? = some (gad0 E q7 u7 q8 u8 x y (24, 0, 6), genc (gca E) (gad0 E q7 u7 q8 u8 x y) gI0 gJ0 gB00 (24, 0, 6)) := rfl
theorem gw0_63 : (gW0 E q7 u7 q8 u8 x y)[54]? = some (gad0 E q7 u7 q8 u8 x y (25, 0, 0), genc (gca E) (gad0 E q7 u7 q8 u8 x y) gI0 gJ0 gB00 (25, 0, 0)) := rfl
theorem gw0_64 : (gW0 E q7 u7 q8 u8 x y)[55]? = some (gad0 E q7 u7 q8 u8 x y (26, 0, 0), genc (gca E) (gad0 E q7 u7 q8 u8 x y) gI0 gJ0 gB00 (26, 0, 0)) := rfl
theorem gw0_65 : (gW0 E q7 u7 q8 u8 x y)[56]? = some (gad0 E q7 u7 q8 u8 x y (27, 0, 0), genc (gca E) (gad0 E q7 u7 q8 u8 x y) gI0 gJ0 gB00 (27, 0, 0)) := rfl
theorem gw0_66 : (gW0 E q7 u7 q8 u8 x y)[57]? = some (gad0 E q7 u7 q8 u8 x y (28, 0, 0), genc (gca E) (gad0 E q7 u7 q8 u8 x y) gI0 gJ0 gB00 (28, 0, 0)) := rfl
theorem gw0_67 : (gW0 E q7 u7 q8 u8 x y)[67]? = some (gad0 E q7 u7 q8 u8 x y (29, 0, 0), genc (gca E) (gad0 E q7 u7 q8 u8 x y) gI0 gJ0 gB00 (29, 0, 0)) := rfl
theorem gw0_68 : (gW0 E q7 u7 q8 u8 x y)[68]? = some (gad0 E q7 u7 q8 u8 x y (30, 0, 0), genc (gca E) (gad0 E q7 u7 q8 u8 x y) gI0 gJ0 gB00 (30, 0, 0)) := rfl
theorem gw0_69 : (gW0 E q7 u7 q8 u8 x y)[69]? = some (gad0 E q7 u7 q8 u8 x y (31, 0, 0), genc (gca E) (gad0 E q7 u7 q8 u8 x y) gI0 gJ0 gB00 (31, 0, 0)) := rfl
theorem gw0_70 : (gW0 E q7 u7 q8 u8 x y)[70]? = some (gad0 E q7 u7 q8 u8 x y (32, 0, 0), genc (gca E) (gad0 E q7 u7 q8 u8 x y) gI0 gJ0 gB00 (32, 0, 0)) := rfl
theorem gw0_71 : (gW0 E q7 u7 q8 u8 x y)[71]? = some (gad0 E q7 u7 q8 u8 x y (33, 0, 0), genc (gca E) (gad0 E q7 u7 q8 u8 x y) gI0 gJ0 gB00 (33, 0, 0)) := rfl
theorem gw0_72 : (gW0 E q7 u7 q8 u8 x y)[72]? = some (gad0 E q7 u7 q8 u8 x y (34, 0, 0), genc (gca E) (gad0 E q7 u7 q8 u8 x y) gI0 gJ0 gB00 (34, 0, 0)) := rfl
theorem gw0_73 : (gW0 E q7 u7 q8 u8 x y)[73]? = some (gad0 E q7 u7 q8 u8 x y (35, 0, 0), genc (gca E) (gad0 E q7 u7 q8 u8 x y) gI0 gJ0 gB00 (35, 0, 0)) := rfl
theorem gw0_74 : (gW0 E q7 u7 q8 u8 x y)[74]? = some (gad0 E q7 u7 q8 u8 x y (36, 0, 0), genc (gca E) (gad0 E q7 u7 q8 u8 x y) gI0 gJ0 gB00 (36, 0, 0)) := rfl
theorem gw0_75 : (gW0 E q7 u7 q8 u8 x y)[75]? = some (gad0 E q7 u7 q8 u8 x y (37, 0, 0), genc (gca E) (gad0 E q7 u7 q8 u8 x y) gI0 gJ0 gB00 (37, 0, 0)) := rfl
theorem gw0_76 : (gW0 E q7 u7 q8 u8 x y)[76]? = some (gad0 E q7 u7 q8 u8 x y (38, 0, 0), genc (gca E) (gad0 E q7 u7 q8 u8 x y) gI0 gJ0 gB00 (38, 0, 0)) := rfl
theorem gw0_77 : (gW0 E q7 u7 q8 u8 x y)[77]? = some (gad0 E q7 u7 q8 u8 x y (39, 0, 0), genc (gca E) (gad0 E q7 u7 q8 u8 x y) gI0 gJ0 gB00 (39, 0, 0)) := rfl
theorem gw0_78 : (gW0 E q7 u7 q8 u8 x y)[78]? = some (gad0 E q7 u7 q8 u8 x y (40, 0, 0), genc (gca E) (gad0 E q7 u7 q8 u8 x y) gI0 gJ0 gB00 (40, 0, 0)) := rfl
theorem gw0_79 : (gW0 E q7 u7 q8 u8 x y)[79]? = some (gad0 E q7 u7 q8 u8 x y (41, 0, 0), genc (gca E) (gad0 E q7 u7 q8 u8 x y) gI0 gJ0 gB00 (41, 0, 0)) := rfl
theorem gw0_80 : (gW0 E q7 u7 q8 u8 x y)[80]? = some (gad0 E q7 u7 q8 u8 x y (42, 0, 0), genc (gca E) (gad0 E q7 u7 q8 u8 x y) gI0 gJ0 gB00 (42, 0, 0)) := rfl
theorem gw0_81 : (gW0 E q7 u7 q8 u8 x y)[81]? = some (gad0 E q7 u7 q8 u8 x y (43, 0, 0), genc (gca E) (gad0 E q7 u7 q8 u8 x y) gI0 gJ0 gB00 (43, 0, 0)) := rfl
theorem gw0_82 : (gW0 E q7 u7 q8 u8 x y)[82]? = some (gad0 E q7 u7 q8 u8 x y (44, 0, 0), genc (gca E) (gad0 E q7 u7 q8 u8 x y) gI0 gJ0 gB00 (44, 0, 0)) := rfl
theorem gw0_83 : (gW0 E q7 u7 q8 u8 x y)[83]? = some (gad0 E q7 u7 q8 u8 x y (45, 0, 0), genc (gca E) (gad0 E q7 u7 q8 u8 x y) gI0 gJ0 gB00 (45, 0, 0)) := rfl
theorem gw0_84 : (gW0 E q7 u7 q8 u8 x y)[84]? = some (gad0 E q7 u7 q8 u8 x y (46, 0, 0), genc (gca E) (gad0 E q7 u7 q8 u8 x y) gI0 gJ0 gB00 (46, 0, 0)) := rfl
theorem gw0_85 : (gW0 E q7 u7 q8 u8 x y)[85]? = some (gad0 E q7 u7 q8 u8 x y (47, 0, 0), genc (gca E) (gad0 E q7 u7 q8 u8 x y) gI0 gJ0 gB00 (47, 0, 0)) := rfl
theorem gw0_all : ∀ i, i < 86 → ∀ r, gperm[i]? = some r → (gW0 E q7 u7 q8 u8 x y)[gix0.getD i 0]? = some (gad0 E q7 u7 q8 u8 x y r, genc (gca E) (gad0 E q7 u7 q8 u8 x y) gI0 gJ0 gB00 r) := by
  intro i hi r hr
  have h : ∀ j, gperm[j]? = some r → j = i → (gW0 E q7 u7 q8 u8 x y)[gix0.getD j 0]? = some (gad0 E q7 u7 q8 u8 x y r, genc (gca E) (gad0 E q7 u7 q8 u8 x y) gI0 gJ0 gB00 r) := by
    intro j hj e
    match j, hj with
    | 0, hj => cases hj; exact gw0_0
    | 1, hj => cases hj; exact gw0_1
    | 2, hj => cases hj; exact gw0_2
    | 3, hj => cases hj; exact gw0_3
    | 4, hj => cases hj; exact gw0_4
    | 5, hj => cases hj; exact gw0_5
    | 6, hj => cases hj; exact gw0_6
    | 7, hj => cases hj; exact gw0_7
    | 8, hj => cases hj; exact gw0_8
    | 9, hj => cases hj; exact gw0_9
    | 10, hj => cases hj; exact gw0_10
    | 11, hj => cases hj; exact gw0_11
    | 12, hj => cases hj; exact gw0_12
    | 13, hj => cases hj; exact gw0_13
    | 14, hj => cases hj; exact gw0_14
    | 15, hj => cases hj; exact gw0_15
    | 16, hj => cases hj; exact gw0_16
    | 17, hj => cases hj; exact gw0_17
    | 18, hj => cases hj; exact gw0_18
    | 19, hj => cases hj; exact gw0_19
    | 20, hj => cases hj; exact gw0_20
    | 21, hj => cases hj; exact gw0_21
    | 22, hj => cases hj; exact gw0_22
    | 23, hj => cases hj; exact gw0_23
    | 24, hj => cases hj; exact gw0_24
    | 25, hj => cases hj; exact gw0_25
    | 26, hj => cases hj; exact gw0_26
    | 27, hj => cases hj; exact gw0_27
    | 28, hj => cases hj; exact gw0_28
    | 29, hj => cases hj; exact gw0_29
    | 30, hj => cases hj; exact gw0_30
    | 31, hj => cases hj; exact gw0_31
    | 32, hj => cases hj; exact gw0_32
    | 33, hj => cases hj; exact gw0_33
    | 34, hj => cases hj; exact gw0_34
    | 35, hj => cases hj; exact gw0_35
    | 36, hj => cases hj; exact gw0_36
    | 37, hj => cases hj; exact gw0_37
    | 38, hj => cases hj; exact gw0_38
    | 39, hj => cases hj; exact gw0_39
    | 40, hj => cases hj; exact gw0_40
    | 41, hj => cases hj; exact gw0_41
    | 42, hj => cases hj; exact gw0_42
    | 43, hj => cases hj; exact gw0_43
    | 44, hj => cases hj; exact gw0_44
    | 45, hj => cases hj; exact gw0_45
    | 46, hj => cases hj; exact gw0_46
    | 47, hj => cases hj; exact gw0_47
    | 48, hj => cases hj; exact gw0_48
    | 49, hj => cases hj; exact gw0_49
    | 50, hj => cases hj; exact gw0_50
    | 51, hj => cases hj; exact gw0_51
    | 52, hj => cases hj; exact gw0_52
    | 53, hj => cases hj; exact gw0_53
    | 54, hj => cases hj; exact gw0_54
    | 55, hj => cases hj; exact gw0_55
    | 56, hj => cases hj; exact gw0_56
    | 57, hj => cases hj; exact gw0_57
    | 58, hj => cases hj; exact gw0_58
    | 59, hj => cases hj; exact gw0_59
    | 60, hj => cases hj; exact gw0_60
    | 61, hj => cases hj; exact gw0_61
    | 62, hj => cases hj; exact gw0_62
    | 63, hj => cases hj; exact gw0_63
    | 64, hj => cases hj; exact gw0_64
    | 65, hj => cases hj; exact gw0_65
    | 66, hj => cases hj; exact gw0_66
    | 67, hj => cases hj; exact gw0_67
    | 68, hj => cases hj; exact gw0_68
    | 69, hj => cases hj; exact gw0_69
    | 70, hj => cases hj; exact gw0_70
    | 71, hj => cases hj; exact gw0_71
    | 72, hj => cases hj; exact gw0_72
    | 73, hj => cases hj; exact gw0_73
    | 74, hj => cases hj; exact gw0_74
    | 75, hj => cases hj; exact gw0_75
    | 76, hj => cases hj; exact gw0_76
    | 77, hj => cases hj; exact gw0_77
    | 78, hj => cases hj; exact gw0_78
    | 79, hj => cases hj; exact gw0_79
    | 80, hj => cases hj; exact gw0_80
    | 81, hj => cases hj; exact gw0_81
    | 82, hj => cases hj; exact gw0_82
    | 83, hj => cases hj; exact gw0_83
    | 84, hj => cases hj; exact gw0_84
    | 85, hj => cases hj; exact gw0_85
    | k + 86, hj => omega
  exact h i hr rfl
theorem gix0_inj : ∀ i, i < 86 → ∀ j, j < 86 → gix0.getD i 0 = gix0.getD j 0 → i = j := by
  intro i hi j hj e
  have key : (List.range 86).all (fun i => (List.range 86).all (fun j => !(Nat.beq (gix0.getD i 0) (gix0.getD j 0)) || Nat.beq i j)) = true := by decide +kernel
  have k1 := List.all_eq_true.mp (List.all_eq_true.mp key i (List.mem_range.mpr hi)) j (List.mem_range.mpr hj)
  rw [e, Nat.beq_refl] at k1
  exact Nat.eq_of_beq_eq_true k1
theorem gad0_le : ∀ r : gR, r.1 ≤ 2 → gad0 E q7 u7 q8 u8 x y r = gax E r := by
  rintro ⟨k, n, j⟩ h
  have h : k ≤ 2 := h
  rcases (show k = 0 ∨ k = 1 ∨ k = 2 by omega) with rfl | rfl | rfl <;> rfl
theorem gRep0 {H : Heap} (hP : va_P (gD E) vwCl (gW0 E q7 u7 q8 u8 x y) H) (hD : va_D (gA E) (gW0 E q7 u7 q8 u8 x y)) : gRep E (gad0 E q7 u7 q8 u8 x y) gI0 gJ0 gB00 H := by
  have get : ∀ (i : Nat) (z : Nat × va_E), (gws E (gad0 E q7 u7 q8 u8 x y) gI0 gJ0 gB00)[i]? = some z → i < 86 ∧ (gW0 E q7 u7 q8 u8 x y)[gix0.getD i 0]? = some z := by
    intro i z hz
    unfold gws at hz
    rw [gids0, List.getElem?_map] at hz
    cases hr : gperm[i]? with
    | none => rw [hr] at hz; cases hz
    | some r =>
      rw [hr] at hz
      cases hz
      have hi : i < 86 := by rw [← gperm_len]; exact (List.getElem?_eq_some_iff.mp hr).1
      exact ⟨hi, gw0_all i hi r hr⟩
  refine ⟨fun k z hz => hP _ z (get k z hz).2, ⟨fun i j p z hi hj e => ?_, fun k z hz => hD.2 _ z (get k z hz).2⟩, gad0_le, fun n _ _ h => by cases h⟩
  obtain ⟨h1, h2⟩ := get i p hi
  obtain ⟨h3, h4⟩ := get j z hj
  exact gix0_inj i h1 j h3 (hD.1 _ _ p z h2 h4 e)
end FRESH
theorem rl0 : Rl gI0 gJ0 gB00 := by
  refine ⟨⟨none, 0, 0, fun _ _ => 0, ⟨rfl, rfl, rfl, rfl, rfl⟩, ⟨rfl, rfl, by omega, by omega, fun j h => absurd h (Nat.not_lt_zero j)⟩, ⟨rfl, fun j h => absurd h (Nat.not_lt_zero j)⟩, fun _ => rfl, fun m _ _ => rfl, ⟨0, by omega, rfl, rfl, fun k h => absurd h (Nat.not_lt_zero k), rfl, ?_⟩, fun s hs => Or.inl ⟨rfl, rfl⟩⟩, fun _ s hs => rfl⟩
  rw [if_pos (show gI0 4 0 0 3 = gi 0 from rfl)]
  rfl
theorem gz_drop {s s' : State} {L : List Loc} {k n : Nat} (h : s.sameButNew s' L k n) (hL : ∀ q ∈ L, s.heap.size ≤ q.base) : s.sameButNew s' [] k n := by
  obtain ⟨h1, h2, h3, h4, h5, h6⟩ := h
  refine ⟨h1, h2, h3, h4, h5, fun a c hc => ?_⟩
  obtain ⟨c', e1, e2, e3, e4⟩ := h6 a c hc
  refine ⟨c', e1, e2, e3, fun i _ => e4 i (fun hm => ?_)⟩
  have := hL _ hm
  have h9 : a < s.heap.size := (Array.getElem?_eq_some_iff.mp hc).1
  exact absurd this (Nat.not_le.mpr h9)
theorem gz_end {p : Program} {l : Launch} {e : Env} {s : State} {m : MethodId} {below : List Frame} {meth : Method} {c : Code} {b : Nat} {E : gEn} {H : Heap} {locs : List Loc} {cells slots : Nat} {ad0 : gR → Nat} {Bs : gB} {g : JFrame} (e2 : gB0 E = s.heap.size)
    (k : W p l e room_1 s m #[Value.ref b] below meth c H locs cells slots (vx_MQ below (gQc E 313 ad0 Bs (fun v _ _ _ => v = .inl (.int (gi 1)))) (gXc E ad0 Bs (fun _ _ _ _ => False)) #[Value.ref b] s (hmc 313) (hms 313) (gA E)) g) :
    W p l e room_1 s m #[Value.ref b] below meth c H locs cells slots (lw_Z below #[Value.ref b] s) g := by
  intro T hT Xs
  obtain ⟨t, a, o, h1, h2, h3⟩ := k T hT Xs
  refine ⟨t, a, o, h1, h2, ?_⟩
  rcases h3 with ⟨⟨⟨v, I, J, B, ad, ho, hq, -⟩, -⟩, L, hF, hL⟩ | ⟨q, -, En, ce, L, ⟨⟨k0, I, J, B, ad, -, hX, -⟩, -⟩, -⟩
  · subst hq
    obtain ⟨hv, hW, hs⟩ := hF
    have hd : s.drawn.sameBut s.drawn lw_cs := Drawn.sameBut.refl s.drawn lw_cs
    refine ⟨ho, ?_⟩
    have hs2 : s.sameButNew ({ t with vm := s.vm } : State) [] (hmc 313) (hms 313) := gz_drop hs (fun q hq => by
      have := hL q hq
      unfold gA at this
      rw [e2] at this
      exact this)
    rw [show hmc 313 = 601024 by decide +kernel, show hms 313 = 7293034 by decide +kernel] at hs2
    exact lw_closed (s := s) (d0 := s.drawn) hd ⟨_, ho⟩ hW hs2
  · exact hX.elim
theorem whole_start {p : Program} {e : Env} {s : State} {m : MethodId} {below : List Frame} {meth : Method} {c : Code} (l : Launch) (hflags : l.flags = flags0) {b L : Nat} {xs : Nat → Int32} (hL : L ≤ 3072) (hT0 : c.exceptionTable.toList = []) (C0 : lw_At p s m meth c b L xs) : W p l e room_1 s m #[Value.ref b] below meth c s.heap [] 0 0 (lw_Z below #[Value.ref b] s) (entryFrame m ([Value.ref b] : List Value).toArray 9) := by
  obtain ⟨hx, hb, hr, hml, hown, hts, hX, hbl, hlocks, hg⟩ := C0
  obtain ⟨E, e1, e2, e3, e4, e5, hE⟩ := gz_E l hflags hts hg hX hbl
  subst e1
  subst e4
  have hNi := gz_Ni hts
  have hts2 : ∀ w ∈ gBig, w.before #[Value.ref b] s = true := fun w hw => hts w (List.mem_filter.mp hw).1
  have hK := hE.1
  have hA : ∀ q : Nat, s.heap.size ≤ q → gA E q := fun q h => by unfold gA; rw [e2]; exact h
  have hS : va_S (gA E) s.heap s.heap [] := va_S.rf
  have hP : va_P (gD E) vwCl [] s.heap := fun k q h => by simp at h
  have hD : va_D (gA E) [] := ⟨fun i j p q h => by simp at h, fun k q h => by simp at h⟩
  have hl := lv_entry ([.ref b]) (n := 9) (Nat.le_of_ble_eq_true rfl)
  rw [lg_entry_eq]
  generalize (lg_sl ([.ref b]) ++ List.replicate (9 - (lg_sl ([.ref b])).length) Slot.unset).toArray = ls at hl ⊢
  have hl : lv_has ls 9 [(0, .ref b)] := hl
  have hb : c.code = code := hb
  refine va_new (ci := 7) (fs := [.null, .null, .null, .null, .null, .null, .null, .null, .null, .null, .null]) (C := RX7) (T := TX7) (N := 11) hx hb hts2 (fun w hw => gBig_of (guw_7 w hw) (gug_7 w hw)) tyX7 tyX7_ok hown (hts _ (gpc1 (List.mem_of_getElem? (i := 23) rfl))) (hts _ (gpc1 (List.mem_of_getElem? (i := 24) rfl))) (hts _ (gpc1 (List.mem_of_getElem? (i := 1) rfl))) hK hP hD hS hA rfl (fun j hj => by rcases (show j = 0 ∨ j = 1 ∨ j = 2 ∨ j = 3 ∨ j = 4 ∨ j = 5 ∨ j = 6 ∨ j = 7 ∨ j = 8 ∨ j = 9 ∨ j = 10 by omega) with rfl | rfl | rfl | rfl | rfl | rfl | rfl | rfl | rfl | rfl | rfl <;> rfl) (Nat.le_of_ble_eq_true rfl) (Nat.le_of_ble_eq_true rfl) (show decode code 0 = .ok (.new 8, 3) by decide +kernel) (fun q7 H hP hD hS => ?_)
  refine lv_dup hx hb (show decode code 3 = .ok (.dup, 1) by decide +kernel) rfl ?_
  have hP : va_P (gD E) vwCl ([] ++ [(q7, .inr (7, [.null, .null, .null, .null, .null, .null, .null, .null, .null, .null, .null]))]) H := hP
  have hD : va_D (gA E) ([] ++ [(q7, .inr (7, [.null, .null, .null, .null, .null, .null, .null, .null, .null, .null, .null]))]) := hD
  have hPc := gj_P hP
  have hFc := gj_F hD hS hA
  have gcode : Cond.code yX7_init cX7_init 1 none ∈ gBig := gBig_of (gpc1 (List.mem_of_getElem? (i := 27) rfl)) rfl
  have cw := cwI (R := room_1) (s := s) (args := #[Value.ref b]) (own := R_law) (index := 173) (y := yX7_init) (bytes := cX7_init) (maxL := 1) (mc := 68) (ms := 1524) (rm := { frames := 3, cells := 68, slots := 1524, locals := 52 }) 0 hts2 (gGood_code gcode) rfl rfl rfl (hts _ (gpc1 (List.mem_of_getElem? (i := 1) rfl))) (hts _ (gpc1 (List.mem_of_getElem? (i := 25) rfl))) (hts _ (gpc1 (List.mem_of_getElem? (i := 26) rfl))) rfl (by decide +kernel) ⟨Nat.le_of_ble_eq_true rfl, Nat.le_of_ble_eq_true rfl⟩
  refine va_callv (va_runI (Ts := gBig) (As := []) (rest := [.ref q7]) ⟨hx, hb, hml, hown, hts2⟩ (gi_7 (gl E) E q7 H.size) cw ⟨fun a U g mk z => gi_bl2 z, fun U hU hW => ⟨rfl, by rw [hU], by rw [hU]; exact hPc, ⟨va_K.moved hW.alike hK, hNi.warm hW⟩⟩⟩ rfl rfl hl.1 rfl (lv_room (Nat.le_of_ble_eq_true rfl)) (show decode code 4 = .ok (.invokespecial 173, 3) by decide +kernel) ⟨Nat.le_of_ble_eq_true rfl, Nat.le_of_ble_eq_true rfl⟩) hS (fun q _ h => hFc q h) hFc (fun u7 t H1 locs ht hvm _ hB hz1 hk1 hS => ?_)
  obtain ⟨hP1, hD1⟩ := hB
  rw [ht] at hP1
  obtain ⟨hP, hD⟩ := gjoin (W0 := []) hP hD hFc hk1 hP1 hD1
  clear hPc hFc cw hP1 hD1 ht hvm hz1 hk1
  generalize H1 = H at hP hS ⊢
  have hP : va_P (gD E) vwCl (gzw_7 E q7 u7) H := hP
  have hD : va_D (gA E) (gzw_7 E q7 u7) := hD
  refine lv_astore_n hx hb (show decode code 7 = .ok (.astore_n 1, 1) by decide +kernel) rfl hl (by decide) rfl (fun ls hl => ?_)
  have hl : lv_has ls 9 [(1, .ref q7), (0, .ref b)] := hl
  refine va_new (ci := 8) (fs := [.int 0, .int 0, .null, .null, .int 0, .null, .null, .int 0, .int 0, .int 0, .int 0, .int 0, .int 0, .int 0, .int 0, .int 0, .int 0, .null, .null, .int 0, .null, .int 0, .null, .null, .int 0, .null, .null, .null, .long 0, .long 0, .null, .null]) (C := RX8) (T := TX8) (N := 32) hx hb hts2 (fun w hw => gBig_of (guw_8 w hw) (gug_8 w hw)) tyX8 tyX8_ok hown (hts _ (gpc5 (List.mem_of_getElem? (i := 227) rfl))) (hts _ (gpc5 (List.mem_of_getElem? (i := 228) rfl))) (hts _ (gpc1 (List.mem_of_getElem? (i := 9) rfl))) hK hP hD hS hA rfl (fun j hj => by rcases (show j = 0 ∨ j = 1 ∨ j = 2 ∨ j = 3 ∨ j = 4 ∨ j = 5 ∨ j = 6 ∨ j = 7 ∨ j = 8 ∨ j = 9 ∨ j = 10 ∨ j = 11 ∨ j = 12 ∨ j = 13 ∨ j = 14 ∨ j = 15 ∨ j = 16 ∨ j = 17 ∨ j = 18 ∨ j = 19 ∨ j = 20 ∨ j = 21 ∨ j = 22 ∨ j = 23 ∨ j = 24 ∨ j = 25 ∨ j = 26 ∨ j = 27 ∨ j = 28 ∨ j = 29 ∨ j = 30 ∨ j = 31 by omega) with rfl | rfl | rfl | rfl | rfl | rfl | rfl | rfl | rfl | rfl | rfl | rfl | rfl | rfl | rfl | rfl | rfl | rfl | rfl | rfl | rfl | rfl | rfl | rfl | rfl | rfl | rfl | rfl | rfl | rfl | rfl | rfl <;> rfl) (Nat.le_of_ble_eq_true rfl) (Nat.le_of_ble_eq_true rfl) (show decode code 8 = .ok (.new 174, 3) by decide +kernel) (fun q8 H hP hD hS => ?_)
  refine lv_dup hx hb (show decode code 11 = .ok (.dup, 1) by decide +kernel) rfl ?_
  have hP : va_P (gD E) vwCl ((gzw_7 E q7 u7) ++ [(q8, .inr (8, [.int 0, .int 0, .null, .null, .int 0, .null, .null, .int 0, .int 0, .int 0, .int 0, .int 0, .int 0, .int 0, .int 0, .int 0, .int 0, .null, .null, .int 0, .null, .int 0, .null, .null, .int 0, .null, .null, .null, .long 0, .long 0, .null, .null]))]) H := hP
  have hD : va_D (gA E) ((gzw_7 E q7 u7) ++ [(q8, .inr (8, [.int 0, .int 0, .null, .null, .int 0, .null, .null, .int 0, .int 0, .int 0, .int 0, .int 0, .int 0, .int 0, .int 0, .int 0, .int 0, .null, .null, .int 0, .null, .int 0, .null, .null, .int 0, .null, .null, .null, .long 0, .long 0, .null, .null]))]) := hD
  have hPc := gj_P hP
  have hFc := gj_F hD hS hA
  have gcode : Cond.code yX8_init cX8_init 1 none ∈ gBig := gBig_of (gpc5 (List.mem_of_getElem? (i := 231) rfl)) rfl
  have cw := cwI (R := room_1) (s := s) (args := #[Value.ref b]) (own := R_law) (index := 176) (y := yX8_init) (bytes := cX8_init) (maxL := 1) (mc := 14) (ms := 6854) (rm := { frames := 1, cells := 14, slots := 6854, locals := 12 }) 0 hts2 (gGood_code gcode) rfl rfl rfl (hts _ (gpc1 (List.mem_of_getElem? (i := 9) rfl))) (hts _ (gpc5 (List.mem_of_getElem? (i := 229) rfl))) (hts _ (gpc5 (List.mem_of_getElem? (i := 230) rfl))) rfl (by decide +kernel) ⟨Nat.le_of_ble_eq_true rfl, Nat.le_of_ble_eq_true rfl⟩
  refine va_callv (va_runI (Ts := gBig) (As := []) (rest := [.ref q8]) ⟨hx, hb, hml, hown, hts2⟩ (gi_8 (gl E) E q8 H.size) cw ⟨fun a U g mk z => gi_bl1 z, fun U hU hW => ⟨rfl, by rw [hU], by rw [hU]; exact hPc, va_K.moved hW.alike hK⟩⟩ rfl rfl hl.1 rfl (lv_room (Nat.le_of_ble_eq_true rfl)) (show decode code 12 = .ok (.invokespecial 176, 3) by decide +kernel) ⟨Nat.le_of_ble_eq_true rfl, Nat.le_of_ble_eq_true rfl⟩) hS (fun q _ h => hFc q h) hFc (fun u8 t H1 locs ht hvm _ hB hz1 hk1 hS => ?_)
  obtain ⟨hP1, hD1⟩ := hB
  rw [ht] at hP1
  obtain ⟨hP, hD⟩ := gjoin (W0 := (gzw_7 E q7 u7)) hP hD hFc hk1 hP1 hD1
  clear hPc hFc cw hP1 hD1 ht hvm hz1 hk1
  generalize H1 = H at hP hS ⊢
  have hP : va_P (gD E) vwCl (gzw_7 E q7 u7 ++ gzw_8 E q8 u8) H := hP
  have hD : va_D (gA E) (gzw_7 E q7 u7 ++ gzw_8 E q8 u8) := hD
  refine lv_astore_n hx hb (show decode code 15 = .ok (.astore_n 2, 1) by decide +kernel) rfl hl (by decide) rfl (fun ls hl => ?_)
  have hl : lv_has ls 9 [(2, .ref q8), (1, .ref q7), (0, .ref b)] := hl
  refine lv_iconst (v := 1) hx hb (show decode code 16 = .ok (.iconst 1, 1) by decide +kernel) (by decide) ?_
  refine va_newa (atype := .long) (ty := .long) (a0 := (1, .inr (.inl (fun _ => 0)))) (N' := 1) hx hb (hts _ (gpc1 (List.mem_of_getElem? (i := 105) rfl))) rfl hK hP hD hS hA (fun _ => rfl) (by decide) rfl (Nat.le_of_ble_eq_true rfl) (Nat.le_of_ble_eq_true rfl) (Nat.le_of_ble_eq_true rfl) (show decode code 17 = .ok (.newarray .long, 2) by decide +kernel) (fun x cA H hK2 hP hD hS => ?_)
  have hcA : cA = gca E 1 := gca_eq hK2 1 rfl rfl
  subst hcA
  clear hK2
  refine lv_astore_n hx hb (show decode code 19 = .ok (.astore_n 3, 1) by decide +kernel) rfl hl (by decide) rfl (fun ls hl => ?_)
  have hl : lv_has ls 9 [(3, .ref x), (2, .ref q8), (1, .ref q7), (0, .ref b)] := hl
  refine lv_iconst (v := 1) hx hb (show decode code 20 = .ok (.iconst 1, 1) by decide +kernel) (by decide) ?_
  refine va_newa (atype := .double) (ty := .double) (a0 := (1, .inr (.inr (.inr (.inl (fun _ => 0)))))) (N' := 1) hx hb (hts _ (gpc8 (List.mem_of_getElem? (i := 113) rfl))) rfl hK hP hD hS hA (fun _ => rfl) (by decide) rfl (Nat.le_of_ble_eq_true rfl) (Nat.le_of_ble_eq_true rfl) (Nat.le_of_ble_eq_true rfl) (show decode code 21 = .ok (.newarray .double, 2) by decide +kernel) (fun y cA H hK2 hP hD hS => ?_)
  have hcA : cA = gca E 4 := gca_eq hK2 4 rfl rfl
  subst hcA
  clear hK2
  refine lv_astore hx hb (show decode code 23 = .ok (.astore 4, 2) by decide +kernel) hl (by decide) rfl (fun ls hl => ?_)
  have hl : lv_has ls 9 [(4, .ref y), (3, .ref x), (2, .ref q8), (1, .ref q7), (0, .ref b)] := hl
  refine lv_iconst (v := 0) hx hb (show decode code 25 = .ok (.iconst 0, 1) by decide +kernel) (by decide) ?_
  refine lv_istore hx hb (show decode code 26 = .ok (.istore 5, 2) by decide +kernel) hl (by decide) rfl (fun ls hl => ?_)
  have hl : lv_has ls 9 [(5, .int 0), (4, .ref y), (3, .ref x), (2, .ref q8), (1, .ref q7), (0, .ref b)] := hl
  have hR := gRep0 (E := E) (q7 := q7) (u7 := u7) (q8 := q8) (u8 := u8) (x := x) (y := y) (H := H) (by unfold gW0; simpa only [List.append_assoc] using hP) (by unfold gW0; simpa only [List.append_assoc] using hD)
  have hloop := law_loop (E := E) (Q := fun v _ _ _ => v = .inl (.int (gi 1))) (X := fun _ _ _ _ => False) hL (fun _ _ _ => rfl) 86 8423 (by decide) (by decide) 513 0 gI0 gJ0 gB00 86 8423 rfl (by decide) (by omega) rl0 (Nat.le_refl _) (Nat.le_refl _)
  have hlm : (lls (gi ((6 * 0 : Nat) : Int))).map (gcp (gad0 E q7 u7 q8 u8 x y)) = [(0, .ref b), (1, .ref q7), (2, .ref q8), (3, .ref x), (4, .ref y), (5, .int 0)] := by
    show [(0, Value.ref (gax E (0, 0, 0))), (1, .ref q7), (2, .ref q8), (3, .ref x), (4, .ref y), (5, .int (gi ((6 * 0 : Nat) : Int)))] = _
    rw [e3]
    rfl
  have hl2 : lv_has ls (hml 313) ((lls (gi ((6 * 0 : Nat) : Int))).map (gcp (gad0 E q7 u7 q8 u8 x y))) := by
    refine ⟨hl.1, hl.2.1, fun q hq => hl.2.2 q ?_⟩
    rw [hlm] at hq
    simp only [List.mem_cons, List.not_mem_nil, or_false] at hq ⊢
    rcases hq with h | h | h | h | h | h <;> simp [h]
  have hT : c.exceptionTable.toList = tableOf (hht 313) := hT0.trans (by decide +kernel)
  have hv : ∀ q ∈ lls (gi ((6 * 0 : Nat) : Int)), gVv gB00 q.2 := by
    have hp : ∀ k, (k, 0, 0) ∈ gperm → gVv gB00 (.inr (k, 0, 0)) := fun k hk => Or.inr (Or.inr (Or.inr (by rw [gids0]; exact hk)))
    intro q hq
    simp only [lls, List.mem_cons, List.not_mem_nil, or_false] at hq
    rcases hq with rfl | rfl | rfl | rfl | rfl | rfl
    · exact Or.inl rfl
    · exact hp 3 (by decide +kernel)
    · exact hp 31 (by decide +kernel)
    · exact hp 46 (by decide +kernel)
    · exact hp 47 (by decide +kernel)
    · trivial
  have hroom : room_1 = hrm 313 := by decide +kernel
  refine gz_end (ad0 := gad0 E q7 u7 q8 u8 x y) (Bs := gB00) e2 ?_
  rw [hroom]
  exact hloop (by decide +kernel) (by decide +kernel) p e s m _ below meth c (gad0 E q7 u7 q8 u8 x y) gB00 ⟨hx, hb, hr, hml, hown, hts2, hlocks, hE⟩ hT H _ ls (gad0 E q7 u7 q8 u8 x y) ⟨hR, hS, hl2, fun _ _ => rfl, fun n h => h, hv, fun v h => (by cases h)⟩
