/-! ===== a row of code is what it seems: checks, and what they give ===== -/
theorem gCl_in {i : Nat} : gcls 7 = RX7 := rfl
theorem gnm_fit : ∀ n ∈ gnames, Bundle.fit n = true := by decide +kernel
theorem gThr_1 {is : Nat} (h : ∃ tx, (RX7, is, tx) ∈ gTxt) : gThr RX7 81 is 85 1 := by
  refine ⟨gCl_ok ("ToeplitzLab", 81, "java/lang/IndexOutOfBoundsException") (by simp [gCl, gCl_3, gCl_4]), gIn_ok "java/lang/IndexOutOfBoundsException" (by simp [gIn, gIn_1]), h, fun w hw => ?_, ?_, by decide +kernel, gnm_fit, by decide⟩
  · cases hg : goodWord w with
    | true => exact Or.inl (gBig_of (gat_1 w (List.mem_filter.mpr ⟨hw, hg⟩)) hg)
    | false => exact Or.inr (gan_1 w (List.mem_filter.mpr ⟨hw, by rw [hg]; rfl⟩))
  · intro w hw
    rcases List.mem_cons.mp hw with rfl | hw
    · rfl
    · rcases List.mem_cons.mp hw with rfl | hw
      · rfl
      · exact gag_1 w hw
theorem gThr_2 {is : Nat} (h : ∃ tx, (RX7, is, tx) ∈ gTxt) : gThr RX7 92 is 96 2 := by
  refine ⟨gCl_ok ("ToeplitzLab", 92, "java/lang/IllegalArgumentException") (by simp [gCl, gCl_3, gCl_4]), gIn_ok "java/lang/IllegalArgumentException" (by simp [gIn, gIn_1]), h, fun w hw => ?_, ?_, by decide +kernel, gnm_fit, by decide⟩
  · cases hg : goodWord w with
    | true => exact Or.inl (gBig_of (gat_2 w (List.mem_filter.mpr ⟨hw, hg⟩)) hg)
    | false => exact Or.inr (gan_2 w (List.mem_filter.mpr ⟨hw, by rw [hg]; rfl⟩))
  · intro w hw
    rcases List.mem_cons.mp hw with rfl | hw
    · rfl
    · rcases List.mem_cons.mp hw with rfl | hw
      · rfl
      · exact gag_2 w hw
theorem gThr_0 {is : Nat} (h : ∃ tx, (RX7, is, tx) ∈ gTxt) : gThr RX7 310 is 314 0 := by
  refine ⟨gCl_ok ("ToeplitzLab", 310, "java/lang/IllegalStateException") (by simp [gCl, gCl_3, gCl_4]), gIn_ok "java/lang/IllegalStateException" (by simp [gIn, gIn_1]), h, fun w hw => ?_, ?_, by decide +kernel, gnm_fit, by decide⟩
  · cases hg : goodWord w with
    | true => exact Or.inl (gBig_of (gat_0 w (List.mem_filter.mpr ⟨hw, hg⟩)) hg)
    | false => exact Or.inr (gan_0 w (List.mem_filter.mpr ⟨hw, by rw [hg]; rfl⟩))
  · intro w hw
    rcases List.mem_cons.mp hw with rfl | hw
    · rfl
    · rcases List.mem_cons.mp hw with rfl | hw
      · rfl
      · exact gag_0 w hw
def gthrT : List (Nat × Nat × Nat × Nat) := [(81, 83, 85, 1), (81, 192, 85, 1), (81, 220, 85, 1), (81, 273, 85, 1), (81, 325, 85, 1), (81, 327, 85, 1), (81, 329, 85, 1), (81, 331, 85, 1), (81, 333, 85, 1), (81, 335, 85, 1), (81, 344, 85, 1), (92, 94, 96, 2), (92, 201, 96, 2), (92, 209, 96, 2), (92, 275, 96, 2), (92, 289, 96, 2), (92, 291, 96, 2), (92, 293, 96, 2), (92, 295, 96, 2), (92, 301, 96, 2), (92, 337, 96, 2), (92, 339, 96, 2), (310, 312, 314, 0), (310, 321, 314, 0), (310, 323, 314, 0)]
theorem gthrT_ok : ∀ t ∈ gthrT, gThr RX7 t.1 t.2.1 t.2.2.1 t.2.2.2 := by
  intro t ht
  simp only [gthrT, List.mem_cons, List.not_mem_nil, or_false] at ht
  rcases ht with rfl | rfl | rfl | rfl | rfl | rfl | rfl | rfl | rfl | rfl | rfl | rfl | rfl | rfl | rfl | rfl | rfl | rfl | rfl | rfl | rfl | rfl | rfl | rfl | rfl
  · exact gThr_1 ⟨_, List.mem_of_getElem? (i := 0) rfl⟩
  · exact gThr_1 ⟨_, List.mem_of_getElem? (i := 9) rfl⟩
  · exact gThr_1 ⟨_, List.mem_of_getElem? (i := 12) rfl⟩
  · exact gThr_1 ⟨_, List.mem_of_getElem? (i := 15) rfl⟩
  · exact gThr_1 ⟨_, List.mem_of_getElem? (i := 4) rfl⟩
  · exact gThr_1 ⟨_, List.mem_of_getElem? (i := 8) rfl⟩
  · exact gThr_1 ⟨_, List.mem_of_getElem? (i := 14) rfl⟩
  · exact gThr_1 ⟨_, List.mem_of_getElem? (i := 3) rfl⟩
  · exact gThr_1 ⟨_, List.mem_of_getElem? (i := 5) rfl⟩
  · exact gThr_1 ⟨_, List.mem_of_getElem? (i := 23) rfl⟩
  · exact gThr_1 ⟨_, List.mem_of_getElem? (i := 6) rfl⟩
  · exact gThr_2 ⟨_, List.mem_of_getElem? (i := 1) rfl⟩
  · exact gThr_2 ⟨_, List.mem_of_getElem? (i := 10) rfl⟩
  · exact gThr_2 ⟨_, List.mem_of_getElem? (i := 11) rfl⟩
  · exact gThr_2 ⟨_, List.mem_of_getElem? (i := 16) rfl⟩
  · exact gThr_2 ⟨_, List.mem_of_getElem? (i := 17) rfl⟩
  · exact gThr_2 ⟨_, List.mem_of_getElem? (i := 18) rfl⟩
  · exact gThr_2 ⟨_, List.mem_of_getElem? (i := 19) rfl⟩
  · exact gThr_2 ⟨_, List.mem_of_getElem? (i := 20) rfl⟩
  · exact gThr_2 ⟨_, List.mem_of_getElem? (i := 21) rfl⟩
  · exact gThr_2 ⟨_, List.mem_of_getElem? (i := 7) rfl⟩
  · exact gThr_2 ⟨_, List.mem_of_getElem? (i := 13) rfl⟩
  · exact gThr_0 ⟨_, List.mem_of_getElem? (i := 22) rfl⟩
  · exact gThr_0 ⟨_, List.mem_of_getElem? (i := 24) rfl⟩
  · exact gThr_0 ⟨_, List.mem_of_getElem? (i := 2) rfl⟩
def gsz (ci : Nat) : Nat := ([2, 6, 3, 14, 2, 2, 11, 11, 2, 6] : List Nat).getD ci 0
theorem gFl_of {own : String} {n ci b : Nat} (hci : ci < 10) (hb2 : b < gsz ci) (hw : Cond.fieldLink own n (gTX ci b).1 (gTX ci b).2.1 (gTX ci b).2.2.1 ∈ gBig ∨ ∃ host, Cond.fieldLinkNest own n (gTX ci b).1 (gTX ci b).2.1 (gTX ci b).2.2.1 host ∈ gNst) : gFl own n ci b := by
  match ci, hci with
  | 0, _ => exact ⟨RX0, TX0, 2, tyX0, rfl, fun w h => gBig_of (guw_0 w h) (gug_0 w h), hb2, tyX0_ok, nmX0, hw⟩
  | 1, _ => exact ⟨RX1, TX1, 6, tyX1, rfl, fun w h => gBig_of (guw_1 w h) (gug_1 w h), hb2, tyX1_ok, nmX1, hw⟩
  | 2, _ => exact ⟨RX2, TX2, 3, tyX2, rfl, fun w h => gBig_of (guw_2 w h) (gug_2 w h), hb2, tyX2_ok, nmX2, hw⟩
  | 3, _ => exact ⟨RX3, TX3, 14, tyX3, rfl, fun w h => gBig_of (guw_3 w h) (gug_3 w h), hb2, tyX3_ok, nmX3, hw⟩
  | 4, _ => exact ⟨RX4, TX4, 2, tyX4, rfl, fun w h => gBig_of (guw_4 w h) (gug_4 w h), hb2, tyX4_ok, nmX4, hw⟩
  | 5, _ => exact ⟨RX5, TX5, 2, tyX5, rfl, fun w h => gBig_of (guw_5 w h) (gug_5 w h), hb2, tyX5_ok, nmX5, hw⟩
  | 6, _ => exact ⟨RX6, TX6, 11, tyX6, rfl, fun w h => gBig_of (guw_6 w h) (gug_6 w h), hb2, tyX6_ok, nmX6, hw⟩
  | 7, _ => exact ⟨RX7, TX7, 11, tyX7, rfl, fun w h => gBig_of (guw_7 w h) (gug_7 w h), hb2, tyX7_ok, nmX7, hw⟩
  | 8, _ => exact ⟨RX8, TX8, 2, tyX8, rfl, fun w h => gBig_of (guw_8 w h) (gug_8 w h), hb2, tyX8_ok, nmX8, hw⟩
  | 9, _ => exact ⟨RX9, TX9, 6, tyX9, rfl, fun w h => gBig_of (guw_9 w h) (gug_9 w h), hb2, tyX9_ok, nmX9, hw⟩
def gFWt : List (Nat × Nat × Nat) := [(1, 1, 0), (1, 2, 0), (1, 3, 0), (1, 4, 0), (1, 5, 0), (2, 1, 0), (2, 2, 0), (3, 1, 0), (3, 3, 0), (3, 4, 0), (3, 5, 0), (3, 6, 0), (3, 7, 0), (3, 8, 0), (3, 9, 0), (3, 10, 0), (3, 11, 0), (3, 12, 0), (3, 13, 0), (6, 0, 0), (6, 1, 0), (6, 5, 0), (6, 6, 1), (6, 9, 0), (8, 1, 0), (9, 4, 0), (9, 5, 0)]
theorem gFWt_ok : ∀ t ∈ gFWt, gFw t.1 t.2.1 (gFt t.2.2) := by
  intro t ht
  simp only [gFWt, List.mem_cons, List.not_mem_nil, or_false] at ht
  rcases ht with rfl | rfl | rfl | rfl | rfl | rfl | rfl | rfl | rfl | rfl | rfl | rfl | rfl | rfl | rfl | rfl | rfl | rfl | rfl | rfl | rfl | rfl | rfl | rfl | rfl | rfl | rfl
  · exact ⟨RX1, TX1, 6, rfl, rfl, tyX1_ok 1 (by decide)⟩
  · exact ⟨RX1, TX1, 6, rfl, rfl, tyX1_ok 2 (by decide)⟩
  · exact ⟨RX1, TX1, 6, rfl, rfl, tyX1_ok 3 (by decide)⟩
  · exact ⟨RX1, TX1, 6, rfl, rfl, tyX1_ok 4 (by decide)⟩
  · exact ⟨RX1, TX1, 6, rfl, rfl, tyX1_ok 5 (by decide)⟩
  · exact ⟨RX2, TX2, 3, rfl, rfl, tyX2_ok 1 (by decide)⟩
  · exact ⟨RX2, TX2, 3, rfl, rfl, tyX2_ok 2 (by decide)⟩
  · exact ⟨RX3, TX3, 14, rfl, rfl, tyX3_ok 1 (by decide)⟩
  · exact ⟨RX3, TX3, 14, rfl, rfl, tyX3_ok 3 (by decide)⟩
  · exact ⟨RX3, TX3, 14, rfl, rfl, tyX3_ok 4 (by decide)⟩
  · exact ⟨RX3, TX3, 14, rfl, rfl, tyX3_ok 5 (by decide)⟩
  · exact ⟨RX3, TX3, 14, rfl, rfl, tyX3_ok 6 (by decide)⟩
  · exact ⟨RX3, TX3, 14, rfl, rfl, tyX3_ok 7 (by decide)⟩
  · exact ⟨RX3, TX3, 14, rfl, rfl, tyX3_ok 8 (by decide)⟩
  · exact ⟨RX3, TX3, 14, rfl, rfl, tyX3_ok 9 (by decide)⟩
  · exact ⟨RX3, TX3, 14, rfl, rfl, tyX3_ok 10 (by decide)⟩
  · exact ⟨RX3, TX3, 14, rfl, rfl, tyX3_ok 11 (by decide)⟩
  · exact ⟨RX3, TX3, 14, rfl, rfl, tyX3_ok 12 (by decide)⟩
  · exact ⟨RX3, TX3, 14, rfl, rfl, tyX3_ok 13 (by decide)⟩
  · exact ⟨RX6, TX6, 11, rfl, rfl, tyX6_ok 0 (by decide)⟩
  · exact ⟨RX6, TX6, 11, rfl, rfl, tyX6_ok 1 (by decide)⟩
  · exact ⟨RX6, TX6, 11, rfl, rfl, tyX6_ok 5 (by decide)⟩
  · exact ⟨RX6, TX6, 11, rfl, rfl, tyX6_ok 6 (by decide)⟩
  · exact ⟨RX6, TX6, 11, rfl, rfl, tyX6_ok 9 (by decide)⟩
  · exact ⟨RX8, TX8, 2, rfl, rfl, tyX8_ok 1 (by decide)⟩
  · exact ⟨RX9, TX9, 6, rfl, rfl, tyX9_ok 4 (by decide)⟩
  · exact ⟨RX9, TX9, 6, rfl, rfl, tyX9_ok 5 (by decide)⟩
def gnpT : List Nat := [2, 1, 3, 2, 2, 2, 4, 0, 2, 3, 0, 1, 3, 3, 2, 1, 1, 1, 1, 0, 0, 1, 1, 0, 0, 1, 0, 2, 3, 1, 1, 0, 3, 0, 1, 1, 2, 1, 2, 2, 3, 2, 5, 3, 0, 1, 1, 2, 0, 0, 2, 1, 5, 1, 0, 0, 0, 0, 0, 1, 2, 1, 1, 1, 0, 0, 0, 1, 0, 0, 0, 3, 3, 3, 1, 4, 0, 1, 2, 1, 0, 0, 0, 2, 1, 1, 0, 1, 0, 0, 0, 0, 1, 2, 1, 0, 0, 2, 2, 2, 2, 1, 3, 0, 0, 1, 0, 0, 1, 1, 0, 1, 2, 1, 1, 1, 1, 2, 1, 0, 1, 2, 2, 0, 1, 1, 1, 0, 1, 1, 0, 2, 2, 2, 1, 1, 2, 2, 2, 2, 2, 2, 1, 1, 0, 1, 0, 1, 2, 2, 5, 5, 2, 3, 3, 3, 2, 2, 2, 0, 0, 0, 0, 0, 0, 0, 0, 0, 0, 0, 1, 1, 0, 0, 0, 0, 0, 0, 0, 0, 0, 0, 0, 0, 0, 0, 0, 0, 0, 0, 0, 0, 0, 0, 0, 0, 0, 0, 0, 0, 0, 0, 0, 0, 0, 0, 0, 0, 0, 0, 0, 0, 0, 0, 0, 0, 0, 0, 0, 0, 0, 0, 0, 0, 0, 0, 0, 0, 0, 0, 0, 0, 0, 0, 0, 0, 0, 0, 0, 0, 0, 0, 0, 0, 0, 0, 0, 0, 0, 0, 0, 0, 0, 0, 0, 0, 0, 0, 0, 0, 0, 0, 0, 0, 0, 0, 0, 0, 0, 0, 0, 0, 0, 0, 0, 0, 0, 0, 0, 0, 0, 0, 0, 0, 0, 0, 0, 0, 0, 0, 0, 0, 0, 0, 0, 0, 0, 0, 0, 0, 0, 0, 0, 0, 2, 1, 1, 2, 2, 2, 2, 0, 1, 1]
def hnp (y : Nat) : Nat := gnpT.getD y 0
set_option maxRecDepth 100000 in
theorem hnp_ok : ∀ y, y < 314 → (parseMethodDescriptor (hy y).desc).map (fun d => d.parameters.length) = some (hnp y) := by decide +kernel
set_option maxRecDepth 100000 in
theorem hcl_l : (List.range 314).map (fun y => (hy y).cls) = (List.range 314).map (fun y => gcls (hcl y)) := rfl
theorem hcl_ok {y : Nat} (h : y < 314) : (hy y).cls = gcls (hcl y) := by
  have h1 := congrArg (fun l => l[y]?) hcl_l
  simp only [List.getElem?_map, List.getElem?_range h, Option.map_some, Option.some.injEq] at h1
  exact h1
theorem gcls_n : ∀ i, i < 15 → gcls i ≠ "java/lang/invoke/MethodHandle" ∧ gcls i ≠ "java/lang/invoke/VarHandle" := by decide +kernel
theorem hcl_lt : ∀ y, y < 314 → hcl y < 15 := by decide +kernel
theorem gIn_cl : ∀ i, i < 15 → Cond.initialized (gcls i) ∈ gBig := by
  intro i hi
  match i, hi with
  | 0, _ => exact gBig_of (gpc1 (List.mem_of_getElem? (i := 21) rfl)) rfl
  | 1, _ => exact gBig_of (gpc1 (List.mem_of_getElem? (i := 19) rfl)) rfl
  | 2, _ => exact gBig_of (gpc1 (List.mem_of_getElem? (i := 18) rfl)) rfl
  | 3, _ => exact gBig_of (gpc1 (List.mem_of_getElem? (i := 16) rfl)) rfl
  | 4, _ => exact gBig_of (gpc1 (List.mem_of_getElem? (i := 22) rfl)) rfl
  | 5, _ => exact gBig_of (gpc1 (List.mem_of_getElem? (i := 20) rfl)) rfl
  | 6, _ => exact gBig_of (gpc1 (List.mem_of_getElem? (i := 17) rfl)) rfl
  | 7, _ => exact gBig_of (gpc1 (List.mem_of_getElem? (i := 15) rfl)) rfl
  | 8, _ => exact gBig_of (gpc1 (List.mem_of_getElem? (i := 1) rfl)) rfl
  | 9, _ => exact gBig_of (gpc1 (List.mem_of_getElem? (i := 0) rfl)) rfl
  | 10, _ => exact gBig_of (gpc1 (List.mem_of_getElem? (i := 8) rfl)) rfl
  | 11, _ => exact gBig_of (gpc1 (List.mem_of_getElem? (i := 9) rfl)) rfl
  | 12, _ => exact gBig_of (gpc1 (List.mem_of_getElem? (i := 5) rfl)) rfl
  | 13, _ => exact gBig_of (gpc1 (List.mem_of_getElem? (i := 2) rfl)) rfl
  | 14, _ => exact gBig_of (gpc1 (List.mem_of_getElem? (i := 14) rfl)) rfl
theorem gCe_ok {y2 : Nat} (h : y2 < 314) : gCe y2 (hnp y2) := by
  unfold gCe
  rw [hcl_ok h]
  exact ⟨(gcls_n _ (hcl_lt y2 h)).1, (gcls_n _ (hcl_lt y2 h)).2, hnp_ok y2 h⟩
theorem gin_y {y2 : Nat} (h : y2 < 314) : Cond.initialized (hy y2).cls ∈ gBig := by
  rw [hcl_ok h]
  exact gIn_cl _ (hcl_lt y2 h)
def gNlink : List (Nat × Nat × Nat) := [(1, 41, 121), (3, 94, 120), (4, 62, 121), (5, 50, 121)]
theorem gNlink_ok : ∀ t ∈ gNlink, ∃ host, Cond.methodLinkNest (gcls t.1) t.2.1 (hy t.2.2) host ∈ gNst := by
  intro t ht
  simp only [gNlink, List.mem_cons, List.not_mem_nil, or_false] at ht
  rcases ht with rfl | rfl | rfl | rfl
  · exact ⟨"ToeplitzLab", List.mem_of_getElem? (i := 1) rfl⟩
  · exact ⟨"ToeplitzLab", List.mem_of_getElem? (i := 4) rfl⟩
  · exact ⟨"ToeplitzLab", List.mem_of_getElem? (i := 2) rfl⟩
  · exact ⟨"ToeplitzLab", List.mem_of_getElem? (i := 3) rfl⟩
