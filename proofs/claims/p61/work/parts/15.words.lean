/-! ===== which words the tables hold, by their places ===== -/
theorem gsubl {α : Type} {L : List α} {f : α → Cond} {is : List Nat} {T : List Cond} (h : L.map f = is.filterMap (fun i => T[i]?)) : ∀ t ∈ L, f t ∈ T := by
  intro t ht
  have h1 : f t ∈ L.map f := List.mem_map.mpr ⟨t, ht, rfl⟩
  rw [h] at h1
  obtain ⟨i, -, hi⟩ := List.mem_filterMap.mp h1
  exact List.mem_of_getElem? hi
theorem gpc1 {w : Cond} (h : w ∈ tables_1_1) : w ∈ lw_tbl := List.mem_append_right _ (List.mem_append_left _ h)
theorem gpc2 {w : Cond} (h : w ∈ tables_1_2) : w ∈ lw_tbl := List.mem_append_right _ (List.mem_append_right _ (List.mem_append_left _ h))
theorem gpc3 {w : Cond} (h : w ∈ tables_1_3) : w ∈ lw_tbl := List.mem_append_right _ (List.mem_append_right _ (List.mem_append_right _ (List.mem_append_left _ h)))
theorem gpc4 {w : Cond} (h : w ∈ tables_1_4) : w ∈ lw_tbl := List.mem_append_right _ (List.mem_append_right _ (List.mem_append_right _ (List.mem_append_right _ (List.mem_append_left _ h))))
theorem gpc5 {w : Cond} (h : w ∈ tables_1_5) : w ∈ lw_tbl := List.mem_append_right _ (List.mem_append_right _ (List.mem_append_right _ (List.mem_append_right _ (List.mem_append_right _ (List.mem_append_left _ h)))))
theorem gpc6 {w : Cond} (h : w ∈ tables_1_6) : w ∈ lw_tbl := List.mem_append_right _ (List.mem_append_right _ (List.mem_append_right _ (List.mem_append_right _ (List.mem_append_right _ (List.mem_append_right _ (h))))))
theorem gBig_of {w : Cond} (h : w ∈ lw_tbl) (h2 : goodWord w = true) : w ∈ gBig := List.mem_filter.mpr ⟨h, h2⟩
def gML_2 : List (Nat × Nat × Nat) := [(9, 282, 54), (9, 285, 55), (9, 151, 57), (9, 159, 58), (9, 262, 96), (9, 265, 107), (9, 179, 131)]
set_option maxRecDepth 100000 in
set_option maxHeartbeats 4000000 in
theorem gML_2_w : gML_2.map (fun t : Nat × Nat × Nat => Cond.methodLink (gcls t.1) t.2.1 (hy t.2.2)) = ([45, 49, 53, 57, 61, 65, 82] : List Nat).filterMap (fun i => tables_1_2[i]?) := rfl
def gML_3 : List (Nat × Nat × Nat) := [(9, 278, 149), (9, 23, 148), (9, 7, 311), (9, 13, 312), (9, 17, 52), (7, 77, 21), (9, 29, 53), (7, 88, 22), (3, 26, 308), (3, 32, 307), (3, 53, 44), (6, 42, 310), (6, 51, 48), (6, 63, 309), (3, 56, 31), (3, 152, 32), (3, 144, 34), (3, 156, 33), (3, 59, 23)]
set_option maxRecDepth 100000 in
set_option maxHeartbeats 4000000 in
theorem gML_3_w : gML_3.map (fun t : Nat × Nat × Nat => Cond.methodLink (gcls t.1) t.2.1 (hy t.2.2)) = ([94, 97, 100, 101, 119, 123, 127, 198, 202, 203, 204, 208, 211, 215, 219, 223, 227, 231, 235] : List Nat).filterMap (fun i => tables_1_3[i]?) := rfl
def gML_4 : List (Nat × Nat × Nat) := [(3, 78, 29), (3, 139, 311), (3, 148, 312), (3, 72, 30), (3, 82, 28), (3, 66, 24), (3, 102, 25), (3, 106, 26), (3, 132, 47), (3, 117, 27), (3, 69, 48), (7, 100, 45), (7, 104, 20), (9, 190, 151), (9, 139, 150), (9, 33, 59), (7, 119, 110), (7, 122, 114), (7, 125, 46), (9, 36, 60), (7, 129, 111), (9, 40, 61), (9, 43, 62), (9, 46, 63), (7, 138, 115), (7, 141, 122), (7, 145, 6), (1, 16, 308), (1, 22, 307), (1, 35, 46), (7, 341, 304), (7, 149, 11), (1, 50, 12), (1, 54, 13), (1, 61, 15), (1, 57, 14), (7, 174, 10), (9, 49, 67), (7, 156, 124), (7, 152, 123), (9, 52, 71), (7, 167, 117), (7, 171, 47), (9, 56, 72), (7, 177, 112), (7, 180, 125), (7, 183, 8), (9, 59, 73), (7, 186, 17), (1, 64, 8), (1, 67, 9), (9, 62, 74), (7, 189, 126), (7, 346, 41)]
set_option maxRecDepth 100000 in
set_option maxHeartbeats 4000000 in
theorem gML_4_w : gML_4.map (fun t : Nat × Nat × Nat => Cond.methodLink (gcls t.1) t.2.1 (hy t.2.2)) = ([0, 4, 5, 6, 10, 20, 25, 29, 33, 39, 44, 61, 65, 69, 75, 78, 82, 102, 107, 111, 115, 120, 124, 128, 132, 137, 141, 145, 146, 147, 151, 154, 158, 162, 166, 170, 174, 178, 182, 186, 191, 195, 199, 200, 204, 209, 213, 217, 221, 225, 226, 230, 234, 238] : List Nat).filterMap (fun i => tables_1_4[i]?) := rfl
def gML_5 : List (Nat × Nat × Nat) := [(5, 19, 7), (5, 25, 307), (5, 31, 8), (5, 34, 42), (5, 42, 15), (5, 38, 43), (5, 53, 9), (9, 65, 75), (7, 194, 40), (9, 69, 77), (7, 198, 127), (7, 349, 9), (9, 72, 78), (7, 203, 119), (7, 255, 35), (4, 31, 6), (4, 35, 9), (4, 39, 11), (7, 206, 36), (4, 43, 7), (4, 47, 8), (9, 75, 79), (7, 211, 16), (9, 78, 83), (7, 222, 50), (9, 81, 84), (9, 84, 85), (9, 88, 87), (7, 238, 118), (7, 244, 0), (0, 34, 3), (0, 66, 306), (0, 38, 4), (9, 91, 92), (7, 261, 128), (9, 94, 93), (7, 264, 113), (7, 267, 129), (7, 353, 121), (9, 97, 94), (9, 100, 97), (9, 103, 98), (7, 280, 18), (2, 22, 45), (2, 29, 308), (7, 283, 48), (9, 106, 99), (9, 109, 100), (9, 112, 101), (7, 286, 120), (9, 115, 102), (9, 118, 103), (9, 121, 104), (7, 217, 49), (7, 297, 39), (4, 83, 37), (4, 51, 308), (4, 56, 36), (4, 73, 38), (4, 80, 46), (4, 87, 1), (0, 45, 0), (0, 49, 5), (0, 54, 2), (0, 62, 46), (4, 93, 51), (6, 68, 305), (6, 74, 307), (9, 124, 105), (7, 303, 308), (7, 251, 1), (9, 127, 106), (7, 306, 19)]
set_option maxRecDepth 100000 in
set_option maxHeartbeats 4000000 in
theorem gML_5_w : gML_5.map (fun t : Nat × Nat × Nat => Cond.methodLink (gcls t.1) t.2.1 (hy t.2.2)) = ([2, 6, 7, 8, 12, 14, 18, 19, 24, 28, 32, 36, 38, 42, 46, 50, 51, 52, 53, 57, 58, 59, 64, 68, 73, 77, 81, 85, 89, 93, 97, 100, 105, 109, 113, 117, 121, 126, 130, 131, 135, 141, 145, 150, 151, 152, 153, 157, 161, 165, 167, 172, 177, 181, 187, 191, 195, 196, 198, 202, 203, 207, 208, 212, 216, 217, 221, 224, 225, 230, 231, 232, 236] : List Nat).filterMap (fun i => tables_1_5[i]?) := rfl
def gML_6 : List (Nat × Nat × Nat) := [(9, 130, 108), (7, 318, 116), (9, 133, 109), (9, 136, 64), (9, 288, 152), (9, 167, 147), (13, 83, 132), (9, 172, 132), (9, 175, 95), (9, 301, 153), (9, 184, 81), (9, 291, 154), (9, 194, 143), (13, 90, 142), (13, 86, 136), (13, 86, 137), (13, 86, 138), (13, 86, 139), (13, 86, 140), (13, 86, 141), (13, 77, 171), (13, 74, 134), (13, 70, 133), (9, 195, 307), (9, 200, 66), (9, 203, 68), (7, 159, 307), (9, 206, 69), (9, 209, 65), (9, 212, 146), (13, 96, 170), (13, 99, 145), (9, 213, 142), (9, 216, 141), (9, 220, 70), (9, 295, 156), (9, 225, 144), (13, 93, 143), (9, 226, 157), (9, 243, 145), (9, 236, 134), (9, 247, 170), (9, 240, 80), (9, 229, 135), (9, 232, 155), (9, 298, 158), (9, 252, 305)]
set_option maxRecDepth 100000 in
set_option maxHeartbeats 4000000 in
theorem gML_6_w : gML_6.map (fun t : Nat × Nat × Nat => Cond.methodLink (gcls t.1) t.2.1 (hy t.2.2)) = ([1, 5, 9, 14, 19, 22, 26, 30, 31, 35, 38, 43, 46, 50, 54, 54, 54, 54, 54, 54, 58, 62, 66, 70, 71, 75, 79, 80, 84, 88, 92, 98, 102, 103, 104, 108, 111, 115, 116, 119, 120, 121, 123, 127, 131, 134, 137] : List Nat).filterMap (fun i => tables_1_6[i]?) := rfl
def gML : List (Nat × Nat × Nat) := gML_2 ++ gML_3 ++ gML_4 ++ gML_5 ++ gML_6
theorem gML_ok : ∀ t ∈ gML, (fun t : Nat × Nat × Nat => Cond.methodLink (gcls t.1) t.2.1 (hy t.2.2)) t ∈ gBig := by
  intro t ht
  rcases List.mem_append.mp ht with ht | ht
  rotate_left
  · exact gBig_of (gpc6 (gsubl gML_6_w t ht)) rfl
  rcases List.mem_append.mp ht with ht | ht
  rotate_left
  · exact gBig_of (gpc5 (gsubl gML_5_w t ht)) rfl
  rcases List.mem_append.mp ht with ht | ht
  rotate_left
  · exact gBig_of (gpc4 (gsubl gML_4_w t ht)) rfl
  rcases List.mem_append.mp ht with ht | ht
  rotate_left
  · exact gBig_of (gpc3 (gsubl gML_3_w t ht)) rfl
  exact gBig_of (gpc2 (gsubl gML_2_w t ht)) rfl
def gFN : List (Nat × Nat × Nat × Nat) := [(5, 46, 1, 3)] ++ gNfl.map (fun t => (9, t.1, 9, t.2))
def gTX (ci : Nat) : u_T := ([TX0, TX1, TX2, TX3, TX4, TX5, TX6, TX7, TX8, TX9] : List u_T).getD ci TX0
theorem gFN_ok : ∀ t ∈ gFN, ∃ host, Cond.fieldLinkNest (gcls t.1) t.2.1 (gTX t.2.2.1 t.2.2.2).1 (gTX t.2.2.1 t.2.2.2).2.1 (gTX t.2.2.1 t.2.2.2).2.2.1 host ∈ gNst := by
  intro t ht
  rcases List.mem_append.mp ht with ht | ht
  · cases List.mem_singleton.mp ht
    exact ⟨"ToeplitzLab", List.mem_of_getElem? (i := 0) rfl⟩
  · obtain ⟨u, hu, rfl⟩ := List.mem_map.mp ht
    exact ⟨"ToeplitzLabLaw", List.mem_append_right _ (List.mem_map.mpr ⟨u, hu, rfl⟩)⟩
def gFT_1 : List (Nat × Nat × Nat × Nat) := [(4, 22, 6, 0), (6, 35, 6, 0), (0, 42, 6, 0), (7, 107, 6, 0), (3, 89, 6, 0), (6, 39, 6, 1), (0, 24, 6, 1), (4, 28, 6, 1), (3, 97, 6, 1), (7, 116, 6, 1), (6, 9, 6, 2), (6, 15, 6, 3), (0, 58, 6, 3), (3, 113, 6, 3), (7, 132, 6, 3), (6, 18, 6, 4), (3, 123, 6, 4), (7, 135, 6, 4), (0, 18, 6, 5), (6, 60, 6, 5), (4, 77, 6, 5), (7, 214, 6, 5), (6, 21, 6, 6), (0, 27, 6, 6), (4, 69, 6, 6), (6, 25, 6, 7), (0, 31, 6, 7), (4, 65, 6, 7), (7, 228, 6, 7), (6, 29, 6, 8), (4, 59, 6, 8), (7, 225, 6, 8), (6, 48, 6, 9), (7, 270, 6, 9), (6, 32, 6, 10), (7, 277, 6, 10), (3, 9, 3, 0), (7, 73, 3, 1), (3, 22, 3, 1), (3, 18, 3, 2), (7, 97, 3, 2), (3, 38, 3, 3), (7, 110, 3, 3), (7, 113, 3, 4), (3, 136, 3, 4), (3, 35, 3, 5), (3, 63, 3, 6), (3, 41, 3, 7), (3, 86, 3, 8), (3, 126, 3, 9), (3, 129, 3, 10), (3, 44, 3, 11), (3, 47, 3, 12), (3, 50, 3, 13), (2, 11, 2, 0), (2, 17, 2, 1), (2, 26, 2, 2), (7, 315, 2, 2), (1, 11, 1, 0), (1, 25, 1, 1), (1, 29, 1, 2), (1, 32, 1, 3), (1, 44, 1, 4), (1, 47, 1, 5), (5, 11, 5, 0), (5, 16, 5, 1), (0, 9, 0, 0), (7, 241, 0, 0), (0, 15, 0, 1)]
set_option maxRecDepth 100000 in
set_option maxHeartbeats 4000000 in
theorem gFT_1_w : gFT_1.map (fun t : Nat × Nat × Nat × Nat => Cond.fieldLink (gcls t.1) t.2.1 (gTX t.2.2.1 t.2.2.2).1 (gTX t.2.2.1 t.2.2.2).2.1 (gTX t.2.2.1 t.2.2.2).2.2.1) = ([49, 50, 51, 52, 53, 54, 55, 56, 57, 58, 59, 60, 61, 62, 63, 64, 65, 66, 67, 68, 69, 70, 71, 72, 73, 74, 75, 76, 77, 78, 79, 80, 81, 82, 83, 84, 111, 112, 113, 114, 115, 116, 117, 118, 119, 120, 121, 122, 123, 124, 125, 126, 127, 128, 168, 169, 170, 171, 187, 188, 189, 190, 192, 193, 215, 216, 228, 229, 230] : List Nat).filterMap (fun i => tables_1_1[i]?) := rfl
def gFT_2 : List (Nat × Nat × Nat × Nat) := [(4, 12, 4, 0), (4, 18, 4, 1), (7, 10, 7, 0), (7, 19, 7, 1), (7, 23, 7, 2), (7, 29, 7, 3), (7, 33, 7, 4), (7, 37, 7, 5), (7, 44, 7, 6), (7, 51, 7, 7), (7, 58, 7, 8), (7, 65, 7, 9), (7, 69, 7, 10), (8, 7, 8, 0), (8, 13, 8, 1)]
set_option maxRecDepth 100000 in
set_option maxHeartbeats 4000000 in
theorem gFT_2_w : gFT_2.map (fun t : Nat × Nat × Nat × Nat => Cond.fieldLink (gcls t.1) t.2.1 (gTX t.2.2.1 t.2.2.2).1 (gTX t.2.2.1 t.2.2.2).2.1 (gTX t.2.2.1 t.2.2.2).2.2.1) = ([4, 5, 11, 12, 13, 14, 15, 16, 17, 18, 19, 20, 21, 75, 76] : List Nat).filterMap (fun i => tables_1_2[i]?) := rfl
def gFT_3 : List (Nat × Nat × Nat × Nat) := [(13, 20, 9, 1), (13, 27, 9, 3), (13, 36, 9, 4), (13, 45, 9, 5)]
set_option maxRecDepth 100000 in
set_option maxHeartbeats 4000000 in
theorem gFT_3_w : gFT_3.map (fun t : Nat × Nat × Nat × Nat => Cond.fieldLink (gcls t.1) t.2.1 (gTX t.2.2.1 t.2.2.2).1 (gTX t.2.2.1 t.2.2.2).2.1 (gTX t.2.2.1 t.2.2.2).2.2.1) = ([71, 75, 77, 79] : List Nat).filterMap (fun i => tables_1_3[i]?) := rfl
def gFT : List (Nat × Nat × Nat × Nat) := gFT_1 ++ gFT_2 ++ gFT_3
theorem gFT_ok : ∀ t ∈ gFT, (fun t : Nat × Nat × Nat × Nat => Cond.fieldLink (gcls t.1) t.2.1 (gTX t.2.2.1 t.2.2.2).1 (gTX t.2.2.1 t.2.2.2).2.1 (gTX t.2.2.1 t.2.2.2).2.2.1) t ∈ gBig := by
  intro t ht
  rcases List.mem_append.mp ht with ht | ht
  rotate_left
  · exact gBig_of (gpc3 (gsubl gFT_3_w t ht)) rfl
  rcases List.mem_append.mp ht with ht | ht
  rotate_left
  · exact gBig_of (gpc2 (gsubl gFT_2_w t ht)) rfl
  exact gBig_of (gpc1 (gsubl gFT_1_w t ht)) rfl
def gYc_2 : List Nat := [54, 55, 57, 58, 96, 107, 131, 311, 307, 308]
set_option maxRecDepth 100000 in
set_option maxHeartbeats 4000000 in
theorem gYc_2_w : gYc_2.map (fun y : Nat => Cond.code (hy y) (hb y) (hml y) (hr y)) = ([48, 52, 56, 60, 64, 68, 85, 106, 153, 170] : List Nat).filterMap (fun i => tables_1_2[i]?) := rfl
def gYc_3 : List Nat := [149, 148, 312, 52, 21, 53, 22, 44, 310, 48, 309, 31, 32, 34, 33, 23]
set_option maxRecDepth 100000 in
set_option maxHeartbeats 4000000 in
theorem gYc_3_w : gYc_3.map (fun y : Nat => Cond.code (hy y) (hb y) (hml y) (hr y)) = ([96, 99, 104, 122, 126, 130, 201, 207, 210, 214, 217, 222, 226, 230, 234, 238] : List Nat).filterMap (fun i => tables_1_3[i]?) := rfl
def gYc_4 : List Nat := [29, 30, 28, 120, 24, 25, 26, 47, 27, 45, 20, 150, 59, 110, 114, 46, 60, 111, 61, 62, 63, 115, 122, 6, 121, 304, 11, 12, 13, 15, 14, 10, 67, 124, 123, 71, 117, 72, 112, 125, 8, 73, 17, 9, 74, 126]
set_option maxRecDepth 100000 in
set_option maxHeartbeats 4000000 in
theorem gYc_4_w : gYc_4.map (fun y : Nat => Cond.code (hy y) (hb y) (hml y) (hr y)) = ([3, 9, 13, 17, 23, 28, 32, 36, 42, 64, 68, 77, 81, 85, 105, 110, 114, 118, 123, 127, 131, 135, 140, 144, 150, 153, 157, 161, 165, 169, 173, 177, 181, 185, 189, 194, 197, 203, 207, 212, 216, 220, 224, 229, 233, 237] : List Nat).filterMap (fun i => tables_1_4[i]?) := rfl
def gYc_5 : List Nat := [41, 7, 42, 43, 75, 40, 77, 127, 78, 119, 35, 36, 79, 16, 83, 50, 84, 85, 87, 118, 0, 3, 306, 4, 92, 128, 93, 113, 129, 94, 97, 98, 18, 99, 100, 101, 102, 103, 104, 49, 39, 37, 38, 1, 5, 2, 51, 305, 105, 106, 19]
set_option maxRecDepth 100000 in
set_option maxHeartbeats 4000000 in
theorem gYc_5_w : gYc_5.map (fun y : Nat => Cond.code (hy y) (hb y) (hml y) (hr y)) = ([1, 5, 11, 17, 22, 27, 31, 35, 41, 45, 49, 56, 62, 67, 71, 76, 80, 84, 88, 92, 96, 99, 102, 107, 112, 116, 120, 124, 129, 134, 138, 144, 148, 156, 160, 164, 170, 175, 180, 184, 190, 194, 201, 206, 210, 215, 220, 223, 228, 235, 239] : List Nat).filterMap (fun i => tables_1_5[i]?) := rfl
def gYc_6 : List Nat := [108, 116, 109, 64, 152, 147, 132, 95, 153, 81, 154, 143, 142, 136, 137, 138, 139, 140, 141, 171, 134, 133, 66, 68, 69, 65, 146, 170, 145, 70, 156, 144, 157, 80, 135, 155, 158]
set_option maxRecDepth 100000 in
set_option maxHeartbeats 4000000 in
theorem gYc_6_w : gYc_6.map (fun y : Nat => Cond.code (hy y) (hb y) (hml y) (hr y)) = ([4, 7, 12, 17, 21, 25, 29, 34, 37, 41, 45, 49, 53, 57, 57, 57, 57, 57, 57, 60, 65, 69, 74, 78, 83, 87, 91, 94, 101, 107, 110, 114, 118, 126, 130, 133, 136] : List Nat).filterMap (fun i => tables_1_6[i]?) := rfl
def gYc : List Nat := gYc_2 ++ gYc_3 ++ gYc_4 ++ gYc_5 ++ gYc_6
theorem gYc_ok : ∀ t ∈ gYc, (fun y : Nat => Cond.code (hy y) (hb y) (hml y) (hr y)) t ∈ gBig := by
  intro t ht
  rcases List.mem_append.mp ht with ht | ht
  rotate_left
  · exact gBig_of (gpc6 (gsubl gYc_6_w t ht)) rfl
  rcases List.mem_append.mp ht with ht | ht
  rotate_left
  · exact gBig_of (gpc5 (gsubl gYc_5_w t ht)) rfl
  rcases List.mem_append.mp ht with ht | ht
  rotate_left
  · exact gBig_of (gpc4 (gsubl gYc_4_w t ht)) rfl
  rcases List.mem_append.mp ht with ht | ht
  rotate_left
  · exact gBig_of (gpc3 (gsubl gYc_3_w t ht)) rfl
  exact gBig_of (gpc2 (gsubl gYc_2_w t ht)) rfl
def gYx_4 : List Nat := [151]
set_option maxRecDepth 100000 in
set_option maxHeartbeats 4000000 in
theorem gYx_4_w : gYx_4.map (fun y : Nat => Cond.codeWith (hy y) (hb y) (hml y) (hr y) (hht y)) = ([71] : List Nat).filterMap (fun i => tables_1_4[i]?) := rfl
def gYx : List Nat := gYx_4
theorem gYx_ok : ∀ t ∈ gYx, (fun y : Nat => Cond.codeWith (hy y) (hb y) (hml y) (hr y) (hht y)) t ∈ gBig := by
  intro t ht
  exact gBig_of (gpc4 (gsubl gYx_4_w t ht)) rfl
def gYi_2 : List Nat := [54, 55, 57, 58, 96, 107, 131, 311]
set_option maxRecDepth 100000 in
set_option maxHeartbeats 4000000 in
theorem gYi_2_w : gYi_2.map (fun y : Nat => Cond.instanceMethod (hy y)) = ([46, 50, 54, 58, 62, 66, 83, 104] : List Nat).filterMap (fun i => tables_1_2[i]?) := rfl
def gYi_3 : List Nat := [312, 52, 21, 53, 22, 44, 48, 31, 32, 34, 33, 23]
set_option maxRecDepth 100000 in
set_option maxHeartbeats 4000000 in
theorem gYi_3_w : gYi_3.map (fun y : Nat => Cond.instanceMethod (hy y)) = ([102, 120, 124, 128, 199, 205, 212, 221, 225, 229, 233, 237] : List Nat).filterMap (fun i => tables_1_3[i]?) := rfl
def gYi_4 : List Nat := [29, 30, 28, 24, 25, 26, 47, 27, 45, 20, 59, 110, 114, 46, 60, 111, 61, 62, 63, 115, 122, 6, 11, 12, 13, 15, 14, 10, 67, 124, 123, 71, 72, 112, 125, 8, 73, 17, 9, 74, 126, 41]
set_option maxRecDepth 100000 in
set_option maxHeartbeats 4000000 in
theorem gYi_4_w : gYi_4.map (fun y : Nat => Cond.instanceMethod (hy y)) = ([2, 8, 12, 22, 27, 31, 34, 41, 62, 66, 79, 84, 104, 108, 112, 117, 121, 125, 129, 134, 139, 142, 155, 160, 164, 167, 172, 175, 179, 184, 188, 192, 201, 206, 211, 214, 218, 222, 227, 231, 236, 239] : List Nat).filterMap (fun i => tables_1_4[i]?) := rfl
def gYi_5 : List Nat := [7, 42, 43, 75, 40, 77, 127, 78, 119, 35, 36, 79, 16, 83, 50, 84, 85, 87, 118, 0, 92, 128, 93, 113, 129, 94, 97, 98, 18, 99, 100, 101, 102, 103, 104, 49, 39, 37, 38, 1, 2, 51, 105, 106, 19]
set_option maxRecDepth 100000 in
set_option maxHeartbeats 4000000 in
theorem gYi_5_w : gYi_5.map (fun y : Nat => Cond.instanceMethod (hy y)) = ([3, 10, 16, 20, 25, 29, 34, 39, 44, 47, 54, 60, 65, 69, 74, 78, 82, 86, 91, 94, 110, 115, 118, 123, 128, 132, 136, 142, 146, 154, 158, 162, 168, 173, 178, 182, 188, 192, 200, 204, 214, 218, 226, 233, 237] : List Nat).filterMap (fun i => tables_1_5[i]?) := rfl
def gYi_6 : List Nat := [108, 109, 64, 147, 132, 95, 81, 143, 142, 136, 137, 138, 139, 140, 141, 134, 133, 66, 68, 69, 65, 146, 145, 70, 144, 80, 135]
set_option maxRecDepth 100000 in
set_option maxHeartbeats 4000000 in
theorem gYi_6_w : gYi_6.map (fun y : Nat => Cond.instanceMethod (hy y)) = ([2, 10, 15, 23, 27, 32, 39, 47, 51, 55, 55, 55, 55, 55, 55, 63, 67, 72, 76, 81, 85, 89, 99, 105, 112, 124, 128] : List Nat).filterMap (fun i => tables_1_6[i]?) := rfl
def gYi : List Nat := gYi_2 ++ gYi_3 ++ gYi_4 ++ gYi_5 ++ gYi_6
theorem gYi_ok : ∀ t ∈ gYi, (fun y : Nat => Cond.instanceMethod (hy y)) t ∈ gBig := by
  intro t ht
  rcases List.mem_append.mp ht with ht | ht
  rotate_left
  · exact gBig_of (gpc6 (gsubl gYi_6_w t ht)) rfl
  rcases List.mem_append.mp ht with ht | ht
  rotate_left
  · exact gBig_of (gpc5 (gsubl gYi_5_w t ht)) rfl
  rcases List.mem_append.mp ht with ht | ht
  rotate_left
  · exact gBig_of (gpc4 (gsubl gYi_4_w t ht)) rfl
  rcases List.mem_append.mp ht with ht | ht
  rotate_left
  · exact gBig_of (gpc3 (gsubl gYi_3_w t ht)) rfl
  exact gBig_of (gpc2 (gsubl gYi_2_w t ht)) rfl
def gYs_2 : List Nat := [307, 308]
set_option maxRecDepth 100000 in
set_option maxHeartbeats 4000000 in
theorem gYs_2_w : gYs_2.map (fun y : Nat => Cond.static (hy y)) = ([152, 169] : List Nat).filterMap (fun i => tables_1_2[i]?) := rfl
def gYs_3 : List Nat := [149, 148, 310, 309]
set_option maxRecDepth 100000 in
set_option maxHeartbeats 4000000 in
theorem gYs_3_w : gYs_3.map (fun y : Nat => Cond.static (hy y)) = ([95, 98, 209, 216] : List Nat).filterMap (fun i => tables_1_3[i]?) := rfl
def gYs_4 : List Nat := [120, 151, 150, 121, 304, 117]
set_option maxRecDepth 100000 in
set_option maxHeartbeats 4000000 in
theorem gYs_4_w : gYs_4.map (fun y : Nat => Cond.static (hy y)) = ([16, 70, 76, 149, 152, 196] : List Nat).filterMap (fun i => tables_1_4[i]?) := rfl
def gYs_5 : List Nat := [3, 306, 4, 5, 305]
set_option maxRecDepth 100000 in
set_option maxHeartbeats 4000000 in
theorem gYs_5_w : gYs_5.map (fun y : Nat => Cond.static (hy y)) = ([98, 101, 106, 209, 222] : List Nat).filterMap (fun i => tables_1_5[i]?) := rfl
def gYs_6 : List Nat := [116, 152, 153, 154, 171, 170, 156, 157, 155, 158]
set_option maxRecDepth 100000 in
set_option maxHeartbeats 4000000 in
theorem gYs_6_w : gYs_6.map (fun y : Nat => Cond.static (hy y)) = ([6, 20, 36, 44, 59, 93, 109, 117, 132, 135] : List Nat).filterMap (fun i => tables_1_6[i]?) := rfl
def gYs : List Nat := gYs_2 ++ gYs_3 ++ gYs_4 ++ gYs_5 ++ gYs_6
theorem gYs_ok : ∀ t ∈ gYs, (fun y : Nat => Cond.static (hy y)) t ∈ gBig := by
  intro t ht
  rcases List.mem_append.mp ht with ht | ht
  rotate_left
  · exact gBig_of (gpc6 (gsubl gYs_6_w t ht)) rfl
  rcases List.mem_append.mp ht with ht | ht
  rotate_left
  · exact gBig_of (gpc5 (gsubl gYs_5_w t ht)) rfl
  rcases List.mem_append.mp ht with ht | ht
  rotate_left
  · exact gBig_of (gpc4 (gsubl gYs_4_w t ht)) rfl
  rcases List.mem_append.mp ht with ht | ht
  rotate_left
  · exact gBig_of (gpc3 (gsubl gYs_3_w t ht)) rfl
  exact gBig_of (gpc2 (gsubl gYs_2_w t ht)) rfl
def gYp_2 : List Nat := [54, 55, 57, 58, 96, 107, 131, 311]
set_option maxRecDepth 100000 in
set_option maxHeartbeats 4000000 in
theorem gYp_2_w : gYp_2.map (fun y : Nat => Cond.selects (hy y).cls (hy y) (hy y)) = ([47, 51, 55, 59, 63, 67, 84, 105] : List Nat).filterMap (fun i => tables_1_2[i]?) := rfl
def gYp_3 : List Nat := [312, 52, 21, 53, 22, 44, 48]
set_option maxRecDepth 100000 in
set_option maxHeartbeats 4000000 in
theorem gYp_3_w : gYp_3.map (fun y : Nat => Cond.selects (hy y).cls (hy y) (hy y)) = ([103, 121, 125, 129, 200, 206, 213] : List Nat).filterMap (fun i => tables_1_3[i]?) := rfl
def gYp_4 : List Nat := [47, 45, 20, 59, 46, 60, 61, 62, 63, 6, 11, 15, 10, 67, 71, 72, 8, 73, 17, 9, 74]
set_option maxRecDepth 100000 in
set_option maxHeartbeats 4000000 in
theorem gYp_4_w : gYp_4.map (fun y : Nat => Cond.selects (hy y).cls (hy y) (hy y)) = ([35, 63, 67, 80, 109, 113, 122, 126, 130, 143, 156, 168, 176, 180, 193, 202, 215, 219, 223, 228, 232] : List Nat).filterMap (fun i => tables_1_4[i]?) := rfl
def gYp_5 : List Nat := [41, 7, 75, 40, 77, 78, 35, 36, 79, 16, 83, 50, 84, 85, 87, 0, 92, 93, 94, 97, 98, 18, 99, 100, 101, 102, 103, 104, 49, 39, 37, 1, 51, 105, 106, 19]
set_option maxRecDepth 100000 in
set_option maxHeartbeats 4000000 in
theorem gYp_5_w : gYp_5.map (fun y : Nat => Cond.selects (hy y).cls (hy y) (hy y)) = ([0, 4, 21, 26, 30, 40, 48, 55, 61, 66, 70, 75, 79, 83, 87, 95, 111, 119, 133, 137, 143, 147, 155, 159, 163, 169, 174, 179, 183, 189, 193, 205, 219, 227, 234, 238] : List Nat).filterMap (fun i => tables_1_5[i]?) := rfl
def gYp_6 : List Nat := [108, 109, 64, 147, 132, 95, 81, 143, 142, 136, 137, 138, 139, 140, 141, 134, 133, 66, 68, 69, 65, 146, 145, 70, 144, 80, 135]
set_option maxRecDepth 100000 in
set_option maxHeartbeats 4000000 in
theorem gYp_6_w : gYp_6.map (fun y : Nat => Cond.selects (hy y).cls (hy y) (hy y)) = ([3, 11, 16, 24, 28, 33, 40, 48, 52, 56, 56, 56, 56, 56, 56, 64, 68, 73, 77, 82, 86, 90, 100, 106, 113, 125, 129] : List Nat).filterMap (fun i => tables_1_6[i]?) := rfl
def gYp : List Nat := gYp_2 ++ gYp_3 ++ gYp_4 ++ gYp_5 ++ gYp_6
theorem gYp_ok : ∀ t ∈ gYp, (fun y : Nat => Cond.selects (hy y).cls (hy y) (hy y)) t ∈ gBig := by
  intro t ht
  rcases List.mem_append.mp ht with ht | ht
  rotate_left
  · exact gBig_of (gpc6 (gsubl gYp_6_w t ht)) rfl
  rcases List.mem_append.mp ht with ht | ht
  rotate_left
  · exact gBig_of (gpc5 (gsubl gYp_5_w t ht)) rfl
  rcases List.mem_append.mp ht with ht | ht
  rotate_left
  · exact gBig_of (gpc4 (gsubl gYp_4_w t ht)) rfl
  rcases List.mem_append.mp ht with ht | ht
  rotate_left
  · exact gBig_of (gpc3 (gsubl gYp_3_w t ht)) rfl
  exact gBig_of (gpc2 (gsubl gYp_2_w t ht)) rfl
def gYq : List Nat := [31, 32, 34, 33, 23, 29, 30, 28, 24, 25, 26, 27, 110, 114, 111, 115, 122, 12, 13, 14, 124, 123, 112, 125, 126, 42, 43, 127, 119, 118, 128, 113, 129, 38, 2]
set_option maxRecDepth 100000 in
set_option maxHeartbeats 4000000 in
theorem gYq_w : gYq.map (fun y : Nat => Cond.selects (hy y).cls (hy y) (hy y)) = ([1, 2, 3, 4, 5, 6, 7, 8, 9, 10, 11, 12, 13, 14, 15, 16, 17, 18, 19, 20, 21, 22, 23, 24, 25, 26, 27, 28, 29, 30, 31, 32, 33, 34, 35] : List Nat).filterMap (fun i => (k2_sels lw_privs)[i]?) := rfl
theorem gYq_ok : ∀ t ∈ gYq, Cond.selects (hy t).cls (hy t) (hy t) ∈ gBig := fun t ht => gBig_of (List.mem_append_left _ (gsubl gYq_w t ht)) rfl
def gIn_1 : List String := ["ToeplitzLabLaw", "ToeplitzLabLaw$Draws", "ToeplitzLabLaw$Lab", "java/lang/String", "java/lang/Math", "java/util/Arrays", "java/lang/System", "java/lang/Integer", "ToeplitzLab", "ToeplitzLab$Input", "ToeplitzLab$State", "ToeplitzLab$History", "ToeplitzLab$Grid", "ToeplitzLab$Pairs", "ToeplitzLab$Fractions", "ToeplitzLab$Lifter", "java/lang/IllegalStateException", "java/lang/IndexOutOfBoundsException", "java/lang/IllegalArgumentException"]
set_option maxRecDepth 100000 in
set_option maxHeartbeats 4000000 in
theorem gIn_1_w : gIn_1.map (fun s : String => Cond.initialized s) = ([0, 1, 2, 5, 8, 9, 10, 14, 15, 16, 17, 18, 19, 20, 21, 22, 26, 27, 28] : List Nat).filterMap (fun i => tables_1_1[i]?) := rfl
def gIn : List String := gIn_1
theorem gIn_ok : ∀ t ∈ gIn, (fun s : String => Cond.initialized s) t ∈ gBig := by
  intro t ht
  exact gBig_of (gpc1 (gsubl gIn_1_w t ht)) rfl
def gCl_3 : List (String × Nat × String) := [("ToeplitzLab", 81, "java/lang/IndexOutOfBoundsException")]
set_option maxRecDepth 100000 in
set_option maxHeartbeats 4000000 in
theorem gCl_3_w : gCl_3.map (fun t : String × Nat × String => Cond.classLink t.1 t.2.1 t.2.2) = ([131] : List Nat).filterMap (fun i => tables_1_3[i]?) := rfl
def gCl_4 : List (String × Nat × String) := [("ToeplitzLab", 92, "java/lang/IllegalArgumentException"), ("ToeplitzLabLaw", 145, "java/lang/IllegalStateException"), ("ToeplitzLabLaw", 147, "java/lang/IndexOutOfBoundsException"), ("ToeplitzLabLaw", 149, "java/lang/IllegalArgumentException"), ("ToeplitzLab", 310, "java/lang/IllegalStateException")]
set_option maxRecDepth 100000 in
set_option maxHeartbeats 4000000 in
theorem gCl_4_w : gCl_4.map (fun t : String × Nat × String => Cond.classLink t.1 t.2.1 t.2.2) = ([45, 72, 73, 74, 86] : List Nat).filterMap (fun i => tables_1_4[i]?) := rfl
def gCl : List (String × Nat × String) := gCl_3 ++ gCl_4
theorem gCl_ok : ∀ t ∈ gCl, (fun t : String × Nat × String => Cond.classLink t.1 t.2.1 t.2.2) t ∈ gBig := by
  intro t ht
  rcases List.mem_append.mp ht with ht | ht
  rotate_left
  · exact gBig_of (gpc4 (gsubl gCl_4_w t ht)) rfl
  exact gBig_of (gpc3 (gsubl gCl_3_w t ht)) rfl
def gKl_5 : List (String × Nat × Int64) := [("ToeplitzLab$Fractions", 72, 1000000), ("ToeplitzLab$Fractions", 74, 2), ("ToeplitzLab$State", 66, 1000000000000), ("ToeplitzLab$Fractions", 52, 1000000000)]
set_option maxRecDepth 100000 in
set_option maxHeartbeats 4000000 in
theorem gKl_5_w : gKl_5.map (fun t : String × Nat × Int64 => Cond.constantLong t.1 t.2.1 t.2.2) = ([103, 104, 185, 211] : List Nat).filterMap (fun i => tables_1_5[i]?) := rfl
def gKl_6 : List (String × Nat × Int64) := [("ToeplitzLabLaw", 143, -99), ("ToeplitzLabLaw", 223, -1)]
set_option maxRecDepth 100000 in
set_option maxHeartbeats 4000000 in
theorem gKl_6_w : gKl_6.map (fun t : String × Nat × Int64 => Cond.constantLong t.1 t.2.1 t.2.2) = ([18, 122] : List Nat).filterMap (fun i => tables_1_6[i]?) := rfl
def gKl : List (String × Nat × Int64) := gKl_5 ++ gKl_6
theorem gKl_ok : ∀ t ∈ gKl, (fun t : String × Nat × Int64 => Cond.constantLong t.1 t.2.1 t.2.2) t ∈ gBig := by
  intro t ht
  rcases List.mem_append.mp ht with ht | ht
  rotate_left
  · exact gBig_of (gpc6 (gsubl gKl_6_w t ht)) rfl
  exact gBig_of (gpc5 (gsubl gKl_5_w t ht)) rfl
def gKi_2 : List (String × Nat × Int32) := [("ToeplitzLabLaw$Draws", 17, 2147483647)]
set_option maxRecDepth 100000 in
set_option maxHeartbeats 4000000 in
theorem gKi_2_w : gKi_2.map (fun t : String × Nat × Int32 => Cond.constant t.1 t.2.1 t.2.2) = ([86] : List Nat).filterMap (fun i => tables_1_2[i]?) := rfl
def gKi_6 : List (String × Nat × Int32) := [("java/lang/Integer", 264, 65536), ("java/lang/Integer", 265, 1431655765), ("java/lang/Integer", 266, 858993459), ("java/lang/Integer", 267, 252645135)]
set_option maxRecDepth 100000 in
set_option maxHeartbeats 4000000 in
theorem gKi_6_w : gKi_6.map (fun t : String × Nat × Int32 => Cond.constant t.1 t.2.1 t.2.2) = ([61, 95, 96, 97] : List Nat).filterMap (fun i => tables_1_6[i]?) := rfl
def gKi : List (String × Nat × Int32) := gKi_2 ++ gKi_6
theorem gKi_ok : ∀ t ∈ gKi, (fun t : String × Nat × Int32 => Cond.constant t.1 t.2.1 t.2.2) t ∈ gBig := by
  intro t ht
  rcases List.mem_append.mp ht with ht | ht
  rotate_left
  · exact gBig_of (gpc6 (gsubl gKi_6_w t ht)) rfl
  exact gBig_of (gpc2 (gsubl gKi_2_w t ht)) rfl
