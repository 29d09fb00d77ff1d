/-! ===== which words the tables hold, by their places ===== -/
theorem gsubl {α : Type} {L : List α} {f : α → Cond} {is : List Nat} {T : List Cond} (h : L.map f = is.filterMap (fun i => T[i]?)) : ∀ t ∈ L, f t ∈ T := by
  intro t ht
  have h1 : f t ∈ L.map f := List.mem_map.mpr ⟨t, ht, rfl⟩
  rw [h] at h1
  obtain ⟨i, -, hi⟩ := List.mem_filterMap.mp h1
  exact List.mem_of_getElem? hi
theorem gpc1 {w : Cond} (h : w ∈ tables_1_1) : w ∈ lw_tbl := List.mem_append_right _ (List.mem_append_left _ h)
theorem gpc2 {w : Cond} (h : w ∈ tables_1_2) : w ∈ lw_tbl := List.mem_append_right _ (List.mem_append_right _ (List.mem_append_left _ h))
theorem gpc3 {w : Cond} (h : w ∈ tables_1_3) : w ∈ lw_tbl := List.mem_append_right _ (List.mem_append_right _ (List.mem_append_right _ (List.mem_append_left _ h)))
theorem gpc4 {w : Cond} (h : w ∈ tables_1_4) : w ∈ lw_tbl := List.mem_append_right _ (List.mem_append_right _ (List.mem_append_right _ (List.mem_append_right _ (List.mem_append_left _ h))))
theorem gpc5 {w : Cond} (h : w ∈ tables_1_5) : w ∈ lw_tbl := List.mem_append_right _ (List.mem_append_right _ (List.mem_append_right _ (List.mem_append_right _ (List.mem_append_right _ (List.mem_append_left _ h)))))
theorem gpc6 {w : Cond} (h : w ∈ tables_1_6) : w ∈ lw_tbl := List.mem_append_right _ (List.mem_append_right _ (List.mem_append_right _ (List.mem_append_right _ (List.mem_append_right _ (List.mem_append_right _ (List.mem_append_left _ h))))))
theorem gpc7 {w : Cond} (h : w ∈ tables_1_7) : w ∈ lw_tbl := List.mem_append_right _ (List.mem_append_right _ (List.mem_append_right _ (List.mem_append_right _ (List.mem_append_right _ (List.mem_append_right _ (List.mem_append_right _ (List.mem_append_left _ h)))))))
theorem gpc8 {w : Cond} (h : w ∈ tables_1_8) : w ∈ lw_tbl := List.mem_append_right _ (List.mem_append_right _ (List.mem_append_right _ (List.mem_append_right _ (List.mem_append_right _ (List.mem_append_right _ (List.mem_append_right _ (List.mem_append_right _ h)))))))
theorem gBig_of {w : Cond} (h : w ∈ lw_tbl) (h2 : goodWord w = true) : w ∈ gBig := List.mem_filter.mpr ⟨h, h2⟩
def gML_2 : List (Nat × Nat × Nat) := [(9, 177, 52), (7, 77, 21), (9, 191, 54), (9, 195, 55), (9, 199, 56), (9, 203, 57), (9, 207, 58), (9, 327, 96), (9, 361, 107), (9, 182, 254), (9, 7, 53), (7, 88, 22), (3, 26, 308), (3, 32, 307), (3, 53, 44), (6, 42, 310), (6, 51, 48), (6, 63, 309), (3, 56, 31), (3, 152, 32), (3, 144, 34), (3, 156, 33), (3, 59, 23), (3, 78, 29), (3, 139, 311), (3, 148, 312)]
set_option maxRecDepth 100000 in
set_option maxHeartbeats 4000000 in
theorem gML_2_w : gML_2.map (fun t : Nat × Nat × Nat => Cond.methodLink (gcls t.1) t.2.1 (hy t.2.2)) = ([41, 45, 49, 53, 57, 61, 65, 69, 73, 77, 82, 153, 157, 160, 163, 167, 170, 174, 180, 184, 188, 192, 196, 201, 205, 215] : List Nat).filterMap (fun i => tables_1_2[i]?) := rfl
def gML_3 : List (Nat × Nat × Nat) := [(3, 72, 30), (3, 82, 28), (3, 66, 24), (3, 102, 25), (3, 106, 26), (3, 132, 47), (3, 117, 27), (3, 69, 48), (7, 100, 45), (7, 104, 20), (9, 211, 255), (9, 17, 59), (7, 119, 110), (7, 122, 114), (7, 125, 46), (9, 214, 256), (9, 22, 60), (7, 129, 111), (9, 218, 257), (9, 26, 61), (9, 221, 258), (9, 29, 62), (9, 224, 259), (9, 32, 63), (7, 138, 115), (7, 141, 122), (7, 145, 6), (1, 16, 308), (1, 22, 307), (1, 35, 46), (7, 341, 304), (7, 149, 11), (1, 50, 12), (1, 54, 13), (1, 61, 15), (1, 57, 14), (7, 174, 10), (9, 227, 260), (9, 35, 64), (9, 231, 261), (9, 39, 65), (9, 234, 262), (9, 43, 66), (7, 152, 123), (9, 237, 263), (9, 46, 67), (7, 156, 124), (9, 240, 264), (9, 49, 68), (7, 159, 307), (9, 243, 265)]
set_option maxRecDepth 100000 in
set_option maxHeartbeats 4000000 in
theorem gML_3_w : gML_3.map (fun t : Nat × Nat × Nat => Cond.methodLink (gcls t.1) t.2.1 (hy t.2.2)) = ([13, 17, 27, 32, 36, 40, 46, 51, 68, 72, 76, 80, 84, 104, 109, 113, 116, 120, 125, 128, 132, 135, 139, 142, 146, 151, 155, 159, 160, 161, 165, 168, 172, 176, 180, 184, 188, 192, 195, 199, 202, 206, 209, 213, 217, 220, 224, 229, 232, 236, 237] : List Nat).filterMap (fun i => tables_1_3[i]?) := rfl
def gML_4 : List (Nat × Nat × Nat) := [(9, 52, 69), (9, 246, 266), (9, 55, 70), (9, 249, 267), (9, 58, 71), (7, 167, 117), (7, 171, 47), (9, 253, 268), (9, 62, 72), (7, 177, 112), (7, 180, 125), (7, 183, 8), (9, 256, 269), (9, 65, 73), (7, 186, 17), (1, 64, 8), (1, 67, 9), (9, 259, 270), (9, 68, 74), (7, 189, 126), (7, 346, 41), (5, 19, 7), (5, 25, 307), (5, 31, 8), (5, 34, 42), (5, 42, 15), (5, 38, 43), (5, 53, 9), (9, 262, 271), (9, 71, 75), (7, 194, 40), (9, 266, 272), (9, 75, 76), (9, 269, 273), (9, 78, 77), (7, 198, 127), (7, 349, 9), (9, 272, 274), (9, 81, 78), (7, 203, 119), (7, 255, 35), (4, 31, 6), (4, 35, 9), (4, 39, 11), (7, 206, 36), (4, 43, 7), (4, 47, 8), (9, 275, 275), (9, 84, 79), (7, 211, 16), (9, 278, 276), (9, 87, 80), (9, 281, 277), (9, 90, 81), (9, 284, 278), (9, 93, 82), (7, 217, 49), (9, 287, 279), (9, 96, 83), (7, 222, 50), (9, 290, 280), (9, 99, 84), (9, 293, 281), (9, 102, 85), (9, 296, 282), (9, 106, 86), (9, 299, 283), (9, 109, 87), (7, 238, 118), (7, 244, 0), (0, 34, 3), (0, 66, 306)]
set_option maxRecDepth 100000 in
set_option maxHeartbeats 4000000 in
theorem gML_4_w : gML_4.map (fun t : Nat × Nat × Nat => Cond.methodLink (gcls t.1) t.2.1 (hy t.2.2)) = ([0, 4, 7, 11, 14, 18, 22, 23, 26, 30, 35, 39, 43, 46, 50, 54, 55, 59, 62, 66, 70, 74, 78, 79, 80, 84, 86, 90, 91, 94, 99, 103, 106, 110, 113, 117, 121, 123, 126, 130, 134, 138, 139, 140, 141, 145, 146, 147, 150, 155, 159, 162, 166, 169, 173, 176, 180, 185, 188, 193, 197, 200, 204, 207, 211, 214, 219, 222, 226, 230, 234, 237] : List Nat).filterMap (fun i => tables_1_4[i]?) := rfl
def gML_5 : List (Nat × Nat × Nat) := [(0, 38, 4), (9, 302, 284), (9, 112, 88), (9, 305, 285), (9, 115, 89), (9, 309, 286), (9, 119, 90), (7, 251, 1), (0, 45, 0), (0, 49, 5), (0, 54, 2), (0, 62, 46), (9, 312, 287), (9, 122, 91), (7, 258, 37), (4, 51, 308), (4, 56, 36), (4, 73, 38), (4, 80, 46), (9, 315, 288), (9, 125, 92), (7, 261, 128), (9, 318, 289), (9, 128, 93), (7, 264, 113), (7, 267, 129), (7, 353, 121), (9, 321, 290), (9, 131, 94), (9, 324, 291), (9, 134, 95), (9, 331, 292), (9, 137, 97), (9, 334, 293), (9, 140, 98), (7, 280, 18), (2, 22, 45), (2, 29, 308), (7, 283, 48), (9, 337, 294), (9, 143, 99), (9, 340, 295), (9, 146, 100), (9, 343, 296), (9, 149, 101), (7, 286, 120), (9, 346, 297), (9, 152, 102), (9, 349, 298), (9, 155, 103), (9, 352, 299), (9, 158, 104), (7, 297, 39), (4, 83, 37), (4, 87, 1), (4, 93, 51), (6, 68, 305), (6, 74, 307), (9, 355, 300), (9, 161, 105), (7, 303, 308), (9, 358, 301), (9, 164, 106), (7, 306, 19), (9, 365, 302), (9, 167, 108), (7, 318, 116), (9, 368, 303), (9, 170, 109)]
set_option maxRecDepth 100000 in
set_option maxHeartbeats 4000000 in
theorem gML_5_w : gML_5.map (fun t : Nat × Nat × Nat => Cond.methodLink (gcls t.1) t.2.1 (hy t.2.2)) = ([2, 6, 9, 13, 16, 20, 23, 27, 31, 32, 36, 40, 41, 44, 48, 52, 53, 55, 59, 60, 63, 67, 71, 74, 78, 83, 87, 88, 91, 95, 98, 102, 105, 111, 114, 118, 123, 124, 125, 126, 129, 133, 136, 140, 143, 147, 149, 152, 157, 160, 165, 168, 173, 177, 178, 179, 183, 186, 187, 190, 195, 196, 199, 203, 208, 211, 215, 219, 222] : List Nat).filterMap (fun i => tables_1_5[i]?) := rfl
def gML_6 : List (Nat × Nat × Nat) := [(9, 188, 130), (9, 181, 136), (9, 202, 137), (9, 194, 138), (9, 198, 139), (9, 187, 156), (8, 134, 131), (8, 65, 132), (8, 183, 155), (8, 110, 143), (8, 85, 140), (8, 94, 141), (8, 98, 142), (8, 153, 147), (8, 123, 146), (8, 113, 311), (8, 119, 312), (8, 127, 144), (8, 131, 145), (8, 157, 149), (8, 138, 148), (8, 162, 134), (8, 69, 135), (8, 167, 152), (8, 142, 150), (8, 145, 151), (8, 172, 153), (8, 177, 154), (8, 186, 157), (9, 206, 163), (8, 202, 162), (9, 210, 164), (9, 330, 165), (9, 364, 166), (9, 213, 168), (8, 192, 133), (8, 205, 159), (9, 217, 169), (8, 208, 161)]
set_option maxRecDepth 100000 in
set_option maxHeartbeats 4000000 in
theorem gML_6_w : gML_6.map (fun t : Nat × Nat × Nat => Cond.methodLink (gcls t.1) t.2.1 (hy t.2.2)) = ([90, 94, 98, 102, 106, 110, 114, 117, 121, 125, 129, 133, 136, 140, 144, 148, 149, 150, 154, 158, 162, 167, 170, 174, 178, 182, 187, 192, 197, 201, 205, 209, 213, 217, 221, 225, 229, 233, 237] : List Nat).filterMap (fun i => tables_1_6[i]?) := rfl
def gML_7 : List (Nat × Nat × Nat) := [(8, 199, 160), (8, 196, 158), (8, 212, 167), (9, 220, 170), (9, 223, 171), (9, 226, 180), (8, 241, 179), (8, 238, 178), (8, 221, 174), (8, 218, 172), (8, 224, 177), (8, 228, 175), (8, 231, 173), (8, 234, 176), (9, 230, 183), (8, 247, 182), (8, 244, 181), (9, 233, 185), (8, 250, 184), (9, 236, 187), (8, 256, 186), (9, 239, 189), (8, 259, 188), (9, 242, 190), (8, 262, 307), (9, 245, 191), (9, 248, 192), (9, 252, 193), (9, 255, 199), (8, 277, 198), (8, 267, 194), (9, 258, 200), (8, 270, 195), (9, 261, 201), (8, 280, 197), (8, 273, 196), (9, 265, 202), (9, 268, 203), (9, 271, 206), (8, 283, 205), (8, 286, 204), (9, 274, 207), (9, 277, 208), (9, 280, 209), (9, 283, 213), (9, 286, 214), (8, 291, 210), (9, 289, 215), (9, 292, 216), (9, 295, 217), (8, 294, 212), (9, 298, 218), (8, 300, 211), (9, 301, 222), (8, 323, 221), (8, 304, 219), (8, 308, 306), (8, 312, 220), (9, 304, 223), (9, 308, 224), (9, 311, 226), (8, 328, 225)]
set_option maxRecDepth 100000 in
set_option maxHeartbeats 4000000 in
theorem gML_7_w : gML_7.map (fun t : Nat × Nat × Nat => Cond.methodLink (gcls t.1) t.2.1 (hy t.2.2)) = ([1, 5, 9, 13, 17, 21, 25, 29, 33, 37, 41, 45, 49, 53, 57, 61, 65, 69, 73, 77, 81, 85, 89, 93, 97, 98, 102, 106, 110, 114, 118, 122, 126, 130, 134, 138, 142, 146, 150, 154, 158, 162, 166, 170, 174, 178, 182, 187, 191, 195, 199, 203, 208, 212, 216, 220, 223, 224, 227, 231, 235, 239] : List Nat).filterMap (fun i => tables_1_7[i]?) := rfl
def gML_8 : List (Nat × Nat × Nat) := [(9, 314, 230), (8, 333, 239), (8, 336, 227), (8, 339, 228), (8, 342, 240), (9, 317, 232), (8, 345, 231), (9, 320, 235), (8, 348, 234), (8, 351, 233), (9, 323, 236), (9, 326, 237), (9, 333, 238), (9, 336, 243), (8, 357, 242), (8, 354, 241), (9, 339, 244), (9, 342, 245), (9, 345, 246), (9, 348, 247), (9, 351, 248), (9, 354, 249), (8, 361, 229), (8, 331, 305), (9, 357, 250), (9, 360, 251), (9, 367, 252), (9, 370, 253)]
set_option maxRecDepth 100000 in
set_option maxHeartbeats 4000000 in
theorem gML_8_w : gML_8.map (fun t : Nat × Nat × Nat => Cond.methodLink (gcls t.1) t.2.1 (hy t.2.2)) = ([4, 8, 12, 16, 20, 24, 28, 32, 36, 40, 44, 48, 52, 56, 60, 64, 68, 72, 76, 80, 84, 88, 92, 96, 97, 101, 105, 109] : List Nat).filterMap (fun i => tables_1_8[i]?) := rfl
def gML : List (Nat × Nat × Nat) := gML_2 ++ gML_3 ++ gML_4 ++ gML_5 ++ gML_6 ++ gML_7 ++ gML_8
theorem gML_ok : ∀ t ∈ gML, (fun t : Nat × Nat × Nat => Cond.methodLink (gcls t.1) t.2.1 (hy t.2.2)) t ∈ gBig := by
  intro t ht
  rcases List.mem_append.mp ht with ht | ht
  rotate_left
  · exact gBig_of (gpc8 (gsubl gML_8_w t ht)) rfl
  rcases List.mem_append.mp ht with ht | ht
  rotate_left
  · exact gBig_of (gpc7 (gsubl gML_7_w t ht)) rfl
  rcases List.mem_append.mp ht with ht | ht
  rotate_left
  · exact gBig_of (gpc6 (gsubl gML_6_w t ht)) rfl
  rcases List.mem_append.mp ht with ht | ht
  rotate_left
  · exact gBig_of (gpc5 (gsubl gML_5_w t ht)) rfl
  rcases List.mem_append.mp ht with ht | ht
  rotate_left
  · exact gBig_of (gpc4 (gsubl gML_4_w t ht)) rfl
  rcases List.mem_append.mp ht with ht | ht
  rotate_left
  · exact gBig_of (gpc3 (gsubl gML_3_w t ht)) rfl
  exact gBig_of (gpc2 (gsubl gML_2_w t ht)) rfl
def gTX (ci : Nat) : u_T := ([TX0, TX1, TX2, TX3, TX4, TX5, TX6, TX7, TX8] : List u_T).getD ci TX0
def gFT_1 : List (Nat × Nat × Nat × Nat) := [(4, 22, 6, 0), (6, 35, 6, 0), (0, 42, 6, 0), (7, 107, 6, 0), (3, 89, 6, 0), (6, 39, 6, 1), (0, 24, 6, 1), (4, 28, 6, 1), (3, 97, 6, 1), (7, 116, 6, 1), (6, 9, 6, 2), (6, 15, 6, 3), (0, 58, 6, 3), (3, 113, 6, 3), (7, 132, 6, 3), (6, 18, 6, 4), (3, 123, 6, 4), (7, 135, 6, 4), (0, 18, 6, 5), (6, 60, 6, 5), (4, 77, 6, 5), (7, 214, 6, 5), (6, 21, 6, 6), (0, 27, 6, 6), (4, 69, 6, 6), (7, 234, 6, 6), (6, 25, 6, 7), (0, 31, 6, 7), (4, 65, 6, 7), (7, 228, 6, 7), (6, 29, 6, 8), (4, 59, 6, 8), (7, 225, 6, 8), (6, 48, 6, 9), (7, 270, 6, 9), (6, 32, 6, 10), (7, 277, 6, 10), (3, 9, 3, 0), (7, 73, 3, 1), (3, 22, 3, 1), (3, 18, 3, 2), (7, 97, 3, 2), (3, 38, 3, 3), (7, 110, 3, 3), (7, 113, 3, 4), (3, 136, 3, 4), (3, 35, 3, 5), (3, 63, 3, 6), (3, 41, 3, 7), (3, 86, 3, 8), (3, 126, 3, 9), (3, 129, 3, 10), (3, 44, 3, 11), (3, 47, 3, 12), (3, 50, 3, 13), (2, 11, 2, 0), (2, 17, 2, 1), (2, 26, 2, 2), (7, 315, 2, 2), (1, 11, 1, 0), (1, 25, 1, 1), (1, 29, 1, 2), (1, 32, 1, 3), (1, 44, 1, 4), (1, 47, 1, 5), (5, 11, 5, 0), (5, 16, 5, 1), (0, 9, 0, 0), (7, 241, 0, 0), (0, 15, 0, 1), (7, 248, 0, 1)]
set_option maxRecDepth 100000 in
set_option maxHeartbeats 4000000 in
theorem gFT_1_w : gFT_1.map (fun t : Nat × Nat × Nat × Nat => Cond.fieldLink (gcls t.1) t.2.1 (gTX t.2.2.1 t.2.2.2).1 (gTX t.2.2.1 t.2.2.2).2.1 (gTX t.2.2.1 t.2.2.2).2.2.1) = ([43, 44, 45, 46, 47, 48, 49, 50, 51, 52, 53, 54, 55, 56, 57, 58, 59, 60, 61, 62, 63, 64, 65, 66, 67, 68, 69, 70, 71, 72, 73, 74, 75, 76, 77, 78, 79, 106, 107, 108, 109, 110, 111, 112, 113, 114, 115, 116, 117, 118, 119, 120, 121, 122, 123, 163, 164, 165, 166, 182, 183, 184, 185, 187, 188, 210, 211, 223, 224, 225, 226] : List Nat).filterMap (fun i => tables_1_1[i]?) := rfl
def gFT_2 : List (Nat × Nat × Nat × Nat) := [(4, 12, 4, 0), (4, 18, 4, 1), (7, 10, 7, 0), (7, 19, 7, 1), (7, 23, 7, 2), (7, 29, 7, 3), (7, 33, 7, 4), (7, 37, 7, 5), (7, 44, 7, 6), (7, 51, 7, 7), (7, 58, 7, 8), (7, 65, 7, 9), (7, 69, 7, 10)]
set_option maxRecDepth 100000 in
set_option maxHeartbeats 4000000 in
theorem gFT_2_w : gFT_2.map (fun t : Nat × Nat × Nat × Nat => Cond.fieldLink (gcls t.1) t.2.1 (gTX t.2.2.1 t.2.2.2).1 (gTX t.2.2.1 t.2.2.2).2.1 (gTX t.2.2.1 t.2.2.2).2.2.1) = ([0, 1, 7, 8, 9, 10, 11, 12, 13, 14, 15, 16, 17] : List Nat).filterMap (fun i => tables_1_2[i]?) := rfl
def gFT_5 : List (Nat × Nat × Nat × Nat) := [(8, 58, 8, 0), (8, 61, 8, 1), (8, 7, 8, 2), (8, 13, 8, 3), (8, 189, 8, 4), (8, 16, 8, 5), (8, 20, 8, 6)]
set_option maxRecDepth 100000 in
set_option maxHeartbeats 4000000 in
theorem gFT_5_w : gFT_5.map (fun t : Nat × Nat × Nat × Nat => Cond.fieldLink (gcls t.1) t.2.1 (gTX t.2.2.1 t.2.2.2).1 (gTX t.2.2.1 t.2.2.2).2.1 (gTX t.2.2.1 t.2.2.2).2.2.1) = ([233, 234, 235, 236, 237, 238, 239] : List Nat).filterMap (fun i => tables_1_5[i]?) := rfl
def gFT_6 : List (Nat × Nat × Nat × Nat) := [(8, 73, 8, 7), (8, 76, 8, 8), (8, 23, 8, 9), (8, 79, 8, 10), (8, 82, 8, 11), (8, 88, 8, 12), (8, 91, 8, 13), (8, 101, 8, 14), (8, 104, 8, 15), (8, 107, 8, 16), (8, 27, 8, 17), (8, 30, 8, 18), (8, 148, 8, 19), (8, 33, 8, 20), (8, 215, 8, 21), (8, 36, 8, 22), (8, 39, 8, 23), (8, 253, 8, 24), (8, 42, 8, 25), (8, 45, 8, 26), (8, 48, 8, 27), (8, 316, 8, 28), (8, 320, 8, 29), (8, 51, 8, 30), (8, 55, 8, 31)]
set_option maxRecDepth 100000 in
set_option maxHeartbeats 4000000 in
theorem gFT_6_w : gFT_6.map (fun t : Nat × Nat × Nat × Nat => Cond.fieldLink (gcls t.1) t.2.1 (gTX t.2.2.1 t.2.2.2).1 (gTX t.2.2.1 t.2.2.2).2.1 (gTX t.2.2.1 t.2.2.2).2.2.1) = ([0, 1, 2, 3, 4, 5, 6, 7, 8, 9, 10, 11, 12, 13, 14, 15, 16, 17, 18, 19, 20, 21, 22, 23, 24] : List Nat).filterMap (fun i => tables_1_6[i]?) := rfl
def gFT : List (Nat × Nat × Nat × Nat) := gFT_1 ++ gFT_2 ++ gFT_5 ++ gFT_6
theorem gFT_ok : ∀ t ∈ gFT, (fun t : Nat × Nat × Nat × Nat => Cond.fieldLink (gcls t.1) t.2.1 (gTX t.2.2.1 t.2.2.2).1 (gTX t.2.2.1 t.2.2.2).2.1 (gTX t.2.2.1 t.2.2.2).2.2.1) t ∈ gBig := by
  intro t ht
  rcases List.mem_append.mp ht with ht | ht
  rotate_left
  · exact gBig_of (gpc6 (gsubl gFT_6_w t ht)) rfl
  rcases List.mem_append.mp ht with ht | ht
  rotate_left
  · exact gBig_of (gpc5 (gsubl gFT_5_w t ht)) rfl
  rcases List.mem_append.mp ht with ht | ht
  rotate_left
  · exact gBig_of (gpc2 (gsubl gFT_2_w t ht)) rfl
  exact gBig_of (gpc1 (gsubl gFT_1_w t ht)) rfl
def gYc_2 : List Nat := [52, 21, 54, 55, 56, 57, 58, 96, 107, 53, 22, 308, 307, 44, 310, 48, 309, 31, 32, 34, 33, 23, 29, 311, 312]
set_option maxRecDepth 100000 in
set_option maxHeartbeats 4000000 in
theorem gYc_2_w : gYc_2.map (fun y : Nat => Cond.code (hy y) (hb y) (hml y) (hr y)) = ([44, 48, 52, 56, 60, 64, 68, 72, 76, 85, 156, 159, 162, 166, 169, 173, 176, 183, 187, 191, 195, 199, 204, 208, 218] : List Nat).filterMap (fun i => tables_1_2[i]?) := rfl
def gYc_3 : List Nat := [30, 28, 120, 24, 25, 26, 47, 27, 45, 20, 59, 110, 114, 46, 60, 111, 61, 62, 63, 115, 122, 6, 121, 304, 11, 12, 13, 15, 14, 10, 64, 65, 66, 123, 67, 124, 68]
set_option maxRecDepth 100000 in
set_option maxHeartbeats 4000000 in
theorem gYc_3_w : gYc_3.map (fun y : Nat => Cond.code (hy y) (hb y) (hml y) (hr y)) = ([16, 20, 24, 30, 35, 39, 43, 49, 71, 75, 83, 87, 107, 112, 119, 123, 131, 138, 145, 149, 154, 158, 164, 167, 171, 175, 179, 183, 187, 191, 198, 205, 212, 216, 223, 227, 235] : List Nat).filterMap (fun i => tables_1_3[i]?) := rfl
def gYc_4 : List Nat := [69, 70, 71, 117, 72, 112, 125, 8, 73, 17, 9, 74, 126, 41, 7, 42, 43, 75, 40, 76, 77, 127, 78, 119, 35, 36, 79, 16, 80, 81, 82, 49, 83, 50, 84, 85, 86, 87, 118, 0, 3, 306]
set_option maxRecDepth 100000 in
set_option maxHeartbeats 4000000 in
theorem gYc_4_w : gYc_4.map (fun y : Nat => Cond.code (hy y) (hb y) (hml y) (hr y)) = ([3, 10, 17, 20, 29, 33, 38, 42, 49, 53, 58, 65, 69, 73, 77, 83, 89, 97, 102, 109, 116, 120, 129, 133, 137, 144, 153, 158, 165, 172, 179, 183, 191, 196, 203, 210, 217, 225, 229, 233, 236, 239] : List Nat).filterMap (fun i => tables_1_4[i]?) := rfl
def gYc_5 : List Nat := [4, 88, 89, 90, 1, 5, 2, 91, 37, 38, 92, 128, 93, 113, 129, 94, 95, 97, 98, 18, 99, 100, 101, 102, 103, 104, 39, 51, 305, 105, 106, 19, 108, 116, 109]
set_option maxRecDepth 100000 in
set_option maxHeartbeats 4000000 in
theorem gYc_5_w : gYc_5.map (fun y : Nat => Cond.code (hy y) (hb y) (hml y) (hr y)) = ([4, 12, 19, 26, 30, 34, 39, 47, 51, 58, 66, 70, 77, 81, 86, 94, 101, 108, 117, 121, 132, 139, 146, 155, 163, 171, 176, 182, 185, 193, 202, 206, 214, 217, 225] : List Nat).filterMap (fun i => tables_1_5[i]?) := rfl
def gYc_6 : List Nat := [130, 136, 137, 138, 139, 156, 131, 132, 155, 143, 140, 141, 142, 147, 146, 144, 145, 149, 148, 134, 135, 152, 150, 151, 153, 154, 157, 163, 162, 164, 165, 166, 168, 133, 159, 169]
set_option maxRecDepth 100000 in
set_option maxHeartbeats 4000000 in
theorem gYc_6_w : gYc_6.map (fun y : Nat => Cond.code (hy y) (hb y) (hml y) (hr y)) = ([93, 97, 101, 105, 109, 113, 116, 120, 124, 128, 132, 135, 138, 143, 147, 153, 157, 161, 165, 169, 172, 177, 181, 185, 190, 195, 200, 204, 208, 212, 216, 220, 224, 228, 232, 236] : List Nat).filterMap (fun i => tables_1_6[i]?) := rfl
def gYc_7 : List Nat := [161, 160, 158, 167, 170, 171, 180, 179, 178, 174, 172, 177, 175, 173, 176, 183, 182, 181, 185, 184, 187, 186, 189, 188, 190, 191, 192, 193, 199, 198, 194, 200, 195, 201, 197, 196, 202, 203, 206, 205, 204, 207, 208, 209, 213, 214, 210, 215, 216, 217, 212, 218, 211, 222, 221, 219, 220, 223, 224, 226]
set_option maxRecDepth 100000 in
set_option maxHeartbeats 4000000 in
theorem gYc_7_w : gYc_7.map (fun y : Nat => Cond.code (hy y) (hb y) (hml y) (hr y)) = ([0, 4, 8, 12, 16, 20, 24, 28, 32, 36, 40, 44, 48, 52, 56, 60, 64, 68, 72, 76, 80, 84, 88, 92, 96, 101, 105, 109, 113, 117, 121, 125, 129, 133, 137, 141, 145, 149, 153, 157, 161, 165, 169, 173, 177, 181, 185, 190, 194, 198, 202, 206, 211, 215, 219, 222, 226, 230, 234, 238] : List Nat).filterMap (fun i => tables_1_7[i]?) := rfl
def gYc_8 : List Nat := [225, 230, 239, 227, 228, 240, 232, 231, 235, 234, 233, 236, 237, 238, 243, 242, 241, 244, 245, 246, 247, 248, 249, 229, 250, 251, 252, 253]
set_option maxRecDepth 100000 in
set_option maxHeartbeats 4000000 in
theorem gYc_8_w : gYc_8.map (fun y : Nat => Cond.code (hy y) (hb y) (hml y) (hr y)) = ([2, 7, 11, 15, 19, 23, 27, 31, 35, 39, 43, 47, 51, 55, 59, 63, 67, 71, 75, 79, 83, 87, 91, 95, 100, 104, 108, 112] : List Nat).filterMap (fun i => tables_1_8[i]?) := rfl
def gYc : List Nat := gYc_2 ++ gYc_3 ++ gYc_4 ++ gYc_5 ++ gYc_6 ++ gYc_7 ++ gYc_8
theorem gYc_ok : ∀ t ∈ gYc, (fun y : Nat => Cond.code (hy y) (hb y) (hml y) (hr y)) t ∈ gBig := by
  intro t ht
  rcases List.mem_append.mp ht with ht | ht
  rotate_left
  · exact gBig_of (gpc8 (gsubl gYc_8_w t ht)) rfl
  rcases List.mem_append.mp ht with ht | ht
  rotate_left
  · exact gBig_of (gpc7 (gsubl gYc_7_w t ht)) rfl
  rcases List.mem_append.mp ht with ht | ht
  rotate_left
  · exact gBig_of (gpc6 (gsubl gYc_6_w t ht)) rfl
  rcases List.mem_append.mp ht with ht | ht
  rotate_left
  · exact gBig_of (gpc5 (gsubl gYc_5_w t ht)) rfl
  rcases List.mem_append.mp ht with ht | ht
  rotate_left
  · exact gBig_of (gpc4 (gsubl gYc_4_w t ht)) rfl
  rcases List.mem_append.mp ht with ht | ht
  rotate_left
  · exact gBig_of (gpc3 (gsubl gYc_3_w t ht)) rfl
  exact gBig_of (gpc2 (gsubl gYc_2_w t ht)) rfl
def gYx_2 : List Nat := [254]
set_option maxRecDepth 100000 in
set_option maxHeartbeats 4000000 in
theorem gYx_2_w : gYx_2.map (fun y : Nat => Cond.codeWith (hy y) (hb y) (hml y) (hr y) (hht y)) = ([79] : List Nat).filterMap (fun i => tables_1_2[i]?) := rfl
def gYx_3 : List Nat := [255, 256, 257, 258, 259, 260, 261, 262, 263, 264, 265]
set_option maxRecDepth 100000 in
set_option maxHeartbeats 4000000 in
theorem gYx_3_w : gYx_3.map (fun y : Nat => Cond.codeWith (hy y) (hb y) (hml y) (hr y) (hht y)) = ([78, 115, 127, 134, 141, 194, 201, 208, 219, 231, 239] : List Nat).filterMap (fun i => tables_1_3[i]?) := rfl
def gYx_4 : List Nat := [266, 267, 268, 269, 270, 271, 272, 273, 274, 275, 276, 277, 278, 279, 280, 281, 282, 283]
set_option maxRecDepth 100000 in
set_option maxHeartbeats 4000000 in
theorem gYx_4_w : gYx_4.map (fun y : Nat => Cond.codeWith (hy y) (hb y) (hml y) (hr y) (hht y)) = ([6, 13, 25, 45, 61, 93, 105, 112, 125, 149, 161, 168, 175, 187, 199, 206, 213, 221] : List Nat).filterMap (fun i => tables_1_4[i]?) := rfl
def gYx_5 : List Nat := [284, 285, 286, 287, 288, 289, 290, 291, 292, 293, 294, 295, 296, 297, 298, 299, 300, 301, 302, 303]
set_option maxRecDepth 100000 in
set_option maxHeartbeats 4000000 in
theorem gYx_5_w : gYx_5.map (fun y : Nat => Cond.codeWith (hy y) (hb y) (hml y) (hr y) (hht y)) = ([8, 15, 22, 43, 62, 73, 90, 97, 104, 113, 128, 135, 142, 151, 159, 167, 189, 198, 210, 221] : List Nat).filterMap (fun i => tables_1_5[i]?) := rfl
def gYx : List Nat := gYx_2 ++ gYx_3 ++ gYx_4 ++ gYx_5
theorem gYx_ok : ∀ t ∈ gYx, (fun y : Nat => Cond.codeWith (hy y) (hb y) (hml y) (hr y) (hht y)) t ∈ gBig := by
  intro t ht
  rcases List.mem_append.mp ht with ht | ht
  rotate_left
  · exact gBig_of (gpc5 (gsubl gYx_5_w t ht)) rfl
  rcases List.mem_append.mp ht with ht | ht
  rotate_left
  · exact gBig_of (gpc4 (gsubl gYx_4_w t ht)) rfl
  rcases List.mem_append.mp ht with ht | ht
  rotate_left
  · exact gBig_of (gpc3 (gsubl gYx_3_w t ht)) rfl
  exact gBig_of (gpc2 (gsubl gYx_2_w t ht)) rfl
def gYi_2 : List Nat := [52, 21, 54, 55, 56, 57, 58, 96, 107, 53, 22, 44, 48, 31, 32, 34, 33, 23, 29, 311, 312]
set_option maxRecDepth 100000 in
set_option maxHeartbeats 4000000 in
theorem gYi_2_w : gYi_2.map (fun y : Nat => Cond.instanceMethod (hy y)) = ([42, 46, 50, 54, 58, 62, 66, 70, 74, 83, 154, 164, 171, 182, 186, 190, 194, 198, 203, 206, 216] : List Nat).filterMap (fun i => tables_1_2[i]?) := rfl
def gYi_3 : List Nat := [30, 28, 24, 25, 26, 47, 27, 45, 20, 59, 110, 114, 46, 60, 111, 61, 62, 63, 115, 122, 6, 11, 12, 13, 15, 14, 10, 64, 65, 66, 123, 67, 124, 68]
set_option maxRecDepth 100000 in
set_option maxHeartbeats 4000000 in
theorem gYi_3_w : gYi_3.map (fun y : Nat => Cond.instanceMethod (hy y)) = ([15, 19, 29, 34, 38, 41, 48, 69, 73, 81, 86, 106, 110, 117, 122, 129, 136, 143, 148, 153, 156, 169, 174, 178, 181, 186, 189, 196, 203, 210, 215, 221, 226, 233] : List Nat).filterMap (fun i => tables_1_3[i]?) := rfl
def gYi_4 : List Nat := [69, 70, 71, 72, 112, 125, 8, 73, 17, 9, 74, 126, 41, 7, 42, 43, 75, 40, 76, 77, 127, 78, 119, 35, 36, 79, 16, 80, 81, 82, 49, 83, 50, 84, 85, 86, 87, 118, 0]
set_option maxRecDepth 100000 in
set_option maxHeartbeats 4000000 in
theorem gYi_4_w : gYi_4.map (fun y : Nat => Cond.instanceMethod (hy y)) = ([1, 8, 15, 27, 32, 37, 40, 47, 51, 56, 63, 68, 71, 75, 82, 88, 95, 100, 107, 114, 119, 127, 132, 135, 142, 151, 156, 163, 170, 177, 181, 189, 194, 201, 208, 215, 223, 228, 231] : List Nat).filterMap (fun i => tables_1_4[i]?) := rfl
def gYi_5 : List Nat := [88, 89, 90, 1, 2, 91, 37, 38, 92, 128, 93, 113, 129, 94, 95, 97, 98, 18, 99, 100, 101, 102, 103, 104, 39, 51, 105, 106, 19, 108, 109]
set_option maxRecDepth 100000 in
set_option maxHeartbeats 4000000 in
theorem gYi_5_w : gYi_5.map (fun y : Nat => Cond.instanceMethod (hy y)) = ([10, 17, 24, 28, 38, 45, 49, 57, 64, 69, 75, 80, 85, 92, 99, 106, 115, 119, 130, 137, 144, 153, 161, 169, 174, 180, 191, 200, 204, 212, 223] : List Nat).filterMap (fun i => tables_1_5[i]?) := rfl
def gYi_6 : List Nat := [130, 136, 137, 138, 139, 156, 132, 155, 143, 140, 147, 146, 144, 145, 149, 148, 152, 150, 151, 153, 154, 157, 163, 162, 164, 165, 166, 168, 133, 159, 169, 161]
set_option maxRecDepth 100000 in
set_option maxHeartbeats 4000000 in
theorem gYi_6_w : gYi_6.map (fun y : Nat => Cond.instanceMethod (hy y)) = ([91, 95, 99, 103, 107, 111, 119, 123, 127, 131, 142, 146, 152, 156, 160, 164, 176, 180, 184, 189, 194, 199, 202, 207, 210, 214, 218, 222, 227, 231, 234, 239] : List Nat).filterMap (fun i => tables_1_6[i]?) := rfl
def gYi_7 : List Nat := [160, 158, 167, 170, 171, 180, 179, 178, 174, 172, 177, 175, 173, 176, 183, 182, 181, 185, 184, 187, 186, 189, 188, 190, 191, 192, 193, 199, 198, 194, 200, 195, 201, 197, 196, 202, 203, 206, 205, 204, 207, 208, 209, 213, 214, 210, 215, 216, 217, 212, 218, 211, 222, 221, 223, 224, 226]
set_option maxRecDepth 100000 in
set_option maxHeartbeats 4000000 in
theorem gYi_7_w : gYi_7.map (fun y : Nat => Cond.instanceMethod (hy y)) = ([3, 7, 11, 14, 18, 22, 27, 31, 35, 39, 43, 47, 51, 55, 58, 63, 67, 70, 75, 78, 83, 86, 91, 94, 99, 103, 107, 111, 116, 120, 123, 128, 131, 136, 140, 143, 147, 151, 156, 160, 163, 167, 171, 175, 179, 184, 188, 192, 196, 201, 204, 210, 213, 218, 228, 232, 236] : List Nat).filterMap (fun i => tables_1_7[i]?) := rfl
def gYi_8 : List Nat := [225, 230, 239, 227, 228, 240, 232, 231, 235, 234, 233, 236, 237, 238, 243, 242, 241, 244, 245, 246, 247, 248, 249, 229, 250, 251, 252, 253]
set_option maxRecDepth 100000 in
set_option maxHeartbeats 4000000 in
theorem gYi_8_w : gYi_8.map (fun y : Nat => Cond.instanceMethod (hy y)) = ([1, 5, 10, 14, 18, 22, 25, 30, 33, 38, 42, 45, 49, 53, 57, 62, 66, 69, 73, 77, 81, 85, 89, 94, 98, 102, 106, 110] : List Nat).filterMap (fun i => tables_1_8[i]?) := rfl
def gYi : List Nat := gYi_2 ++ gYi_3 ++ gYi_4 ++ gYi_5 ++ gYi_6 ++ gYi_7 ++ gYi_8
theorem gYi_ok : ∀ t ∈ gYi, (fun y : Nat => Cond.instanceMethod (hy y)) t ∈ gBig := by
  intro t ht
  rcases List.mem_append.mp ht with ht | ht
  rotate_left
  · exact gBig_of (gpc8 (gsubl gYi_8_w t ht)) rfl
  rcases List.mem_append.mp ht with ht | ht
  rotate_left
  · exact gBig_of (gpc7 (gsubl gYi_7_w t ht)) rfl
  rcases List.mem_append.mp ht with ht | ht
  rotate_left
  · exact gBig_of (gpc6 (gsubl gYi_6_w t ht)) rfl
  rcases List.mem_append.mp ht with ht | ht
  rotate_left
  · exact gBig_of (gpc5 (gsubl gYi_5_w t ht)) rfl
  rcases List.mem_append.mp ht with ht | ht
  rotate_left
  · exact gBig_of (gpc4 (gsubl gYi_4_w t ht)) rfl
  rcases List.mem_append.mp ht with ht | ht
  rotate_left
  · exact gBig_of (gpc3 (gsubl gYi_3_w t ht)) rfl
  exact gBig_of (gpc2 (gsubl gYi_2_w t ht)) rfl
def gYs_2 : List Nat := [254, 308, 307, 310, 309]
set_option maxRecDepth 100000 in
set_option maxHeartbeats 4000000 in
theorem gYs_2_w : gYs_2.map (fun y : Nat => Cond.static (hy y)) = ([78, 158, 161, 168, 175] : List Nat).filterMap (fun i => tables_1_2[i]?) := rfl
def gYs_3 : List Nat := [120, 255, 256, 257, 258, 259, 121, 304, 260, 261, 262, 263, 264, 265]
set_option maxRecDepth 100000 in
set_option maxHeartbeats 4000000 in
theorem gYs_3_w : gYs_3.map (fun y : Nat => Cond.static (hy y)) = ([23, 77, 114, 126, 133, 140, 163, 166, 193, 200, 207, 218, 230, 238] : List Nat).filterMap (fun i => tables_1_3[i]?) := rfl
def gYs_4 : List Nat := [266, 267, 117, 268, 269, 270, 271, 272, 273, 274, 275, 276, 277, 278, 279, 280, 281, 282, 283, 3, 306]
set_option maxRecDepth 100000 in
set_option maxHeartbeats 4000000 in
theorem gYs_4_w : gYs_4.map (fun y : Nat => Cond.static (hy y)) = ([5, 12, 19, 24, 44, 60, 92, 104, 111, 124, 148, 160, 167, 174, 186, 198, 205, 212, 220, 235, 238] : List Nat).filterMap (fun i => tables_1_4[i]?) := rfl
def gYs_5 : List Nat := [4, 284, 285, 286, 5, 287, 288, 289, 290, 291, 292, 293, 294, 295, 296, 297, 298, 299, 305, 300, 301, 302, 116, 303]
set_option maxRecDepth 100000 in
set_option maxHeartbeats 4000000 in
theorem gYs_5_w : gYs_5.map (fun y : Nat => Cond.static (hy y)) = ([3, 7, 14, 21, 33, 42, 61, 72, 89, 96, 103, 112, 127, 134, 141, 150, 158, 166, 184, 188, 197, 209, 216, 220] : List Nat).filterMap (fun i => tables_1_5[i]?) := rfl
def gYs_6 : List Nat := [131, 141, 142, 134, 135]
set_option maxRecDepth 100000 in
set_option maxHeartbeats 4000000 in
theorem gYs_6_w : gYs_6.map (fun y : Nat => Cond.static (hy y)) = ([115, 134, 137, 168, 171] : List Nat).filterMap (fun i => tables_1_6[i]?) := rfl
def gYs_7 : List Nat := [219, 220]
set_option maxRecDepth 100000 in
set_option maxHeartbeats 4000000 in
theorem gYs_7_w : gYs_7.map (fun y : Nat => Cond.static (hy y)) = ([221, 225] : List Nat).filterMap (fun i => tables_1_7[i]?) := rfl
def gYs : List Nat := gYs_2 ++ gYs_3 ++ gYs_4 ++ gYs_5 ++ gYs_6 ++ gYs_7
theorem gYs_ok : ∀ t ∈ gYs, (fun y : Nat => Cond.static (hy y)) t ∈ gBig := by
  intro t ht
  rcases List.mem_append.mp ht with ht | ht
  rotate_left
  · exact gBig_of (gpc7 (gsubl gYs_7_w t ht)) rfl
  rcases List.mem_append.mp ht with ht | ht
  rotate_left
  · exact gBig_of (gpc6 (gsubl gYs_6_w t ht)) rfl
  rcases List.mem_append.mp ht with ht | ht
  rotate_left
  · exact gBig_of (gpc5 (gsubl gYs_5_w t ht)) rfl
  rcases List.mem_append.mp ht with ht | ht
  rotate_left
  · exact gBig_of (gpc4 (gsubl gYs_4_w t ht)) rfl
  rcases List.mem_append.mp ht with ht | ht
  rotate_left
  · exact gBig_of (gpc3 (gsubl gYs_3_w t ht)) rfl
  exact gBig_of (gpc2 (gsubl gYs_2_w t ht)) rfl
def gYp_2 : List Nat := [52, 21, 54, 55, 56, 57, 58, 96, 107, 53, 22, 44, 48, 311, 312]
set_option maxRecDepth 100000 in
set_option maxHeartbeats 4000000 in
theorem gYp_2_w : gYp_2.map (fun y : Nat => Cond.selects (hy y).cls (hy y) (hy y)) = ([43, 47, 51, 55, 59, 63, 67, 71, 75, 84, 155, 165, 172, 207, 217] : List Nat).filterMap (fun i => tables_1_2[i]?) := rfl
def gYp_3 : List Nat := [47, 45, 20, 59, 46, 60, 61, 62, 63, 6, 11, 15, 10, 64, 65, 66, 67, 68]
set_option maxRecDepth 100000 in
set_option maxHeartbeats 4000000 in
theorem gYp_3_w : gYp_3.map (fun y : Nat => Cond.selects (hy y).cls (hy y) (hy y)) = ([42, 70, 74, 82, 111, 118, 130, 137, 144, 157, 170, 182, 190, 197, 204, 211, 222, 234] : List Nat).filterMap (fun i => tables_1_3[i]?) := rfl
def gYp_4 : List Nat := [69, 70, 71, 72, 8, 73, 17, 9, 74, 41, 7, 75, 40, 76, 77, 78, 35, 36, 79, 16, 80, 81, 82, 49, 83, 50, 84, 85, 86, 87, 0]
set_option maxRecDepth 100000 in
set_option maxHeartbeats 4000000 in
theorem gYp_4_w : gYp_4.map (fun y : Nat => Cond.selects (hy y).cls (hy y) (hy y)) = ([2, 9, 16, 28, 41, 48, 52, 57, 64, 72, 76, 96, 101, 108, 115, 128, 136, 143, 152, 157, 164, 171, 178, 182, 190, 195, 202, 209, 216, 224, 232] : List Nat).filterMap (fun i => tables_1_4[i]?) := rfl
def gYp_5 : List Nat := [88, 89, 90, 1, 91, 37, 92, 93, 94, 95, 97, 98, 18, 99, 100, 101, 102, 103, 104, 39, 51, 105, 106, 19, 108, 109]
set_option maxRecDepth 100000 in
set_option maxHeartbeats 4000000 in
theorem gYp_5_w : gYp_5.map (fun y : Nat => Cond.selects (hy y).cls (hy y) (hy y)) = ([11, 18, 25, 29, 46, 50, 65, 76, 93, 100, 107, 116, 120, 131, 138, 145, 154, 162, 170, 175, 181, 192, 201, 205, 213, 224] : List Nat).filterMap (fun i => tables_1_5[i]?) := rfl
def gYp_6 : List Nat := [130, 136, 137, 138, 139, 156, 163, 164, 165, 166, 168, 169]
set_option maxRecDepth 100000 in
set_option maxHeartbeats 4000000 in
theorem gYp_6_w : gYp_6.map (fun y : Nat => Cond.selects (hy y).cls (hy y) (hy y)) = ([92, 96, 100, 104, 108, 112, 203, 211, 215, 219, 223, 235] : List Nat).filterMap (fun i => tables_1_6[i]?) := rfl
def gYp_7 : List Nat := [170, 171, 180, 183, 185, 187, 189, 190, 191, 192, 193, 199, 200, 201, 202, 203, 206, 207, 208, 209, 213, 214, 215, 216, 217, 218, 222, 223, 224, 226]
set_option maxRecDepth 100000 in
set_option maxHeartbeats 4000000 in
theorem gYp_7_w : gYp_7.map (fun y : Nat => Cond.selects (hy y).cls (hy y) (hy y)) = ([15, 19, 23, 59, 71, 79, 87, 95, 100, 104, 108, 112, 124, 132, 144, 148, 152, 164, 168, 172, 176, 180, 189, 193, 197, 205, 214, 229, 233, 237] : List Nat).filterMap (fun i => tables_1_7[i]?) := rfl
def gYp_8 : List Nat := [230, 232, 235, 236, 237, 238, 243, 244, 245, 246, 247, 248, 249, 250, 251, 252, 253]
set_option maxRecDepth 100000 in
set_option maxHeartbeats 4000000 in
theorem gYp_8_w : gYp_8.map (fun y : Nat => Cond.selects (hy y).cls (hy y) (hy y)) = ([6, 26, 34, 46, 50, 54, 58, 70, 74, 78, 82, 86, 90, 99, 103, 107, 111] : List Nat).filterMap (fun i => tables_1_8[i]?) := rfl
def gYp : List Nat := gYp_2 ++ gYp_3 ++ gYp_4 ++ gYp_5 ++ gYp_6 ++ gYp_7 ++ gYp_8
theorem gYp_ok : ∀ t ∈ gYp, (fun y : Nat => Cond.selects (hy y).cls (hy y) (hy y)) t ∈ gBig := by
  intro t ht
  rcases List.mem_append.mp ht with ht | ht
  rotate_left
  · exact gBig_of (gpc8 (gsubl gYp_8_w t ht)) rfl
  rcases List.mem_append.mp ht with ht | ht
  rotate_left
  · exact gBig_of (gpc7 (gsubl gYp_7_w t ht)) rfl
  rcases List.mem_append.mp ht with ht | ht
  rotate_left
  · exact gBig_of (gpc6 (gsubl gYp_6_w t ht)) rfl
  rcases List.mem_append.mp ht with ht | ht
  rotate_left
  · exact gBig_of (gpc5 (gsubl gYp_5_w t ht)) rfl
  rcases List.mem_append.mp ht with ht | ht
  rotate_left
  · exact gBig_of (gpc4 (gsubl gYp_4_w t ht)) rfl
  rcases List.mem_append.mp ht with ht | ht
  rotate_left
  · exact gBig_of (gpc3 (gsubl gYp_3_w t ht)) rfl
  exact gBig_of (gpc2 (gsubl gYp_2_w t ht)) rfl
def gYq : List Nat := [31, 32, 34, 33, 23, 29, 30, 28, 24, 25, 26, 27, 110, 114, 111, 115, 122, 12, 13, 14, 123, 124, 112, 125, 126, 42, 43, 127, 119, 118, 2, 38, 128, 113, 129, 132, 155, 143, 140, 147, 146, 144, 145, 149, 148, 152, 150, 151, 153, 154, 157, 162, 133, 159, 161, 160, 158, 167, 179, 178, 174, 172, 177, 175, 173, 176, 182, 181, 184, 186, 188, 198, 194, 195, 197, 196, 205, 204, 210, 212, 211, 221, 225, 239, 227, 228, 240, 231, 234, 233, 242, 241, 229]
set_option maxRecDepth 100000 in
set_option maxHeartbeats 4000000 in
theorem gYq_w : gYq.map (fun y : Nat => Cond.selects (hy y).cls (hy y) (hy y)) = ([1, 2, 3, 4, 5, 6, 7, 8, 9, 10, 11, 12, 13, 14, 15, 16, 17, 18, 19, 20, 21, 22, 23, 24, 25, 26, 27, 28, 29, 30, 31, 32, 33, 34, 35, 36, 37, 38, 39, 40, 41, 42, 43, 44, 45, 46, 47, 48, 49, 50, 51, 52, 53, 54, 55, 56, 57, 58, 59, 60, 61, 62, 63, 64, 65, 66, 67, 68, 69, 70, 71, 72, 73, 74, 75, 76, 77, 78, 79, 80, 81, 82, 83, 84, 85, 86, 87, 88, 89, 90, 91, 92, 93] : List Nat).filterMap (fun i => (k2_sels lw_privs)[i]?) := rfl
theorem gYq_ok : ∀ t ∈ gYq, Cond.selects (hy t).cls (hy t) (hy t) ∈ gBig := fun t ht => gBig_of (List.mem_append_left _ (gsubl gYq_w t ht)) rfl
def gIn_1 : List String := ["ToeplitzLabLaw", "ToeplitzLab", "ToeplitzLab$Input", "ToeplitzLab$State", "ToeplitzLab$History", "ToeplitzLab$Grid", "ToeplitzLab$Pairs", "ToeplitzLab$Fractions", "ToeplitzLab$Lifter", "ToeplitzLabModel", "java/lang/IndexOutOfBoundsException", "java/lang/Math", "java/util/Arrays", "java/lang/System", "java/lang/String", "java/lang/IllegalArgumentException", "java/lang/IllegalStateException"]
set_option maxRecDepth 100000 in
set_option maxHeartbeats 4000000 in
theorem gIn_1_w : gIn_1.map (fun s : String => Cond.initialized s) = ([0, 1, 2, 3, 4, 5, 6, 7, 8, 9, 13, 14, 15, 16, 17, 21, 22] : List Nat).filterMap (fun i => tables_1_1[i]?) := rfl
def gIn : List String := gIn_1
theorem gIn_ok : ∀ t ∈ gIn, (fun s : String => Cond.initialized s) t ∈ gBig := by
  intro t ht
  exact gBig_of (gpc1 (gsubl gIn_1_w t ht)) rfl
def gCl_2 : List (String × Nat × String) := [("ToeplitzLabLaw", 13, "java/lang/IndexOutOfBoundsException"), ("ToeplitzLabLaw", 15, "java/lang/IllegalArgumentException"), ("ToeplitzLab", 81, "java/lang/IndexOutOfBoundsException")]
set_option maxRecDepth 100000 in
set_option maxHeartbeats 4000000 in
theorem gCl_2_w : gCl_2.map (fun t : String × Nat × String => Cond.classLink t.1 t.2.1 t.2.2) = ([80, 81, 86] : List Nat).filterMap (fun i => tables_1_2[i]?) := rfl
def gCl_3 : List (String × Nat × String) := [("ToeplitzLab", 92, "java/lang/IllegalArgumentException"), ("ToeplitzLabLaw", 20, "java/lang/IllegalStateException"), ("ToeplitzLab", 310, "java/lang/IllegalStateException")]
set_option maxRecDepth 100000 in
set_option maxHeartbeats 4000000 in
theorem gCl_3_w : gCl_3.map (fun t : String × Nat × String => Cond.classLink t.1 t.2.1 t.2.2) = ([52, 79, 88] : List Nat).filterMap (fun i => tables_1_3[i]?) := rfl
def gCl : List (String × Nat × String) := gCl_2 ++ gCl_3
theorem gCl_ok : ∀ t ∈ gCl, (fun t : String × Nat × String => Cond.classLink t.1 t.2.1 t.2.2) t ∈ gBig := by
  intro t ht
  rcases List.mem_append.mp ht with ht | ht
  rotate_left
  · exact gBig_of (gpc3 (gsubl gCl_3_w t ht)) rfl
  exact gBig_of (gpc2 (gsubl gCl_2_w t ht)) rfl
def gKl_4 : List (String × Nat × Int64) := [("ToeplitzLab$State", 66, 1000000000000), ("ToeplitzLab", 232, 2)]
set_option maxRecDepth 100000 in
set_option maxHeartbeats 4000000 in
theorem gKl_4_w : gKl_4.map (fun t : String × Nat × Int64 => Cond.constantLong t.1 t.2.1 t.2.2) = ([184, 218] : List Nat).filterMap (fun i => tables_1_4[i]?) := rfl
def gKl_5 : List (String × Nat × Int64) := [("ToeplitzLab$Fractions", 72, 1000000), ("ToeplitzLab$Fractions", 74, 2), ("ToeplitzLab$Fractions", 52, 1000000000)]
set_option maxRecDepth 100000 in
set_option maxHeartbeats 4000000 in
theorem gKl_5_w : gKl_5.map (fun t : String × Nat × Int64 => Cond.constantLong t.1 t.2.1 t.2.2) = ([0, 1, 35] : List Nat).filterMap (fun i => tables_1_5[i]?) := rfl
def gKl_7 : List (String × Nat × Int64) := [("ToeplitzLabModel", 289, 1000000000000), ("ToeplitzLabModel", 298, 2)]
set_option maxRecDepth 100000 in
set_option maxHeartbeats 4000000 in
theorem gKl_7_w : gKl_7.map (fun t : String × Nat × Int64 => Cond.constantLong t.1 t.2.1 t.2.2) = ([186, 207] : List Nat).filterMap (fun i => tables_1_7[i]?) := rfl
def gKl_8 : List (String × Nat × Int64) := [("ToeplitzLabModel", 326, 1000000000)]
set_option maxRecDepth 100000 in
set_option maxHeartbeats 4000000 in
theorem gKl_8_w : gKl_8.map (fun t : String × Nat × Int64 => Cond.constantLong t.1 t.2.1 t.2.2) = ([3] : List Nat).filterMap (fun i => tables_1_8[i]?) := rfl
def gKl : List (String × Nat × Int64) := gKl_4 ++ gKl_5 ++ gKl_7 ++ gKl_8
theorem gKl_ok : ∀ t ∈ gKl, (fun t : String × Nat × Int64 => Cond.constantLong t.1 t.2.1 t.2.2) t ∈ gBig := by
  intro t ht
  rcases List.mem_append.mp ht with ht | ht
  rotate_left
  · exact gBig_of (gpc8 (gsubl gKl_8_w t ht)) rfl
  rcases List.mem_append.mp ht with ht | ht
  rotate_left
  · exact gBig_of (gpc7 (gsubl gKl_7_w t ht)) rfl
  rcases List.mem_append.mp ht with ht | ht
  rotate_left
  · exact gBig_of (gpc5 (gsubl gKl_5_w t ht)) rfl
  exact gBig_of (gpc4 (gsubl gKl_4_w t ht)) rfl
