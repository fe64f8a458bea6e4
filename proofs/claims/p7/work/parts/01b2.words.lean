theorem mem_2 {big : List Cond} (ch : List (List Cond)) (hc : ∀ c ∈ ch, ∀ w ∈ c, w ∈ big) (ws : List Cond) (ps : List (Nat × Nat)) (hp : ws = ps.filterMap (fun p => (ch[p.1]?).bind (fun c => c[p.2]?))) : ∀ w ∈ ws, w ∈ big := by
  intro w hw
  rw [hp] at hw
  obtain ⟨i, -, hi⟩ := List.mem_filterMap.mp hw
  have hi1 : (ch[i.1]?).bind (fun c => c[i.2]?) = some w := hi
  cases h9 : ch[i.1]? with
  | none =>
    rw [h9] at hi1
    cases hi1
  | some c =>
    rw [h9] at hi1
    have hi2 : c[i.2]? = some w := hi1
    exact hc c (List.mem_of_getElem? h9) w (List.mem_of_getElem? hi2)
def tbC : List (List Cond) := [k2_sels lw_privs, tables_1_1, tables_1_2, tables_1_3, tables_1_4, tables_1_5]
theorem tbC_in : ∀ c ∈ tbC, ∀ w ∈ c, w ∈ lw_tbl := List.forall_mem_cons.mpr ⟨fun w h => List.mem_append_left _ h, List.forall_mem_cons.mpr ⟨fun w h => List.mem_append_right _ (List.mem_append_left _ h), List.forall_mem_cons.mpr ⟨fun w h => List.mem_append_right _ (List.mem_append_right _ (List.mem_append_left _ h)), List.forall_mem_cons.mpr ⟨fun w h => List.mem_append_right _ (List.mem_append_right _ (List.mem_append_right _ (List.mem_append_left _ h))), List.forall_mem_cons.mpr ⟨fun w h => List.mem_append_right _ (List.mem_append_right _ (List.mem_append_right _ (List.mem_append_right _ (List.mem_append_left _ h)))), List.forall_mem_cons.mpr ⟨fun w h => List.mem_append_right _ (List.mem_append_right _ (List.mem_append_right _ (List.mem_append_right _ (List.mem_append_right _ (h))))), fun _ h => absurd h List.not_mem_nil⟩⟩⟩⟩⟩⟩
set_option maxRecDepth 20000 in
theorem in_wsL_law0_r1 : ∀ w ∈ wsL_law0_r1, w ∈ lw_tbl := mem_2 tbC tbC_in _ [(1, 24), (1, 25), (1, 1), (4, 42), (4, 43), (1, 10), (5, 45), (1, 26), (1, 27), (1, 28), (1, 29), (1, 30), (1, 31), (1, 32), (1, 33), (1, 2), (1, 175), (1, 176), (1, 101), (1, 102), (1, 7), (1, 177), (1, 119), (1, 178)] rfl
set_option maxRecDepth 20000 in
theorem in_wsL_law0_r2 : ∀ w ∈ wsL_law0_r2, w ∈ lw_tbl := mem_2 tbC tbC_in _ [(1, 121), (1, 8), (1, 35), (1, 36), (1, 37), (1, 38), (1, 39), (1, 5), (1, 94), (1, 64), (1, 65), (1, 6), (1, 95), (1, 40), (1, 41), (1, 42), (1, 50), (1, 52), (1, 43), (1, 44), (1, 4), (1, 45), (1, 54), (1, 46)] rfl
set_option maxRecDepth 20000 in
theorem in_wsL_law0_r3 : ∀ w ∈ wsL_law0_r3, w ∈ lw_tbl := mem_2 tbC tbC_in _ [(1, 47), (1, 3), (1, 48), (1, 49), (1, 67), (1, 68), (1, 69), (1, 78), (1, 104), (1, 105), (1, 106), (1, 118), (1, 109), (1, 110), (1, 123), (1, 124), (1, 125), (1, 126), (1, 165), (1, 166), (1, 128), (1, 129), (1, 9), (1, 167)] rfl
set_option maxRecDepth 20000 in
theorem in_wsL_law0_r4 : ∀ w ∈ wsL_law0_r4, w ∈ lw_tbl := mem_2 tbC tbC_in _ [(1, 127), (1, 131), (1, 132), (1, 133), (1, 142), (4, 44), (4, 45), (4, 46), (4, 47), (4, 49), (4, 97), (4, 50), (4, 51), (4, 52), (4, 53), (4, 54), (4, 55), (4, 56), (4, 57), (4, 58), (4, 59), (4, 60), (4, 61), (4, 63)] rfl
set_option maxRecDepth 20000 in
theorem in_wsL_law0_r5 : ∀ w ∈ wsL_law0_r5, w ∈ lw_tbl := mem_2 tbC tbC_in _ [(1, 192), (1, 193), (1, 0), (1, 194), (1, 195), (1, 196), (1, 197), (1, 198), (1, 199), (1, 200), (1, 201), (1, 203), (0, 0), (1, 204), (1, 205), (1, 14), (2, 33), (2, 34), (2, 35), (2, 36), (1, 15), (2, 52), (2, 54), (0, 2)] rfl
set_option maxRecDepth 20000 in
theorem in_wsL_law0_r6 : ∀ w ∈ wsL_law0_r6, w ∈ lw_tbl := mem_2 tbC tbC_in _ [(2, 55), (2, 56), (2, 58), (0, 3), (2, 59), (2, 60), (2, 61), (2, 62), (2, 63), (2, 64), (2, 65), (2, 66), (2, 67), (1, 53), (2, 68), (2, 69), (2, 70), (2, 71), (2, 72), (2, 73), (2, 74), (2, 75), (1, 55), (1, 56)] rfl
set_option maxRecDepth 20000 in
theorem in_wsL_law0_r7 : ∀ w ∈ wsL_law0_r7, w ∈ lw_tbl := mem_2 tbC tbC_in _ [(2, 76), (2, 78), (0, 4), (2, 79), (2, 80), (2, 82), (0, 5), (2, 83), (2, 84), (2, 86), (0, 6), (2, 87), (2, 129), (2, 92), (1, 17), (2, 93), (2, 130), (2, 88), (2, 89), (1, 16), (2, 90), (2, 91), (2, 94), (2, 95)] rfl
set_option maxRecDepth 20000 in
theorem in_wsL_law0_r8 : ∀ w ∈ wsL_law0_r8, w ∈ lw_tbl := mem_2 tbC tbC_in _ [(2, 96), (2, 97), (2, 98), (2, 99), (1, 18), (2, 100), (2, 101), (5, 62), (2, 102), (2, 116), (2, 117), (2, 118), (2, 119), (2, 120), (2, 122), (2, 123), (2, 124), (2, 125), (2, 126), (2, 128), (2, 127), (1, 19), (2, 131), (2, 132)] rfl
set_option maxRecDepth 20000 in
theorem in_wsL_law0_r9 : ∀ w ∈ wsL_law0_r9, w ∈ lw_tbl := mem_2 tbC tbC_in _ [(2, 133), (2, 134), (2, 135), (2, 137), (0, 7), (2, 138), (2, 139), (2, 140), (2, 141), (2, 142), (2, 143), (1, 128), (2, 144), (2, 145), (2, 146), (2, 147), (2, 148), (2, 149), (2, 150), (1, 20), (2, 151), (2, 152), (2, 153), (1, 21)] rfl
set_option maxRecDepth 20000 in
theorem in_wsL_law0_r10 : ∀ w ∈ wsL_law0_r10, w ∈ lw_tbl := mem_2 tbC tbC_in _ [(2, 154), (2, 155), (2, 156), (2, 157), (2, 158), (2, 159), (2, 160), (2, 161), (2, 162), (1, 134), (1, 139), (4, 102), (4, 103), (4, 104), (4, 105), (4, 106), (4, 107), (4, 108), (4, 109), (4, 110), (4, 111), (4, 112), (4, 114), (0, 23)] rfl
set_option maxRecDepth 20000 in
theorem in_wsL_law0_r11 : ∀ w ∈ wsL_law0_r11, w ∈ lw_tbl := mem_2 tbC tbC_in _ [(4, 115), (4, 48), (4, 116), (4, 118), (0, 24), (4, 119), (4, 120), (4, 121), (4, 122), (2, 163), (2, 164), (2, 165), (2, 166), (2, 167), (2, 168), (2, 169), (2, 170), (2, 171), (2, 172), (2, 173), (2, 178), (1, 22), (2, 174), (2, 175)] rfl
set_option maxRecDepth 20000 in
theorem in_wsL_law0_r12 : ∀ w ∈ wsL_law0_r12, w ∈ lw_tbl := mem_2 tbC tbC_in _ [(2, 176), (2, 177), (1, 136), (4, 123), (4, 124), (4, 125), (4, 126), (4, 127), (4, 129), (0, 25), (4, 130), (4, 131), (4, 133), (0, 26), (4, 134), (2, 194), (2, 195), (2, 196), (2, 197), (2, 198), (2, 199), (2, 200), (1, 71), (1, 135)] rfl
set_option maxRecDepth 20000 in
theorem in_wsL_law0_r13 : ∀ w ∈ wsL_law0_r13, w ∈ lw_tbl := mem_2 tbC tbC_in _ [(2, 201), (2, 202), (2, 203), (2, 205), (2, 206), (2, 207), (2, 208), (1, 64), (2, 209), (2, 210), (2, 211), (2, 212), (2, 213), (1, 76), (1, 79), (2, 214), (2, 215), (2, 216), (2, 217), (2, 218), (1, 138), (1, 145), (1, 146), (1, 83)] rfl
set_option maxRecDepth 20000 in
theorem in_wsL_law0_r14 : ∀ w ∈ wsL_law0_r14, w ∈ lw_tbl := mem_2 tbC tbC_in _ [(1, 147), (4, 135), (4, 136), (4, 137), (4, 138), (4, 139), (4, 140), (4, 141), (4, 142), (4, 144), (0, 27), (4, 145), (4, 146), (4, 147), (4, 148), (4, 149), (4, 151), (0, 28), (4, 152), (2, 219), (2, 220), (2, 221), (2, 222), (2, 223)] rfl
set_option maxRecDepth 20000 in
theorem in_wsL_law0_r15 : ∀ w ∈ wsL_law0_r15, w ∈ lw_tbl := mem_2 tbC tbC_in _ [(2, 224), (2, 225), (2, 226), (2, 228), (0, 8), (2, 229), (1, 81), (2, 230), (2, 231), (2, 232), (2, 233), (2, 234), (2, 235), (2, 236), (2, 237), (2, 238), (4, 153), (4, 154), (4, 155), (4, 156), (4, 157), (4, 159), (0, 29), (4, 160)] rfl
set_option maxRecDepth 20000 in
theorem in_wsL_law0_r16 : ∀ w ∈ wsL_law0_r16, w ∈ lw_tbl := mem_2 tbC tbC_in _ [(4, 161), (4, 163), (0, 30), (4, 164), (2, 239), (3, 0), (3, 1), (3, 2), (3, 3), (3, 4), (3, 5), (1, 140), (4, 165), (4, 166), (4, 167), (4, 168), (4, 169), (4, 171), (0, 31), (4, 172), (3, 6), (3, 7), (3, 8), (3, 9)] rfl
set_option maxRecDepth 20000 in
theorem in_wsL_law0_r17 : ∀ w ∈ wsL_law0_r17, w ∈ lw_tbl := mem_2 tbC tbC_in _ [(3, 10), (3, 11), (3, 12), (1, 143), (3, 14), (3, 15), (3, 16), (4, 173), (4, 174), (4, 175), (4, 176), (4, 98), (4, 99), (4, 100), (4, 101), (3, 17), (3, 18), (3, 19), (3, 20), (3, 21), (3, 22), (3, 23), (3, 24), (3, 26)] rfl
set_option maxRecDepth 20000 in
theorem in_wsL_law0_r18 : ∀ w ∈ wsL_law0_r18, w ∈ lw_tbl := mem_2 tbC tbC_in _ [(0, 9), (3, 27), (3, 28), (3, 29), (3, 30), (3, 31), (3, 32), (3, 33), (3, 34), (3, 35), (3, 36), (3, 38), (0, 10), (3, 39), (4, 177), (4, 178), (4, 179), (4, 180), (4, 181), (4, 183), (0, 32), (4, 184), (4, 185), (4, 187)] rfl
set_option maxRecDepth 20000 in
theorem in_wsL_law0_r19 : ∀ w ∈ wsL_law0_r19, w ∈ lw_tbl := mem_2 tbC tbC_in _ [(0, 33), (4, 188), (3, 40), (3, 41), (3, 42), (3, 43), (3, 44), (3, 45), (3, 46), (4, 189), (4, 190), (4, 191), (4, 192), (3, 47), (3, 48), (3, 49), (3, 50), (3, 51), (3, 52), (3, 53), (4, 193), (4, 194), (4, 195), (4, 196)] rfl
set_option maxRecDepth 20000 in
theorem in_wsL_law0_r20 : ∀ w ∈ wsL_law0_r20, w ∈ lw_tbl := mem_2 tbC tbC_in _ [(3, 54), (3, 55), (3, 56), (3, 57), (3, 58), (3, 59), (3, 60), (3, 61), (3, 62), (3, 63), (3, 64), (3, 65), (3, 66), (3, 67), (4, 197), (4, 198), (4, 199), (4, 200), (4, 201), (4, 203), (0, 34), (4, 204), (3, 68), (3, 69)] rfl
set_option maxRecDepth 20000 in
theorem in_wsL_law0_r21 : ∀ w ∈ wsL_law0_r21, w ∈ lw_tbl := mem_2 tbC tbC_in _ [(3, 70), (3, 71), (3, 72), (3, 73), (3, 74), (3, 75), (3, 76), (3, 77), (3, 78), (3, 79), (3, 80), (3, 81), (3, 82), (4, 205), (4, 206), (4, 207), (4, 208), (4, 209), (4, 211), (0, 35), (4, 212), (3, 83), (3, 84), (3, 85)] rfl
set_option maxRecDepth 20000 in
theorem in_wsL_law0_r22 : ∀ w ∈ wsL_law0_r22, w ∈ lw_tbl := mem_2 tbC tbC_in _ [(3, 86), (3, 87), (3, 88), (3, 89), (3, 95), (3, 96), (1, 23), (1, 108), (3, 90), (3, 91), (3, 92), (3, 93), (1, 107), (3, 97), (3, 98), (3, 99), (3, 100), (3, 101), (3, 102), (3, 103), (3, 104), (3, 114), (3, 115), (3, 116)] rfl
set_option maxRecDepth 20000 in
theorem in_wsL_law0_r23 : ∀ w ∈ wsL_law0_r23, w ∈ lw_tbl := mem_2 tbC tbC_in _ [(3, 117), (3, 118), (3, 120), (0, 11), (3, 121), (3, 122), (3, 123), (3, 124), (3, 126), (0, 12), (3, 127), (3, 128), (3, 129), (3, 130), (3, 131), (3, 132), (1, 74), (3, 133), (3, 134), (3, 135), (3, 136), (3, 137), (3, 138), (3, 140)] rfl
set_option maxRecDepth 20000 in
theorem in_wsL_law0_r24 : ∀ w ∈ wsL_law0_r24, w ∈ lw_tbl := mem_2 tbC tbC_in _ [(0, 13), (3, 141), (3, 142), (3, 144), (0, 14), (3, 145), (1, 144), (1, 80), (3, 146), (3, 147), (3, 148), (3, 149), (3, 150), (3, 151), (3, 153), (0, 15), (3, 154), (1, 137), (1, 73), (3, 157), (3, 158), (3, 159), (3, 160), (3, 161)] rfl
set_option maxRecDepth 20000 in
theorem in_wsL_law0_r25 : ∀ w ∈ wsL_law0_r25, w ∈ lw_tbl := mem_2 tbC tbC_in _ [(3, 163), (0, 16), (3, 164), (3, 165), (3, 167), (0, 17), (3, 168), (1, 141), (3, 169), (3, 170), (3, 171), (3, 172), (1, 70), (1, 75), (1, 82), (3, 173), (3, 174), (3, 175), (3, 176), (3, 177), (3, 178), (3, 179), (3, 180), (3, 181)] rfl
set_option maxRecDepth 20000 in
theorem in_wsL_law0_r26 : ∀ w ∈ wsL_law0_r26, w ∈ lw_tbl := mem_2 tbC tbC_in _ [(3, 182), (3, 183), (3, 184), (3, 186), (3, 187), (3, 188), (3, 190), (0, 18), (3, 191), (3, 192), (3, 194), (0, 19), (3, 195), (3, 196), (3, 197), (3, 198), (3, 199), (3, 200), (3, 202), (0, 20), (3, 203), (3, 204), (4, 213), (4, 214)] rfl
set_option maxRecDepth 20000 in
theorem in_wsL_law0_r27 : ∀ w ∈ wsL_law0_r27, w ∈ lw_tbl := mem_2 tbC tbC_in _ [(4, 215), (4, 216), (4, 62), (4, 217), (4, 219), (0, 36), (4, 220), (4, 221), (4, 223), (0, 37), (4, 224), (4, 225), (4, 227), (0, 38), (4, 228), (4, 229), (4, 231), (0, 39), (4, 232), (4, 233), (4, 235), (0, 40), (4, 236), (4, 237)] rfl
set_option maxRecDepth 20000 in
theorem in_wsL_law0_r28 : ∀ w ∈ wsL_law0_r28, w ∈ lw_tbl := mem_2 tbC tbC_in _ [(4, 239), (0, 41), (5, 0), (5, 1), (5, 3), (0, 42), (5, 4), (3, 205), (3, 206), (3, 207), (3, 208), (3, 209), (3, 210), (3, 211), (3, 212), (3, 213), (3, 214), (3, 215), (3, 216), (5, 5), (5, 6), (5, 7), (5, 8), (3, 217)] rfl
set_option maxRecDepth 20000 in
theorem in_wsL_law0_r29 : ∀ w ∈ wsL_law0_r29, w ∈ lw_tbl := mem_2 tbC tbC_in _ [(3, 218), (3, 219), (3, 220), (3, 221), (3, 222), (3, 223), (3, 224), (3, 225), (3, 226), (3, 227), (1, 72), (3, 228), (5, 9), (5, 10), (5, 11), (5, 12), (3, 229), (3, 230), (3, 231), (3, 232), (3, 233), (3, 234), (3, 235), (1, 77)] rfl
set_option maxRecDepth 20000 in
theorem in_wsL_law0_r30 : ∀ w ∈ wsL_law0_r30, w ∈ lw_tbl := mem_2 tbC tbC_in _ [(3, 236), (3, 238), (0, 21), (3, 239), (5, 13), (5, 14), (5, 15), (5, 16), (5, 17), (5, 19), (0, 43), (5, 20), (4, 1), (4, 2), (4, 3), (4, 4), (4, 5), (4, 6), (4, 7), (5, 21), (5, 22), (5, 23), (5, 24), (4, 8)] rfl
set_option maxRecDepth 20000 in
theorem in_wsL_law0_r31 : ∀ w ∈ wsL_law0_r31, w ∈ lw_tbl := mem_2 tbC tbC_in _ [(4, 9), (4, 10), (4, 11), (4, 12), (4, 13), (4, 14), (1, 84), (5, 25), (5, 26), (5, 27), (5, 28), (1, 188), (1, 189), (1, 190), (1, 191), (5, 29), (5, 30), (5, 31), (5, 32), (4, 15), (4, 16), (4, 17), (4, 18), (4, 19)] rfl
set_option maxRecDepth 20000 in
theorem in_wsL_law0_r32 : ∀ w ∈ wsL_law0_r32, w ∈ lw_tbl := mem_2 tbC tbC_in _ [(4, 20), (4, 21), (4, 22), (4, 24), (0, 22), (4, 25), (4, 27), (4, 28), (4, 29), (4, 30), (5, 33), (5, 34), (5, 35), (5, 36), (5, 37), (5, 39), (0, 44), (5, 40), (4, 31), (4, 32), (4, 33), (4, 34), (4, 35), (4, 36)] rfl
set_option maxRecDepth 20000 in
theorem in_wsL_law0_r33 : ∀ w ∈ wsL_law0_r33, w ∈ lw_tbl := mem_2 tbC tbC_in _ [(4, 37), (4, 38), (4, 39), (4, 40), (4, 41), (5, 41), (5, 42), (5, 43), (5, 44)] rfl
theorem in0_wsX60 : ∀ w ∈ wsX60, w ∈ lw_tbl := by decide +kernel
theorem in0_wsX70 : ∀ w ∈ wsX70, w ∈ lw_tbl := by decide +kernel
theorem in0_wsX50 : ∀ w ∈ wsX50, w ∈ lw_tbl := by decide +kernel
theorem in0_wsX20 : ∀ w ∈ wsX20, w ∈ lw_tbl := by decide +kernel
theorem in0_wsX40 : ∀ w ∈ wsX40, w ∈ lw_tbl := by decide +kernel
theorem in0_wsJx4a65c0 : ∀ w ∈ wsJx4a65c0, w ∈ lw_tbl := by decide +kernel
theorem in0_wsX30 : ∀ w ∈ wsX30, w ∈ lw_tbl := by decide +kernel
theorem in0_wsX00 : ∀ w ∈ wsX00, w ∈ lw_tbl := by decide +kernel
theorem in0_wsX10 : ∀ w ∈ wsX10, w ∈ lw_tbl := by decide +kernel
theorem wsL_law_in0 : ∀ w ∈ wsL_law0, w ∈ lw_tbl := by
  unfold wsL_law0
  exact List.forall_mem_append.mpr ⟨List.forall_mem_append.mpr ⟨List.forall_mem_append.mpr ⟨List.forall_mem_append.mpr ⟨List.forall_mem_append.mpr ⟨List.forall_mem_append.mpr ⟨List.forall_mem_append.mpr ⟨List.forall_mem_append.mpr ⟨List.forall_mem_append.mpr ⟨List.forall_mem_append.mpr ⟨List.forall_mem_append.mpr ⟨in_wsL_law0_r1, List.forall_mem_append.mpr ⟨in_wsL_law0_r2, List.forall_mem_append.mpr ⟨in_wsL_law0_r3, List.forall_mem_append.mpr ⟨in_wsL_law0_r4, List.forall_mem_append.mpr ⟨in_wsL_law0_r5, List.forall_mem_append.mpr ⟨in_wsL_law0_r6, List.forall_mem_append.mpr ⟨in_wsL_law0_r7, List.forall_mem_append.mpr ⟨in_wsL_law0_r8, List.forall_mem_append.mpr ⟨in_wsL_law0_r9, List.forall_mem_append.mpr ⟨in_wsL_law0_r10, List.forall_mem_append.mpr ⟨in_wsL_law0_r11, List.forall_mem_append.mpr ⟨in_wsL_law0_r12, List.forall_mem_append.mpr ⟨in_wsL_law0_r13, List.forall_mem_append.mpr ⟨in_wsL_law0_r14, List.forall_mem_append.mpr ⟨in_wsL_law0_r15, List.forall_mem_append.mpr ⟨in_wsL_law0_r16, List.forall_mem_append.mpr ⟨in_wsL_law0_r17, List.forall_mem_append.mpr ⟨in_wsL_law0_r18, List.forall_mem_append.mpr ⟨in_wsL_law0_r19, List.forall_mem_append.mpr ⟨in_wsL_law0_r20, List.forall_mem_append.mpr ⟨in_wsL_law0_r21, List.forall_mem_append.mpr ⟨in_wsL_law0_r22, List.forall_mem_append.mpr ⟨in_wsL_law0_r23, List.forall_mem_append.mpr ⟨in_wsL_law0_r24, List.forall_mem_append.mpr ⟨in_wsL_law0_r25, List.forall_mem_append.mpr ⟨in_wsL_law0_r26, List.forall_mem_append.mpr ⟨in_wsL_law0_r27, List.forall_mem_append.mpr ⟨in_wsL_law0_r28, List.forall_mem_append.mpr ⟨in_wsL_law0_r29, List.forall_mem_append.mpr ⟨in_wsL_law0_r30, List.forall_mem_append.mpr ⟨in_wsL_law0_r31, List.forall_mem_append.mpr ⟨in_wsL_law0_r32, in_wsL_law0_r33⟩⟩⟩⟩⟩⟩⟩⟩⟩⟩⟩⟩⟩⟩⟩⟩⟩⟩⟩⟩⟩⟩⟩⟩⟩⟩⟩⟩⟩⟩⟩⟩, in0_wsX60⟩, in0_wsX70⟩, in0_wsX50⟩, in0_wsX20⟩, in0_wsX40⟩, in0_wsJx4a65c0⟩, in0_wsX30⟩, in0_wsX00⟩, in0_wsX10⟩, fun _ h => absurd h List.not_mem_nil⟩
theorem wsL_law_x0 : ∀ w ∈ (vx_atS RX6 181 "java/lang/IndexOutOfBoundsException" ["java/lang/RuntimeException", "java/lang/Exception"]).filter goodWord, w ∈ lw_tbl := by decide +kernel
theorem wsL_law_x1 : ∀ w ∈ (vx_atS RX6 102 "java/lang/IllegalArgumentException" ["java/lang/RuntimeException", "java/lang/Exception"]).filter goodWord, w ∈ lw_tbl := by decide +kernel
theorem wsL_law_x2 : ∀ w ∈ (vx_atS RX6 132 "java/lang/IllegalStateException" ["java/lang/RuntimeException", "java/lang/Exception"]).filter goodWord, w ∈ lw_tbl := by decide +kernel
theorem wsL_law_in : ∀ w ∈ wsL_law, w ∈ lw_tbl := fun w h => (List.mem_append.mp h).elim (fun h => (List.mem_append.mp h).elim (fun h => (List.mem_append.mp h).elim (fun h => wsL_law_in0 w h) (fun h => wsL_law_x0 w h)) (fun h => wsL_law_x1 w h)) (fun h => wsL_law_x2 w h)
theorem inlX0 : ∀ w ∈ wsX00, w ∈ wsL_law := fun _ h => List.mem_append_left _ (List.mem_append_left _ (List.mem_append_left _ (List.mem_append_left _ (List.mem_append_left _ (List.mem_append_right _ h)))))
theorem inX0 : ∀ w ∈ wsX00, w ∈ lw_tbl := fun w h => wsL_law_in w (inlX0 w h)
theorem inlX1 : ∀ w ∈ wsX10, w ∈ wsL_law := fun _ h => List.mem_append_left _ (List.mem_append_left _ (List.mem_append_left _ (List.mem_append_left _ (List.mem_append_right _ h))))
theorem inX1 : ∀ w ∈ wsX10, w ∈ lw_tbl := fun w h => wsL_law_in w (inlX1 w h)
theorem inlX2 : ∀ w ∈ wsX20, w ∈ wsL_law := fun _ h => List.mem_append_left _ (List.mem_append_left _ (List.mem_append_left _ (List.mem_append_left _ (List.mem_append_left _ (List.mem_append_left _ (List.mem_append_left _ (List.mem_append_left _ (List.mem_append_left _ (List.mem_append_right _ h)))))))))
theorem inX2 : ∀ w ∈ wsX20, w ∈ lw_tbl := fun w h => wsL_law_in w (inlX2 w h)
theorem inlX3 : ∀ w ∈ wsX30, w ∈ wsL_law := fun _ h => List.mem_append_left _ (List.mem_append_left _ (List.mem_append_left _ (List.mem_append_left _ (List.mem_append_left _ (List.mem_append_left _ (List.mem_append_right _ h))))))
theorem inX3 : ∀ w ∈ wsX30, w ∈ lw_tbl := fun w h => wsL_law_in w (inlX3 w h)
theorem inlX4 : ∀ w ∈ wsX40, w ∈ wsL_law := fun _ h => List.mem_append_left _ (List.mem_append_left _ (List.mem_append_left _ (List.mem_append_left _ (List.mem_append_left _ (List.mem_append_left _ (List.mem_append_left _ (List.mem_append_left _ (List.mem_append_right _ h))))))))
theorem inX4 : ∀ w ∈ wsX40, w ∈ lw_tbl := fun w h => wsL_law_in w (inlX4 w h)
theorem inlX5 : ∀ w ∈ wsX50, w ∈ wsL_law := fun _ h => List.mem_append_left _ (List.mem_append_left _ (List.mem_append_left _ (List.mem_append_left _ (List.mem_append_left _ (List.mem_append_left _ (List.mem_append_left _ (List.mem_append_left _ (List.mem_append_left _ (List.mem_append_left _ (List.mem_append_right _ h))))))))))
theorem inX5 : ∀ w ∈ wsX50, w ∈ lw_tbl := fun w h => wsL_law_in w (inlX5 w h)
theorem inlX6 : ∀ w ∈ wsX60, w ∈ wsL_law := fun _ h => List.mem_append_left _ (List.mem_append_left _ (List.mem_append_left _ (List.mem_append_left _ (List.mem_append_left _ (List.mem_append_left _ (List.mem_append_left _ (List.mem_append_left _ (List.mem_append_left _ (List.mem_append_left _ (List.mem_append_left _ (List.mem_append_left _ (List.mem_append_right _ h))))))))))))
theorem inX6 : ∀ w ∈ wsX60, w ∈ lw_tbl := fun w h => wsL_law_in w (inlX6 w h)
theorem inlX7 : ∀ w ∈ wsX70, w ∈ wsL_law := fun _ h => List.mem_append_left _ (List.mem_append_left _ (List.mem_append_left _ (List.mem_append_left _ (List.mem_append_left _ (List.mem_append_left _ (List.mem_append_left _ (List.mem_append_left _ (List.mem_append_left _ (List.mem_append_left _ (List.mem_append_left _ (List.mem_append_right _ h)))))))))))
theorem inX7 : ∀ w ∈ wsX70, w ∈ lw_tbl := fun w h => wsL_law_in w (inlX7 w h)
theorem inJx145de : ∀ w ∈ wsJx145de0, w ∈ lw_tbl := by decide +kernel
theorem inJx8e188 : ∀ w ∈ wsJx8e1880, w ∈ lw_tbl := by decide +kernel
theorem inJxab1ab : ∀ w ∈ wsJxab1ab0, w ∈ lw_tbl := by decide +kernel
theorem inJ9 : ∀ w ∈ wsJ90, w ∈ lw_tbl := by decide +kernel
theorem inJ0 : ∀ w ∈ wsJ00, w ∈ lw_tbl := by decide +kernel
theorem inJ10 : ∀ w ∈ wsJ100, w ∈ lw_tbl := by decide +kernel
theorem inJxa1e45 : ∀ w ∈ wsJxa1e450, w ∈ lw_tbl := by decide +kernel
theorem inJxc12de : ∀ w ∈ wsJxc12de0, w ∈ lw_tbl := by decide +kernel
theorem inlJx4a65c : ∀ w ∈ wsJx4a65c0, w ∈ wsL_law := fun _ h => List.mem_append_left _ (List.mem_append_left _ (List.mem_append_left _ (List.mem_append_left _ (List.mem_append_left _ (List.mem_append_left _ (List.mem_append_left _ (List.mem_append_right _ h)))))))
theorem inJx4a65c : ∀ w ∈ wsJx4a65c0, w ∈ lw_tbl := fun w h => wsL_law_in w (inlJx4a65c w h)
theorem inJ7 : ∀ w ∈ wsJ70, w ∈ lw_tbl := by decide +kernel
theorem inJx5ef63 : ∀ w ∈ wsJx5ef630, w ∈ lw_tbl := by decide +kernel
theorem inJxbd725 : ∀ w ∈ wsJxbd7250, w ∈ lw_tbl := by decide +kernel
theorem inJ15 : ∀ w ∈ wsJ150, w ∈ lw_tbl := by decide +kernel
theorem inJxf0a74 : ∀ w ∈ wsJxf0a740, w ∈ lw_tbl := by decide +kernel
theorem inJxa66e6 : ∀ w ∈ wsJxa66e60, w ∈ lw_tbl := by decide +kernel
theorem inJ8 : ∀ w ∈ wsJ80, w ∈ lw_tbl := by decide +kernel
theorem inJ3 : ∀ w ∈ wsJ30, w ∈ lw_tbl := by decide +kernel
