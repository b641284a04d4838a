def zt : Nat → List Cond
  | 0 => k2_sels lw_privs
  | 1 => tables_1_1
  | 2 => tables_1_2
  | 3 => tables_1_3
  | 4 => tables_1_4
  | 5 => tables_1_5
  | 6 => tables_1_6
  | 7 => tables_1_7
  | 8 => tables_1_8
  | _ => []
theorem zt_in (k : Nat) : ∀ w ∈ zt k, w ∈ lw_tbl := by
  intro w h
  show w ∈ k2_sels lw_privs ++ (tables_1_1 ++ (tables_1_2 ++ (tables_1_3 ++ (tables_1_4 ++ (tables_1_5 ++ (tables_1_6 ++ (tables_1_7 ++ tables_1_8)))))))
  simp only [List.mem_append]
  match k, h with
  | 0, h => exact Or.inl h
  | 1, h => exact Or.inr (Or.inl h)
  | 2, h => exact Or.inr (Or.inr (Or.inl h))
  | 3, h => exact Or.inr (Or.inr (Or.inr (Or.inl h)))
  | 4, h => exact Or.inr (Or.inr (Or.inr (Or.inr (Or.inl h))))
  | 5, h => exact Or.inr (Or.inr (Or.inr (Or.inr (Or.inr (Or.inl h)))))
  | 6, h => exact Or.inr (Or.inr (Or.inr (Or.inr (Or.inr (Or.inr (Or.inl h))))))
  | 7, h => exact Or.inr (Or.inr (Or.inr (Or.inr (Or.inr (Or.inr (Or.inr (Or.inl h)))))))
  | 8, h => exact Or.inr (Or.inr (Or.inr (Or.inr (Or.inr (Or.inr (Or.inr (Or.inr (h))))))))
  | _ + 9, h => exact absurd h List.not_mem_nil
def zpl (p : Nat × Nat) : Option Cond := (zt p.1)[p.2]?
theorem zpl_in (r : List Cond) (ps : List (Nat × Nat)) (h : r = ps.filterMap zpl) : ∀ w ∈ r, w ∈ lw_tbl := by
  intro w hw
  rw [h] at hw
  obtain ⟨p, -, hp⟩ := List.mem_filterMap.mp hw
  exact zt_in p.1 w (List.mem_of_getElem? hp)
theorem zin_1 : ∀ w ∈ wsL_law_r1, w ∈ lw_tbl := zpl_in _ [(1, 21), (1, 22), (1, 1), (5, 82), (5, 83), (1, 12), (1, 23), (1, 24), (1, 25), (1, 26), (1, 27), (1, 28), (1, 29), (1, 30), (1, 2), (2, 54), (2, 55), (2, 56), (2, 57), (1, 82), (1, 83), (1, 3), (2, 58), (2, 59)] rfl
theorem zgd_1 : wsL_law_r1.all goodWord = true := by decide +kernel
theorem zin_2 : ∀ w ∈ wsL_law_r2, w ∈ lw_tbl := zpl_in _ [(1, 102), (1, 103), (1, 4), (2, 60), (1, 117), (1, 118), (1, 5), (2, 61), (1, 147), (1, 148), (1, 6), (2, 62), (1, 187), (1, 188), (1, 7), (2, 63), (1, 239), (2, 0), (1, 10), (2, 64), (2, 9), (2, 10), (1, 11), (2, 65)] rfl
theorem zgd_2 : wsL_law_r2.all goodWord = true := by decide +kernel
theorem zin_3 : ∀ w ∈ wsL_law_r3, w ∈ lw_tbl := zpl_in _ [(1, 80), (2, 66), (2, 51), (2, 67), (2, 68), (2, 52), (2, 69), (2, 71), (2, 73), (1, 32), (1, 33), (1, 34), (1, 39), (1, 40), (1, 41), (1, 42), (1, 35), (1, 43), (1, 37), (1, 44), (1, 55), (1, 85), (1, 86), (1, 87)] rfl
theorem zgd_3 : wsL_law_r3.all goodWord = true := by decide +kernel
theorem zin_4 : ∀ w ∈ wsL_law_r4, w ∈ lw_tbl := zpl_in _ [(1, 88), (1, 89), (1, 90), (1, 105), (1, 106), (1, 107), (1, 108), (1, 120), (1, 121), (1, 122), (1, 123), (1, 124), (1, 125), (1, 130), (1, 150), (1, 151), (1, 152), (1, 153), (1, 154), (1, 155), (1, 156), (1, 157), (1, 158), (1, 159)] rfl
theorem zgd_4 : wsL_law_r4.all goodWord = true := by decide +kernel
theorem zin_5 : ∀ w ∈ wsL_law_r5, w ∈ lw_tbl := zpl_in _ [(1, 160), (1, 161), (1, 162), (1, 190), (1, 191), (1, 192), (1, 193), (1, 194), (1, 8), (1, 228), (1, 195), (1, 196), (1, 197), (1, 198), (1, 199), (1, 9), (1, 200), (1, 201), (1, 202), (1, 203), (1, 204), (1, 205), (1, 208), (2, 2)] rfl
theorem zgd_5 : wsL_law_r5.all goodWord = true := by decide +kernel
theorem zin_6 : ∀ w ∈ wsL_law_r6, w ∈ lw_tbl := zpl_in _ [(2, 3), (2, 4), (2, 5), (2, 12), (2, 13), (2, 14), (2, 15), (2, 17), (2, 18), (2, 19), (2, 20), (2, 21), (2, 22), (2, 23), (2, 24), (5, 84), (5, 85), (5, 86), (5, 87), (5, 113), (5, 114), (5, 115), (6, 88), (5, 116)] rfl
theorem zgd_6 : wsL_law_r6.all goodWord = true := by decide +kernel
theorem zin_7 : ∀ w ∈ wsL_law_r7, w ∈ lw_tbl := zpl_in _ [(5, 117), (5, 118), (5, 120), (5, 121), (5, 123), (5, 129), (5, 133), (5, 135), (5, 136), (5, 138), (5, 139), (5, 88), (5, 89), (5, 90), (5, 91), (5, 92), (5, 93), (5, 94), (5, 95), (5, 142), (5, 96), (5, 97), (5, 98), (5, 143)] rfl
theorem zgd_7 : wsL_law_r7.all goodWord = true := by decide +kernel
theorem zin_8 : ∀ w ∈ wsL_law_r8, w ∈ lw_tbl := zpl_in _ [(5, 99), (5, 100), (5, 101), (5, 144), (5, 146), (5, 147), (5, 148), (5, 102), (5, 103), (5, 104), (5, 105), (5, 153), (5, 154), (5, 156), (5, 157), (5, 159), (5, 160), (5, 161), (5, 106), (5, 163), (5, 164), (5, 165), (5, 166), (5, 167)] rfl
theorem zgd_8 : wsL_law_r8.all goodWord = true := by decide +kernel
theorem zin_9 : ∀ w ∈ wsL_law_r9, w ∈ lw_tbl := zpl_in _ [(5, 168), (5, 169), (5, 170), (5, 171), (5, 172), (5, 173), (5, 107), (5, 108), (5, 109), (5, 110), (5, 174), (5, 175), (5, 178), (5, 181), (5, 182), (2, 115), (2, 116), (2, 117), (2, 118), (1, 91), (1, 46), (2, 119), (2, 120), (2, 121)] rfl
theorem zgd_9 : wsL_law_r9.all goodWord = true := by decide +kernel
theorem zin_10 : ∀ w ∈ wsL_law_r10, w ∈ lw_tbl := zpl_in _ [(2, 122), (2, 124), (0, 0), (2, 125), (2, 70), (2, 126), (2, 127), (2, 128), (2, 129), (1, 47), (2, 130), (2, 131), (2, 133), (0, 1), (2, 134), (6, 116), (6, 117), (6, 118), (6, 119), (5, 111), (6, 120), (6, 122), (0, 40), (6, 123)] rfl
theorem zgd_10 : wsL_law_r10.all goodWord = true := by decide +kernel
theorem zin_11 : ∀ w ∈ wsL_law_r11, w ∈ lw_tbl := zpl_in _ [(6, 124), (6, 105), (6, 106), (6, 107), (6, 112), (6, 114), (0, 39), (6, 115), (5, 119), (6, 93), (6, 95), (0, 37), (6, 96), (5, 112), (2, 135), (2, 136), (2, 137), (2, 138), (1, 56), (2, 139), (2, 140), (2, 141), (2, 142), (2, 143)] rfl
theorem zgd_11 : wsL_law_r11.all goodWord = true := by decide +kernel
theorem zin_12 : ∀ w ∈ wsL_law_r12, w ∈ lw_tbl := zpl_in _ [(2, 144), (2, 145), (2, 146), (2, 147), (2, 148), (2, 149), (2, 150), (1, 53), (2, 151), (2, 152), (2, 153), (2, 154), (1, 45), (2, 25), (2, 26), (2, 155), (2, 156), (1, 13), (2, 157), (2, 158), (2, 159), (2, 160), (2, 161), (2, 162)] rfl
theorem zgd_12 : wsL_law_r12.all goodWord = true := by decide +kernel
theorem zin_13 : ∀ w ∈ wsL_law_r13, w ∈ lw_tbl := zpl_in _ [(2, 163), (2, 165), (0, 2), (2, 166), (1, 210), (1, 206), (2, 182), (2, 183), (2, 184), (2, 185), (2, 186), (2, 167), (2, 168), (2, 169), (2, 170), (2, 171), (2, 172), (2, 173), (2, 174), (2, 175), (2, 176), (2, 177), (2, 178), (2, 179)] rfl
theorem zgd_13 : wsL_law_r13.all goodWord = true := by decide +kernel
theorem zin_14 : ∀ w ∈ wsL_law_r14, w ∈ lw_tbl := zpl_in _ [(2, 180), (2, 181), (2, 187), (2, 188), (2, 189), (2, 190), (2, 191), (2, 192), (2, 193), (2, 194), (6, 125), (6, 126), (6, 127), (6, 128), (6, 133), (6, 134), (6, 162), (6, 163), (6, 129), (6, 131), (0, 41), (6, 132), (6, 135), (6, 137)] rfl
theorem zgd_14 : wsL_law_r14.all goodWord = true := by decide +kernel
theorem zin_15 : ∀ w ∈ wsL_law_r15, w ∈ lw_tbl := zpl_in _ [(0, 42), (6, 138), (6, 139), (6, 141), (0, 43), (6, 142), (5, 145), (5, 152), (6, 143), (6, 145), (0, 44), (6, 146), (5, 149), (5, 150), (6, 147), (6, 149), (0, 45), (6, 150), (5, 131), (5, 151), (6, 155), (6, 160), (6, 161), (6, 151)] rfl
theorem zgd_15 : wsL_law_r15.all goodWord = true := by decide +kernel
theorem zin_16 : ∀ w ∈ wsL_law_r16, w ∈ lw_tbl := zpl_in _ [(6, 153), (0, 46), (6, 154), (6, 156), (6, 158), (0, 47), (6, 159), (6, 164), (6, 166), (0, 48), (6, 167), (6, 168), (6, 169), (6, 170), (2, 195), (2, 196), (2, 197), (2, 198), (2, 199), (2, 201), (2, 202), (2, 203), (2, 204), (2, 205)] rfl
theorem zgd_16 : wsL_law_r16.all goodWord = true := by decide +kernel
theorem zin_17 : ∀ w ∈ wsL_law_r17, w ∈ lw_tbl := zpl_in _ [(6, 171), (6, 172), (6, 173), (6, 174), (6, 175), (6, 176), (6, 177), (6, 178), (6, 180), (0, 49), (6, 181), (2, 206), (2, 207), (2, 208), (2, 209), (1, 111), (2, 210), (2, 211), (2, 212), (2, 213), (1, 109), (2, 214), (2, 215), (2, 216)] rfl
theorem zgd_17 : wsL_law_r17.all goodWord = true := by decide +kernel
theorem zin_18 : ∀ w ∈ wsL_law_r18, w ∈ lw_tbl := zpl_in _ [(2, 217), (6, 190), (6, 191), (6, 192), (6, 193), (5, 124), (6, 194), (6, 196), (0, 50), (6, 197), (2, 218), (2, 219), (2, 220), (2, 221), (6, 198), (6, 199), (6, 200), (6, 201), (2, 222), (2, 223), (2, 224), (2, 225), (2, 72), (2, 226)] rfl
theorem zgd_18 : wsL_law_r18.all goodWord = true := by decide +kernel
theorem zin_19 : ∀ w ∈ wsL_law_r19, w ∈ lw_tbl := zpl_in _ [(2, 227), (2, 228), (2, 229), (6, 182), (6, 183), (6, 184), (6, 185), (5, 122), (2, 230), (2, 231), (2, 232), (2, 233), (6, 186), (6, 187), (6, 188), (6, 189), (2, 234), (2, 235), (2, 236), (2, 237), (1, 52), (1, 133), (2, 238), (2, 239)] rfl
theorem zgd_19 : wsL_law_r19.all goodWord = true := by decide +kernel
theorem zin_20 : ∀ w ∈ wsL_law_r20, w ∈ lw_tbl := zpl_in _ [(3, 0), (3, 1), (1, 126), (1, 127), (1, 110), (3, 72), (3, 2), (3, 3), (3, 4), (3, 5), (3, 6), (3, 7), (3, 8), (3, 9), (3, 10), (3, 11), (3, 12), (3, 13), (3, 14), (3, 16), (3, 17), (3, 18), (1, 14), (3, 19)] rfl
theorem zgd_20 : wsL_law_r20.all goodWord = true := by decide +kernel
theorem zin_21 : ∀ w ∈ wsL_law_r21, w ∈ lw_tbl := zpl_in _ [(8, 127), (3, 20), (3, 21), (3, 22), (3, 23), (3, 24), (8, 128), (3, 26), (3, 27), (3, 28), (3, 29), (3, 30), (3, 31), (3, 32), (3, 33), (3, 34), (3, 35), (1, 15), (3, 36), (3, 37), (3, 38), (3, 39), (3, 40), (3, 42)] rfl
theorem zgd_21 : wsL_law_r21.all goodWord = true := by decide +kernel
theorem zin_22 : ∀ w ∈ wsL_law_r22, w ∈ lw_tbl := zpl_in _ [(3, 43), (1, 16), (3, 44), (3, 45), (3, 46), (1, 17), (3, 47), (3, 48), (3, 49), (3, 50), (3, 51), (3, 52), (3, 53), (3, 54), (3, 55), (3, 56), (3, 57), (3, 58), (3, 60), (3, 62), (3, 64), (3, 66), (0, 3), (3, 67)] rfl
theorem zgd_22 : wsL_law_r22.all goodWord = true := by decide +kernel
theorem zin_23 : ∀ w ∈ wsL_law_r23, w ∈ lw_tbl := zpl_in _ [(3, 68), (3, 69), (3, 70), (3, 71), (3, 73), (3, 74), (3, 75), (3, 76), (1, 131), (1, 163), (3, 137), (3, 138), (1, 18), (3, 77), (3, 79), (0, 4), (3, 80), (1, 129), (3, 117), (3, 81), (3, 83), (0, 5), (3, 114), (3, 115)] rfl
theorem zgd_23 : wsL_law_r23.all goodWord = true := by decide +kernel
theorem zin_24 : ∀ w ∈ wsL_law_r24, w ∈ lw_tbl := zpl_in _ [(3, 116), (3, 109), (3, 98), (3, 99), (3, 100), (3, 84), (3, 85), (3, 87), (0, 6), (3, 89), (3, 90), (3, 91), (3, 92), (3, 118), (3, 119), (3, 120), (3, 105), (3, 106), (3, 107), (3, 88), (3, 93), (3, 94), (3, 95), (3, 96)] rfl
theorem zgd_24 : wsL_law_r24.all goodWord = true := by decide +kernel
theorem zin_25 : ∀ w ∈ wsL_law_r25, w ∈ lw_tbl := zpl_in _ [(3, 97), (3, 101), (3, 102), (3, 103), (3, 104), (3, 108), (3, 110), (3, 111), (3, 112), (3, 113), (3, 121), (3, 123), (0, 7), (3, 124), (3, 128), (3, 125), (3, 126), (3, 127), (3, 129), (3, 131), (0, 8), (3, 132), (3, 133), (3, 135)] rfl
theorem zgd_25 : wsL_law_r25.all goodWord = true := by decide +kernel
theorem zin_26 : ∀ w ∈ wsL_law_r26, w ∈ lw_tbl := zpl_in _ [(0, 9), (3, 136), (3, 139), (3, 140), (3, 141), (3, 142), (3, 143), (3, 144), (3, 145), (3, 146), (3, 148), (3, 149), (3, 150), (3, 152), (3, 151), (1, 19), (3, 153), (3, 154), (3, 155), (3, 156), (3, 157), (3, 159), (3, 161), (3, 163)] rfl
theorem zgd_26 : wsL_law_r26.all goodWord = true := by decide +kernel
theorem zin_27 : ∀ w ∈ wsL_law_r27, w ∈ lw_tbl := zpl_in _ [(3, 165), (3, 167), (3, 183), (3, 184), (3, 185), (3, 186), (1, 51), (7, 93), (7, 94), (7, 95), (7, 96), (5, 130), (7, 97), (7, 99), (0, 75), (7, 100), (5, 155), (5, 158), (7, 79), (5, 127), (6, 214), (6, 216), (0, 52), (6, 217)] rfl
theorem zgd_27 : wsL_law_r27.all goodWord = true := by decide +kernel
theorem zin_28 : ∀ w ∈ wsL_law_r28, w ∈ lw_tbl := zpl_in _ [(5, 126), (6, 218), (6, 220), (0, 53), (6, 221), (5, 125), (5, 128), (6, 228), (6, 229), (6, 230), (6, 231), (6, 222), (6, 223), (6, 224), (6, 225), (6, 226), (6, 227), (7, 101), (7, 103), (0, 76), (7, 104), (7, 105), (7, 107), (0, 77)] rfl
theorem zgd_28 : wsL_law_r28.all goodWord = true := by decide +kernel
theorem zin_29 : ∀ w ∈ wsL_law_r29, w ∈ lw_tbl := zpl_in _ [(7, 108), (7, 17), (7, 19), (0, 60), (7, 20), (7, 0), (7, 2), (0, 56), (7, 3), (7, 109), (7, 111), (0, 78), (7, 112), (6, 236), (6, 238), (0, 55), (6, 239), (7, 113), (7, 115), (0, 79), (7, 116), (7, 117), (7, 119), (0, 80)] rfl
theorem zgd_29 : wsL_law_r29.all goodWord = true := by decide +kernel
theorem zin_30 : ∀ w ∈ wsL_law_r30, w ∈ lw_tbl := zpl_in _ [(7, 120), (7, 121), (7, 47), (7, 49), (0, 67), (7, 50), (7, 122), (7, 124), (0, 81), (7, 125), (7, 126), (7, 128), (0, 82), (7, 129), (7, 130), (7, 131), (7, 133), (0, 83), (7, 134), (7, 135), (7, 137), (0, 84), (7, 138), (3, 187)] rfl
theorem zgd_30 : wsL_law_r30.all goodWord = true := by decide +kernel
theorem zin_31 : ∀ w ∈ wsL_law_r31, w ∈ lw_tbl := zpl_in _ [(3, 188), (3, 189), (3, 190), (1, 54), (1, 229), (3, 191), (3, 192), (3, 193), (3, 194), (1, 209), (1, 213), (1, 215), (1, 230), (1, 231), (1, 132), (3, 195), (3, 197), (0, 10), (3, 198), (1, 128), (3, 199), (3, 200), (3, 201), (3, 202)] rfl
theorem zgd_31 : wsL_law_r31.all goodWord = true := by decide +kernel
theorem zin_32 : ∀ w ∈ wsL_law_r32, w ∈ lw_tbl := zpl_in _ [(3, 203), (3, 204), (3, 205), (3, 206), (3, 208), (0, 11), (3, 209), (3, 210), (3, 212), (0, 12), (3, 216), (3, 217), (3, 218), (3, 219), (1, 214), (3, 228), (3, 229), (3, 230), (3, 213), (3, 214), (3, 215), (3, 220), (3, 222), (0, 13)] rfl
theorem zgd_32 : wsL_law_r32.all goodWord = true := by decide +kernel
theorem zin_33 : ∀ w ∈ wsL_law_r33, w ∈ lw_tbl := zpl_in _ [(3, 223), (3, 224), (3, 226), (0, 14), (3, 227), (3, 231), (3, 233), (0, 15), (3, 234), (3, 235), (3, 237), (0, 16), (3, 238), (3, 239), (4, 0), (4, 1), (4, 2), (4, 3), (4, 4), (4, 5), (4, 6), (4, 7), (4, 8), (4, 9)] rfl
theorem zgd_33 : wsL_law_r33.all goodWord = true := by decide +kernel
theorem zin_34 : ∀ w ∈ wsL_law_r34, w ∈ lw_tbl := zpl_in _ [(4, 10), (4, 11), (4, 12), (4, 13), (1, 211), (4, 14), (4, 15), (4, 16), (4, 17), (4, 18), (4, 19), (6, 206), (6, 207), (6, 208), (6, 209), (5, 132), (5, 134), (6, 210), (6, 212), (0, 51), (6, 213), (5, 137), (6, 232), (6, 234)] rfl
theorem zgd_34 : wsL_law_r34.all goodWord = true := by decide +kernel
theorem zin_35 : ∀ w ∈ wsL_law_r35, w ∈ lw_tbl := zpl_in _ [(0, 54), (6, 235), (7, 80), (7, 4), (7, 6), (0, 57), (7, 7), (5, 140), (5, 141), (7, 8), (7, 10), (0, 58), (7, 11), (7, 12), (7, 13), (7, 15), (0, 59), (7, 16), (7, 21), (7, 23), (0, 61), (7, 24), (7, 25), (7, 27)] rfl
theorem zgd_35 : wsL_law_r35.all goodWord = true := by decide +kernel
theorem zin_36 : ∀ w ∈ wsL_law_r36, w ∈ lw_tbl := zpl_in _ [(0, 62), (7, 28), (7, 37), (7, 46), (7, 29), (7, 31), (0, 63), (7, 32), (7, 33), (7, 35), (0, 64), (7, 36), (7, 38), (7, 40), (0, 65), (7, 41), (7, 42), (7, 44), (0, 66), (7, 45), (7, 51), (7, 53), (0, 68), (7, 54)] rfl
theorem zgd_36 : wsL_law_r36.all goodWord = true := by decide +kernel
theorem zin_37 : ∀ w ∈ wsL_law_r37, w ∈ lw_tbl := zpl_in _ [(7, 55), (7, 56), (7, 57), (7, 58), (7, 60), (0, 69), (7, 61), (7, 62), (7, 64), (0, 70), (7, 65), (7, 66), (7, 68), (0, 71), (7, 69), (7, 70), (7, 71), (7, 72), (7, 73), (7, 74), (7, 76), (0, 72), (7, 77), (7, 78)] rfl
theorem zgd_37 : wsL_law_r37.all goodWord = true := by decide +kernel
theorem zin_38 : ∀ w ∈ wsL_law_r38, w ∈ lw_tbl := zpl_in _ [(7, 81), (7, 83), (0, 73), (7, 84), (4, 20), (4, 21), (4, 22), (4, 23), (1, 216), (1, 212), (4, 24), (4, 25), (4, 26), (4, 27), (4, 28), (1, 48), (4, 30), (4, 31), (4, 32), (4, 33), (4, 34), (1, 92), (4, 35), (4, 37)] rfl
theorem zgd_38 : wsL_law_r38.all goodWord = true := by decide +kernel
theorem zin_39 : ∀ w ∈ wsL_law_r39, w ∈ lw_tbl := zpl_in _ [(0, 17), (4, 38), (4, 39), (4, 41), (0, 18), (4, 42), (4, 43), (4, 45), (0, 19), (4, 46), (4, 47), (4, 48), (4, 49), (4, 50), (4, 51), (4, 52), (4, 53), (4, 54), (4, 55), (4, 57), (0, 20), (4, 58), (2, 27), (3, 158)] rfl
theorem zgd_39 : wsL_law_r39.all goodWord = true := by decide +kernel
theorem zin_40 : ∀ w ∈ wsL_law_r40, w ∈ lw_tbl := zpl_in _ [(3, 160), (3, 162), (4, 59), (4, 61), (0, 21), (4, 62), (4, 63), (4, 65), (0, 22), (4, 66), (4, 67), (4, 68), (4, 70), (0, 23), (4, 71), (1, 207), (4, 72), (4, 73), (4, 75), (0, 24), (4, 76), (4, 77), (4, 78), (4, 79)] rfl
theorem zgd_40 : wsL_law_r40.all goodWord = true := by decide +kernel
theorem zin_41 : ∀ w ∈ wsL_law_r41, w ∈ lw_tbl := zpl_in _ [(4, 80), (4, 81), (4, 82), (4, 83), (4, 84), (4, 85), (4, 87), (0, 25), (4, 88), (4, 89), (4, 91), (0, 26), (4, 92), (4, 93), (4, 94), (4, 95), (4, 96), (4, 97), (4, 98), (4, 99), (4, 101), (0, 27), (4, 102), (4, 103)] rfl
theorem zgd_41 : wsL_law_r41.all goodWord = true := by decide +kernel
theorem zin_42 : ∀ w ∈ wsL_law_r42, w ∈ lw_tbl := zpl_in _ [(4, 104), (1, 20), (4, 105), (4, 106), (4, 107), (4, 108), (8, 68), (8, 69), (8, 70), (8, 71), (5, 176), (5, 177), (8, 72), (8, 74), (0, 108), (8, 75), (8, 80), (8, 76), (8, 78), (0, 109), (8, 79), (8, 3), (8, 5), (0, 101)] rfl
theorem zgd_42 : wsL_law_r42.all goodWord = true := by decide +kernel
theorem zin_43 : ∀ w ∈ wsL_law_r43, w ∈ lw_tbl := zpl_in _ [(8, 6), (8, 81), (8, 83), (0, 110), (8, 84), (5, 179), (7, 223), (7, 225), (0, 98), (7, 226), (7, 155), (7, 157), (0, 87), (7, 158), (7, 163), (7, 143), (7, 145), (0, 85), (7, 146), (5, 162), (7, 147), (7, 149), (0, 86), (7, 150)] rfl
theorem zgd_43 : wsL_law_r43.all goodWord = true := by decide +kernel
theorem zin_44 : ∀ w ∈ wsL_law_r44, w ∈ lw_tbl := zpl_in _ [(7, 159), (7, 161), (0, 88), (7, 162), (7, 164), (7, 166), (0, 89), (7, 167), (7, 168), (7, 170), (0, 90), (7, 171), (7, 172), (7, 174), (0, 91), (7, 175), (7, 176), (7, 178), (0, 92), (7, 179), (7, 180), (7, 182), (0, 93), (7, 183)] rfl
theorem zgd_44 : wsL_law_r44.all goodWord = true := by decide +kernel
theorem zin_45 : ∀ w ∈ wsL_law_r45, w ∈ lw_tbl := zpl_in _ [(8, 85), (8, 87), (0, 111), (8, 88), (8, 89), (8, 91), (0, 112), (8, 92), (7, 235), (7, 237), (0, 99), (7, 238), (7, 239), (8, 1), (0, 100), (8, 2), (8, 11), (8, 13), (0, 102), (8, 14), (8, 23), (8, 25), (0, 103), (8, 26)] rfl
theorem zgd_45 : wsL_law_r45.all goodWord = true := by decide +kernel
theorem zin_46 : ∀ w ∈ wsL_law_r46, w ∈ lw_tbl := zpl_in _ [(8, 27), (8, 29), (0, 104), (8, 30), (8, 93), (8, 95), (0, 113), (8, 96), (6, 97), (6, 99), (0, 38), (6, 100), (4, 109), (4, 110), (4, 111), (4, 112), (6, 202), (6, 203), (6, 204), (6, 205), (4, 113), (4, 114), (4, 115), (4, 116)] rfl
theorem zgd_46 : wsL_law_r46.all goodWord = true := by decide +kernel
theorem zin_47 : ∀ w ∈ wsL_law_r47, w ∈ lw_tbl := zpl_in _ [(8, 97), (8, 98), (8, 99), (8, 100), (4, 117), (4, 118), (4, 119), (4, 120), (7, 85), (7, 86), (7, 87), (7, 88), (7, 89), (7, 91), (0, 74), (7, 92), (4, 121), (4, 122), (4, 123), (4, 124), (4, 125), (4, 127), (0, 28), (4, 128)] rfl
theorem zgd_47 : wsL_law_r47.all goodWord = true := by decide +kernel
theorem zin_48 : ∀ w ∈ wsL_law_r48, w ∈ lw_tbl := zpl_in _ [(7, 231), (7, 232), (7, 233), (7, 234), (4, 129), (4, 130), (4, 131), (4, 132), (8, 7), (8, 8), (8, 9), (8, 10), (4, 133), (4, 134), (4, 135), (4, 136), (8, 15), (8, 16), (8, 17), (8, 18), (4, 137), (4, 138), (4, 139), (4, 140)] rfl
theorem zgd_48 : wsL_law_r48.all goodWord = true := by decide +kernel
theorem zin_49 : ∀ w ∈ wsL_law_r49, w ∈ lw_tbl := zpl_in _ [(8, 19), (8, 20), (8, 21), (8, 22), (4, 141), (4, 142), (4, 143), (4, 144), (4, 145), (4, 146), (4, 147), (4, 148), (4, 149), (4, 151), (0, 29), (4, 152), (4, 153), (4, 154), (4, 155), (4, 156), (4, 157), (4, 158), (4, 159), (4, 160)] rfl
theorem zgd_49 : wsL_law_r49.all goodWord = true := by decide +kernel
theorem zin_50 : ∀ w ∈ wsL_law_r50, w ∈ lw_tbl := zpl_in _ [(6, 89), (6, 90), (6, 91), (6, 92), (4, 161), (4, 162), (4, 163), (4, 164), (3, 164), (7, 139), (7, 140), (7, 141), (7, 142), (4, 165), (4, 166), (4, 167), (4, 168), (4, 173), (4, 169), (4, 171), (0, 30), (4, 172), (4, 174), (4, 175)] rfl
theorem zgd_50 : wsL_law_r50.all goodWord = true := by decide +kernel
theorem zin_51 : ∀ w ∈ wsL_law_r51, w ∈ lw_tbl := zpl_in _ [(4, 176), (4, 177), (4, 183), (4, 178), (4, 180), (0, 31), (4, 181), (4, 182), (4, 184), (4, 186), (0, 32), (4, 187), (4, 188), (4, 189), (4, 191), (0, 33), (4, 192), (4, 200), (4, 201), (4, 202), (4, 193), (4, 195), (0, 34), (4, 196)] rfl
theorem zgd_51 : wsL_law_r51.all goodWord = true := by decide +kernel
theorem zin_52 : ∀ w ∈ wsL_law_r52, w ∈ lw_tbl := zpl_in _ [(4, 197), (4, 198), (4, 199), (4, 203), (4, 204), (4, 205), (4, 206), (4, 207), (4, 208), (7, 151), (7, 152), (7, 153), (7, 154), (7, 184), (7, 186), (0, 94), (7, 187), (7, 188), (7, 190), (0, 95), (7, 191), (7, 192), (7, 194), (0, 96)] rfl
theorem zgd_52 : wsL_law_r52.all goodWord = true := by decide +kernel
theorem zin_53 : ∀ w ∈ wsL_law_r53, w ∈ lw_tbl := zpl_in _ [(7, 195), (7, 196), (7, 197), (7, 198), (4, 209), (4, 210), (4, 211), (4, 212), (4, 213), (4, 215), (0, 35), (4, 216), (7, 199), (7, 200), (7, 201), (7, 202), (4, 217), (4, 218), (4, 219), (4, 220), (7, 203), (7, 204), (7, 205), (7, 206)] rfl
theorem zgd_53 : wsL_law_r53.all goodWord = true := by decide +kernel
theorem zin_54 : ∀ w ∈ wsL_law_r54, w ∈ lw_tbl := zpl_in _ [(4, 221), (4, 222), (4, 223), (4, 224), (4, 225), (4, 226), (4, 227), (4, 228), (7, 207), (7, 208), (7, 209), (7, 210), (7, 211), (7, 213), (0, 97), (7, 214), (4, 229), (4, 230), (4, 231), (4, 232), (3, 166), (3, 168), (7, 215), (7, 216)] rfl
theorem zgd_54 : wsL_law_r54.all goodWord = true := by decide +kernel
theorem zin_55 : ∀ w ∈ wsL_law_r55, w ∈ lw_tbl := zpl_in _ [(7, 217), (7, 218), (4, 233), (4, 234), (4, 235), (4, 236), (7, 219), (7, 220), (7, 221), (7, 222), (4, 237), (4, 238), (4, 239), (5, 0), (1, 50), (5, 1), (5, 2), (5, 3), (5, 4), (8, 31), (8, 32), (8, 33), (8, 34), (5, 5)] rfl
theorem zgd_55 : wsL_law_r55.all goodWord = true := by decide +kernel
theorem zin_56 : ∀ w ∈ wsL_law_r56, w ∈ lw_tbl := zpl_in _ [(5, 6), (5, 7), (5, 8), (8, 35), (8, 36), (8, 37), (8, 38), (5, 9), (5, 10), (5, 11), (5, 12), (5, 13), (5, 14), (5, 15), (5, 16), (1, 49), (5, 17), (5, 18), (5, 19), (5, 20), (5, 21), (5, 22), (5, 23), (5, 24)] rfl
theorem zgd_56 : wsL_law_r56.all goodWord = true := by decide +kernel
theorem zin_57 : ∀ w ∈ wsL_law_r57, w ∈ lw_tbl := zpl_in _ [(5, 25), (8, 39), (8, 40), (8, 41), (8, 42), (8, 43), (8, 45), (0, 105), (8, 46), (8, 47), (8, 49), (0, 106), (8, 50), (5, 26), (5, 27), (5, 28), (5, 29), (5, 30), (5, 31), (5, 33), (0, 36), (5, 34), (5, 35), (8, 51)] rfl
theorem zgd_57 : wsL_law_r57.all goodWord = true := by decide +kernel
theorem zin_58 : ∀ w ∈ wsL_law_r58, w ∈ lw_tbl := zpl_in _ [(8, 52), (8, 53), (8, 54), (8, 55), (8, 56), (8, 57), (8, 58), (8, 60), (0, 107), (8, 61), (5, 36), (5, 37), (5, 38), (5, 39), (5, 40), (5, 44), (5, 45), (5, 41), (5, 42), (5, 43), (8, 62), (8, 63), (8, 64), (8, 65)] rfl
theorem zgd_58 : wsL_law_r58.all goodWord = true := by decide +kernel
theorem zin_59 : ∀ w ∈ wsL_law_r59, w ∈ lw_tbl := zpl_in _ [(8, 66), (8, 67), (5, 46), (5, 47), (5, 48), (5, 49), (7, 227), (7, 228), (7, 229), (7, 230), (5, 50), (5, 51), (5, 52), (5, 53), (5, 54), (5, 55), (5, 56), (5, 57), (5, 58), (5, 59), (5, 60), (5, 61), (8, 101), (8, 102)] rfl
theorem zgd_59 : wsL_law_r59.all goodWord = true := by decide +kernel
theorem zin_60 : ∀ w ∈ wsL_law_r60, w ∈ lw_tbl := zpl_in _ [(8, 103), (8, 104), (8, 105), (5, 180), (8, 106), (8, 108), (0, 114), (8, 109), (8, 110), (8, 111), (8, 112), (5, 62), (5, 63), (5, 64), (5, 65), (8, 113), (8, 114), (8, 115), (8, 116), (5, 66), (5, 67), (5, 68), (5, 69), (6, 101)] rfl
theorem zgd_60 : wsL_law_r60.all goodWord = true := by decide +kernel
theorem zin_61 : ∀ w ∈ wsL_law_r61, w ∈ lw_tbl := zpl_in _ [(6, 102), (6, 103), (6, 104), (5, 70), (5, 71), (5, 72), (5, 73), (6, 108), (6, 109), (6, 110), (6, 111), (5, 74), (5, 75), (5, 76), (5, 77), (8, 117), (8, 118), (8, 119), (8, 120), (8, 121), (8, 122), (5, 78), (5, 79), (5, 80)] rfl
theorem zgd_61 : wsL_law_r61.all goodWord = true := by decide +kernel
theorem zin_62 : ∀ w ∈ wsL_law_r62, w ∈ lw_tbl := zpl_in _ [(5, 81), (8, 123), (8, 124), (8, 125), (8, 126)] rfl
theorem zgd_62 : wsL_law_r62.all goodWord = true := by decide +kernel
theorem zin_100 : ∀ w ∈ wsX00, w ∈ lw_tbl := zpl_in _ [(1, 232), (1, 234), (1, 236)] rfl
theorem zgd_100 : (wsX00).all goodWord = true := by decide +kernel
theorem zin_101 : ∀ w ∈ wsX10, w ∈ lw_tbl := zpl_in _ [(1, 217), (1, 219), (1, 221), (1, 223), (1, 225)] rfl
theorem zgd_101 : (wsX10).all goodWord = true := by decide +kernel
theorem zin_102 : ∀ w ∈ wsX20, w ∈ lw_tbl := zpl_in _ [(1, 93), (1, 95), (1, 97), (1, 99)] rfl
theorem zgd_102 : (wsX20).all goodWord = true := by decide +kernel
theorem zin_103 : ∀ w ∈ wsX30, w ∈ lw_tbl := zpl_in _ [(3, 169), (3, 171), (3, 173), (3, 175), (3, 177), (3, 179)] rfl
theorem zgd_103 : (wsX30).all goodWord = true := by decide +kernel
theorem zin_104 : ∀ w ∈ wsX40, w ∈ lw_tbl := zpl_in _ [(1, 164), (1, 166), (1, 168), (1, 170), (1, 172), (1, 174), (1, 176), (1, 178), (1, 180), (1, 182), (1, 184)] rfl
theorem zgd_104 : (wsX40).all goodWord = true := by decide +kernel
theorem zin_105 : ∀ w ∈ wsX50, w ∈ lw_tbl := zpl_in _ [(2, 6)] rfl
theorem zgd_105 : (wsX50).all goodWord = true := by decide +kernel
theorem zin_106 : ∀ w ∈ wsX60, w ∈ lw_tbl := zpl_in _ [(2, 28), (2, 30), (2, 32), (2, 34), (2, 36), (2, 38), (2, 40), (2, 42), (2, 44), (2, 46), (2, 48)] rfl
theorem zgd_106 : (wsX60).all goodWord = true := by decide +kernel
theorem zin_107 : ∀ w ∈ wsX70, w ∈ lw_tbl := zpl_in _ [(1, 57), (1, 59), (1, 61), (1, 63), (1, 65), (1, 67), (1, 69), (1, 71), (1, 73), (1, 75), (1, 77)] rfl
theorem zgd_107 : (wsX70).all goodWord = true := by decide +kernel
theorem zin_108 : ∀ w ∈ wsX80, w ∈ lw_tbl := zpl_in _ [(1, 112), (1, 114)] rfl
theorem zgd_108 : (wsX80).all goodWord = true := by decide +kernel
theorem zin_109 : ∀ w ∈ wsX90, w ∈ lw_tbl := zpl_in _ [(1, 134), (1, 136), (1, 138), (1, 140), (1, 142), (1, 144)] rfl
theorem zgd_109 : (wsX90).all goodWord = true := by decide +kernel
theorem zin_110 : ∀ w ∈ wsX100, w ∈ lw_tbl := zpl_in _ [(2, 74), (2, 76), (2, 78), (2, 80), (2, 82), (2, 84), (2, 86), (2, 88), (2, 90), (2, 92), (2, 94), (2, 96), (2, 98), (2, 100), (2, 102), (2, 104), (2, 106), (2, 108), (2, 110), (2, 112)] rfl
theorem zgd_110 : (wsX100).all goodWord = true := by decide +kernel
theorem zin_111 : ∀ w ∈ wsX110, w ∈ lw_tbl := zpl_in _ [(5, 183), (5, 185), (5, 187), (5, 189), (5, 191), (5, 193), (5, 195), (5, 197), (5, 199), (5, 201), (5, 203), (5, 205), (5, 207), (5, 209), (5, 211), (5, 213), (5, 215), (5, 217), (5, 219), (5, 221), (5, 223), (5, 225), (5, 227), (5, 229), (5, 231), (5, 233), (5, 235), (5, 237), (5, 239), (6, 1), (6, 3), (6, 5), (6, 7), (6, 9), (6, 11), (6, 13), (6, 15), (6, 17), (6, 19), (6, 21), (6, 23), (6, 25), (6, 27), (6, 29), (6, 31), (6, 33), (6, 35), (6, 37), (6, 39), (6, 41), (6, 43), (6, 45), (6, 47), (6, 49), (6, 51), (6, 53), (6, 55), (6, 57), (6, 59), (6, 61), (6, 63), (6, 65), (6, 67), (6, 69), (6, 71), (6, 73), (6, 75), (6, 77), (6, 79), (6, 81), (6, 83), (6, 85)] rfl
theorem zgd_111 : (wsX110).all goodWord = true := by decide +kernel
def zchunks : List (List Cond) := [wsL_law_r1, wsL_law_r2, wsL_law_r3, wsL_law_r4, wsL_law_r5, wsL_law_r6, wsL_law_r7, wsL_law_r8, wsL_law_r9, wsL_law_r10, wsL_law_r11, wsL_law_r12, wsL_law_r13, wsL_law_r14, wsL_law_r15, wsL_law_r16, wsL_law_r17, wsL_law_r18, wsL_law_r19, wsL_law_r20, wsL_law_r21, wsL_law_r22, wsL_law_r23, wsL_law_r24, wsL_law_r25, wsL_law_r26, wsL_law_r27, wsL_law_r28, wsL_law_r29, wsL_law_r30, wsL_law_r31, wsL_law_r32, wsL_law_r33, wsL_law_r34, wsL_law_r35, wsL_law_r36, wsL_law_r37, wsL_law_r38, wsL_law_r39, wsL_law_r40, wsL_law_r41, wsL_law_r42, wsL_law_r43, wsL_law_r44, wsL_law_r45, wsL_law_r46, wsL_law_r47, wsL_law_r48, wsL_law_r49, wsL_law_r50, wsL_law_r51, wsL_law_r52, wsL_law_r53, wsL_law_r54, wsL_law_r55, wsL_law_r56, wsL_law_r57, wsL_law_r58, wsL_law_r59, wsL_law_r60, wsL_law_r61, wsL_law_r62, wsX00, wsX10, wsX20, wsX30, wsX40, wsX50, wsX60, wsX70, wsX80, wsX90, wsX100, wsX110]
/-- every word that the program needs -/
def zG : List Cond := zchunks.flatten
theorem zchunks_ok : ∀ l ∈ zchunks, (∀ w ∈ l, w ∈ lw_tbl) ∧ l.all goodWord = true := List.forall_mem_cons.mpr ⟨⟨zin_1, zgd_1⟩, List.forall_mem_cons.mpr ⟨⟨zin_2, zgd_2⟩, List.forall_mem_cons.mpr ⟨⟨zin_3, zgd_3⟩, List.forall_mem_cons.mpr ⟨⟨zin_4, zgd_4⟩, List.forall_mem_cons.mpr ⟨⟨zin_5, zgd_5⟩, List.forall_mem_cons.mpr ⟨⟨zin_6, zgd_6⟩, List.forall_mem_cons.mpr ⟨⟨zin_7, zgd_7⟩, List.forall_mem_cons.mpr ⟨⟨zin_8, zgd_8⟩, List.forall_mem_cons.mpr ⟨⟨zin_9, zgd_9⟩, List.forall_mem_cons.mpr ⟨⟨zin_10, zgd_10⟩, List.forall_mem_cons.mpr ⟨⟨zin_11, zgd_11⟩, List.forall_mem_cons.mpr ⟨⟨zin_12, zgd_12⟩, List.forall_mem_cons.mpr ⟨⟨zin_13, zgd_13⟩, List.forall_mem_cons.mpr ⟨⟨zin_14, zgd_14⟩, List.forall_mem_cons.mpr ⟨⟨zin_15, zgd_15⟩, List.forall_mem_cons.mpr ⟨⟨zin_16, zgd_16⟩, List.forall_mem_cons.mpr ⟨⟨zin_17, zgd_17⟩, List.forall_mem_cons.mpr ⟨⟨zin_18, zgd_18⟩, List.forall_mem_cons.mpr ⟨⟨zin_19, zgd_19⟩, List.forall_mem_cons.mpr ⟨⟨zin_20, zgd_20⟩, List.forall_mem_cons.mpr ⟨⟨zin_21, zgd_21⟩, List.forall_mem_cons.mpr ⟨⟨zin_22, zgd_22⟩, List.forall_mem_cons.mpr ⟨⟨zin_23, zgd_23⟩, List.forall_mem_cons.mpr ⟨⟨zin_24, zgd_24⟩, List.forall_mem_cons.mpr ⟨⟨zin_25, zgd_25⟩, List.forall_mem_cons.mpr ⟨⟨zin_26, zgd_26⟩, List.forall_mem_cons.mpr ⟨⟨zin_27, zgd_27⟩, List.forall_mem_cons.mpr ⟨⟨zin_28, zgd_28⟩, List.forall_mem_cons.mpr ⟨⟨zin_29, zgd_29⟩, List.forall_mem_cons.mpr ⟨⟨zin_30, zgd_30⟩, List.forall_mem_cons.mpr ⟨⟨zin_31, zgd_31⟩, List.forall_mem_cons.mpr ⟨⟨zin_32, zgd_32⟩, List.forall_mem_cons.mpr ⟨⟨zin_33, zgd_33⟩, List.forall_mem_cons.mpr ⟨⟨zin_34, zgd_34⟩, List.forall_mem_cons.mpr ⟨⟨zin_35, zgd_35⟩, List.forall_mem_cons.mpr ⟨⟨zin_36, zgd_36⟩, List.forall_mem_cons.mpr ⟨⟨zin_37, zgd_37⟩, List.forall_mem_cons.mpr ⟨⟨zin_38, zgd_38⟩, List.forall_mem_cons.mpr ⟨⟨zin_39, zgd_39⟩, List.forall_mem_cons.mpr ⟨⟨zin_40, zgd_40⟩, List.forall_mem_cons.mpr ⟨⟨zin_41, zgd_41⟩, List.forall_mem_cons.mpr ⟨⟨zin_42, zgd_42⟩, List.forall_mem_cons.mpr ⟨⟨zin_43, zgd_43⟩, List.forall_mem_cons.mpr ⟨⟨zin_44, zgd_44⟩, List.forall_mem_cons.mpr ⟨⟨zin_45, zgd_45⟩, List.forall_mem_cons.mpr ⟨⟨zin_46, zgd_46⟩, List.forall_mem_cons.mpr ⟨⟨zin_47, zgd_47⟩, List.forall_mem_cons.mpr ⟨⟨zin_48, zgd_48⟩, List.forall_mem_cons.mpr ⟨⟨zin_49, zgd_49⟩, List.forall_mem_cons.mpr ⟨⟨zin_50, zgd_50⟩, List.forall_mem_cons.mpr ⟨⟨zin_51, zgd_51⟩, List.forall_mem_cons.mpr ⟨⟨zin_52, zgd_52⟩, List.forall_mem_cons.mpr ⟨⟨zin_53, zgd_53⟩, List.forall_mem_cons.mpr ⟨⟨zin_54, zgd_54⟩, List.forall_mem_cons.mpr ⟨⟨zin_55, zgd_55⟩, List.forall_mem_cons.mpr ⟨⟨zin_56, zgd_56⟩, List.forall_mem_cons.mpr ⟨⟨zin_57, zgd_57⟩, List.forall_mem_cons.mpr ⟨⟨zin_58, zgd_58⟩, List.forall_mem_cons.mpr ⟨⟨zin_59, zgd_59⟩, List.forall_mem_cons.mpr ⟨⟨zin_60, zgd_60⟩, List.forall_mem_cons.mpr ⟨⟨zin_61, zgd_61⟩, List.forall_mem_cons.mpr ⟨⟨zin_62, zgd_62⟩, List.forall_mem_cons.mpr ⟨⟨zin_100, zgd_100⟩, List.forall_mem_cons.mpr ⟨⟨zin_101, zgd_101⟩, List.forall_mem_cons.mpr ⟨⟨zin_102, zgd_102⟩, List.forall_mem_cons.mpr ⟨⟨zin_103, zgd_103⟩, List.forall_mem_cons.mpr ⟨⟨zin_104, zgd_104⟩, List.forall_mem_cons.mpr ⟨⟨zin_105, zgd_105⟩, List.forall_mem_cons.mpr ⟨⟨zin_106, zgd_106⟩, List.forall_mem_cons.mpr ⟨⟨zin_107, zgd_107⟩, List.forall_mem_cons.mpr ⟨⟨zin_108, zgd_108⟩, List.forall_mem_cons.mpr ⟨⟨zin_109, zgd_109⟩, List.forall_mem_cons.mpr ⟨⟨zin_110, zgd_110⟩, List.forall_mem_cons.mpr ⟨⟨zin_111, zgd_111⟩, fun _ h => absurd h List.not_mem_nil⟩⟩⟩⟩⟩⟩⟩⟩⟩⟩⟩⟩⟩⟩⟩⟩⟩⟩⟩⟩⟩⟩⟩⟩⟩⟩⟩⟩⟩⟩⟩⟩⟩⟩⟩⟩⟩⟩⟩⟩⟩⟩⟩⟩⟩⟩⟩⟩⟩⟩⟩⟩⟩⟩⟩⟩⟩⟩⟩⟩⟩⟩⟩⟩⟩⟩⟩⟩⟩⟩⟩⟩⟩⟩
theorem zG_in : ∀ w ∈ zG, w ∈ lw_tbl := fun w h => by
  obtain ⟨l, hl, hw⟩ := List.mem_flatten.mp h
  exact (zchunks_ok l hl).1 w hw
theorem zG_good : ∀ w ∈ zG, goodWord w = true := fun w h => by
  obtain ⟨l, hl, hw⟩ := List.mem_flatten.mp h
  exact List.all_eq_true.mp (zchunks_ok l hl).2 w hw
