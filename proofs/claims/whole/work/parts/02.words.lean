def zt : Nat → List Cond
  | 0 => k2_sels lw_privs
  | 1 => tables_1_1
  | 2 => tables_1_2
  | 3 => tables_1_3
  | 4 => tables_1_4
  | 5 => tables_1_5
  | 6 => tables_1_6
  | 7 => tables_1_7
  | 8 => tables_1_8
  | _ => []
theorem zt_in (k : Nat) : ∀ w ∈ zt k, w ∈ lw_tbl := by
  intro w h
  show w ∈ k2_sels lw_privs ++ (tables_1_1 ++ (tables_1_2 ++ (tables_1_3 ++ (tables_1_4 ++ (tables_1_5 ++ (tables_1_6 ++ (tables_1_7 ++ tables_1_8)))))))
  simp only [List.mem_append]
  match k, h with
  | 0, h => exact Or.inl h
  | 1, h => exact Or.inr (Or.inl h)
  | 2, h => exact Or.inr (Or.inr (Or.inl h))
  | 3, h => exact Or.inr (Or.inr (Or.inr (Or.inl h)))
  | 4, h => exact Or.inr (Or.inr (Or.inr (Or.inr (Or.inl h))))
  | 5, h => exact Or.inr (Or.inr (Or.inr (Or.inr (Or.inr (Or.inl h)))))
  | 6, h => exact Or.inr (Or.inr (Or.inr (Or.inr (Or.inr (Or.inr (Or.inl h))))))
  | 7, h => exact Or.inr (Or.inr (Or.inr (Or.inr (Or.inr (Or.inr (Or.inr (Or.inl h)))))))
  | 8, h => exact Or.inr (Or.inr (Or.inr (Or.inr (Or.inr (Or.inr (Or.inr (Or.inr (h))))))))
  | _ + 9, h => exact absurd h List.not_mem_nil
def zpl (p : Nat × Nat) : Option Cond := (zt p.1)[p.2]?
theorem zpl_in (r : List Cond) (ps : List (Nat × Nat)) (h : r = ps.filterMap zpl) : ∀ w ∈ r, w ∈ lw_tbl := by
  intro w hw
  rw [h] at hw
  obtain ⟨p, -, hp⟩ := List.mem_filterMap.mp hw
  exact zt_in p.1 w (List.mem_of_getElem? hp)
theorem zin_1 : ∀ w ∈ wsL_law_r1, w ∈ lw_tbl := zpl_in _ [(1, 21), (1, 22), (1, 1), (5, 95), (5, 96), (1, 12), (1, 23), (1, 24), (1, 25), (1, 26), (1, 27), (1, 28), (1, 29), (1, 30), (1, 2), (2, 54), (2, 55), (2, 56), (2, 57), (1, 82), (1, 83), (1, 3), (2, 58), (2, 59)] rfl
theorem zgd_1 : wsL_law_r1.all goodWord = true := by decide +kernel
theorem zin_2 : ∀ w ∈ wsL_law_r2, w ∈ lw_tbl := zpl_in _ [(1, 102), (1, 103), (1, 4), (2, 60), (1, 117), (1, 118), (1, 5), (2, 61), (1, 147), (1, 148), (1, 6), (2, 62), (1, 187), (1, 188), (1, 7), (2, 63), (1, 239), (2, 0), (1, 10), (2, 64), (2, 9), (2, 10), (1, 11), (2, 65)] rfl
theorem zgd_2 : wsL_law_r2.all goodWord = true := by decide +kernel
theorem zin_3 : ∀ w ∈ wsL_law_r3, w ∈ lw_tbl := zpl_in _ [(1, 80), (2, 66), (2, 51), (2, 67), (2, 68), (2, 52), (2, 69), (2, 71), (2, 73), (1, 32), (1, 33), (1, 34), (1, 39), (1, 40), (1, 41), (1, 42), (1, 35), (1, 43), (1, 37), (1, 44), (1, 55), (1, 85), (1, 86), (1, 87)] rfl
theorem zgd_3 : wsL_law_r3.all goodWord = true := by decide +kernel
theorem zin_4 : ∀ w ∈ wsL_law_r4, w ∈ lw_tbl := zpl_in _ [(1, 88), (1, 89), (1, 90), (1, 105), (1, 106), (1, 107), (1, 108), (1, 120), (1, 121), (1, 122), (1, 123), (1, 124), (1, 125), (1, 130), (1, 150), (1, 151), (1, 152), (1, 153), (1, 154), (1, 155), (1, 156), (1, 157), (1, 158), (1, 159)] rfl
theorem zgd_4 : wsL_law_r4.all goodWord = true := by decide +kernel
theorem zin_5 : ∀ w ∈ wsL_law_r5, w ∈ lw_tbl := zpl_in _ [(1, 160), (1, 161), (1, 162), (1, 190), (1, 191), (1, 192), (1, 193), (1, 194), (1, 8), (1, 228), (1, 195), (1, 196), (1, 197), (1, 198), (1, 199), (1, 9), (1, 200), (1, 201), (1, 202), (1, 203), (1, 204), (1, 205), (1, 208), (2, 2)] rfl
theorem zgd_5 : wsL_law_r5.all goodWord = true := by decide +kernel
theorem zin_6 : ∀ w ∈ wsL_law_r6, w ∈ lw_tbl := zpl_in _ [(2, 3), (2, 4), (2, 5), (2, 12), (2, 13), (2, 14), (2, 15), (2, 17), (2, 18), (2, 19), (2, 20), (2, 21), (2, 22), (2, 23), (2, 24), (5, 97), (5, 98), (5, 99), (5, 100), (5, 126), (5, 127), (5, 128), (6, 101), (5, 129)] rfl
theorem zgd_6 : wsL_law_r6.all goodWord = true := by decide +kernel
theorem zin_7 : ∀ w ∈ wsL_law_r7, w ∈ lw_tbl := zpl_in _ [(5, 130), (5, 131), (5, 133), (5, 134), (5, 136), (5, 142), (5, 146), (5, 148), (5, 149), (5, 151), (5, 152), (5, 101), (5, 102), (5, 103), (5, 104), (5, 105), (5, 106), (5, 107), (5, 108), (5, 155), (5, 109), (5, 110), (5, 111), (5, 156)] rfl
theorem zgd_7 : wsL_law_r7.all goodWord = true := by decide +kernel
theorem zin_8 : ∀ w ∈ wsL_law_r8, w ∈ lw_tbl := zpl_in _ [(5, 112), (5, 113), (5, 114), (5, 157), (5, 159), (5, 160), (5, 161), (5, 115), (5, 116), (5, 117), (5, 118), (5, 166), (5, 167), (5, 169), (5, 170), (5, 172), (5, 173), (5, 174), (5, 119), (5, 176), (5, 177), (5, 178), (5, 179), (5, 180)] rfl
theorem zgd_8 : wsL_law_r8.all goodWord = true := by decide +kernel
theorem zin_9 : ∀ w ∈ wsL_law_r9, w ∈ lw_tbl := zpl_in _ [(5, 181), (5, 182), (5, 183), (5, 184), (5, 185), (5, 186), (5, 120), (5, 121), (5, 122), (5, 123), (5, 187), (5, 188), (5, 191), (5, 194), (5, 195), (2, 115), (2, 116), (2, 117), (2, 118), (1, 91), (1, 46), (2, 119), (2, 120), (2, 121)] rfl
theorem zgd_9 : wsL_law_r9.all goodWord = true := by decide +kernel
theorem zin_10 : ∀ w ∈ wsL_law_r10, w ∈ lw_tbl := zpl_in _ [(2, 122), (2, 124), (0, 0), (2, 125), (2, 70), (2, 126), (2, 127), (2, 128), (2, 129), (1, 47), (2, 130), (2, 131), (2, 133), (0, 1), (2, 134), (6, 129), (6, 130), (6, 131), (6, 132), (5, 124), (6, 133), (6, 135), (0, 40), (6, 136)] rfl
theorem zgd_10 : wsL_law_r10.all goodWord = true := by decide +kernel
theorem zin_11 : ∀ w ∈ wsL_law_r11, w ∈ lw_tbl := zpl_in _ [(6, 137), (6, 118), (6, 119), (6, 120), (6, 125), (6, 127), (0, 39), (6, 128), (5, 132), (6, 106), (6, 108), (0, 37), (6, 109), (5, 125), (2, 135), (2, 136), (2, 137), (2, 138), (1, 56), (2, 139), (2, 140), (2, 141), (2, 142), (2, 143)] rfl
theorem zgd_11 : wsL_law_r11.all goodWord = true := by decide +kernel
theorem zin_12 : ∀ w ∈ wsL_law_r12, w ∈ lw_tbl := zpl_in _ [(2, 144), (2, 145), (2, 146), (2, 147), (2, 148), (2, 149), (2, 150), (1, 53), (2, 151), (2, 152), (2, 153), (2, 154), (1, 45), (2, 25), (2, 26), (2, 155), (2, 156), (1, 13), (2, 157), (2, 158), (2, 159), (2, 160), (2, 161), (2, 162)] rfl
theorem zgd_12 : wsL_law_r12.all goodWord = true := by decide +kernel
theorem zin_13 : ∀ w ∈ wsL_law_r13, w ∈ lw_tbl := zpl_in _ [(2, 163), (2, 165), (0, 2), (2, 166), (1, 210), (1, 206), (2, 182), (2, 183), (2, 184), (2, 185), (2, 186), (2, 167), (2, 168), (2, 169), (2, 170), (2, 171), (2, 172), (2, 173), (2, 174), (2, 175), (2, 176), (2, 177), (2, 178), (2, 179)] rfl
theorem zgd_13 : wsL_law_r13.all goodWord = true := by decide +kernel
theorem zin_14 : ∀ w ∈ wsL_law_r14, w ∈ lw_tbl := zpl_in _ [(2, 180), (2, 181), (2, 187), (2, 188), (2, 189), (2, 190), (2, 191), (2, 192), (2, 193), (2, 194), (6, 138), (6, 139), (6, 140), (6, 141), (6, 146), (6, 147), (6, 175), (6, 176), (6, 142), (6, 144), (0, 41), (6, 145), (6, 148), (6, 150)] rfl
theorem zgd_14 : wsL_law_r14.all goodWord = true := by decide +kernel
theorem zin_15 : ∀ w ∈ wsL_law_r15, w ∈ lw_tbl := zpl_in _ [(0, 42), (6, 151), (6, 152), (6, 154), (0, 43), (6, 155), (5, 158), (5, 165), (6, 156), (6, 158), (0, 44), (6, 159), (5, 162), (5, 163), (6, 160), (6, 162), (0, 45), (6, 163), (5, 144), (5, 164), (6, 168), (6, 173), (6, 174), (6, 164)] rfl
theorem zgd_15 : wsL_law_r15.all goodWord = true := by decide +kernel
theorem zin_16 : ∀ w ∈ wsL_law_r16, w ∈ lw_tbl := zpl_in _ [(6, 166), (0, 46), (6, 167), (6, 169), (6, 171), (0, 47), (6, 172), (6, 177), (6, 179), (0, 48), (6, 180), (6, 181), (6, 182), (6, 183), (2, 195), (2, 196), (2, 197), (2, 198), (2, 199), (2, 201), (2, 202), (2, 203), (2, 204), (2, 205)] rfl
theorem zgd_16 : wsL_law_r16.all goodWord = true := by decide +kernel
theorem zin_17 : ∀ w ∈ wsL_law_r17, w ∈ lw_tbl := zpl_in _ [(6, 184), (6, 185), (6, 186), (6, 187), (6, 188), (6, 189), (6, 190), (6, 191), (6, 193), (0, 49), (6, 194), (2, 206), (2, 207), (2, 208), (2, 209), (1, 111), (2, 210), (2, 211), (2, 212), (2, 213), (1, 109), (2, 214), (2, 215), (2, 216)] rfl
theorem zgd_17 : wsL_law_r17.all goodWord = true := by decide +kernel
theorem zin_18 : ∀ w ∈ wsL_law_r18, w ∈ lw_tbl := zpl_in _ [(2, 217), (6, 203), (6, 204), (6, 205), (6, 206), (5, 137), (6, 207), (6, 209), (0, 50), (6, 210), (2, 218), (2, 219), (2, 220), (2, 221), (6, 211), (6, 212), (6, 213), (6, 214), (2, 222), (2, 223), (2, 224), (2, 225), (2, 72), (2, 226)] rfl
theorem zgd_18 : wsL_law_r18.all goodWord = true := by decide +kernel
theorem zin_19 : ∀ w ∈ wsL_law_r19, w ∈ lw_tbl := zpl_in _ [(2, 227), (2, 228), (2, 229), (6, 195), (6, 196), (6, 197), (6, 198), (5, 135), (2, 230), (2, 231), (2, 232), (2, 233), (6, 199), (6, 200), (6, 201), (6, 202), (2, 234), (2, 235), (2, 236), (2, 237), (1, 52), (1, 133), (2, 238), (2, 239)] rfl
theorem zgd_19 : wsL_law_r19.all goodWord = true := by decide +kernel
theorem zin_20 : ∀ w ∈ wsL_law_r20, w ∈ lw_tbl := zpl_in _ [(3, 0), (3, 1), (1, 126), (1, 127), (1, 110), (3, 72), (3, 2), (3, 3), (3, 4), (3, 5), (3, 6), (3, 7), (3, 8), (3, 9), (3, 10), (3, 11), (3, 12), (3, 13), (3, 14), (3, 16), (3, 17), (3, 18), (1, 14), (3, 19)] rfl
theorem zgd_20 : wsL_law_r20.all goodWord = true := by decide +kernel
theorem zin_21 : ∀ w ∈ wsL_law_r21, w ∈ lw_tbl := zpl_in _ [(8, 140), (3, 20), (3, 21), (3, 22), (3, 23), (3, 24), (8, 141), (3, 26), (3, 27), (3, 28), (3, 29), (3, 30), (3, 31), (3, 32), (3, 33), (3, 34), (3, 35), (1, 15), (3, 36), (3, 37), (3, 38), (3, 39), (3, 40), (3, 42)] rfl
theorem zgd_21 : wsL_law_r21.all goodWord = true := by decide +kernel
theorem zin_22 : ∀ w ∈ wsL_law_r22, w ∈ lw_tbl := zpl_in _ [(3, 43), (1, 16), (3, 44), (3, 45), (3, 46), (1, 17), (3, 47), (3, 48), (3, 49), (3, 50), (3, 51), (3, 52), (3, 53), (3, 54), (3, 55), (3, 56), (3, 57), (3, 58), (3, 60), (3, 62), (3, 64), (3, 66), (0, 3), (3, 67)] rfl
theorem zgd_22 : wsL_law_r22.all goodWord = true := by decide +kernel
theorem zin_23 : ∀ w ∈ wsL_law_r23, w ∈ lw_tbl := zpl_in _ [(3, 68), (3, 69), (3, 70), (3, 71), (3, 73), (3, 74), (3, 75), (3, 76), (1, 131), (1, 163), (3, 137), (3, 138), (1, 18), (3, 77), (3, 79), (0, 4), (3, 80), (1, 129), (3, 117), (3, 81), (3, 83), (0, 5), (3, 114), (3, 115)] rfl
theorem zgd_23 : wsL_law_r23.all goodWord = true := by decide +kernel
theorem zin_24 : ∀ w ∈ wsL_law_r24, w ∈ lw_tbl := zpl_in _ [(3, 116), (3, 109), (3, 98), (3, 99), (3, 100), (3, 84), (3, 85), (3, 87), (0, 6), (3, 89), (3, 90), (3, 91), (3, 92), (3, 118), (3, 119), (3, 120), (3, 105), (3, 106), (3, 107), (3, 88), (3, 93), (3, 94), (3, 95), (3, 96)] rfl
theorem zgd_24 : wsL_law_r24.all goodWord = true := by decide +kernel
theorem zin_25 : ∀ w ∈ wsL_law_r25, w ∈ lw_tbl := zpl_in _ [(3, 97), (3, 101), (3, 102), (3, 103), (3, 104), (3, 108), (3, 110), (3, 111), (3, 112), (3, 113), (3, 121), (3, 123), (0, 7), (3, 124), (3, 128), (3, 125), (3, 126), (3, 127), (3, 129), (3, 131), (0, 8), (3, 132), (3, 133), (3, 135)] rfl
theorem zgd_25 : wsL_law_r25.all goodWord = true := by decide +kernel
theorem zin_26 : ∀ w ∈ wsL_law_r26, w ∈ lw_tbl := zpl_in _ [(0, 9), (3, 136), (3, 139), (3, 140), (3, 141), (3, 142), (3, 143), (3, 144), (3, 145), (3, 146), (3, 148), (3, 149), (3, 150), (3, 152), (3, 151), (1, 19), (3, 153), (3, 154), (3, 155), (3, 156), (3, 157), (3, 158), (3, 159), (3, 160)] rfl
theorem zgd_26 : wsL_law_r26.all goodWord = true := by decide +kernel
theorem zin_27 : ∀ w ∈ wsL_law_r27, w ∈ lw_tbl := zpl_in _ [(3, 162), (3, 164), (3, 180), (3, 181), (3, 182), (3, 183), (1, 51), (7, 106), (7, 107), (7, 108), (7, 109), (5, 143), (7, 110), (7, 112), (0, 75), (7, 113), (5, 168), (5, 171), (7, 92), (5, 140), (6, 227), (6, 229), (0, 52), (6, 230)] rfl
theorem zgd_27 : wsL_law_r27.all goodWord = true := by decide +kernel
theorem zin_28 : ∀ w ∈ wsL_law_r28, w ∈ lw_tbl := zpl_in _ [(5, 139), (6, 231), (6, 233), (0, 53), (6, 234), (5, 138), (5, 141), (7, 1), (7, 2), (7, 3), (7, 4), (6, 235), (6, 236), (6, 237), (6, 238), (6, 239), (7, 0), (7, 114), (7, 116), (0, 76), (7, 117), (7, 118), (7, 120), (0, 77)] rfl
theorem zgd_28 : wsL_law_r28.all goodWord = true := by decide +kernel
theorem zin_29 : ∀ w ∈ wsL_law_r29, w ∈ lw_tbl := zpl_in _ [(7, 121), (7, 30), (7, 32), (0, 60), (7, 33), (7, 13), (7, 15), (0, 56), (7, 16), (7, 122), (7, 124), (0, 78), (7, 125), (7, 9), (7, 11), (0, 55), (7, 12), (7, 126), (7, 128), (0, 79), (7, 129), (7, 130), (7, 132), (0, 80)] rfl
theorem zgd_29 : wsL_law_r29.all goodWord = true := by decide +kernel
theorem zin_30 : ∀ w ∈ wsL_law_r30, w ∈ lw_tbl := zpl_in _ [(7, 133), (7, 134), (7, 60), (7, 62), (0, 67), (7, 63), (7, 135), (7, 137), (0, 81), (7, 138), (7, 139), (7, 141), (0, 82), (7, 142), (7, 143), (7, 144), (7, 146), (0, 83), (7, 147), (7, 148), (7, 150), (0, 84), (7, 151), (3, 184)] rfl
theorem zgd_30 : wsL_law_r30.all goodWord = true := by decide +kernel
theorem zin_31 : ∀ w ∈ wsL_law_r31, w ∈ lw_tbl := zpl_in _ [(3, 185), (3, 186), (3, 187), (1, 54), (1, 229), (3, 188), (3, 189), (3, 190), (3, 191), (1, 209), (1, 213), (1, 215), (1, 230), (1, 231), (1, 132), (3, 192), (3, 194), (0, 10), (3, 195), (1, 128), (3, 196), (3, 197), (3, 198), (3, 199)] rfl
theorem zgd_31 : wsL_law_r31.all goodWord = true := by decide +kernel
theorem zin_32 : ∀ w ∈ wsL_law_r32, w ∈ lw_tbl := zpl_in _ [(3, 200), (3, 201), (3, 202), (3, 203), (3, 205), (0, 11), (3, 206), (3, 207), (3, 209), (0, 12), (3, 213), (3, 214), (3, 215), (3, 216), (1, 214), (3, 225), (3, 226), (3, 227), (3, 210), (3, 211), (3, 212), (3, 217), (3, 219), (0, 13)] rfl
theorem zgd_32 : wsL_law_r32.all goodWord = true := by decide +kernel
theorem zin_33 : ∀ w ∈ wsL_law_r33, w ∈ lw_tbl := zpl_in _ [(3, 220), (3, 221), (3, 223), (0, 14), (3, 224), (3, 228), (3, 230), (0, 15), (3, 231), (3, 232), (3, 234), (0, 16), (3, 235), (3, 236), (3, 237), (3, 238), (3, 239), (4, 0), (4, 1), (4, 2), (4, 3), (4, 4), (4, 5), (4, 6)] rfl
theorem zgd_33 : wsL_law_r33.all goodWord = true := by decide +kernel
theorem zin_34 : ∀ w ∈ wsL_law_r34, w ∈ lw_tbl := zpl_in _ [(4, 7), (4, 8), (4, 9), (4, 10), (1, 211), (4, 11), (4, 12), (4, 13), (4, 14), (4, 15), (4, 16), (6, 219), (6, 220), (6, 221), (6, 222), (5, 145), (5, 147), (6, 223), (6, 225), (0, 51), (6, 226), (5, 150), (7, 5), (7, 7)] rfl
theorem zgd_34 : wsL_law_r34.all goodWord = true := by decide +kernel
theorem zin_35 : ∀ w ∈ wsL_law_r35, w ∈ lw_tbl := zpl_in _ [(0, 54), (7, 8), (7, 93), (7, 17), (7, 19), (0, 57), (7, 20), (5, 153), (5, 154), (7, 21), (7, 23), (0, 58), (7, 24), (7, 25), (7, 26), (7, 28), (0, 59), (7, 29), (7, 34), (7, 36), (0, 61), (7, 37), (7, 38), (7, 40)] rfl
theorem zgd_35 : wsL_law_r35.all goodWord = true := by decide +kernel
theorem zin_36 : ∀ w ∈ wsL_law_r36, w ∈ lw_tbl := zpl_in _ [(0, 62), (7, 41), (7, 50), (7, 59), (7, 42), (7, 44), (0, 63), (7, 45), (7, 46), (7, 48), (0, 64), (7, 49), (7, 51), (7, 53), (0, 65), (7, 54), (7, 55), (7, 57), (0, 66), (7, 58), (7, 64), (7, 66), (0, 68), (7, 67)] rfl
theorem zgd_36 : wsL_law_r36.all goodWord = true := by decide +kernel
theorem zin_37 : ∀ w ∈ wsL_law_r37, w ∈ lw_tbl := zpl_in _ [(7, 68), (7, 69), (7, 70), (7, 71), (7, 73), (0, 69), (7, 74), (7, 75), (7, 77), (0, 70), (7, 78), (7, 79), (7, 81), (0, 71), (7, 82), (7, 83), (7, 84), (7, 85), (7, 86), (7, 87), (7, 89), (0, 72), (7, 90), (7, 91)] rfl
theorem zgd_37 : wsL_law_r37.all goodWord = true := by decide +kernel
theorem zin_38 : ∀ w ∈ wsL_law_r38, w ∈ lw_tbl := zpl_in _ [(7, 94), (7, 96), (0, 73), (7, 97), (4, 17), (4, 18), (4, 19), (4, 20), (1, 216), (1, 212), (4, 21), (4, 22), (4, 23), (4, 24), (4, 25), (1, 48), (4, 27), (4, 28), (4, 29), (4, 30), (4, 31), (1, 92), (4, 32), (4, 34)] rfl
theorem zgd_38 : wsL_law_r38.all goodWord = true := by decide +kernel
theorem zin_39 : ∀ w ∈ wsL_law_r39, w ∈ lw_tbl := zpl_in _ [(0, 17), (4, 35), (4, 36), (4, 38), (0, 18), (4, 39), (4, 40), (4, 42), (0, 19), (4, 43), (4, 44), (4, 45), (4, 46), (4, 47), (4, 48), (4, 49), (4, 50), (4, 51), (4, 52), (4, 54), (0, 20), (4, 55), (2, 27), (4, 56)] rfl
theorem zgd_39 : wsL_law_r39.all goodWord = true := by decide +kernel
theorem zin_40 : ∀ w ∈ wsL_law_r40, w ∈ lw_tbl := zpl_in _ [(4, 57), (4, 58), (4, 59), (4, 60), (4, 62), (0, 21), (4, 63), (4, 64), (4, 66), (0, 22), (4, 67), (4, 68), (4, 69), (4, 70), (4, 71), (4, 72), (4, 73), (4, 74), (4, 75), (4, 76), (4, 77), (4, 78), (4, 79), (4, 80)] rfl
theorem zgd_40 : wsL_law_r40.all goodWord = true := by decide +kernel
theorem zin_41 : ∀ w ∈ wsL_law_r41, w ∈ lw_tbl := zpl_in _ [(4, 81), (4, 83), (0, 23), (4, 84), (1, 207), (4, 85), (4, 86), (4, 88), (0, 24), (4, 89), (4, 90), (4, 91), (4, 92), (4, 93), (4, 94), (4, 95), (4, 96), (4, 97), (4, 98), (4, 100), (0, 25), (4, 101), (4, 102), (4, 104)] rfl
theorem zgd_41 : wsL_law_r41.all goodWord = true := by decide +kernel
theorem zin_42 : ∀ w ∈ wsL_law_r42, w ∈ lw_tbl := zpl_in _ [(0, 26), (4, 105), (4, 106), (4, 107), (4, 108), (4, 109), (4, 110), (4, 111), (4, 112), (4, 114), (0, 27), (4, 115), (4, 116), (4, 117), (1, 20), (4, 118), (4, 119), (4, 120), (4, 121), (8, 81), (8, 82), (8, 83), (8, 84), (5, 189)] rfl
theorem zgd_42 : wsL_law_r42.all goodWord = true := by decide +kernel
theorem zin_43 : ∀ w ∈ wsL_law_r43, w ∈ lw_tbl := zpl_in _ [(5, 190), (8, 85), (8, 87), (0, 108), (8, 88), (8, 93), (8, 89), (8, 91), (0, 109), (8, 92), (8, 16), (8, 18), (0, 101), (8, 19), (8, 94), (8, 96), (0, 110), (8, 97), (5, 192), (7, 236), (7, 238), (0, 98), (7, 239), (7, 168)] rfl
theorem zgd_43 : wsL_law_r43.all goodWord = true := by decide +kernel
theorem zin_44 : ∀ w ∈ wsL_law_r44, w ∈ lw_tbl := zpl_in _ [(7, 170), (0, 87), (7, 171), (7, 176), (7, 156), (7, 158), (0, 85), (7, 159), (5, 175), (7, 160), (7, 162), (0, 86), (7, 163), (7, 172), (7, 174), (0, 88), (7, 175), (7, 177), (7, 179), (0, 89), (7, 180), (7, 181), (7, 183), (0, 90)] rfl
theorem zgd_44 : wsL_law_r44.all goodWord = true := by decide +kernel
theorem zin_45 : ∀ w ∈ wsL_law_r45, w ∈ lw_tbl := zpl_in _ [(7, 184), (7, 185), (7, 187), (0, 91), (7, 188), (7, 189), (7, 191), (0, 92), (7, 192), (7, 193), (7, 195), (0, 93), (7, 196), (8, 98), (8, 100), (0, 111), (8, 101), (8, 102), (8, 104), (0, 112), (8, 105), (8, 8), (8, 10), (0, 99)] rfl
theorem zgd_45 : wsL_law_r45.all goodWord = true := by decide +kernel
theorem zin_46 : ∀ w ∈ wsL_law_r46, w ∈ lw_tbl := zpl_in _ [(8, 11), (8, 12), (8, 14), (0, 100), (8, 15), (8, 24), (8, 26), (0, 102), (8, 27), (8, 36), (8, 38), (0, 103), (8, 39), (8, 40), (8, 42), (0, 104), (8, 43), (8, 106), (8, 108), (0, 113), (8, 109), (6, 110), (6, 112), (0, 38)] rfl
theorem zgd_46 : wsL_law_r46.all goodWord = true := by decide +kernel
theorem zin_47 : ∀ w ∈ wsL_law_r47, w ∈ lw_tbl := zpl_in _ [(6, 113), (4, 122), (4, 123), (4, 124), (4, 125), (6, 215), (6, 216), (6, 217), (6, 218), (4, 126), (4, 127), (4, 128), (4, 129), (8, 110), (8, 111), (8, 112), (8, 113), (4, 130), (4, 131), (4, 132), (4, 133), (7, 98), (7, 99), (7, 100)] rfl
theorem zgd_47 : wsL_law_r47.all goodWord = true := by decide +kernel
theorem zin_48 : ∀ w ∈ wsL_law_r48, w ∈ lw_tbl := zpl_in _ [(7, 101), (7, 102), (7, 104), (0, 74), (7, 105), (4, 134), (4, 135), (4, 136), (4, 137), (4, 138), (4, 140), (0, 28), (4, 141), (8, 4), (8, 5), (8, 6), (8, 7), (4, 142), (4, 143), (4, 144), (4, 145), (8, 20), (8, 21), (8, 22)] rfl
theorem zgd_48 : wsL_law_r48.all goodWord = true := by decide +kernel
theorem zin_49 : ∀ w ∈ wsL_law_r49, w ∈ lw_tbl := zpl_in _ [(8, 23), (4, 146), (4, 147), (4, 148), (4, 149), (8, 28), (8, 29), (8, 30), (8, 31), (4, 150), (4, 151), (4, 152), (4, 153), (8, 32), (8, 33), (8, 34), (8, 35), (4, 154), (4, 155), (4, 156), (4, 157), (4, 158), (4, 159), (4, 160)] rfl
theorem zgd_49 : wsL_law_r49.all goodWord = true := by decide +kernel
theorem zin_50 : ∀ w ∈ wsL_law_r50, w ∈ lw_tbl := zpl_in _ [(4, 161), (4, 162), (4, 164), (0, 29), (4, 165), (4, 166), (4, 167), (4, 168), (4, 169), (4, 170), (4, 171), (4, 172), (4, 173), (6, 102), (6, 103), (6, 104), (6, 105), (4, 174), (4, 175), (4, 176), (4, 177), (3, 161), (7, 152), (7, 153)] rfl
theorem zgd_50 : wsL_law_r50.all goodWord = true := by decide +kernel
theorem zin_51 : ∀ w ∈ wsL_law_r51, w ∈ lw_tbl := zpl_in _ [(7, 154), (7, 155), (4, 178), (4, 179), (4, 180), (4, 181), (4, 186), (4, 182), (4, 184), (0, 30), (4, 185), (4, 187), (4, 188), (4, 189), (4, 190), (4, 191), (4, 193), (0, 31), (4, 194), (4, 196), (4, 195), (4, 197), (4, 199), (0, 32)] rfl
theorem zgd_51 : wsL_law_r51.all goodWord = true := by decide +kernel
theorem zin_52 : ∀ w ∈ wsL_law_r52, w ∈ lw_tbl := zpl_in _ [(4, 200), (4, 201), (4, 202), (4, 204), (0, 33), (4, 205), (4, 213), (4, 214), (4, 215), (4, 206), (4, 208), (0, 34), (4, 209), (4, 210), (4, 211), (4, 212), (4, 216), (4, 217), (4, 218), (4, 219), (4, 220), (4, 221), (7, 164), (7, 165)] rfl
theorem zgd_52 : wsL_law_r52.all goodWord = true := by decide +kernel
theorem zin_53 : ∀ w ∈ wsL_law_r53, w ∈ lw_tbl := zpl_in _ [(7, 166), (7, 167), (7, 197), (7, 199), (0, 94), (7, 200), (7, 201), (7, 203), (0, 95), (7, 204), (7, 205), (7, 207), (0, 96), (7, 208), (7, 209), (7, 210), (7, 211), (4, 222), (4, 223), (4, 224), (4, 225), (4, 226), (4, 228), (0, 35)] rfl
theorem zgd_53 : wsL_law_r53.all goodWord = true := by decide +kernel
theorem zin_54 : ∀ w ∈ wsL_law_r54, w ∈ lw_tbl := zpl_in _ [(4, 229), (7, 212), (7, 213), (7, 214), (7, 215), (4, 230), (4, 231), (4, 232), (4, 233), (7, 216), (7, 217), (7, 218), (7, 219), (4, 234), (4, 235), (4, 236), (4, 237), (4, 238), (4, 239), (5, 0), (5, 1), (7, 220), (7, 221), (7, 222)] rfl
theorem zgd_54 : wsL_law_r54.all goodWord = true := by decide +kernel
theorem zin_55 : ∀ w ∈ wsL_law_r55, w ∈ lw_tbl := zpl_in _ [(7, 223), (7, 224), (7, 226), (0, 97), (7, 227), (5, 2), (5, 3), (5, 4), (5, 5), (3, 163), (3, 165), (7, 228), (7, 229), (7, 230), (7, 231), (5, 6), (5, 7), (5, 8), (5, 9), (7, 232), (7, 233), (7, 234), (7, 235), (5, 10)] rfl
theorem zgd_55 : wsL_law_r55.all goodWord = true := by decide +kernel
theorem zin_56 : ∀ w ∈ wsL_law_r56, w ∈ lw_tbl := zpl_in _ [(5, 11), (5, 12), (5, 13), (1, 50), (5, 14), (5, 15), (5, 16), (5, 17), (8, 44), (8, 45), (8, 46), (8, 47), (5, 18), (5, 19), (5, 20), (5, 21), (8, 48), (8, 49), (8, 50), (8, 51), (5, 22), (5, 23), (5, 24), (5, 25)] rfl
theorem zgd_56 : wsL_law_r56.all goodWord = true := by decide +kernel
theorem zin_57 : ∀ w ∈ wsL_law_r57, w ∈ lw_tbl := zpl_in _ [(5, 26), (5, 27), (5, 28), (5, 29), (1, 49), (5, 30), (5, 31), (5, 32), (5, 33), (5, 34), (5, 35), (5, 36), (5, 37), (5, 38), (8, 52), (8, 53), (8, 54), (8, 55), (8, 56), (8, 58), (0, 105), (8, 59), (8, 60), (8, 62)] rfl
theorem zgd_57 : wsL_law_r57.all goodWord = true := by decide +kernel
theorem zin_58 : ∀ w ∈ wsL_law_r58, w ∈ lw_tbl := zpl_in _ [(0, 106), (8, 63), (5, 39), (5, 40), (5, 41), (5, 42), (5, 43), (5, 44), (5, 46), (0, 36), (5, 47), (5, 48), (8, 64), (8, 65), (8, 66), (8, 67), (8, 68), (8, 69), (8, 70), (8, 71), (8, 73), (0, 107), (8, 74), (5, 49)] rfl
theorem zgd_58 : wsL_law_r58.all goodWord = true := by decide +kernel
theorem zin_59 : ∀ w ∈ wsL_law_r59, w ∈ lw_tbl := zpl_in _ [(5, 50), (5, 51), (5, 52), (5, 53), (5, 57), (5, 58), (5, 54), (5, 55), (5, 56), (8, 75), (8, 76), (8, 77), (8, 78), (8, 79), (8, 80), (5, 59), (5, 60), (5, 61), (5, 62), (8, 0), (8, 1), (8, 2), (8, 3), (5, 63)] rfl
theorem zgd_59 : wsL_law_r59.all goodWord = true := by decide +kernel
theorem zin_60 : ∀ w ∈ wsL_law_r60, w ∈ lw_tbl := zpl_in _ [(5, 64), (5, 65), (5, 66), (5, 67), (5, 68), (5, 69), (5, 70), (5, 71), (5, 72), (5, 73), (5, 74), (8, 114), (8, 115), (8, 116), (8, 117), (8, 118), (5, 193), (8, 119), (8, 121), (0, 114), (8, 122), (8, 123), (8, 124), (8, 125)] rfl
theorem zgd_60 : wsL_law_r60.all goodWord = true := by decide +kernel
theorem zin_61 : ∀ w ∈ wsL_law_r61, w ∈ lw_tbl := zpl_in _ [(5, 75), (5, 76), (5, 77), (5, 78), (8, 126), (8, 127), (8, 128), (8, 129), (5, 79), (5, 80), (5, 81), (5, 82), (6, 114), (6, 115), (6, 116), (6, 117), (5, 83), (5, 84), (5, 85), (5, 86), (6, 121), (6, 122), (6, 123), (6, 124)] rfl
theorem zgd_61 : wsL_law_r61.all goodWord = true := by decide +kernel
theorem zin_62 : ∀ w ∈ wsL_law_r62, w ∈ lw_tbl := zpl_in _ [(5, 87), (5, 88), (5, 89), (5, 90), (8, 130), (8, 131), (8, 132), (8, 133), (8, 134), (8, 135), (5, 91), (5, 92), (5, 93), (5, 94), (8, 136), (8, 137), (8, 138), (8, 139)] rfl
theorem zgd_62 : wsL_law_r62.all goodWord = true := by decide +kernel
theorem zin_100 : ∀ w ∈ wsX00, w ∈ lw_tbl := zpl_in _ [(1, 232), (1, 234), (1, 236)] rfl
theorem zgd_100 : (wsX00).all goodWord = true := by decide +kernel
theorem zin_101 : ∀ w ∈ wsX10, w ∈ lw_tbl := zpl_in _ [(1, 217), (1, 219), (1, 221), (1, 223), (1, 225)] rfl
theorem zgd_101 : (wsX10).all goodWord = true := by decide +kernel
theorem zin_102 : ∀ w ∈ wsX20, w ∈ lw_tbl := zpl_in _ [(1, 93), (1, 95), (1, 97), (1, 99)] rfl
theorem zgd_102 : (wsX20).all goodWord = true := by decide +kernel
theorem zin_103 : ∀ w ∈ wsX30, w ∈ lw_tbl := zpl_in _ [(3, 166), (3, 168), (3, 170), (3, 172), (3, 174), (3, 176)] rfl
theorem zgd_103 : (wsX30).all goodWord = true := by decide +kernel
theorem zin_104 : ∀ w ∈ wsX40, w ∈ lw_tbl := zpl_in _ [(1, 164), (1, 166), (1, 168), (1, 170), (1, 172), (1, 174), (1, 176), (1, 178), (1, 180), (1, 182), (1, 184)] rfl
theorem zgd_104 : (wsX40).all goodWord = true := by decide +kernel
theorem zin_105 : ∀ w ∈ wsX50, w ∈ lw_tbl := zpl_in _ [(2, 6)] rfl
theorem zgd_105 : (wsX50).all goodWord = true := by decide +kernel
theorem zin_106 : ∀ w ∈ wsX60, w ∈ lw_tbl := zpl_in _ [(2, 28), (2, 30), (2, 32), (2, 34), (2, 36), (2, 38), (2, 40), (2, 42), (2, 44), (2, 46), (2, 48)] rfl
theorem zgd_106 : (wsX60).all goodWord = true := by decide +kernel
theorem zin_107 : ∀ w ∈ wsX70, w ∈ lw_tbl := zpl_in _ [(1, 57), (1, 59), (1, 61), (1, 63), (1, 65), (1, 67), (1, 69), (1, 71), (1, 73), (1, 75), (1, 77)] rfl
theorem zgd_107 : (wsX70).all goodWord = true := by decide +kernel
theorem zin_108 : ∀ w ∈ wsX80, w ∈ lw_tbl := zpl_in _ [(1, 112), (1, 114)] rfl
theorem zgd_108 : (wsX80).all goodWord = true := by decide +kernel
theorem zin_109 : ∀ w ∈ wsX90, w ∈ lw_tbl := zpl_in _ [(1, 134), (1, 136), (1, 138), (1, 140), (1, 142), (1, 144)] rfl
theorem zgd_109 : (wsX90).all goodWord = true := by decide +kernel
theorem zin_110 : ∀ w ∈ wsX100, w ∈ lw_tbl := zpl_in _ [(2, 74), (2, 76), (2, 78), (2, 80), (2, 82), (2, 84), (2, 86), (2, 88), (2, 90), (2, 92), (2, 94), (2, 96), (2, 98), (2, 100), (2, 102), (2, 104), (2, 106), (2, 108), (2, 110), (2, 112)] rfl
theorem zgd_110 : (wsX100).all goodWord = true := by decide +kernel
theorem zin_111 : ∀ w ∈ wsX110, w ∈ lw_tbl := zpl_in _ [(5, 196), (5, 198), (5, 200), (5, 202), (5, 204), (5, 206), (5, 208), (5, 210), (5, 212), (5, 214), (5, 216), (5, 218), (5, 220), (5, 222), (5, 224), (5, 226), (5, 228), (5, 230), (5, 232), (5, 234), (5, 236), (5, 238), (6, 0), (6, 2), (6, 4), (6, 6), (6, 8), (6, 10), (6, 12), (6, 14), (6, 16), (6, 18), (6, 20), (6, 22), (6, 24), (6, 26), (6, 28), (6, 30), (6, 32), (6, 34), (6, 36), (6, 38), (6, 40), (6, 42), (6, 44), (6, 46), (6, 48), (6, 50), (6, 52), (6, 54), (6, 56), (6, 58), (6, 60), (6, 62), (6, 64), (6, 66), (6, 68), (6, 70), (6, 72), (6, 74), (6, 76), (6, 78), (6, 80), (6, 82), (6, 84), (6, 86), (6, 88), (6, 90), (6, 92), (6, 94), (6, 96), (6, 98)] rfl
theorem zgd_111 : (wsX110).all goodWord = true := by decide +kernel
def zchunks : List (List Cond) := [wsL_law_r1, wsL_law_r2, wsL_law_r3, wsL_law_r4, wsL_law_r5, wsL_law_r6, wsL_law_r7, wsL_law_r8, wsL_law_r9, wsL_law_r10, wsL_law_r11, wsL_law_r12, wsL_law_r13, wsL_law_r14, wsL_law_r15, wsL_law_r16, wsL_law_r17, wsL_law_r18, wsL_law_r19, wsL_law_r20, wsL_law_r21, wsL_law_r22, wsL_law_r23, wsL_law_r24, wsL_law_r25, wsL_law_r26, wsL_law_r27, wsL_law_r28, wsL_law_r29, wsL_law_r30, wsL_law_r31, wsL_law_r32, wsL_law_r33, wsL_law_r34, wsL_law_r35, wsL_law_r36, wsL_law_r37, wsL_law_r38, wsL_law_r39, wsL_law_r40, wsL_law_r41, wsL_law_r42, wsL_law_r43, wsL_law_r44, wsL_law_r45, wsL_law_r46, wsL_law_r47, wsL_law_r48, wsL_law_r49, wsL_law_r50, wsL_law_r51, wsL_law_r52, wsL_law_r53, wsL_law_r54, wsL_law_r55, wsL_law_r56, wsL_law_r57, wsL_law_r58, wsL_law_r59, wsL_law_r60, wsL_law_r61, wsL_law_r62, wsX00, wsX10, wsX20, wsX30, wsX40, wsX50, wsX60, wsX70, wsX80, wsX90, wsX100, wsX110]
/-- every word that the program needs -/
def zG : List Cond := zchunks.flatten
theorem zchunks_ok : ∀ l ∈ zchunks, (∀ w ∈ l, w ∈ lw_tbl) ∧ l.all goodWord = true := List.forall_mem_cons.mpr ⟨⟨zin_1, zgd_1⟩, List.forall_mem_cons.mpr ⟨⟨zin_2, zgd_2⟩, List.forall_mem_cons.mpr ⟨⟨zin_3, zgd_3⟩, List.forall_mem_cons.mpr ⟨⟨zin_4, zgd_4⟩, List.forall_mem_cons.mpr ⟨⟨zin_5, zgd_5⟩, List.forall_mem_cons.mpr ⟨⟨zin_6, zgd_6⟩, List.forall_mem_cons.mpr ⟨⟨zin_7, zgd_7⟩, List.forall_mem_cons.mpr ⟨⟨zin_8, zgd_8⟩, List.forall_mem_cons.mpr ⟨⟨zin_9, zgd_9⟩, List.forall_mem_cons.mpr ⟨⟨zin_10, zgd_10⟩, List.forall_mem_cons.mpr ⟨⟨zin_11, zgd_11⟩, List.forall_mem_cons.mpr ⟨⟨zin_12, zgd_12⟩, List.forall_mem_cons.mpr ⟨⟨zin_13, zgd_13⟩, List.forall_mem_cons.mpr ⟨⟨zin_14, zgd_14⟩, List.forall_mem_cons.mpr ⟨⟨zin_15, zgd_15⟩, List.forall_mem_cons.mpr ⟨⟨zin_16, zgd_16⟩, List.forall_mem_cons.mpr ⟨⟨zin_17, zgd_17⟩, List.forall_mem_cons.mpr ⟨⟨zin_18, zgd_18⟩, List.forall_mem_cons.mpr ⟨⟨zin_19, zgd_19⟩, List.forall_mem_cons.mpr ⟨⟨zin_20, zgd_20⟩, List.forall_mem_cons.mpr ⟨⟨zin_21, zgd_21⟩, List.forall_mem_cons.mpr ⟨⟨zin_22, zgd_22⟩, List.forall_mem_cons.mpr ⟨⟨zin_23, zgd_23⟩, List.forall_mem_cons.mpr ⟨⟨zin_24, zgd_24⟩, List.forall_mem_cons.mpr ⟨⟨zin_25, zgd_25⟩, List.forall_mem_cons.mpr ⟨⟨zin_26, zgd_26⟩, List.forall_mem_cons.mpr ⟨⟨zin_27, zgd_27⟩, List.forall_mem_cons.mpr ⟨⟨zin_28, zgd_28⟩, List.forall_mem_cons.mpr ⟨⟨zin_29, zgd_29⟩, List.forall_mem_cons.mpr ⟨⟨zin_30, zgd_30⟩, List.forall_mem_cons.mpr ⟨⟨zin_31, zgd_31⟩, List.forall_mem_cons.mpr ⟨⟨zin_32, zgd_32⟩, List.forall_mem_cons.mpr ⟨⟨zin_33, zgd_33⟩, List.forall_mem_cons.mpr ⟨⟨zin_34, zgd_34⟩, List.forall_mem_cons.mpr ⟨⟨zin_35, zgd_35⟩, List.forall_mem_cons.mpr ⟨⟨zin_36, zgd_36⟩, List.forall_mem_cons.mpr ⟨⟨zin_37, zgd_37⟩, List.forall_mem_cons.mpr ⟨⟨zin_38, zgd_38⟩, List.forall_mem_cons.mpr ⟨⟨zin_39, zgd_39⟩, List.forall_mem_cons.mpr ⟨⟨zin_40, zgd_40⟩, List.forall_mem_cons.mpr ⟨⟨zin_41, zgd_41⟩, List.forall_mem_cons.mpr ⟨⟨zin_42, zgd_42⟩, List.forall_mem_cons.mpr ⟨⟨zin_43, zgd_43⟩, List.forall_mem_cons.mpr ⟨⟨zin_44, zgd_44⟩, List.forall_mem_cons.mpr ⟨⟨zin_45, zgd_45⟩, List.forall_mem_cons.mpr ⟨⟨zin_46, zgd_46⟩, List.forall_mem_cons.mpr ⟨⟨zin_47, zgd_47⟩, List.forall_mem_cons.mpr ⟨⟨zin_48, zgd_48⟩, List.forall_mem_cons.mpr ⟨⟨zin_49, zgd_49⟩, List.forall_mem_cons.mpr ⟨⟨zin_50, zgd_50⟩, List.forall_mem_cons.mpr ⟨⟨zin_51, zgd_51⟩, List.forall_mem_cons.mpr ⟨⟨zin_52, zgd_52⟩, List.forall_mem_cons.mpr ⟨⟨zin_53, zgd_53⟩, List.forall_mem_cons.mpr ⟨⟨zin_54, zgd_54⟩, List.forall_mem_cons.mpr ⟨⟨zin_55, zgd_55⟩, List.forall_mem_cons.mpr ⟨⟨zin_56, zgd_56⟩, List.forall_mem_cons.mpr ⟨⟨zin_57, zgd_57⟩, List.forall_mem_cons.mpr ⟨⟨zin_58, zgd_58⟩, List.forall_mem_cons.mpr ⟨⟨zin_59, zgd_59⟩, List.forall_mem_cons.mpr ⟨⟨zin_60, zgd_60⟩, List.forall_mem_cons.mpr ⟨⟨zin_61, zgd_61⟩, List.forall_mem_cons.mpr ⟨⟨zin_62, zgd_62⟩, List.forall_mem_cons.mpr ⟨⟨zin_100, zgd_100⟩, List.forall_mem_cons.mpr ⟨⟨zin_101, zgd_101⟩, List.forall_mem_cons.mpr ⟨⟨zin_102, zgd_102⟩, List.forall_mem_cons.mpr ⟨⟨zin_103, zgd_103⟩, List.forall_mem_cons.mpr ⟨⟨zin_104, zgd_104⟩, List.forall_mem_cons.mpr ⟨⟨zin_105, zgd_105⟩, List.forall_mem_cons.mpr ⟨⟨zin_106, zgd_106⟩, List.forall_mem_cons.mpr ⟨⟨zin_107, zgd_107⟩, List.forall_mem_cons.mpr ⟨⟨zin_108, zgd_108⟩, List.forall_mem_cons.mpr ⟨⟨zin_109, zgd_109⟩, List.forall_mem_cons.mpr ⟨⟨zin_110, zgd_110⟩, List.forall_mem_cons.mpr ⟨⟨zin_111, zgd_111⟩, fun _ h => absurd h List.not_mem_nil⟩⟩⟩⟩⟩⟩⟩⟩⟩⟩⟩⟩⟩⟩⟩⟩⟩⟩⟩⟩⟩⟩⟩⟩⟩⟩⟩⟩⟩⟩⟩⟩⟩⟩⟩⟩⟩⟩⟩⟩⟩⟩⟩⟩⟩⟩⟩⟩⟩⟩⟩⟩⟩⟩⟩⟩⟩⟩⟩⟩⟩⟩⟩⟩⟩⟩⟩⟩⟩⟩⟩⟩⟩⟩
theorem zG_in : ∀ w ∈ zG, w ∈ lw_tbl := fun w h => by
  obtain ⟨l, hl, hw⟩ := List.mem_flatten.mp h
  exact (zchunks_ok l hl).1 w hw
theorem zG_good : ∀ w ∈ zG, goodWord w = true := fun w h => by
  obtain ⟨l, hl, hw⟩ := List.mem_flatten.mp h
  exact List.all_eq_true.mp (zchunks_ok l hl).2 w hw
