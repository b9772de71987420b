/-! The law's words in the tables. -/
set_option maxRecDepth 20000 in
theorem lwr_1 : ∀ w ∈ wsL_law0_r1, w ∈ lw_tbl := tb_r _ [(1, 37), (1, 38), (1, 1), (6, 111), (6, 112), (1, 10), (2, 2), (8, 156), (1, 39), (1, 40), (1, 41), (1, 42), (1, 43), (1, 44), (1, 45), (1, 46), (1, 2), (2, 3), (2, 4), (2, 5), (2, 6), (2, 7), (2, 8), (2, 9)] rfl
set_option maxRecDepth 20000 in
theorem lwr_2 : ∀ w ∈ wsL_law0_r2, w ∈ lw_tbl := tb_r _ [(2, 10), (1, 164), (1, 165), (1, 6), (2, 11), (2, 12), (2, 13), (1, 113), (2, 14), (2, 15), (1, 201), (1, 202), (1, 7), (2, 16), (1, 211), (1, 212), (1, 8), (2, 17), (1, 221), (1, 222), (1, 9), (2, 18), (1, 47), (1, 48)] rfl
set_option maxRecDepth 20000 in
theorem lwr_3 : ∀ w ∈ wsL_law0_r3, w ∈ lw_tbl := tb_r _ [(1, 49), (1, 50), (1, 51), (1, 52), (1, 3), (1, 136), (1, 98), (1, 99), (1, 4), (1, 138), (1, 114), (1, 115), (1, 5), (1, 140), (1, 142), (1, 143), (1, 145), (1, 97), (1, 147), (1, 53), (1, 54), (1, 55), (1, 56), (1, 57)] rfl
set_option maxRecDepth 20000 in
theorem lwr_4 : ∀ w ∈ wsL_law0_r4, w ∈ lw_tbl := tb_r _ [(1, 96), (1, 64), (1, 66), (1, 69), (1, 75), (1, 80), (1, 100), (1, 101), (1, 102), (1, 103), (1, 104), (1, 106), (1, 116), (1, 117), (1, 118), (1, 119), (1, 120), (1, 122), (1, 124), (1, 126), (1, 166), (1, 167), (1, 168), (1, 169)] rfl
set_option maxRecDepth 20000 in
theorem lwr_5 : ∀ w ∈ wsL_law0_r5, w ∈ lw_tbl := tb_r _ [(1, 174), (1, 176), (1, 170), (1, 178), (1, 172), (1, 180), (1, 182), (1, 184), (1, 185), (1, 203), (1, 204), (1, 205), (1, 206), (1, 207), (1, 213), (1, 214), (1, 215), (1, 216), (1, 217), (1, 223), (1, 224), (1, 225), (1, 226), (1, 227)] rfl
set_option maxRecDepth 20000 in
theorem lwr_6 : ∀ w ∈ wsL_law0_r6, w ∈ lw_tbl := tb_r _ [(1, 229), (1, 230), (1, 231), (1, 232), (6, 113), (6, 114), (6, 115), (6, 116), (6, 122), (6, 123), (6, 125), (6, 126), (6, 127), (6, 128), (6, 129), (6, 130), (6, 131), (6, 132), (6, 133), (6, 134), (6, 135), (6, 136), (6, 137), (6, 138)] rfl
set_option maxRecDepth 20000 in
theorem lwr_7 : ∀ w ∈ wsL_law0_r7, w ∈ lw_tbl := tb_r _ [(6, 139), (6, 140), (6, 141), (6, 142), (6, 117), (6, 118), (6, 119), (3, 185), (3, 186), (1, 0), (3, 187), (3, 188), (3, 189), (3, 190), (3, 191), (3, 192), (3, 193), (1, 137), (3, 166), (3, 167), (3, 168), (3, 169), (3, 170), (3, 171)] rfl
set_option maxRecDepth 20000 in
theorem lwr_8 : ∀ w ∈ wsL_law0_r8, w ∈ lw_tbl := tb_r _ [(3, 172), (3, 173), (3, 174), (3, 176), (3, 175), (1, 11), (3, 177), (3, 178), (3, 179), (3, 180), (3, 181), (3, 182), (3, 183), (3, 184), (3, 194), (3, 195), (3, 196), (3, 197), (3, 198), (3, 200), (0, 17), (3, 201), (4, 15), (4, 16)] rfl
set_option maxRecDepth 20000 in
theorem lwr_9 : ∀ w ∈ wsL_law0_r9, w ∈ lw_tbl := tb_r _ [(1, 20), (4, 17), (3, 202), (3, 203), (3, 204), (3, 31), (1, 15), (3, 103), (1, 16), (3, 207), (1, 17), (3, 223), (1, 18), (3, 239), (1, 19), (6, 212), (6, 213), (6, 214), (6, 215), (6, 216), (6, 218), (0, 33), (6, 219), (6, 120)] rfl
set_option maxRecDepth 20000 in
theorem lwr_10 : ∀ w ∈ wsL_law0_r10, w ∈ lw_tbl := tb_r _ [(6, 220), (6, 221), (6, 222), (6, 223), (6, 224), (6, 225), (6, 226), (6, 228), (0, 34), (6, 229), (6, 230), (6, 231), (6, 232), (6, 233), (6, 235), (0, 35), (6, 236), (6, 237), (6, 238), (6, 239), (7, 0), (7, 2), (0, 36), (7, 3)] rfl
set_option maxRecDepth 20000 in
theorem lwr_11 : ∀ w ∈ wsL_law0_r11, w ∈ lw_tbl := tb_r _ [(6, 121), (6, 208), (6, 209), (6, 210), (6, 211), (4, 18), (4, 19), (4, 20), (4, 21), (4, 42), (4, 43), (4, 44), (4, 45), (4, 46), (4, 47), (4, 48), (4, 49), (4, 50), (3, 28), (3, 29), (3, 30), (2, 71), (2, 72), (2, 74)] rfl
set_option maxRecDepth 20000 in
theorem lwr_12 : ∀ w ∈ wsL_law0_r12, w ∈ lw_tbl := tb_r _ [(2, 75), (7, 4), (7, 5), (7, 6), (7, 7), (7, 8), (7, 10), (0, 37), (7, 11), (7, 12), (7, 14), (0, 38), (7, 15), (7, 16), (7, 18), (0, 39), (7, 19), (4, 51), (4, 52), (4, 53), (4, 54), (4, 55), (4, 56), (4, 57)] rfl
set_option maxRecDepth 20000 in
theorem lwr_13 : ∀ w ∈ wsL_law0_r13, w ∈ lw_tbl := tb_r _ [(4, 58), (4, 59), (4, 60), (4, 61), (4, 63), (4, 64), (7, 20), (7, 21), (7, 22), (7, 23), (7, 24), (7, 26), (0, 40), (7, 27), (2, 52), (2, 53), (2, 54), (2, 55), (1, 62), (7, 28), (7, 29), (7, 30), (7, 31), (7, 32)] rfl
set_option maxRecDepth 20000 in
theorem lwr_14 : ∀ w ∈ wsL_law0_r14, w ∈ lw_tbl := tb_r _ [(7, 34), (0, 41), (7, 35), (4, 65), (4, 66), (4, 67), (4, 68), (4, 69), (4, 70), (4, 71), (1, 65), (3, 23), (3, 25), (0, 8), (3, 26), (3, 27), (7, 36), (7, 37), (7, 38), (7, 39), (7, 40), (7, 42), (0, 42), (7, 43)] rfl
set_option maxRecDepth 20000 in
theorem lwr_15 : ∀ w ∈ wsL_law0_r15, w ∈ lw_tbl := tb_r _ [(4, 72), (4, 73), (4, 74), (4, 75), (4, 76), (4, 77), (4, 78), (1, 67), (7, 44), (7, 45), (7, 46), (7, 47), (4, 79), (4, 80), (4, 81), (4, 82), (4, 83), (4, 84), (4, 85), (1, 74), (4, 86), (7, 48), (7, 49), (7, 50)] rfl
set_option maxRecDepth 20000 in
theorem lwr_16 : ∀ w ∈ wsL_law0_r16, w ∈ lw_tbl := tb_r _ [(7, 51), (2, 56), (2, 57), (2, 58), (2, 59), (2, 60), (2, 61), (2, 62), (1, 58), (2, 63), (2, 64), (2, 65), (1, 76), (2, 66), (2, 67), (2, 68), (2, 69), (7, 52), (7, 53), (7, 54), (7, 55), (7, 56), (7, 58), (0, 43)] rfl
set_option maxRecDepth 20000 in
theorem lwr_17 : ∀ w ∈ wsL_law0_r17, w ∈ lw_tbl := tb_r _ [(7, 59), (7, 60), (7, 62), (0, 44), (7, 63), (7, 64), (7, 66), (0, 45), (7, 67), (2, 76), (2, 77), (2, 78), (2, 79), (2, 80), (2, 81), (2, 82), (2, 83), (1, 71), (2, 84), (2, 85), (1, 24), (2, 86), (2, 87), (2, 88)] rfl
set_option maxRecDepth 20000 in
theorem lwr_18 : ∀ w ∈ wsL_law0_r18, w ∈ lw_tbl := tb_r _ [(2, 89), (2, 90), (2, 92), (0, 0), (2, 93), (2, 95), (2, 97), (0, 1), (2, 98), (7, 68), (7, 69), (7, 70), (7, 71), (7, 72), (4, 87), (4, 88), (4, 89), (4, 90), (4, 91), (4, 92), (4, 93), (2, 109), (2, 111), (0, 2)] rfl
set_option maxRecDepth 20000 in
theorem lwr_19 : ∀ w ∈ wsL_law0_r19, w ∈ lw_tbl := tb_r _ [(2, 112), (2, 108), (2, 113), (7, 73), (7, 74), (7, 75), (7, 76), (2, 99), (2, 100), (2, 101), (2, 102), (2, 103), (2, 104), (2, 105), (2, 106), (2, 114), (7, 77), (7, 78), (7, 79), (7, 80), (7, 81), (7, 82), (7, 83), (2, 115)] rfl
set_option maxRecDepth 20000 in
theorem lwr_20 : ∀ w ∈ wsL_law0_r20, w ∈ lw_tbl := tb_r _ [(2, 116), (2, 117), (2, 118), (2, 119), (2, 120), (1, 25), (2, 121), (2, 122), (2, 123), (2, 124), (2, 125), (2, 126), (2, 127), (2, 128), (2, 129), (2, 130), (7, 84), (7, 85), (7, 86), (7, 87), (7, 88), (7, 90), (0, 46), (7, 91)] rfl
set_option maxRecDepth 20000 in
theorem lwr_21 : ∀ w ∈ wsL_law0_r21, w ∈ lw_tbl := tb_r _ [(2, 131), (2, 132), (2, 133), (2, 134), (2, 135), (2, 136), (2, 137), (2, 138), (2, 139), (2, 140), (1, 61), (1, 72), (1, 77), (7, 92), (7, 93), (7, 94), (7, 95), (7, 96), (2, 142), (2, 143), (2, 144), (2, 145), (2, 146), (2, 147)] rfl
set_option maxRecDepth 20000 in
theorem lwr_22 : ∀ w ∈ wsL_law0_r22, w ∈ lw_tbl := tb_r _ [(2, 148), (2, 149), (2, 150), (2, 151), (2, 152), (2, 153), (2, 154), (2, 155), (2, 156), (2, 157), (2, 158), (2, 159), (2, 160), (7, 97), (7, 98), (7, 99), (7, 100), (7, 101), (7, 103), (0, 47), (7, 104), (7, 105), (7, 107), (0, 48)] rfl
set_option maxRecDepth 20000 in
theorem lwr_23 : ∀ w ∈ wsL_law0_r23, w ∈ lw_tbl := tb_r _ [(7, 108), (2, 161), (7, 109), (7, 110), (7, 111), (7, 112), (4, 94), (4, 95), (4, 96), (4, 97), (4, 98), (4, 99), (4, 100), (3, 161), (7, 113), (7, 114), (7, 115), (7, 116), (2, 162), (2, 163), (2, 164), (2, 165), (2, 166), (2, 167)] rfl
set_option maxRecDepth 20000 in
theorem lwr_24 : ∀ w ∈ wsL_law0_r24, w ∈ lw_tbl := tb_r _ [(2, 168), (1, 59), (2, 170), (2, 171), (2, 172), (2, 173), (2, 174), (2, 175), (2, 177), (2, 178), (7, 117), (7, 118), (7, 119), (7, 120), (7, 121), (7, 123), (0, 49), (7, 124), (7, 125), (7, 127), (0, 50), (7, 128), (2, 179), (2, 180)] rfl
set_option maxRecDepth 20000 in
theorem lwr_25 : ∀ w ∈ wsL_law0_r25, w ∈ lw_tbl := tb_r _ [(2, 181), (2, 182), (2, 183), (2, 184), (2, 185), (2, 186), (2, 187), (2, 189), (0, 3), (2, 190), (1, 73), (2, 191), (2, 193), (0, 4), (2, 194), (7, 129), (7, 130), (7, 131), (7, 132), (7, 133), (4, 102), (4, 103), (4, 104), (4, 105)] rfl
set_option maxRecDepth 20000 in
theorem lwr_26 : ∀ w ∈ wsL_law0_r26, w ∈ lw_tbl := tb_r _ [(4, 106), (4, 107), (4, 108), (4, 109), (7, 134), (7, 135), (7, 136), (7, 137), (4, 110), (4, 111), (4, 112), (4, 113), (3, 16), (3, 17), (3, 18), (3, 19), (3, 21), (0, 7), (3, 22), (3, 119), (3, 120), (3, 121), (3, 122), (1, 60)] rfl
set_option maxRecDepth 20000 in
theorem lwr_27 : ∀ w ∈ wsL_law0_r27, w ∈ lw_tbl := tb_r _ [(3, 123), (3, 125), (0, 10), (3, 126), (1, 70), (3, 128), (3, 130), (0, 11), (3, 131), (3, 132), (3, 134), (0, 12), (3, 135), (3, 136), (3, 138), (0, 13), (3, 139), (3, 140), (3, 141), (3, 143), (0, 14), (3, 144), (3, 145), (3, 147)] rfl
set_option maxRecDepth 20000 in
theorem lwr_28 : ∀ w ∈ wsL_law0_r28, w ∈ lw_tbl := tb_r _ [(0, 15), (3, 148), (7, 138), (7, 139), (7, 140), (7, 141), (7, 142), (4, 114), (4, 115), (4, 116), (4, 117), (3, 150), (3, 151), (3, 152), (3, 153), (3, 154), (3, 155), (3, 156), (1, 79), (3, 157), (3, 159), (0, 16), (3, 160), (7, 143)] rfl
set_option maxRecDepth 20000 in
theorem lwr_29 : ∀ w ∈ wsL_law0_r29, w ∈ lw_tbl := tb_r _ [(7, 144), (7, 145), (7, 146), (7, 147), (4, 118), (4, 119), (4, 120), (4, 121), (4, 122), (4, 123), (4, 124), (1, 139), (4, 125), (4, 126), (4, 127), (4, 128), (4, 130), (4, 131), (4, 132), (4, 133), (4, 134), (4, 135), (4, 136), (7, 148)] rfl
set_option maxRecDepth 20000 in
theorem lwr_30 : ∀ w ∈ wsL_law0_r30, w ∈ lw_tbl := tb_r _ [(7, 149), (7, 150), (7, 151), (7, 152), (7, 154), (0, 51), (7, 155), (7, 156), (7, 157), (7, 158), (7, 159), (7, 161), (0, 52), (7, 162), (4, 137), (4, 138), (4, 139), (4, 140), (4, 141), (4, 142), (4, 143), (4, 144), (4, 145), (4, 146)] rfl
set_option maxRecDepth 20000 in
theorem lwr_31 : ∀ w ∈ wsL_law0_r31, w ∈ lw_tbl := tb_r _ [(4, 147), (4, 148), (4, 149), (4, 150), (4, 151), (4, 152), (4, 154), (4, 155), (4, 156), (4, 158), (0, 18), (4, 159), (4, 160), (4, 161), (4, 162), (4, 163), (4, 164), (7, 163), (7, 164), (7, 165), (7, 166), (7, 167), (7, 169), (0, 53)] rfl
set_option maxRecDepth 20000 in
theorem lwr_32 : ∀ w ∈ wsL_law0_r32, w ∈ lw_tbl := tb_r _ [(7, 170), (7, 171), (7, 173), (0, 54), (7, 174), (7, 175), (7, 177), (0, 55), (7, 178), (4, 165), (4, 166), (4, 167), (4, 168), (4, 169), (4, 170), (4, 171), (4, 172), (4, 173), (4, 174), (4, 175), (4, 176), (4, 177), (4, 178), (4, 179)] rfl
set_option maxRecDepth 20000 in
theorem lwr_33 : ∀ w ∈ wsL_law0_r33, w ∈ lw_tbl := tb_r _ [(4, 180), (7, 179), (7, 180), (7, 181), (7, 182), (7, 183), (7, 185), (0, 56), (7, 186), (4, 181), (4, 182), (4, 183), (4, 184), (4, 185), (4, 186), (4, 187), (1, 107), (4, 188), (4, 189), (7, 187), (7, 188), (7, 189), (7, 190), (4, 191)] rfl
set_option maxRecDepth 20000 in
theorem lwr_34 : ∀ w ∈ wsL_law0_r34, w ∈ lw_tbl := tb_r _ [(4, 192), (4, 193), (4, 194), (4, 195), (4, 196), (4, 197), (4, 199), (7, 191), (7, 192), (7, 193), (7, 194), (4, 200), (4, 201), (4, 202), (4, 203), (4, 204), (4, 205), (4, 206), (1, 82), (4, 207), (4, 208), (4, 209), (4, 210), (1, 81)] rfl
set_option maxRecDepth 20000 in
theorem lwr_35 : ∀ w ∈ wsL_law0_r35, w ∈ lw_tbl := tb_r _ [(4, 211), (4, 213), (4, 214), (4, 215), (7, 195), (7, 196), (7, 197), (7, 198), (7, 199), (7, 201), (0, 57), (7, 202), (7, 203), (4, 216), (4, 217), (4, 218), (4, 219), (4, 220), (4, 221), (4, 222), (4, 223), (4, 224), (4, 225), (4, 226)] rfl
set_option maxRecDepth 20000 in
theorem lwr_36 : ∀ w ∈ wsL_law0_r36, w ∈ lw_tbl := tb_r _ [(4, 227), (4, 228), (4, 229), (4, 230), (1, 63), (5, 0), (4, 231), (4, 233), (0, 19), (4, 234), (4, 235), (1, 78), (4, 237), (1, 68), (4, 239), (4, 238), (5, 1), (2, 200), (2, 201), (2, 202), (5, 2), (5, 3), (5, 4), (5, 5)] rfl
set_option maxRecDepth 20000 in
theorem lwr_37 : ∀ w ∈ wsL_law0_r37, w ∈ lw_tbl := tb_r _ [(7, 204), (7, 205), (7, 206), (7, 207), (7, 208), (7, 210), (0, 58), (7, 211), (7, 212), (7, 214), (0, 59), (7, 215), (7, 216), (7, 217), (7, 218), (7, 219), (7, 221), (0, 60), (7, 222), (7, 223), (7, 225), (0, 61), (7, 226), (5, 6)] rfl
set_option maxRecDepth 20000 in
theorem lwr_38 : ∀ w ∈ wsL_law0_r38, w ∈ lw_tbl := tb_r _ [(5, 7), (5, 8), (5, 9), (5, 10), (5, 11), (5, 12), (5, 13), (5, 14), (5, 15), (5, 16), (7, 227), (7, 228), (7, 229), (7, 230), (7, 231), (7, 233), (0, 62), (7, 234), (5, 17), (5, 18), (5, 19), (5, 20), (5, 21), (5, 22)] rfl
set_option maxRecDepth 20000 in
theorem lwr_39 : ∀ w ∈ wsL_law0_r39, w ∈ lw_tbl := tb_r _ [(5, 23), (7, 235), (7, 236), (7, 237), (7, 238), (5, 24), (5, 25), (5, 26), (5, 27), (5, 28), (5, 29), (5, 30), (5, 31), (2, 208), (2, 209), (1, 26), (2, 210), (2, 216), (2, 217), (2, 218), (2, 211), (2, 212), (2, 213), (2, 214)] rfl
set_option maxRecDepth 20000 in
theorem lwr_40 : ∀ w ∈ wsL_law0_r40, w ∈ lw_tbl := tb_r _ [(2, 215), (2, 219), (2, 220), (2, 221), (7, 239), (8, 0), (8, 1), (8, 2), (8, 3), (8, 4), (1, 27), (8, 5), (8, 9), (8, 11), (8, 10), (1, 27), (8, 12), (8, 6), (8, 7), (8, 8), (2, 195), (2, 196), (2, 197), (2, 198)] rfl
set_option maxRecDepth 20000 in
theorem lwr_41 : ∀ w ∈ wsL_law0_r41, w ∈ lw_tbl := tb_r _ [(2, 199), (8, 13), (8, 14), (8, 15), (8, 16), (2, 203), (2, 204), (2, 205), (2, 206), (2, 207), (8, 17), (8, 18), (8, 19), (8, 20), (5, 32), (5, 33), (5, 34), (5, 35), (5, 36), (5, 37), (5, 38), (5, 40), (8, 21), (8, 22)] rfl
set_option maxRecDepth 20000 in
theorem lwr_42 : ∀ w ∈ wsL_law0_r42, w ∈ lw_tbl := tb_r _ [(8, 23), (8, 24), (2, 222), (2, 223), (2, 224), (2, 225), (1, 144), (8, 25), (8, 26), (8, 27), (8, 28), (2, 226), (2, 227), (2, 228), (2, 229), (1, 146), (8, 29), (8, 30), (8, 31), (8, 32), (5, 42), (5, 43), (5, 44), (5, 45)] rfl
set_option maxRecDepth 20000 in
theorem lwr_43 : ∀ w ∈ wsL_law0_r43, w ∈ lw_tbl := tb_r _ [(5, 46), (5, 47), (5, 48), (5, 49), (5, 50), (5, 51), (5, 52), (5, 53), (5, 55), (0, 20), (5, 56), (8, 33), (8, 34), (8, 35), (8, 36), (2, 230), (2, 231), (2, 232), (2, 233), (1, 141), (1, 125), (8, 37), (8, 38), (8, 39)] rfl
set_option maxRecDepth 20000 in
theorem lwr_44 : ∀ w ∈ wsL_law0_r44, w ∈ lw_tbl := tb_r _ [(8, 40), (5, 58), (5, 59), (5, 60), (5, 61), (5, 62), (5, 63), (5, 64), (1, 121), (5, 65), (5, 67), (0, 21), (5, 68), (5, 70), (5, 71), (5, 72), (5, 73), (5, 74), (5, 75), (1, 20), (5, 76), (8, 41), (8, 42), (8, 43)] rfl
set_option maxRecDepth 20000 in
theorem lwr_45 : ∀ w ∈ wsL_law0_r45, w ∈ lw_tbl := tb_r _ [(8, 44), (8, 45), (8, 47), (0, 63), (8, 48), (5, 77), (5, 78), (5, 79), (5, 80), (5, 81), (5, 82), (5, 83), (1, 123), (8, 49), (8, 50), (8, 51), (8, 52), (5, 84), (5, 85), (5, 86), (5, 87), (5, 88), (5, 89), (5, 90)] rfl
set_option maxRecDepth 20000 in
theorem lwr_46 : ∀ w ∈ wsL_law0_r46, w ∈ lw_tbl := tb_r _ [(1, 177), (1, 175), (8, 53), (8, 54), (8, 55), (8, 56), (6, 143), (5, 93), (5, 94), (5, 95), (5, 96), (5, 97), (5, 98), (5, 99), (1, 183), (1, 179), (1, 181), (5, 100), (5, 101), (5, 102), (5, 103), (5, 104), (5, 106), (0, 22)] rfl
set_option maxRecDepth 20000 in
theorem lwr_47 : ∀ w ∈ wsL_law0_r47, w ∈ lw_tbl := tb_r _ [(5, 107), (6, 7), (5, 110), (5, 112), (0, 23), (5, 113), (8, 179), (5, 114), (5, 115), (5, 116), (1, 22), (5, 117), (8, 180), (5, 118), (5, 119), (5, 120), (5, 121), (5, 122), (8, 181), (5, 124), (5, 125), (5, 126), (5, 127), (5, 128)] rfl
set_option maxRecDepth 20000 in
theorem lwr_48 : ∀ w ∈ wsL_law0_r48, w ∈ lw_tbl := tb_r _ [(5, 129), (5, 130), (5, 131), (5, 132), (5, 133), (1, 30), (5, 134), (5, 135), (5, 136), (5, 137), (5, 138), (5, 140), (5, 141), (1, 31), (5, 142), (5, 143), (5, 144), (1, 32), (5, 145), (5, 146), (5, 147), (5, 148), (5, 149), (5, 150)] rfl
set_option maxRecDepth 20000 in
theorem lwr_49 : ∀ w ∈ wsL_law0_r49, w ∈ lw_tbl := tb_r _ [(5, 151), (5, 152), (5, 153), (5, 154), (5, 155), (5, 156), (5, 158), (5, 160), (5, 162), (5, 164), (0, 24), (5, 165), (5, 166), (5, 168), (0, 25), (5, 169), (5, 170), (5, 172), (0, 26), (5, 173), (5, 174), (5, 176), (0, 27), (5, 177)] rfl
set_option maxRecDepth 20000 in
theorem lwr_50 : ∀ w ∈ wsL_law0_r50, w ∈ lw_tbl := tb_r _ [(5, 178), (5, 180), (0, 28), (5, 181), (5, 183), (5, 185), (0, 29), (5, 186), (5, 187), (5, 188), (5, 189), (5, 190), (5, 191), (5, 192), (5, 193), (5, 194), (5, 195), (5, 196), (5, 197), (5, 198), (5, 202), (5, 203), (5, 199), (5, 200)] rfl
set_option maxRecDepth 20000 in
theorem lwr_51 : ∀ w ∈ wsL_law0_r51, w ∈ lw_tbl := tb_r _ [(5, 201), (5, 204), (5, 205), (5, 206), (5, 207), (5, 208), (5, 209), (5, 210), (5, 211), (5, 212), (5, 213), (5, 214), (5, 215), (5, 216), (5, 217), (5, 218), (5, 219), (5, 220), (5, 221), (5, 222), (5, 223), (5, 224), (5, 225), (5, 226)] rfl
set_option maxRecDepth 20000 in
theorem lwr_52 : ∀ w ∈ wsL_law0_r52, w ∈ lw_tbl := tb_r _ [(5, 227), (5, 228), (5, 229), (5, 230), (5, 231), (5, 232), (1, 33), (5, 233), (5, 234), (5, 235), (5, 236), (5, 237), (5, 238), (5, 239), (6, 0), (6, 1), (6, 3), (6, 5), (0, 30), (6, 6), (6, 9), (6, 11), (0, 31), (6, 12)] rfl
set_option maxRecDepth 20000 in
theorem lwr_53 : ∀ w ∈ wsL_law0_r53, w ∈ lw_tbl := tb_r _ [(6, 13), (6, 15), (6, 16), (6, 18), (6, 19), (1, 28), (6, 20), (8, 182), (8, 57), (8, 58), (8, 59), (8, 60), (6, 145), (6, 148), (6, 147), (6, 144), (8, 61), (8, 63), (0, 64), (8, 64), (8, 65), (8, 67), (0, 65), (8, 68)] rfl
set_option maxRecDepth 20000 in
theorem lwr_54 : ∀ w ∈ wsL_law0_r54, w ∈ lw_tbl := tb_r _ [(8, 69), (8, 71), (0, 66), (8, 72), (8, 73), (8, 75), (0, 67), (8, 76), (8, 77), (8, 79), (0, 68), (8, 80), (8, 81), (8, 83), (0, 69), (8, 84), (8, 85), (8, 87), (0, 70), (8, 88), (8, 89), (8, 91), (0, 71), (8, 92)] rfl
set_option maxRecDepth 20000 in
theorem lwr_55 : ∀ w ∈ wsL_law0_r55, w ∈ lw_tbl := tb_r _ [(8, 93), (8, 95), (0, 72), (8, 96), (6, 22), (6, 23), (6, 24), (6, 25), (6, 26), (6, 27), (6, 28), (8, 97), (8, 98), (8, 99), (8, 100), (6, 30), (6, 31), (6, 32), (6, 33), (6, 34), (6, 35), (6, 36), (8, 101), (8, 102)] rfl
set_option maxRecDepth 20000 in
theorem lwr_56 : ∀ w ∈ wsL_law0_r56, w ∈ lw_tbl := tb_r _ [(8, 103), (8, 104), (6, 38), (6, 39), (6, 40), (6, 41), (6, 42), (6, 43), (6, 44), (6, 45), (6, 46), (6, 47), (2, 238), (3, 0), (0, 5), (3, 1), (6, 48), (6, 50), (0, 32), (6, 51), (8, 105), (8, 106), (8, 107), (8, 108)] rfl
set_option maxRecDepth 20000 in
theorem lwr_57 : ∀ w ∈ wsL_law0_r57, w ∈ lw_tbl := tb_r _ [(6, 146), (8, 109), (8, 111), (0, 73), (8, 112), (2, 234), (2, 235), (2, 236), (2, 237), (1, 105), (8, 113), (8, 114), (8, 115), (8, 116), (6, 52), (6, 53), (6, 54), (6, 55), (6, 56), (6, 57), (6, 58), (8, 117), (8, 118), (8, 119)] rfl
set_option maxRecDepth 20000 in
theorem lwr_58 : ∀ w ∈ wsL_law0_r58, w ∈ lw_tbl := tb_r _ [(8, 120), (6, 60), (6, 61), (6, 62), (6, 63), (6, 77), (6, 78), (6, 79), (6, 80), (6, 81), (1, 35), (8, 121), (8, 122), (8, 123), (8, 124), (6, 84), (6, 85), (6, 86), (6, 87), (6, 88), (6, 89), (6, 90), (6, 91), (6, 92)] rfl
set_option maxRecDepth 20000 in
theorem lwr_59 : ∀ w ∈ wsL_law0_r59, w ∈ lw_tbl := tb_r _ [(6, 93), (6, 94), (8, 125), (8, 126), (8, 127), (8, 128), (8, 129), (8, 130), (8, 131), (1, 36), (8, 132), (8, 136), (8, 138), (8, 137), (1, 36), (8, 139), (8, 133), (8, 134), (8, 135), (3, 2), (3, 3), (3, 4), (3, 5), (3, 6)] rfl
set_option maxRecDepth 20000 in
theorem lwr_60 : ∀ w ∈ wsL_law0_r60, w ∈ lw_tbl := tb_r _ [(3, 7), (3, 8), (3, 9), (3, 10), (3, 11), (3, 13), (0, 6), (3, 14), (3, 15), (3, 149), (8, 140), (8, 141), (8, 142), (8, 143), (6, 95), (6, 96), (6, 97), (6, 98), (6, 99), (6, 100), (6, 101), (8, 144), (8, 145), (8, 146)] rfl
set_option maxRecDepth 20000 in
theorem lwr_61 : ∀ w ∈ wsL_law0_r61, w ∈ lw_tbl := tb_r _ [(8, 147), (3, 162), (3, 163), (3, 164), (3, 165), (8, 148), (8, 149), (8, 150), (8, 151), (6, 124), (6, 103), (6, 104), (6, 105), (6, 106), (6, 107), (6, 108), (6, 109), (8, 152), (8, 153), (8, 154), (8, 155)] rfl
theorem lwx_X120 : ∀ w ∈ wsX120, w ∈ lw_tbl := tb_r _ [(2, 19), (2, 21), (2, 23), (2, 25), (2, 27), (2, 29), (2, 31), (2, 33), (2, 35), (2, 37), (2, 39), (2, 41), (2, 43), (2, 45), (2, 47), (2, 49)] rfl
theorem lwx_X130 : ∀ w ∈ wsX130, w ∈ lw_tbl := tb_r _ [(6, 149), (6, 151), (6, 153), (6, 155), (6, 157), (6, 159), (6, 161), (6, 163), (6, 165), (6, 167), (6, 169), (6, 171), (6, 173), (6, 175), (6, 177), (6, 179), (6, 181), (6, 183), (6, 185), (6, 187), (6, 189), (6, 191), (6, 193), (6, 195), (6, 197), (6, 199), (6, 201), (6, 203), (6, 205)] rfl
theorem lwx_X110 : ∀ w ∈ wsX110, w ∈ lw_tbl := tb_r _ [(1, 148), (1, 150), (1, 152), (1, 154), (1, 156), (1, 158), (1, 160)] rfl
theorem lwx_X60 : ∀ w ∈ wsX60, w ∈ lw_tbl := tb_r _ [(1, 186), (1, 188), (1, 190), (1, 192), (1, 194), (1, 196), (1, 198)] rfl
theorem lwx_X10 : ∀ w ∈ wsX10, w ∈ lw_tbl := tb_r _ [(1, 208)] rfl
theorem lwx_X40 : ∀ w ∈ wsX40, w ∈ lw_tbl := tb_r _ [(1, 218)] rfl
theorem lwx_X30 : ∀ w ∈ wsX30, w ∈ lw_tbl := tb_r _ [(1, 233), (1, 235), (1, 237), (1, 239)] rfl
theorem lwx_X50 : ∀ w ∈ wsX50, w ∈ lw_tbl := tb_r _ [(1, 83), (1, 85), (1, 87), (1, 89), (1, 91), (1, 93)] rfl
theorem lwx_X100 : ∀ w ∈ wsX100, w ∈ lw_tbl := tb_r _ [(1, 108), (1, 110)] rfl
theorem lwx_X80 : ∀ w ∈ wsX80, w ∈ lw_tbl := tb_r _ [(1, 127), (1, 129), (1, 131), (1, 133)] rfl
theorem lwx_J00 : ∀ w ∈ wsJ00, w ∈ lw_tbl := tb_r _ [(4, 38), (4, 40)] rfl
theorem wsL_law_in0 : ∀ w ∈ wsL_law0, w ∈ lw_tbl := List.forall_mem_append.mpr ⟨List.forall_mem_append.mpr ⟨List.forall_mem_append.mpr ⟨List.forall_mem_append.mpr ⟨List.forall_mem_append.mpr ⟨List.forall_mem_append.mpr ⟨List.forall_mem_append.mpr ⟨List.forall_mem_append.mpr ⟨List.forall_mem_append.mpr ⟨List.forall_mem_append.mpr ⟨List.forall_mem_append.mpr ⟨List.forall_mem_append.mpr ⟨List.forall_mem_append.mpr ⟨lwr_1, List.forall_mem_append.mpr ⟨lwr_2, List.forall_mem_append.mpr ⟨lwr_3, List.forall_mem_append.mpr ⟨lwr_4, List.forall_mem_append.mpr ⟨lwr_5, List.forall_mem_append.mpr ⟨lwr_6, List.forall_mem_append.mpr ⟨lwr_7, List.forall_mem_append.mpr ⟨lwr_8, List.forall_mem_append.mpr ⟨lwr_9, List.forall_mem_append.mpr ⟨lwr_10, List.forall_mem_append.mpr ⟨lwr_11, List.forall_mem_append.mpr ⟨lwr_12, List.forall_mem_append.mpr ⟨lwr_13, List.forall_mem_append.mpr ⟨lwr_14, List.forall_mem_append.mpr ⟨lwr_15, List.forall_mem_append.mpr ⟨lwr_16, List.forall_mem_append.mpr ⟨lwr_17, List.forall_mem_append.mpr ⟨lwr_18, List.forall_mem_append.mpr ⟨lwr_19, List.forall_mem_append.mpr ⟨lwr_20, List.forall_mem_append.mpr ⟨lwr_21, List.forall_mem_append.mpr ⟨lwr_22, List.forall_mem_append.mpr ⟨lwr_23, List.forall_mem_append.mpr ⟨lwr_24, List.forall_mem_append.mpr ⟨lwr_25, List.forall_mem_append.mpr ⟨lwr_26, List.forall_mem_append.mpr ⟨lwr_27, List.forall_mem_append.mpr ⟨lwr_28, List.forall_mem_append.mpr ⟨lwr_29, List.forall_mem_append.mpr ⟨lwr_30, List.forall_mem_append.mpr ⟨lwr_31, List.forall_mem_append.mpr ⟨lwr_32, List.forall_mem_append.mpr ⟨lwr_33, List.forall_mem_append.mpr ⟨lwr_34, List.forall_mem_append.mpr ⟨lwr_35, List.forall_mem_append.mpr ⟨lwr_36, List.forall_mem_append.mpr ⟨lwr_37, List.forall_mem_append.mpr ⟨lwr_38, List.forall_mem_append.mpr ⟨lwr_39, List.forall_mem_append.mpr ⟨lwr_40, List.forall_mem_append.mpr ⟨lwr_41, List.forall_mem_append.mpr ⟨lwr_42, List.forall_mem_append.mpr ⟨lwr_43, List.forall_mem_append.mpr ⟨lwr_44, List.forall_mem_append.mpr ⟨lwr_45, List.forall_mem_append.mpr ⟨lwr_46, List.forall_mem_append.mpr ⟨lwr_47, List.forall_mem_append.mpr ⟨lwr_48, List.forall_mem_append.mpr ⟨lwr_49, List.forall_mem_append.mpr ⟨lwr_50, List.forall_mem_append.mpr ⟨lwr_51, List.forall_mem_append.mpr ⟨lwr_52, List.forall_mem_append.mpr ⟨lwr_53, List.forall_mem_append.mpr ⟨lwr_54, List.forall_mem_append.mpr ⟨lwr_55, List.forall_mem_append.mpr ⟨lwr_56, List.forall_mem_append.mpr ⟨lwr_57, List.forall_mem_append.mpr ⟨lwr_58, List.forall_mem_append.mpr ⟨lwr_59, List.forall_mem_append.mpr ⟨lwr_60, lwr_61⟩⟩⟩⟩⟩⟩⟩⟩⟩⟩⟩⟩⟩⟩⟩⟩⟩⟩⟩⟩⟩⟩⟩⟩⟩⟩⟩⟩⟩⟩⟩⟩⟩⟩⟩⟩⟩⟩⟩⟩⟩⟩⟩⟩⟩⟩⟩⟩⟩⟩⟩⟩⟩⟩⟩⟩⟩⟩⟩⟩, lwx_X120⟩, lwx_X130⟩, lwx_X110⟩, lwx_X60⟩, lwx_X10⟩, lwx_X40⟩, lwx_X30⟩, lwx_X50⟩, lwx_X100⟩, lwx_X80⟩, lwx_J00⟩, fun _ h => absurd h List.not_mem_nil⟩
theorem wsL_law_x0 : ∀ w ∈ (vx_atM "java/lang/ArrayIndexOutOfBoundsException" ["java/lang/IndexOutOfBoundsException", "java/lang/RuntimeException", "java/lang/Exception"]).filter goodWord, w ∈ lw_tbl := by decide +kernel
theorem wsL_law_x1 : ∀ w ∈ (vx_atS RX12 231 "java/lang/IndexOutOfBoundsException" ["java/lang/RuntimeException", "java/lang/Exception"]).filter goodWord, w ∈ lw_tbl := by decide +kernel
theorem wsL_law_x2 : ∀ w ∈ (vx_atS RX12 173 "java/lang/IllegalArgumentException" ["java/lang/RuntimeException", "java/lang/Exception"]).filter goodWord, w ∈ lw_tbl := by decide +kernel
theorem wsL_law_x3 : ∀ w ∈ (vx_atS RX12 320 "java/lang/IllegalStateException" ["java/lang/RuntimeException", "java/lang/Exception"]).filter goodWord, w ∈ lw_tbl := by decide +kernel
theorem wsL_law_x4 : ∀ w ∈ (vx_atS RX12 434 "java/lang/UnsupportedOperationException" ["java/lang/RuntimeException", "java/lang/Exception"]).filter goodWord, w ∈ lw_tbl := by decide +kernel
theorem wsL_law_x5 : ∀ w ∈ (nsAt RX12 279 "java/util/NoSuchElementException" ["java/lang/RuntimeException", "java/lang/Exception"]).filter goodWord, w ∈ lw_tbl := by decide +kernel
theorem wsL_law_x6 : ∀ w ∈ (vx_atS RX12 378 "java/lang/ArithmeticException" ["java/lang/RuntimeException", "java/lang/Exception"]).filter goodWord, w ∈ lw_tbl := by decide +kernel
theorem wsL_law_in : ∀ w ∈ wsL_law, w ∈ lw_tbl := fun w h => (List.mem_append.mp h).elim (fun h => (List.mem_append.mp h).elim (fun h => (List.mem_append.mp h).elim (fun h => (List.mem_append.mp h).elim (fun h => (List.mem_append.mp h).elim (fun h => (List.mem_append.mp h).elim (fun h => (List.mem_append.mp h).elim (fun h => wsL_law_in0 w h) (fun h => wsL_law_x0 w h)) (fun h => wsL_law_x1 w h)) (fun h => wsL_law_x2 w h)) (fun h => wsL_law_x3 w h)) (fun h => wsL_law_x4 w h)) (fun h => wsL_law_x5 w h)) (fun h => wsL_law_x6 w h)
