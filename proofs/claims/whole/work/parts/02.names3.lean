theorem dX7_shade_0 : decode cX7_shade 0 = .ok (.aload_n 0, 1) := by decide +kernel
theorem dX7_shade_1 : decode cX7_shade 1 = .ok (.getfield 10, 3) := by decide +kernel
theorem dX7_shade_4 : decode cX7_shade 4 = .ok (.iload_n 1, 1) := by decide +kernel
theorem dX7_shade_5 : decode cX7_shade 5 = .ok (.invokevirtual 82, 3) := by decide +kernel
theorem dX7_shade_8 : decode cX7_shade 8 = .ok (.ifCond .ne 9, 3) := by decide +kernel
theorem dX7_shade_11 : decode cX7_shade 11 = .ok (.aload_n 0, 1) := by decide +kernel
theorem dX7_shade_12 : decode cX7_shade 12 = .ok (.iconst 0, 1) := by decide +kernel
theorem dX7_shade_13 : decode cX7_shade 13 = .ok (.invokevirtual 71, 3) := by decide +kernel
theorem dX7_shade_16 : decode cX7_shade 16 = .ok (.ireturn, 1) := by decide +kernel
theorem dX7_shade_17 : decode cX7_shade 17 = .ok (.aload_n 0, 1) := by decide +kernel
theorem dX7_shade_18 : decode cX7_shade 18 = .ok (.getfield 22, 3) := by decide +kernel
theorem dX7_shade_21 : decode cX7_shade 21 = .ok (.aload_n 0, 1) := by decide +kernel
theorem dX7_shade_22 : decode cX7_shade 22 = .ok (.getfield 10, 3) := by decide +kernel
theorem dX7_shade_25 : decode cX7_shade 25 = .ok (.invokevirtual 144, 3) := by decide +kernel
theorem dX7_shade_28 : decode cX7_shade 28 = .ok (.aload_n 0, 1) := by decide +kernel
theorem dX7_shade_29 : decode cX7_shade 29 = .ok (.getfield 22, 3) := by decide +kernel
theorem dX7_shade_32 : decode cX7_shade 32 = .ok (.iload_n 1, 1) := by decide +kernel
theorem dX7_shade_33 : decode cX7_shade 33 = .ok (.invokevirtual 154, 3) := by decide +kernel
theorem dX7_shade_36 : decode cX7_shade 36 = .ok (.ireturn, 1) := by decide +kernel
set_option maxRecDepth 20000 in
theorem ggX7_all_X4_see : GoodIn wsX7_all wsX4_see := goodIn_r _ [7, 8, 9, 10, 6, 11, 12, 13, 14, 15, 16, 17, 18, 19, 20, 21, 22, 23, 24, 25, 26, 27, 28, 29, 30, 31, 32, 33, 34, 35, 36, 37, 38, 39, 40, 41, 42, 43, 44, 45, 46, 47, 48, 49, 50, 51, 52, 53, 54, 55, 56, 57, 58, 59, 60, 61, 62, 63, 64, 65, 66, 67, 68, 69, 70, 71, 72, 73, 74, 75, 76, 117, 118, 119, 120, 121, 122, 123, 124, 125, 126, 127, 128, 129, 130, 131, 132] (by decide +kernel) (by decide +kernel)
set_option maxRecDepth 20000 in
theorem gX7_all_X4_see : GoodIn wsX7_all (wsV RX7 144 RX4 yX4_see wsX4_see) := goodIn_app (goodIn_of _ (by decide +kernel)) ggX7_all_X4_see
set_option maxRecDepth 20000 in
theorem ggX7_all_X4_metOfAll : GoodIn wsX7_all wsX4_metOfAll := goodIn_r _ [80, 12, 81, 82, 83, 84, 6, 85, 86, 87, 88, 89, 19, 90, 31, 91, 92, 93, 94, 95, 15, 96, 97, 98, 99, 46, 51, 52, 53, 100, 101, 102, 103, 104, 105, 106, 117, 118, 119, 120, 121, 122, 123, 124, 125, 126, 127, 128, 129, 130, 131, 132] (by decide +kernel) (by decide +kernel)
set_option maxRecDepth 20000 in
theorem gX7_all_X4_metOfAll : GoodIn wsX7_all (wsV RX7 157 RX4 yX4_metOfAll wsX4_metOfAll) := goodIn_app (goodIn_of _ (by decide +kernel)) ggX7_all_X4_metOfAll
theorem dX7_all_0 : decode cX7_all 0 = .ok (.aload_n 0, 1) := by decide +kernel
theorem dX7_all_1 : decode cX7_all 1 = .ok (.getfield 22, 3) := by decide +kernel
theorem dX7_all_4 : decode cX7_all 4 = .ok (.aload_n 0, 1) := by decide +kernel
theorem dX7_all_5 : decode cX7_all 5 = .ok (.getfield 10, 3) := by decide +kernel
theorem dX7_all_8 : decode cX7_all 8 = .ok (.invokevirtual 144, 3) := by decide +kernel
theorem dX7_all_11 : decode cX7_all 11 = .ok (.aload_n 0, 1) := by decide +kernel
theorem dX7_all_12 : decode cX7_all 12 = .ok (.getfield 22, 3) := by decide +kernel
theorem dX7_all_15 : decode cX7_all 15 = .ok (.invokevirtual 157, 3) := by decide +kernel
theorem dX7_all_18 : decode cX7_all 18 = .ok (.ireturn, 1) := by decide +kernel
set_option maxRecDepth 20000 in
theorem ggX7_tan_X1_isPerson : GoodIn wsX7_tan wsX1_isPerson := goodIn_r _ [7, 8, 103, 104, 105, 106, 107, 108, 109, 110, 111, 112, 113, 114] (by decide +kernel) (by decide +kernel)
set_option maxRecDepth 20000 in
theorem gX7_tan_X1_isPerson : GoodIn wsX7_tan (wsV RX7 82 RX1 yX1_isPerson wsX1_isPerson) := goodIn_app (goodIn_of _ (by decide +kernel)) ggX7_tan_X1_isPerson
set_option maxRecDepth 20000 in
theorem ggX7_tan_X7_found : GoodIn wsX7_tan wsX7_found := goodIn_r _ [13, 14, 15, 93, 94, 95, 96, 97, 98, 99, 100, 101, 102] (by decide +kernel) (by decide +kernel)
set_option maxRecDepth 20000 in
theorem gX7_tan_X7_found : GoodIn wsX7_tan (wsV RX7 71 RX7 yX7_found wsX7_found) := goodIn_app (goodIn_of _ (by decide +kernel)) ggX7_tan_X7_found
set_option maxRecDepth 20000 in
theorem ggX7_tan_X4_see : GoodIn wsX7_tan wsX4_see := goodIn_r _ [20, 21, 22, 23, 19, 24, 25, 26, 27, 28, 29, 30, 31, 6, 32, 33, 34, 35, 36, 37, 38, 39, 40, 41, 42, 8, 43, 44, 45, 46, 47, 48, 49, 50, 51, 52, 53, 54, 55, 56, 57, 58, 59, 60, 61, 62, 12, 63, 64, 65, 66, 67, 68, 69, 70, 71, 72, 73, 74, 75, 76, 77, 78, 79, 80, 81, 82, 83, 84, 85, 86, 115, 116, 117, 118, 103, 104, 105, 106, 107, 108, 109, 110, 111, 112, 113, 114] (by decide +kernel) (by decide +kernel)
set_option maxRecDepth 20000 in
theorem gX7_tan_X4_see : GoodIn wsX7_tan (wsV RX7 144 RX4 yX4_see wsX4_see) := goodIn_app (goodIn_of _ (by decide +kernel)) ggX7_tan_X4_see
set_option maxRecDepth 20000 in
theorem ggX7_tan_X4_sunOf : GoodIn wsX7_tan wsX4_sunOf := goodIn_r _ [90, 25, 91, 92, 4, 5, 6, 7, 8, 115, 116, 117, 118, 103, 104, 105, 106, 107, 108, 109, 110, 111, 112, 113, 114] (by decide +kernel) (by decide +kernel)
set_option maxRecDepth 20000 in
theorem gX7_tan_X4_sunOf : GoodIn wsX7_tan (wsV RX7 160 RX4 yX4_sunOf wsX4_sunOf) := goodIn_app (goodIn_of _ (by decide +kernel)) ggX7_tan_X4_sunOf
theorem dX7_tan_0 : decode cX7_tan 0 = .ok (.aload_n 0, 1) := by decide +kernel
theorem dX7_tan_1 : decode cX7_tan 1 = .ok (.getfield 10, 3) := by decide +kernel
theorem dX7_tan_4 : decode cX7_tan 4 = .ok (.iload_n 1, 1) := by decide +kernel
theorem dX7_tan_5 : decode cX7_tan 5 = .ok (.invokevirtual 82, 3) := by decide +kernel
theorem dX7_tan_8 : decode cX7_tan 8 = .ok (.ifCond .ne 9, 3) := by decide +kernel
theorem dX7_tan_11 : decode cX7_tan 11 = .ok (.aload_n 0, 1) := by decide +kernel
theorem dX7_tan_12 : decode cX7_tan 12 = .ok (.iconst 0, 1) := by decide +kernel
theorem dX7_tan_13 : decode cX7_tan 13 = .ok (.invokevirtual 71, 3) := by decide +kernel
theorem dX7_tan_16 : decode cX7_tan 16 = .ok (.ireturn, 1) := by decide +kernel
theorem dX7_tan_17 : decode cX7_tan 17 = .ok (.aload_n 0, 1) := by decide +kernel
theorem dX7_tan_18 : decode cX7_tan 18 = .ok (.getfield 22, 3) := by decide +kernel
theorem dX7_tan_21 : decode cX7_tan 21 = .ok (.aload_n 0, 1) := by decide +kernel
theorem dX7_tan_22 : decode cX7_tan 22 = .ok (.getfield 10, 3) := by decide +kernel
theorem dX7_tan_25 : decode cX7_tan 25 = .ok (.invokevirtual 144, 3) := by decide +kernel
theorem dX7_tan_28 : decode cX7_tan 28 = .ok (.aload_n 0, 1) := by decide +kernel
theorem dX7_tan_29 : decode cX7_tan 29 = .ok (.getfield 22, 3) := by decide +kernel
theorem dX7_tan_32 : decode cX7_tan 32 = .ok (.iload_n 1, 1) := by decide +kernel
theorem dX7_tan_33 : decode cX7_tan 33 = .ok (.invokevirtual 160, 3) := by decide +kernel
theorem dX7_tan_36 : decode cX7_tan 36 = .ok (.ireturn, 1) := by decide +kernel
set_option maxRecDepth 20000 in
theorem ggX7_strong_X1_isPerson : GoodIn wsX7_strong wsX1_isPerson := goodIn_r _ [9, 10, 114, 115, 116, 117, 118, 119, 120, 121, 122, 123, 124, 125] (by decide +kernel) (by decide +kernel)
set_option maxRecDepth 20000 in
theorem gX7_strong_X1_isPerson : GoodIn wsX7_strong (wsV RX7 82 RX1 yX1_isPerson wsX1_isPerson) := goodIn_app (goodIn_of _ (by decide +kernel)) ggX7_strong_X1_isPerson
set_option maxRecDepth 20000 in
theorem ggX7_strong_X7_found : GoodIn wsX7_strong wsX7_found := goodIn_r _ [15, 16, 17, 100, 101, 102, 103, 104, 105, 106, 107, 108, 109] (by decide +kernel) (by decide +kernel)
set_option maxRecDepth 20000 in
theorem gX7_strong_X7_found : GoodIn wsX7_strong (wsV RX7 71 RX7 yX7_found wsX7_found) := goodIn_app (goodIn_of _ (by decide +kernel)) ggX7_strong_X7_found
set_option maxRecDepth 20000 in
theorem ggX7_strong_X4_begin : GoodIn wsX7_strong wsX4_begin := goodIn_r _ [22, 23, 24, 25, 26, 27, 28, 29, 8, 30, 31, 32, 33, 34, 35, 36, 37, 38, 39, 40, 10, 41, 42, 43, 44, 45, 46, 47, 48, 49, 50, 110, 111, 112, 113, 114, 115, 116, 117, 118, 119, 120, 121, 122, 123, 124, 125] (by decide +kernel) (by decide +kernel)
set_option maxRecDepth 20000 in
theorem gX7_strong_X4_begin : GoodIn wsX7_strong (wsV RX7 163 RX4 yX4_begin wsX4_begin) := goodIn_app (goodIn_of _ (by decide +kernel)) ggX7_strong_X4_begin
set_option maxRecDepth 20000 in
theorem ggX7_strong_X4_run : GoodIn wsX7_strong wsX4_run := goodIn_r _ [54, 25, 55, 23, 56, 57, 58, 8, 59, 42, 41, 10, 39, 60, 14, 61, 62, 63, 64, 65, 66, 67, 68, 69, 70, 71, 72, 73, 74, 75, 76, 36, 31, 37, 77, 78, 79, 80, 38, 81, 82, 83, 84, 43, 44, 110, 111, 112, 113, 114, 115, 116, 117, 118, 119, 120, 121, 122, 123, 124, 125] (by decide +kernel) (by decide +kernel)
set_option maxRecDepth 20000 in
theorem gX7_strong_X4_run : GoodIn wsX7_strong (wsV RX7 169 RX4 yX4_run wsX4_run) := goodIn_app (goodIn_of _ (by decide +kernel)) ggX7_strong_X4_run
set_option maxRecDepth 20000 in
theorem ggX7_strong_X4_firstCold : GoodIn wsX7_strong wsX4_firstCold := goodIn_r _ [88, 23, 26, 89, 6, 7, 8, 9, 10, 90, 91, 92, 21, 93, 94, 95, 96, 97, 98, 99, 55, 60, 14, 61, 110, 111, 112, 113, 114, 115, 116, 117, 118, 119, 120, 121, 122, 123, 124, 125] (by decide +kernel) (by decide +kernel)
set_option maxRecDepth 20000 in
theorem gX7_strong_X4_firstCold : GoodIn wsX7_strong (wsV RX7 151 RX4 yX4_firstCold wsX4_firstCold) := goodIn_app (goodIn_of _ (by decide +kernel)) ggX7_strong_X4_firstCold
theorem dX7_strong_0 : decode cX7_strong 0 = .ok (.aload_n 0, 1) := by decide +kernel
theorem dX7_strong_1 : decode cX7_strong 1 = .ok (.getfield 10, 3) := by decide +kernel
theorem dX7_strong_4 : decode cX7_strong 4 = .ok (.iload_n 1, 1) := by decide +kernel
theorem dX7_strong_5 : decode cX7_strong 5 = .ok (.invokevirtual 82, 3) := by decide +kernel
theorem dX7_strong_8 : decode cX7_strong 8 = .ok (.ifCond .ne 9, 3) := by decide +kernel
theorem dX7_strong_11 : decode cX7_strong 11 = .ok (.aload_n 0, 1) := by decide +kernel
theorem dX7_strong_12 : decode cX7_strong 12 = .ok (.iconst 0, 1) := by decide +kernel
theorem dX7_strong_13 : decode cX7_strong 13 = .ok (.invokevirtual 71, 3) := by decide +kernel
theorem dX7_strong_16 : decode cX7_strong 16 = .ok (.ireturn, 1) := by decide +kernel
theorem dX7_strong_17 : decode cX7_strong 17 = .ok (.iconst 0, 1) := by decide +kernel
theorem dX7_strong_18 : decode cX7_strong 18 = .ok (.istore_n 2, 1) := by decide +kernel
theorem dX7_strong_19 : decode cX7_strong 19 = .ok (.iload_n 2, 1) := by decide +kernel
theorem dX7_strong_20 : decode cX7_strong 20 = .ok (.bipush 9, 2) := by decide +kernel
theorem dX7_strong_22 : decode cX7_strong 22 = .ok (.if_icmp .gt 55, 3) := by decide +kernel
theorem dX7_strong_25 : decode cX7_strong 25 = .ok (.aload_n 0, 1) := by decide +kernel
theorem dX7_strong_26 : decode cX7_strong 26 = .ok (.getfield 22, 3) := by decide +kernel
theorem dX7_strong_29 : decode cX7_strong 29 = .ok (.aload_n 0, 1) := by decide +kernel
theorem dX7_strong_30 : decode cX7_strong 30 = .ok (.getfield 10, 3) := by decide +kernel
theorem dX7_strong_33 : decode cX7_strong 33 = .ok (.invokevirtual 163, 3) := by decide +kernel
theorem dX7_strong_36 : decode cX7_strong 36 = .ok (.aload_n 0, 1) := by decide +kernel
theorem dX7_strong_37 : decode cX7_strong 37 = .ok (.getfield 22, 3) := by decide +kernel
theorem dX7_strong_40 : decode cX7_strong 40 = .ok (.getfield 166, 3) := by decide +kernel
theorem dX7_strong_43 : decode cX7_strong 43 = .ok (.getfield 92, 3) := by decide +kernel
theorem dX7_strong_46 : decode cX7_strong 46 = .ok (.iload_n 1, 1) := by decide +kernel
theorem dX7_strong_47 : decode cX7_strong 47 = .ok (.iload_n 2, 1) := by decide +kernel
theorem dX7_strong_48 : decode cX7_strong 48 = .ok (.iastore, 1) := by decide +kernel
theorem dX7_strong_49 : decode cX7_strong 49 = .ok (.aload_n 0, 1) := by decide +kernel
theorem dX7_strong_50 : decode cX7_strong 50 = .ok (.getfield 22, 3) := by decide +kernel
theorem dX7_strong_53 : decode cX7_strong 53 = .ok (.invokevirtual 169, 3) := by decide +kernel
theorem dX7_strong_56 : decode cX7_strong 56 = .ok (.aload_n 0, 1) := by decide +kernel
theorem dX7_strong_57 : decode cX7_strong 57 = .ok (.getfield 22, 3) := by decide +kernel
theorem dX7_strong_60 : decode cX7_strong 60 = .ok (.iload_n 1, 1) := by decide +kernel
theorem dX7_strong_61 : decode cX7_strong 61 = .ok (.invokevirtual 151, 3) := by decide +kernel
theorem dX7_strong_64 : decode cX7_strong 64 = .ok (.bipush 16, 2) := by decide +kernel
theorem dX7_strong_66 : decode cX7_strong 66 = .ok (.if_icmp .ne 5, 3) := by decide +kernel
theorem dX7_strong_69 : decode cX7_strong 69 = .ok (.iload_n 2, 1) := by decide +kernel
theorem dX7_strong_70 : decode cX7_strong 70 = .ok (.ireturn, 1) := by decide +kernel
theorem dX7_strong_71 : decode cX7_strong 71 = .ok (.iinc 2 1, 3) := by decide +kernel
theorem dX7_strong_74 : decode cX7_strong 74 = .ok (.goto (-55), 3) := by decide +kernel
theorem dX7_strong_77 : decode cX7_strong 77 = .ok (.aload_n 0, 1) := by decide +kernel
theorem dX7_strong_78 : decode cX7_strong 78 = .ok (.iconst 3, 1) := by decide +kernel
theorem dX7_strong_79 : decode cX7_strong 79 = .ok (.invokevirtual 71, 3) := by decide +kernel
theorem dX7_strong_82 : decode cX7_strong 82 = .ok (.ireturn, 1) := by decide +kernel
set_option maxRecDepth 20000 in
theorem ggX7_kindFor_X1_isPerson : GoodIn wsX7_kindFor wsX1_isPerson := goodIn_r _ [9, 10, 121, 122, 123, 124, 125, 126, 127, 128, 129, 130, 131, 132] (by decide +kernel) (by decide +kernel)
set_option maxRecDepth 20000 in
theorem gX7_kindFor_X1_isPerson : GoodIn wsX7_kindFor (wsV RX7 82 RX1 yX1_isPerson wsX1_isPerson) := goodIn_app (goodIn_of _ (by decide +kernel)) ggX7_kindFor_X1_isPerson
set_option maxRecDepth 20000 in
theorem ggX7_kindFor_X7_found : GoodIn wsX7_kindFor wsX7_found := goodIn_r _ [15, 16, 17, 107, 108, 109, 110, 111, 112, 113, 114, 115, 116] (by decide +kernel) (by decide +kernel)
set_option maxRecDepth 20000 in
theorem gX7_kindFor_X7_found : GoodIn wsX7_kindFor (wsV RX7 71 RX7 yX7_found wsX7_found) := goodIn_app (goodIn_of _ (by decide +kernel)) ggX7_kindFor_X7_found
set_option maxRecDepth 20000 in
theorem ggX7_kindFor_X4_begin : GoodIn wsX7_kindFor wsX4_begin := goodIn_r _ [22, 23, 24, 25, 26, 27, 28, 29, 8, 30, 31, 32, 33, 34, 35, 36, 37, 38, 39, 40, 10, 41, 42, 43, 44, 45, 46, 47, 48, 49, 50, 117, 118, 119, 120, 121, 122, 123, 124, 125, 126, 127, 128, 129, 130, 131, 132] (by decide +kernel) (by decide +kernel)
set_option maxRecDepth 20000 in
theorem gX7_kindFor_X4_begin : GoodIn wsX7_kindFor (wsV RX7 163 RX4 yX4_begin wsX4_begin) := goodIn_app (goodIn_of _ (by decide +kernel)) ggX7_kindFor_X4_begin
set_option maxRecDepth 20000 in
theorem ggX7_kindFor_X4_run : GoodIn wsX7_kindFor wsX4_run := goodIn_r _ [54, 25, 55, 23, 56, 57, 58, 8, 59, 42, 41, 10, 39, 60, 14, 61, 62, 63, 64, 65, 66, 67, 68, 69, 70, 71, 72, 73, 74, 75, 76, 36, 31, 37, 77, 78, 79, 80, 38, 81, 82, 83, 84, 43, 44, 117, 118, 119, 120, 121, 122, 123, 124, 125, 126, 127, 128, 129, 130, 131, 132] (by decide +kernel) (by decide +kernel)
set_option maxRecDepth 20000 in
theorem gX7_kindFor_X4_run : GoodIn wsX7_kindFor (wsV RX7 169 RX4 yX4_run wsX4_run) := goodIn_app (goodIn_of _ (by decide +kernel)) ggX7_kindFor_X4_run
set_option maxRecDepth 20000 in
theorem ggX7_kindFor_X4_metOf : GoodIn wsX7_kindFor wsX4_metOf := goodIn_r _ [88, 23, 89, 90, 6, 7, 8, 9, 10, 91, 92, 93, 21, 94, 95, 26, 96, 97, 98, 99, 55, 60, 14, 61, 100, 101, 102, 103, 104, 105, 106, 117, 118, 119, 120, 121, 122, 123, 124, 125, 126, 127, 128, 129, 130, 131, 132] (by decide +kernel) (by decide +kernel)
set_option maxRecDepth 20000 in
theorem gX7_kindFor_X4_metOf : GoodIn wsX7_kindFor (wsV RX7 148 RX4 yX4_metOf wsX4_metOf) := goodIn_app (goodIn_of _ (by decide +kernel)) ggX7_kindFor_X4_metOf
theorem dX7_kindFor_0 : decode cX7_kindFor 0 = .ok (.aload_n 0, 1) := by decide +kernel
theorem dX7_kindFor_1 : decode cX7_kindFor 1 = .ok (.getfield 10, 3) := by decide +kernel
theorem dX7_kindFor_4 : decode cX7_kindFor 4 = .ok (.iload_n 1, 1) := by decide +kernel
theorem dX7_kindFor_5 : decode cX7_kindFor 5 = .ok (.invokevirtual 82, 3) := by decide +kernel
theorem dX7_kindFor_8 : decode cX7_kindFor 8 = .ok (.ifCond .ne 9, 3) := by decide +kernel
theorem dX7_kindFor_11 : decode cX7_kindFor 11 = .ok (.aload_n 0, 1) := by decide +kernel
theorem dX7_kindFor_12 : decode cX7_kindFor 12 = .ok (.iconst 0, 1) := by decide +kernel
theorem dX7_kindFor_13 : decode cX7_kindFor 13 = .ok (.invokevirtual 71, 3) := by decide +kernel
theorem dX7_kindFor_16 : decode cX7_kindFor 16 = .ok (.ireturn, 1) := by decide +kernel
theorem dX7_kindFor_17 : decode cX7_kindFor 17 = .ok (.iconst 0, 1) := by decide +kernel
theorem dX7_kindFor_18 : decode cX7_kindFor 18 = .ok (.istore_n 2, 1) := by decide +kernel
theorem dX7_kindFor_19 : decode cX7_kindFor 19 = .ok (.iconst (-1), 1) := by decide +kernel
theorem dX7_kindFor_20 : decode cX7_kindFor 20 = .ok (.istore_n 3, 1) := by decide +kernel
theorem dX7_kindFor_21 : decode cX7_kindFor 21 = .ok (.iconst 0, 1) := by decide +kernel
theorem dX7_kindFor_22 : decode cX7_kindFor 22 = .ok (.istore 4, 2) := by decide +kernel
theorem dX7_kindFor_24 : decode cX7_kindFor 24 = .ok (.iload 4, 2) := by decide +kernel
theorem dX7_kindFor_26 : decode cX7_kindFor 26 = .ok (.bipush 7, 2) := by decide +kernel
theorem dX7_kindFor_28 : decode cX7_kindFor 28 = .ok (.if_icmp .ge 65, 3) := by decide +kernel
theorem dX7_kindFor_31 : decode cX7_kindFor 31 = .ok (.aload_n 0, 1) := by decide +kernel
theorem dX7_kindFor_32 : decode cX7_kindFor 32 = .ok (.getfield 22, 3) := by decide +kernel
theorem dX7_kindFor_35 : decode cX7_kindFor 35 = .ok (.aload_n 0, 1) := by decide +kernel
theorem dX7_kindFor_36 : decode cX7_kindFor 36 = .ok (.getfield 10, 3) := by decide +kernel
theorem dX7_kindFor_39 : decode cX7_kindFor 39 = .ok (.invokevirtual 163, 3) := by decide +kernel
theorem dX7_kindFor_42 : decode cX7_kindFor 42 = .ok (.aload_n 0, 1) := by decide +kernel
theorem dX7_kindFor_43 : decode cX7_kindFor 43 = .ok (.getfield 22, 3) := by decide +kernel
theorem dX7_kindFor_46 : decode cX7_kindFor 46 = .ok (.getfield 166, 3) := by decide +kernel
theorem dX7_kindFor_49 : decode cX7_kindFor 49 = .ok (.getfield 86, 3) := by decide +kernel
theorem dX7_kindFor_52 : decode cX7_kindFor 52 = .ok (.iload_n 1, 1) := by decide +kernel
theorem dX7_kindFor_53 : decode cX7_kindFor 53 = .ok (.iload 4, 2) := by decide +kernel
theorem dX7_kindFor_55 : decode cX7_kindFor 55 = .ok (.iastore, 1) := by decide +kernel
theorem dX7_kindFor_56 : decode cX7_kindFor 56 = .ok (.aload_n 0, 1) := by decide +kernel
theorem dX7_kindFor_57 : decode cX7_kindFor 57 = .ok (.getfield 22, 3) := by decide +kernel
theorem dX7_kindFor_60 : decode cX7_kindFor 60 = .ok (.invokevirtual 169, 3) := by decide +kernel
theorem dX7_kindFor_63 : decode cX7_kindFor 63 = .ok (.aload_n 0, 1) := by decide +kernel
theorem dX7_kindFor_64 : decode cX7_kindFor 64 = .ok (.getfield 22, 3) := by decide +kernel
theorem dX7_kindFor_67 : decode cX7_kindFor 67 = .ok (.iload_n 1, 1) := by decide +kernel
theorem dX7_kindFor_68 : decode cX7_kindFor 68 = .ok (.invokevirtual 148, 3) := by decide +kernel
theorem dX7_kindFor_71 : decode cX7_kindFor 71 = .ok (.iload_n 3, 1) := by decide +kernel
theorem dX7_kindFor_72 : decode cX7_kindFor 72 = .ok (.if_icmp .le 15, 3) := by decide +kernel
theorem dX7_kindFor_75 : decode cX7_kindFor 75 = .ok (.aload_n 0, 1) := by decide +kernel
theorem dX7_kindFor_76 : decode cX7_kindFor 76 = .ok (.getfield 22, 3) := by decide +kernel
theorem dX7_kindFor_79 : decode cX7_kindFor 79 = .ok (.iload_n 1, 1) := by decide +kernel
theorem dX7_kindFor_80 : decode cX7_kindFor 80 = .ok (.invokevirtual 148, 3) := by decide +kernel
theorem dX7_kindFor_83 : decode cX7_kindFor 83 = .ok (.istore_n 3, 1) := by decide +kernel
theorem dX7_kindFor_84 : decode cX7_kindFor 84 = .ok (.iload 4, 2) := by decide +kernel
theorem dX7_kindFor_86 : decode cX7_kindFor 86 = .ok (.istore_n 2, 1) := by decide +kernel
theorem dX7_kindFor_87 : decode cX7_kindFor 87 = .ok (.iinc 4 1, 3) := by decide +kernel
theorem dX7_kindFor_90 : decode cX7_kindFor 90 = .ok (.goto (-66), 3) := by decide +kernel
theorem dX7_kindFor_93 : decode cX7_kindFor 93 = .ok (.iload_n 2, 1) := by decide +kernel
theorem dX7_kindFor_94 : decode cX7_kindFor 94 = .ok (.ireturn, 1) := by decide +kernel
set_option maxRecDepth 20000 in
theorem ggX7_cloud_X4_see : GoodIn wsX7_cloud wsX4_see := goodIn_r _ [9, 10, 11, 12, 8, 13, 14, 15, 16, 17, 18, 19, 20, 21, 22, 23, 24, 25, 26, 27, 28, 29, 30, 31, 32, 33, 34, 35, 36, 37, 38, 39, 40, 41, 42, 43, 44, 45, 46, 47, 48, 49, 50, 51, 52, 53, 54, 55, 56, 57, 58, 59, 60, 61, 62, 63, 64, 65, 66, 67, 68, 69, 70, 71, 72, 73, 74, 75, 76, 77, 78, 121, 122, 123, 124, 125, 126, 127, 128, 129, 130, 131, 132, 133, 134, 135, 136] (by decide +kernel) (by decide +kernel)
set_option maxRecDepth 20000 in
theorem gX7_cloud_X4_see : GoodIn wsX7_cloud (wsV RX7 144 RX4 yX4_see wsX4_see) := goodIn_app (goodIn_of _ (by decide +kernel)) ggX7_cloud_X4_see
set_option maxRecDepth 20000 in
theorem ggX7_cloud_X4_metOfAll : GoodIn wsX7_cloud wsX4_metOfAll := goodIn_r _ [82, 14, 83, 84, 85, 86, 8, 87, 88, 89, 90, 91, 21, 92, 33, 93, 94, 95, 96, 97, 17, 98, 99, 100, 101, 48, 53, 54, 55, 102, 103, 104, 105, 106, 107, 108, 121, 122, 123, 124, 125, 126, 127, 128, 129, 130, 131, 132, 133, 134, 135, 136] (by decide +kernel) (by decide +kernel)
set_option maxRecDepth 20000 in
theorem gX7_cloud_X4_metOfAll : GoodIn wsX7_cloud (wsV RX7 157 RX4 yX4_metOfAll wsX4_metOfAll) := goodIn_app (goodIn_of _ (by decide +kernel)) ggX7_cloud_X4_metOfAll
set_option maxRecDepth 20000 in
theorem ggX7_cloud_X4_begin : GoodIn wsX7_cloud wsX4_begin := goodIn_r _ [13, 14, 15, 16, 17, 18, 19, 20, 21, 22, 23, 24, 25, 26, 27, 28, 29, 30, 31, 32, 33, 34, 35, 36, 37, 38, 39, 40, 41, 42, 43, 121, 122, 123, 124, 125, 126, 127, 128, 129, 130, 131, 132, 133, 134, 135, 136] (by decide +kernel) (by decide +kernel)
set_option maxRecDepth 20000 in
theorem gX7_cloud_X4_begin : GoodIn wsX7_cloud (wsV RX7 163 RX4 yX4_begin wsX4_begin) := goodIn_app (goodIn_of _ (by decide +kernel)) ggX7_cloud_X4_begin
set_option maxRecDepth 20000 in
theorem ggX7_cloud_X4_run : GoodIn wsX7_cloud wsX4_run := goodIn_r _ [47, 16, 48, 14, 49, 50, 51, 21, 52, 35, 34, 33, 31, 53, 54, 55, 56, 57, 58, 59, 60, 61, 62, 63, 64, 65, 66, 67, 68, 69, 70, 28, 23, 29, 71, 72, 73, 74, 30, 75, 76, 77, 78, 36, 37, 121, 122, 123, 124, 125, 126, 127, 128, 129, 130, 131, 132, 133, 134, 135, 136] (by decide +kernel) (by decide +kernel)
set_option maxRecDepth 20000 in
theorem gX7_cloud_X4_run : GoodIn wsX7_cloud (wsV RX7 169 RX4 yX4_run wsX4_run) := goodIn_app (goodIn_of _ (by decide +kernel)) ggX7_cloud_X4_run
theorem dX7_cloud_0 : decode cX7_cloud 0 = .ok (.aload_n 0, 1) := by decide +kernel
theorem dX7_cloud_1 : decode cX7_cloud 1 = .ok (.getfield 22, 3) := by decide +kernel
theorem dX7_cloud_4 : decode cX7_cloud 4 = .ok (.aload_n 0, 1) := by decide +kernel
theorem dX7_cloud_5 : decode cX7_cloud 5 = .ok (.getfield 10, 3) := by decide +kernel
theorem dX7_cloud_8 : decode cX7_cloud 8 = .ok (.invokevirtual 144, 3) := by decide +kernel
theorem dX7_cloud_11 : decode cX7_cloud 11 = .ok (.aload_n 0, 1) := by decide +kernel
theorem dX7_cloud_12 : decode cX7_cloud 12 = .ok (.getfield 22, 3) := by decide +kernel
theorem dX7_cloud_15 : decode cX7_cloud 15 = .ok (.invokevirtual 157, 3) := by decide +kernel
theorem dX7_cloud_18 : decode cX7_cloud 18 = .ok (.istore_n 1, 1) := by decide +kernel
theorem dX7_cloud_19 : decode cX7_cloud 19 = .ok (.iconst (-1), 1) := by decide +kernel
theorem dX7_cloud_20 : decode cX7_cloud 20 = .ok (.istore_n 2, 1) := by decide +kernel
theorem dX7_cloud_21 : decode cX7_cloud 21 = .ok (.iconst 0, 1) := by decide +kernel
theorem dX7_cloud_22 : decode cX7_cloud 22 = .ok (.istore_n 3, 1) := by decide +kernel
theorem dX7_cloud_23 : decode cX7_cloud 23 = .ok (.iload_n 3, 1) := by decide +kernel
theorem dX7_cloud_24 : decode cX7_cloud 24 = .ok (.bipush 16, 2) := by decide +kernel
theorem dX7_cloud_26 : decode cX7_cloud 26 = .ok (.if_icmp .ge 66, 3) := by decide +kernel
theorem dX7_cloud_29 : decode cX7_cloud 29 = .ok (.aload_n 0, 1) := by decide +kernel
theorem dX7_cloud_30 : decode cX7_cloud 30 = .ok (.getfield 22, 3) := by decide +kernel
theorem dX7_cloud_33 : decode cX7_cloud 33 = .ok (.aload_n 0, 1) := by decide +kernel
theorem dX7_cloud_34 : decode cX7_cloud 34 = .ok (.getfield 10, 3) := by decide +kernel
theorem dX7_cloud_37 : decode cX7_cloud 37 = .ok (.invokevirtual 163, 3) := by decide +kernel
theorem dX7_cloud_40 : decode cX7_cloud 40 = .ok (.aload_n 0, 1) := by decide +kernel
theorem dX7_cloud_41 : decode cX7_cloud 41 = .ok (.getfield 22, 3) := by decide +kernel
theorem dX7_cloud_44 : decode cX7_cloud 44 = .ok (.getfield 166, 3) := by decide +kernel
theorem dX7_cloud_47 : decode cX7_cloud 47 = .ok (.dup, 1) := by decide +kernel
theorem dX7_cloud_48 : decode cX7_cloud 48 = .ok (.getfield 132, 3) := by decide +kernel
theorem dX7_cloud_51 : decode cX7_cloud 51 = .ok (.iconst 1, 1) := by decide +kernel
theorem dX7_cloud_52 : decode cX7_cloud 52 = .ok (.iload_n 3, 1) := by decide +kernel
theorem dX7_cloud_53 : decode cX7_cloud 53 = .ok (.ishl, 1) := by decide +kernel
theorem dX7_cloud_54 : decode cX7_cloud 54 = .ok (.ixor, 1) := by decide +kernel
theorem dX7_cloud_55 : decode cX7_cloud 55 = .ok (.putfield 132, 3) := by decide +kernel
theorem dX7_cloud_58 : decode cX7_cloud 58 = .ok (.aload_n 0, 1) := by decide +kernel
theorem dX7_cloud_59 : decode cX7_cloud 59 = .ok (.getfield 22, 3) := by decide +kernel
theorem dX7_cloud_62 : decode cX7_cloud 62 = .ok (.invokevirtual 169, 3) := by decide +kernel
theorem dX7_cloud_65 : decode cX7_cloud 65 = .ok (.aload_n 0, 1) := by decide +kernel
theorem dX7_cloud_66 : decode cX7_cloud 66 = .ok (.getfield 22, 3) := by decide +kernel
theorem dX7_cloud_69 : decode cX7_cloud 69 = .ok (.invokevirtual 157, 3) := by decide +kernel
theorem dX7_cloud_72 : decode cX7_cloud 72 = .ok (.iload_n 1, 1) := by decide +kernel
theorem dX7_cloud_73 : decode cX7_cloud 73 = .ok (.if_icmp .le 13, 3) := by decide +kernel
theorem dX7_cloud_76 : decode cX7_cloud 76 = .ok (.aload_n 0, 1) := by decide +kernel
theorem dX7_cloud_77 : decode cX7_cloud 77 = .ok (.getfield 22, 3) := by decide +kernel
theorem dX7_cloud_80 : decode cX7_cloud 80 = .ok (.invokevirtual 157, 3) := by decide +kernel
theorem dX7_cloud_83 : decode cX7_cloud 83 = .ok (.istore_n 1, 1) := by decide +kernel
theorem dX7_cloud_84 : decode cX7_cloud 84 = .ok (.iload_n 3, 1) := by decide +kernel
theorem dX7_cloud_85 : decode cX7_cloud 85 = .ok (.istore_n 2, 1) := by decide +kernel
theorem dX7_cloud_86 : decode cX7_cloud 86 = .ok (.iinc 3 1, 3) := by decide +kernel
theorem dX7_cloud_89 : decode cX7_cloud 89 = .ok (.goto (-66), 3) := by decide +kernel
theorem dX7_cloud_92 : decode cX7_cloud 92 = .ok (.iload_n 2, 1) := by decide +kernel
theorem dX7_cloud_93 : decode cX7_cloud 93 = .ok (.ireturn, 1) := by decide +kernel
set_option maxRecDepth 20000 in
theorem ggX7_agree_X1_areTwo : GoodIn wsX7_agree wsX1_areTwo := goodIn_r _ [7, 8, 9, 10, 6, 11, 12, 88, 89, 90, 91, 92, 93, 94, 95, 96, 97, 98, 99] (by decide +kernel) (by decide +kernel)
set_option maxRecDepth 20000 in
theorem gX7_agree_X1_areTwo : GoodIn wsX7_agree (wsV RX7 121 RX1 yX1_areTwo wsX1_areTwo) := goodIn_app (goodIn_of _ (by decide +kernel)) ggX7_agree_X1_areTwo
set_option maxRecDepth 20000 in
theorem ggX7_agree_X7_found : GoodIn wsX7_agree wsX7_found := goodIn_r _ [17, 18, 19, 78, 79, 80, 81, 82, 83, 84, 85, 86, 87] (by decide +kernel) (by decide +kernel)
set_option maxRecDepth 20000 in
theorem gX7_agree_X7_found : GoodIn wsX7_agree (wsV RX7 71 RX7 yX7_found wsX7_found) := goodIn_app (goodIn_of _ (by decide +kernel)) ggX7_agree_X7_found
set_option maxRecDepth 20000 in
theorem ggX7_agree_X0_make : GoodIn wsX7_agree wsX0_make := goodIn_r _ [24, 25, 26, 27, 28, 29, 30, 31, 32, 33, 34, 35, 36, 37, 38, 4, 5, 6, 7, 8, 9, 10, 11, 12, 39, 40, 41, 42, 43, 44, 45, 46, 47, 23, 48, 49, 50, 51, 52, 53, 54, 16, 55, 56, 57, 58, 59, 60, 100, 101, 102, 103, 104, 105, 88, 89, 90, 91, 92, 93, 94, 95, 96, 97, 98, 99] (by decide +kernel) (by decide +kernel)
set_option maxRecDepth 20000 in
theorem gX7_agree_X0_make : GoodIn wsX7_agree (wsV RX7 172 RX0 yX0_make wsX0_make) := goodIn_app (goodIn_of _ (by decide +kernel)) ggX7_agree_X0_make
set_option maxRecDepth 20000 in
theorem ggX7_agree_X0_metOfBoth : GoodIn wsX7_agree wsX0_metOfBoth := goodIn_r _ [64, 65, 66, 67, 23, 68, 33, 37, 60, 69, 16, 70, 71, 72, 73, 74, 75, 76, 77, 100, 101, 102, 103, 104, 105] (by decide +kernel) (by decide +kernel)
set_option maxRecDepth 20000 in
theorem gX7_agree_X0_metOfBoth : GoodIn wsX7_agree (wsV RX7 176 RX0 yX0_metOfBoth wsX0_metOfBoth) := goodIn_app (goodIn_of _ (by decide +kernel)) ggX7_agree_X0_metOfBoth
theorem dX7_agree_0 : decode cX7_agree 0 = .ok (.aload_n 0, 1) := by decide +kernel
theorem dX7_agree_1 : decode cX7_agree 1 = .ok (.getfield 10, 3) := by decide +kernel
theorem dX7_agree_4 : decode cX7_agree 4 = .ok (.iload_n 1, 1) := by decide +kernel
theorem dX7_agree_5 : decode cX7_agree 5 = .ok (.iload_n 2, 1) := by decide +kernel
theorem dX7_agree_6 : decode cX7_agree 6 = .ok (.invokevirtual 121, 3) := by decide +kernel
theorem dX7_agree_9 : decode cX7_agree 9 = .ok (.ifCond .ne 9, 3) := by decide +kernel
theorem dX7_agree_12 : decode cX7_agree 12 = .ok (.aload_n 0, 1) := by decide +kernel
theorem dX7_agree_13 : decode cX7_agree 13 = .ok (.iconst 0, 1) := by decide +kernel
theorem dX7_agree_14 : decode cX7_agree 14 = .ok (.invokevirtual 71, 3) := by decide +kernel
theorem dX7_agree_17 : decode cX7_agree 17 = .ok (.ireturn, 1) := by decide +kernel
theorem dX7_agree_18 : decode cX7_agree 18 = .ok (.aload_n 0, 1) := by decide +kernel
theorem dX7_agree_19 : decode cX7_agree 19 = .ok (.getfield 29, 3) := by decide +kernel
theorem dX7_agree_22 : decode cX7_agree 22 = .ok (.aload_n 0, 1) := by decide +kernel
theorem dX7_agree_23 : decode cX7_agree 23 = .ok (.getfield 10, 3) := by decide +kernel
theorem dX7_agree_26 : decode cX7_agree 26 = .ok (.iload_n 1, 1) := by decide +kernel
theorem dX7_agree_27 : decode cX7_agree 27 = .ok (.iload_n 2, 1) := by decide +kernel
theorem dX7_agree_28 : decode cX7_agree 28 = .ok (.invokevirtual 172, 3) := by decide +kernel
theorem dX7_agree_31 : decode cX7_agree 31 = .ok (.aload_n 0, 1) := by decide +kernel
theorem dX7_agree_32 : decode cX7_agree 32 = .ok (.getfield 29, 3) := by decide +kernel
theorem dX7_agree_35 : decode cX7_agree 35 = .ok (.invokevirtual 176, 3) := by decide +kernel
theorem dX7_agree_38 : decode cX7_agree 38 = .ok (.ireturn, 1) := by decide +kernel
set_option maxRecDepth 20000 in
theorem ggX7_changes_X1_areTwo : GoodIn wsX7_changes wsX1_areTwo := goodIn_r _ [7, 8, 9, 10, 6, 11, 12, 75, 76, 77, 78, 79, 80, 81, 82, 83, 84, 85, 86] (by decide +kernel) (by decide +kernel)
set_option maxRecDepth 20000 in
theorem gX7_changes_X1_areTwo : GoodIn wsX7_changes (wsV RX7 121 RX1 yX1_areTwo wsX1_areTwo) := goodIn_app (goodIn_of _ (by decide +kernel)) ggX7_changes_X1_areTwo
set_option maxRecDepth 20000 in
theorem ggX7_changes_X7_found : GoodIn wsX7_changes wsX7_found := goodIn_r _ [17, 18, 19, 65, 66, 67, 68, 69, 70, 71, 72, 73, 74] (by decide +kernel) (by decide +kernel)
set_option maxRecDepth 20000 in
theorem gX7_changes_X7_found : GoodIn wsX7_changes (wsV RX7 71 RX7 yX7_found wsX7_found) := goodIn_app (goodIn_of _ (by decide +kernel)) ggX7_changes_X7_found
set_option maxRecDepth 20000 in
theorem ggX7_changes_X0_make : GoodIn wsX7_changes wsX0_make := goodIn_r _ [24, 25, 26, 27, 28, 29, 30, 31, 32, 33, 34, 35, 36, 37, 38, 4, 5, 6, 7, 8, 9, 10, 11, 12, 39, 40, 41, 42, 43, 44, 45, 46, 47, 23, 48, 49, 50, 51, 52, 53, 54, 16, 55, 56, 57, 58, 59, 60, 87, 88, 89, 90, 91, 92, 75, 76, 77, 78, 79, 80, 81, 82, 83, 84, 85, 86] (by decide +kernel) (by decide +kernel)
set_option maxRecDepth 20000 in
theorem gX7_changes_X0_make : GoodIn wsX7_changes (wsV RX7 172 RX0 yX0_make wsX0_make) := goodIn_app (goodIn_of _ (by decide +kernel)) ggX7_changes_X0_make
set_option maxRecDepth 20000 in
theorem ggX7_changes_X0_countChanges : GoodIn wsX7_changes wsX0_countChanges := goodIn_r _ [64, 36, 60, 54, 16, 55, 87, 88, 89, 90, 91, 92] (by decide +kernel) (by decide +kernel)
set_option maxRecDepth 20000 in
theorem gX7_changes_X0_countChanges : GoodIn wsX7_changes (wsV RX7 179 RX0 yX0_countChanges wsX0_countChanges) := goodIn_app (goodIn_of _ (by decide +kernel)) ggX7_changes_X0_countChanges
theorem dX7_changes_0 : decode cX7_changes 0 = .ok (.aload_n 0, 1) := by decide +kernel
theorem dX7_changes_1 : decode cX7_changes 1 = .ok (.getfield 10, 3) := by decide +kernel
theorem dX7_changes_4 : decode cX7_changes 4 = .ok (.iload_n 1, 1) := by decide +kernel
theorem dX7_changes_5 : decode cX7_changes 5 = .ok (.iload_n 2, 1) := by decide +kernel
theorem dX7_changes_6 : decode cX7_changes 6 = .ok (.invokevirtual 121, 3) := by decide +kernel
theorem dX7_changes_9 : decode cX7_changes 9 = .ok (.ifCond .ne 9, 3) := by decide +kernel
theorem dX7_changes_12 : decode cX7_changes 12 = .ok (.aload_n 0, 1) := by decide +kernel
theorem dX7_changes_13 : decode cX7_changes 13 = .ok (.iconst 0, 1) := by decide +kernel
theorem dX7_changes_14 : decode cX7_changes 14 = .ok (.invokevirtual 71, 3) := by decide +kernel
theorem dX7_changes_17 : decode cX7_changes 17 = .ok (.ireturn, 1) := by decide +kernel
theorem dX7_changes_18 : decode cX7_changes 18 = .ok (.aload_n 0, 1) := by decide +kernel
theorem dX7_changes_19 : decode cX7_changes 19 = .ok (.getfield 29, 3) := by decide +kernel
theorem dX7_changes_22 : decode cX7_changes 22 = .ok (.aload_n 0, 1) := by decide +kernel
theorem dX7_changes_23 : decode cX7_changes 23 = .ok (.getfield 10, 3) := by decide +kernel
theorem dX7_changes_26 : decode cX7_changes 26 = .ok (.iload_n 1, 1) := by decide +kernel
theorem dX7_changes_27 : decode cX7_changes 27 = .ok (.iload_n 2, 1) := by decide +kernel
theorem dX7_changes_28 : decode cX7_changes 28 = .ok (.invokevirtual 172, 3) := by decide +kernel
theorem dX7_changes_31 : decode cX7_changes 31 = .ok (.aload_n 0, 1) := by decide +kernel
theorem dX7_changes_32 : decode cX7_changes 32 = .ok (.getfield 29, 3) := by decide +kernel
theorem dX7_changes_35 : decode cX7_changes 35 = .ok (.invokevirtual 179, 3) := by decide +kernel
theorem dX7_changes_38 : decode cX7_changes 38 = .ok (.ireturn, 1) := by decide +kernel
set_option maxRecDepth 20000 in
theorem ggX7_holder_X1_areTwo : GoodIn wsX7_holder wsX1_areTwo := goodIn_r _ [7, 8, 9, 10, 6, 11, 12, 78, 79, 80, 81, 82, 83, 84, 85, 86, 87, 88, 89] (by decide +kernel) (by decide +kernel)
set_option maxRecDepth 20000 in
theorem gX7_holder_X1_areTwo : GoodIn wsX7_holder (wsV RX7 121 RX1 yX1_areTwo wsX1_areTwo) := goodIn_app (goodIn_of _ (by decide +kernel)) ggX7_holder_X1_areTwo
set_option maxRecDepth 20000 in
theorem ggX7_holder_X7_isWithin : GoodIn wsX7_holder wsX7_isWithin := goodIn_r _ [16] (by decide +kernel) (by decide +kernel)
set_option maxRecDepth 20000 in
theorem gX7_holder_X7_isWithin : GoodIn wsX7_holder (va_wsS RX7 67 yX7_isWithin wsX7_isWithin) := goodIn_app (goodIn_of _ (by decide +kernel)) ggX7_holder_X7_isWithin
set_option maxRecDepth 20000 in
theorem ggX7_holder_X7_found : GoodIn wsX7_holder wsX7_found := goodIn_r _ [20, 21, 22, 68, 69, 70, 71, 72, 73, 74, 75, 76, 77] (by decide +kernel) (by decide +kernel)
set_option maxRecDepth 20000 in
theorem gX7_holder_X7_found : GoodIn wsX7_holder (wsV RX7 71 RX7 yX7_found wsX7_found) := goodIn_app (goodIn_of _ (by decide +kernel)) ggX7_holder_X7_found
set_option maxRecDepth 20000 in
theorem ggX7_holder_X0_make : GoodIn wsX7_holder wsX0_make := goodIn_r _ [27, 28, 29, 30, 31, 32, 33, 34, 35, 36, 37, 38, 39, 40, 41, 4, 5, 6, 7, 8, 9, 10, 11, 12, 42, 43, 44, 45, 46, 47, 48, 49, 50, 26, 51, 52, 53, 54, 55, 56, 57, 15, 58, 59, 60, 61, 62, 63, 90, 91, 92, 93, 94, 95, 78, 79, 80, 81, 82, 83, 84, 85, 86, 87, 88, 89] (by decide +kernel) (by decide +kernel)
set_option maxRecDepth 20000 in
theorem gX7_holder_X0_make : GoodIn wsX7_holder (wsV RX7 172 RX0 yX0_make wsX0_make) := goodIn_app (goodIn_of _ (by decide +kernel)) ggX7_holder_X0_make
set_option maxRecDepth 20000 in
theorem ggX7_holder_X0_holderAt : GoodIn wsX7_holder wsX0_holderAt := goodIn_r _ [67, 39, 28, 63, 57, 15, 58, 90, 91, 92, 93, 94, 95] (by decide +kernel) (by decide +kernel)
set_option maxRecDepth 20000 in
theorem gX7_holder_X0_holderAt : GoodIn wsX7_holder (wsV RX7 182 RX0 yX0_holderAt wsX0_holderAt) := goodIn_app (goodIn_of _ (by decide +kernel)) ggX7_holder_X0_holderAt
theorem dX7_holder_0 : decode cX7_holder 0 = .ok (.aload_n 0, 1) := by decide +kernel
theorem dX7_holder_1 : decode cX7_holder 1 = .ok (.getfield 10, 3) := by decide +kernel
theorem dX7_holder_4 : decode cX7_holder 4 = .ok (.iload_n 1, 1) := by decide +kernel
theorem dX7_holder_5 : decode cX7_holder 5 = .ok (.iload_n 2, 1) := by decide +kernel
theorem dX7_holder_6 : decode cX7_holder 6 = .ok (.invokevirtual 121, 3) := by decide +kernel
theorem dX7_holder_9 : decode cX7_holder 9 = .ok (.ifCond .eq 12, 3) := by decide +kernel
theorem dX7_holder_12 : decode cX7_holder 12 = .ok (.iload_n 3, 1) := by decide +kernel
theorem dX7_holder_13 : decode cX7_holder 13 = .ok (.bipush 15, 2) := by decide +kernel
theorem dX7_holder_15 : decode cX7_holder 15 = .ok (.invokestatic 67, 3) := by decide +kernel
theorem dX7_holder_18 : decode cX7_holder 18 = .ok (.ifCond .ne 9, 3) := by decide +kernel
theorem dX7_holder_21 : decode cX7_holder 21 = .ok (.aload_n 0, 1) := by decide +kernel
theorem dX7_holder_22 : decode cX7_holder 22 = .ok (.iconst 0, 1) := by decide +kernel
theorem dX7_holder_23 : decode cX7_holder 23 = .ok (.invokevirtual 71, 3) := by decide +kernel
theorem dX7_holder_26 : decode cX7_holder 26 = .ok (.ireturn, 1) := by decide +kernel
theorem dX7_holder_27 : decode cX7_holder 27 = .ok (.aload_n 0, 1) := by decide +kernel
theorem dX7_holder_28 : decode cX7_holder 28 = .ok (.getfield 29, 3) := by decide +kernel
theorem dX7_holder_31 : decode cX7_holder 31 = .ok (.aload_n 0, 1) := by decide +kernel
theorem dX7_holder_32 : decode cX7_holder 32 = .ok (.getfield 10, 3) := by decide +kernel
theorem dX7_holder_35 : decode cX7_holder 35 = .ok (.iload_n 1, 1) := by decide +kernel
theorem dX7_holder_36 : decode cX7_holder 36 = .ok (.iload_n 2, 1) := by decide +kernel
theorem dX7_holder_37 : decode cX7_holder 37 = .ok (.invokevirtual 172, 3) := by decide +kernel
theorem dX7_holder_40 : decode cX7_holder 40 = .ok (.aload_n 0, 1) := by decide +kernel
theorem dX7_holder_41 : decode cX7_holder 41 = .ok (.getfield 29, 3) := by decide +kernel
theorem dX7_holder_44 : decode cX7_holder 44 = .ok (.iload_n 3, 1) := by decide +kernel
theorem dX7_holder_45 : decode cX7_holder 45 = .ok (.invokevirtual 182, 3) := by decide +kernel
theorem dX7_holder_48 : decode cX7_holder 48 = .ok (.istore 4, 2) := by decide +kernel
theorem dX7_holder_50 : decode cX7_holder 50 = .ok (.iload 4, 2) := by decide +kernel
theorem dX7_holder_52 : decode cX7_holder 52 = .ok (.iconst (-1), 1) := by decide +kernel
theorem dX7_holder_53 : decode cX7_holder 53 = .ok (.if_icmp .ne 11, 3) := by decide +kernel
theorem dX7_holder_56 : decode cX7_holder 56 = .ok (.aload_n 0, 1) := by decide +kernel
theorem dX7_holder_57 : decode cX7_holder 57 = .ok (.iconst 3, 1) := by decide +kernel
theorem dX7_holder_58 : decode cX7_holder 58 = .ok (.invokevirtual 71, 3) := by decide +kernel
theorem dX7_holder_61 : decode cX7_holder 61 = .ok (.goto 5, 3) := by decide +kernel
theorem dX7_holder_64 : decode cX7_holder 64 = .ok (.iload 4, 2) := by decide +kernel
theorem dX7_holder_66 : decode cX7_holder 66 = .ok (.ireturn, 1) := by decide +kernel
set_option maxRecDepth 20000 in
theorem ggX7_gain_X1_areTwo : GoodIn wsX7_gain wsX1_areTwo := goodIn_r _ [9, 10, 11, 12, 8, 13, 14, 174, 175, 176, 177, 178, 179, 180, 181, 182, 183, 184, 185] (by decide +kernel) (by decide +kernel)
set_option maxRecDepth 20000 in
theorem gX7_gain_X1_areTwo : GoodIn wsX7_gain (wsV RX7 121 RX1 yX1_areTwo wsX1_areTwo) := goodIn_app (goodIn_of _ (by decide +kernel)) ggX7_gain_X1_areTwo
set_option maxRecDepth 20000 in
theorem ggX7_gain_X7_found : GoodIn wsX7_gain wsX7_found := goodIn_r _ [19, 20, 21, 160, 161, 162, 163, 164, 165, 166, 167, 168, 169] (by decide +kernel) (by decide +kernel)
set_option maxRecDepth 20000 in
theorem gX7_gain_X7_found : GoodIn wsX7_gain (wsV RX7 71 RX7 yX7_found wsX7_found) := goodIn_app (goodIn_of _ (by decide +kernel)) ggX7_gain_X7_found
set_option maxRecDepth 20000 in
theorem ggX7_gain_X0_make : GoodIn wsX7_gain wsX0_make := goodIn_r _ [26, 27, 28, 29, 30, 31, 32, 33, 34, 35, 36, 37, 38, 39, 40, 6, 7, 8, 9, 10, 11, 12, 13, 14, 41, 42, 43, 44, 45, 46, 47, 48, 49, 25, 50, 51, 52, 53, 54, 55, 56, 18, 57, 58, 59, 60, 61, 62, 186, 187, 188, 189, 190, 191, 174, 175, 176, 177, 178, 179, 180, 181, 182, 183, 184, 185] (by decide +kernel) (by decide +kernel)
set_option maxRecDepth 20000 in
theorem gX7_gain_X0_make : GoodIn wsX7_gain (wsV RX7 172 RX0 yX0_make wsX0_make) := goodIn_app (goodIn_of _ (by decide +kernel)) ggX7_gain_X0_make
set_option maxRecDepth 20000 in
theorem ggX7_gain_X4_begin : GoodIn wsX7_gain wsX4_begin := goodIn_r _ [67, 68, 69, 70, 71, 72, 73, 74, 8, 75, 76, 77, 78, 79, 80, 81, 82, 83, 84, 85, 14, 86, 46, 87, 88, 89, 90, 42, 43, 44, 45, 170, 171, 172, 173, 174, 175, 176, 177, 178, 179, 180, 181, 182, 183, 184, 185] (by decide +kernel) (by decide +kernel)
set_option maxRecDepth 20000 in
theorem gX7_gain_X4_begin : GoodIn wsX7_gain (wsV RX7 163 RX4 yX4_begin wsX4_begin) := goodIn_app (goodIn_of _ (by decide +kernel)) ggX7_gain_X4_begin
set_option maxRecDepth 20000 in
theorem ggX7_gain_X1_join : GoodIn wsX7_gain wsX1_join := goodIn_r _ [94, 84, 95, 6, 7, 8, 9, 10, 11, 12, 13, 14, 96, 97, 98, 99, 174, 175, 176, 177, 178, 179, 180, 181, 182, 183, 184, 185] (by decide +kernel) (by decide +kernel)
set_option maxRecDepth 20000 in
theorem gX7_gain_X1_join : GoodIn wsX7_gain (wsV RX7 124 RX1 yX1_join wsX1_join) := goodIn_app (goodIn_of _ (by decide +kernel)) ggX7_gain_X1_join
set_option maxRecDepth 20000 in
theorem ggX7_gain_X4_run : GoodIn wsX7_gain wsX4_run := goodIn_r _ [103, 70, 104, 68, 105, 106, 107, 8, 108, 46, 86, 14, 84, 56, 18, 57, 109, 110, 111, 112, 113, 29, 30, 31, 114, 33, 34, 115, 116, 117, 118, 81, 76, 82, 119, 120, 121, 122, 83, 123, 124, 125, 126, 87, 88, 170, 171, 172, 173, 174, 175, 176, 177, 178, 179, 180, 181, 182, 183, 184, 185] (by decide +kernel) (by decide +kernel)
set_option maxRecDepth 20000 in
theorem gX7_gain_X4_run : GoodIn wsX7_gain (wsV RX7 169 RX4 yX4_run wsX4_run) := goodIn_app (goodIn_of _ (by decide +kernel)) ggX7_gain_X4_run
set_option maxRecDepth 20000 in
theorem ggX7_gain_X0_metOfBoth : GoodIn wsX7_gain wsX0_metOfBoth := goodIn_r _ [130, 131, 132, 133, 25, 134, 35, 39, 62, 135, 18, 136, 137, 138, 139, 140, 141, 142, 143, 186, 187, 188, 189, 190, 191] (by decide +kernel) (by decide +kernel)
set_option maxRecDepth 20000 in
theorem gX7_gain_X0_metOfBoth : GoodIn wsX7_gain (wsV RX7 176 RX0 yX0_metOfBoth wsX0_metOfBoth) := goodIn_app (goodIn_of _ (by decide +kernel)) ggX7_gain_X0_metOfBoth
set_option maxRecDepth 20000 in
theorem ggX7_gain_X4_metOf : GoodIn wsX7_gain wsX4_metOf := goodIn_r _ [147, 68, 148, 149, 11, 12, 8, 13, 14, 150, 151, 152, 66, 153, 154, 71, 155, 156, 157, 158, 104, 56, 18, 57, 159, 138, 139, 140, 141, 142, 143, 170, 171, 172, 173, 174, 175, 176, 177, 178, 179, 180, 181, 182, 183, 184, 185] (by decide +kernel) (by decide +kernel)
set_option maxRecDepth 20000 in
theorem gX7_gain_X4_metOf : GoodIn wsX7_gain (wsV RX7 148 RX4 yX4_metOf wsX4_metOf) := goodIn_app (goodIn_of _ (by decide +kernel)) ggX7_gain_X4_metOf
theorem dX7_gain_0 : decode cX7_gain 0 = .ok (.aload_n 0, 1) := by decide +kernel
theorem dX7_gain_1 : decode cX7_gain 1 = .ok (.getfield 10, 3) := by decide +kernel
theorem dX7_gain_4 : decode cX7_gain 4 = .ok (.iload_n 1, 1) := by decide +kernel
theorem dX7_gain_5 : decode cX7_gain 5 = .ok (.iload_n 2, 1) := by decide +kernel
theorem dX7_gain_6 : decode cX7_gain 6 = .ok (.invokevirtual 121, 3) := by decide +kernel
theorem dX7_gain_9 : decode cX7_gain 9 = .ok (.ifCond .ne 9, 3) := by decide +kernel
theorem dX7_gain_12 : decode cX7_gain 12 = .ok (.aload_n 0, 1) := by decide +kernel
theorem dX7_gain_13 : decode cX7_gain 13 = .ok (.iconst 0, 1) := by decide +kernel
theorem dX7_gain_14 : decode cX7_gain 14 = .ok (.invokevirtual 71, 3) := by decide +kernel
theorem dX7_gain_17 : decode cX7_gain 17 = .ok (.ireturn, 1) := by decide +kernel
theorem dX7_gain_18 : decode cX7_gain 18 = .ok (.aload_n 0, 1) := by decide +kernel
theorem dX7_gain_19 : decode cX7_gain 19 = .ok (.getfield 29, 3) := by decide +kernel
theorem dX7_gain_22 : decode cX7_gain 22 = .ok (.aload_n 0, 1) := by decide +kernel
theorem dX7_gain_23 : decode cX7_gain 23 = .ok (.getfield 10, 3) := by decide +kernel
theorem dX7_gain_26 : decode cX7_gain 26 = .ok (.iload_n 1, 1) := by decide +kernel
theorem dX7_gain_27 : decode cX7_gain 27 = .ok (.iload_n 2, 1) := by decide +kernel
theorem dX7_gain_28 : decode cX7_gain 28 = .ok (.invokevirtual 172, 3) := by decide +kernel
theorem dX7_gain_31 : decode cX7_gain 31 = .ok (.aload_n 0, 1) := by decide +kernel
theorem dX7_gain_32 : decode cX7_gain 32 = .ok (.getfield 22, 3) := by decide +kernel
theorem dX7_gain_35 : decode cX7_gain 35 = .ok (.aload_n 0, 1) := by decide +kernel
theorem dX7_gain_36 : decode cX7_gain 36 = .ok (.getfield 10, 3) := by decide +kernel
theorem dX7_gain_39 : decode cX7_gain 39 = .ok (.invokevirtual 163, 3) := by decide +kernel
theorem dX7_gain_42 : decode cX7_gain 42 = .ok (.aload_n 0, 1) := by decide +kernel
theorem dX7_gain_43 : decode cX7_gain 43 = .ok (.getfield 22, 3) := by decide +kernel
theorem dX7_gain_46 : decode cX7_gain 46 = .ok (.getfield 166, 3) := by decide +kernel
theorem dX7_gain_49 : decode cX7_gain 49 = .ok (.iload_n 1, 1) := by decide +kernel
theorem dX7_gain_50 : decode cX7_gain 50 = .ok (.iload_n 2, 1) := by decide +kernel
theorem dX7_gain_51 : decode cX7_gain 51 = .ok (.invokevirtual 124, 3) := by decide +kernel
theorem dX7_gain_54 : decode cX7_gain 54 = .ok (.aload_n 0, 1) := by decide +kernel
theorem dX7_gain_55 : decode cX7_gain 55 = .ok (.getfield 22, 3) := by decide +kernel
theorem dX7_gain_58 : decode cX7_gain 58 = .ok (.invokevirtual 169, 3) := by decide +kernel
theorem dX7_gain_61 : decode cX7_gain 61 = .ok (.aload_n 0, 1) := by decide +kernel
theorem dX7_gain_62 : decode cX7_gain 62 = .ok (.getfield 29, 3) := by decide +kernel
theorem dX7_gain_65 : decode cX7_gain 65 = .ok (.invokevirtual 176, 3) := by decide +kernel
theorem dX7_gain_68 : decode cX7_gain 68 = .ok (.aload_n 0, 1) := by decide +kernel
theorem dX7_gain_69 : decode cX7_gain 69 = .ok (.getfield 22, 3) := by decide +kernel
theorem dX7_gain_72 : decode cX7_gain 72 = .ok (.iload_n 1, 1) := by decide +kernel
theorem dX7_gain_73 : decode cX7_gain 73 = .ok (.invokevirtual 148, 3) := by decide +kernel
theorem dX7_gain_76 : decode cX7_gain 76 = .ok (.isub, 1) := by decide +kernel
theorem dX7_gain_77 : decode cX7_gain 77 = .ok (.aload_n 0, 1) := by decide +kernel
theorem dX7_gain_78 : decode cX7_gain 78 = .ok (.getfield 22, 3) := by decide +kernel
theorem dX7_gain_81 : decode cX7_gain 81 = .ok (.iload_n 2, 1) := by decide +kernel
theorem dX7_gain_82 : decode cX7_gain 82 = .ok (.invokevirtual 148, 3) := by decide +kernel
theorem dX7_gain_85 : decode cX7_gain 85 = .ok (.isub, 1) := by decide +kernel
theorem dX7_gain_86 : decode cX7_gain 86 = .ok (.ireturn, 1) := by decide +kernel
set_option maxRecDepth 20000 in
theorem ggX7_pairs_X7_weighByAgreements : GoodIn wsX7_pairs wsX7_weighByAgreements := goodIn_r _ [7, 2, 8, 1, 9, 10, 11, 12, 13, 14, 15, 16, 17, 18, 19, 20, 21, 22, 23, 24, 25, 26, 27, 28, 29, 30, 31, 6, 32, 33, 34, 35, 36, 37, 38, 39, 40, 41, 42, 43, 44, 45, 46, 47, 48, 49, 50, 51, 52, 53, 54, 55, 56, 57, 58, 59, 60, 61, 62, 63, 64, 65, 66, 67, 68, 69, 70, 71, 72, 73, 74, 75, 76, 77, 78, 79, 80, 81, 82, 83, 84, 85, 86, 87, 88, 89, 90, 91, 92, 93, 94, 95, 96, 97, 98, 99, 100, 101, 102, 103, 104, 105, 106, 107, 108, 109, 110, 111, 112, 113, 114, 115, 116, 121, 122, 123, 124, 125, 126, 127, 128, 129, 130, 131, 132, 133, 134, 135, 136, 137, 138, 139, 140, 141, 142, 143, 144, 145, 146, 147, 148, 149, 150, 151] (by decide +kernel) (by decide +kernel)
set_option maxRecDepth 20000 in
theorem gX7_pairs_X7_weighByAgreements : GoodIn wsX7_pairs (wsV RX7 185 RX7 yX7_weighByAgreements wsX7_weighByAgreements) := goodIn_app (goodIn_of _ (by decide +kernel)) ggX7_pairs_X7_weighByAgreements
set_option maxRecDepth 20000 in
theorem ggX7_pairs_X1_everybody : GoodIn wsX7_pairs wsX1_everybody := goodIn_r _ [89, 59, 131, 132, 133, 134, 135, 136, 137, 138, 139, 140, 141, 142] (by decide +kernel) (by decide +kernel)
set_option maxRecDepth 20000 in
theorem gX7_pairs_X1_everybody : GoodIn wsX7_pairs (wsV RX7 188 RX1 yX1_everybody wsX1_everybody) := goodIn_app (goodIn_of _ (by decide +kernel)) ggX7_pairs_X1_everybody
set_option maxRecDepth 20000 in
theorem ggX7_pairs_X2_bestOf : GoodIn wsX7_pairs wsX2_bestOf := goodIn_r _ [120, 94, 31, 6, 32, 143, 144, 145] (by decide +kernel) (by decide +kernel)
set_option maxRecDepth 20000 in
theorem gX7_pairs_X2_bestOf : GoodIn wsX7_pairs (wsV RX7 191 RX2 yX2_bestOf wsX2_bestOf) := goodIn_app (goodIn_of _ (by decide +kernel)) ggX7_pairs_X2_bestOf
theorem dX7_pairs_0 : decode cX7_pairs 0 = .ok (.aload_n 0, 1) := by decide +kernel
theorem dX7_pairs_1 : decode cX7_pairs 1 = .ok (.invokevirtual 185, 3) := by decide +kernel
theorem dX7_pairs_4 : decode cX7_pairs 4 = .ok (.aload_n 0, 1) := by decide +kernel
theorem dX7_pairs_5 : decode cX7_pairs 5 = .ok (.getfield 36, 3) := by decide +kernel
theorem dX7_pairs_8 : decode cX7_pairs 8 = .ok (.aload_n 0, 1) := by decide +kernel
theorem dX7_pairs_9 : decode cX7_pairs 9 = .ok (.getfield 10, 3) := by decide +kernel
theorem dX7_pairs_12 : decode cX7_pairs 12 = .ok (.invokevirtual 188, 3) := by decide +kernel
theorem dX7_pairs_15 : decode cX7_pairs 15 = .ok (.invokevirtual 191, 3) := by decide +kernel
theorem dX7_pairs_18 : decode cX7_pairs 18 = .ok (.ireturn, 1) := by decide +kernel
set_option maxRecDepth 20000 in
theorem ggX7_mate_X1_isPerson : GoodIn wsX7_mate wsX1_isPerson := goodIn_r _ [7, 8, 142, 143, 144, 145, 146, 147, 148, 149, 150, 151, 152, 153] (by decide +kernel) (by decide +kernel)
set_option maxRecDepth 20000 in
theorem gX7_mate_X1_isPerson : GoodIn wsX7_mate (wsV RX7 82 RX1 yX1_isPerson wsX1_isPerson) := goodIn_app (goodIn_of _ (by decide +kernel)) ggX7_mate_X1_isPerson
set_option maxRecDepth 20000 in
theorem ggX7_mate_X7_found : GoodIn wsX7_mate wsX7_found := goodIn_r _ [13, 14, 15, 132, 133, 134, 135, 136, 137, 138, 139, 140, 141] (by decide +kernel) (by decide +kernel)
set_option maxRecDepth 20000 in
theorem gX7_mate_X7_found : GoodIn wsX7_mate (wsV RX7 71 RX7 yX7_found wsX7_found) := goodIn_app (goodIn_of _ (by decide +kernel)) ggX7_mate_X7_found
set_option maxRecDepth 20000 in
theorem ggX7_mate_X7_weighByAgreements : GoodIn wsX7_mate wsX7_weighByAgreements := goodIn_r _ [19, 1, 20, 2, 21, 22, 23, 24, 25, 6, 26, 27, 28, 29, 30, 31, 32, 33, 34, 35, 36, 37, 38, 39, 40, 41, 42, 12, 43, 44, 45, 46, 47, 48, 49, 50, 51, 52, 53, 54, 55, 56, 57, 58, 59, 60, 61, 62, 63, 64, 65, 66, 4, 5, 7, 8, 67, 68, 69, 70, 71, 72, 73, 74, 75, 76, 77, 78, 79, 80, 81, 82, 83, 84, 85, 86, 87, 88, 89, 90, 91, 92, 93, 94, 95, 96, 97, 98, 99, 100, 101, 102, 103, 104, 105, 106, 107, 108, 109, 110, 111, 112, 113, 114, 115, 116, 117, 118, 119, 120, 121, 122, 123, 132, 133, 134, 135, 136, 137, 138, 139, 140, 141, 142, 143, 144, 145, 146, 147, 148, 149, 150, 151, 152, 153, 154, 155, 156, 157, 158, 159, 160, 161, 162] (by decide +kernel) (by decide +kernel)
set_option maxRecDepth 20000 in
theorem gX7_mate_X7_weighByAgreements : GoodIn wsX7_mate (wsV RX7 185 RX7 yX7_weighByAgreements wsX7_weighByAgreements) := goodIn_app (goodIn_of _ (by decide +kernel)) ggX7_mate_X7_weighByAgreements
set_option maxRecDepth 20000 in
theorem ggX7_mate_X1_everybody : GoodIn wsX7_mate wsX1_everybody := goodIn_r _ [96, 8, 142, 143, 144, 145, 146, 147, 148, 149, 150, 151, 152, 153] (by decide +kernel) (by decide +kernel)
set_option maxRecDepth 20000 in
theorem gX7_mate_X1_everybody : GoodIn wsX7_mate (wsV RX7 188 RX1 yX1_everybody wsX1_everybody) := goodIn_app (goodIn_of _ (by decide +kernel)) ggX7_mate_X1_everybody
set_option maxRecDepth 20000 in
theorem ggX7_mate_X2_firstMateOf : GoodIn wsX7_mate wsX2_firstMateOf := goodIn_r _ [127, 101, 107, 108, 39, 109, 77, 12, 78, 128, 129, 130, 131, 110, 111, 112, 113, 114, 30, 31, 32, 33, 34, 35, 115, 116, 117, 118, 41, 119, 51, 52, 53, 120, 55, 56, 121, 122, 123, 154, 155, 156] (by decide +kernel) (by decide +kernel)
set_option maxRecDepth 20000 in
theorem gX7_mate_X2_firstMateOf : GoodIn wsX7_mate (wsV RX7 194 RX2 yX2_firstMateOf wsX2_firstMateOf) := goodIn_app (goodIn_of _ (by decide +kernel)) ggX7_mate_X2_firstMateOf
theorem dX7_mate_0 : decode cX7_mate 0 = .ok (.aload_n 0, 1) := by decide +kernel
theorem dX7_mate_1 : decode cX7_mate 1 = .ok (.getfield 10, 3) := by decide +kernel
theorem dX7_mate_4 : decode cX7_mate 4 = .ok (.iload_n 1, 1) := by decide +kernel
theorem dX7_mate_5 : decode cX7_mate 5 = .ok (.invokevirtual 82, 3) := by decide +kernel
theorem dX7_mate_8 : decode cX7_mate 8 = .ok (.ifCond .ne 9, 3) := by decide +kernel
theorem dX7_mate_11 : decode cX7_mate 11 = .ok (.aload_n 0, 1) := by decide +kernel
theorem dX7_mate_12 : decode cX7_mate 12 = .ok (.iconst 0, 1) := by decide +kernel
theorem dX7_mate_13 : decode cX7_mate 13 = .ok (.invokevirtual 71, 3) := by decide +kernel
theorem dX7_mate_16 : decode cX7_mate 16 = .ok (.ireturn, 1) := by decide +kernel
theorem dX7_mate_17 : decode cX7_mate 17 = .ok (.aload_n 0, 1) := by decide +kernel
theorem dX7_mate_18 : decode cX7_mate 18 = .ok (.invokevirtual 185, 3) := by decide +kernel
theorem dX7_mate_21 : decode cX7_mate 21 = .ok (.aload_n 0, 1) := by decide +kernel
theorem dX7_mate_22 : decode cX7_mate 22 = .ok (.getfield 36, 3) := by decide +kernel
theorem dX7_mate_25 : decode cX7_mate 25 = .ok (.iload_n 1, 1) := by decide +kernel
theorem dX7_mate_26 : decode cX7_mate 26 = .ok (.aload_n 0, 1) := by decide +kernel
theorem dX7_mate_27 : decode cX7_mate 27 = .ok (.getfield 10, 3) := by decide +kernel
theorem dX7_mate_30 : decode cX7_mate 30 = .ok (.invokevirtual 188, 3) := by decide +kernel
theorem dX7_mate_33 : decode cX7_mate 33 = .ok (.invokevirtual 194, 3) := by decide +kernel
theorem dX7_mate_36 : decode cX7_mate 36 = .ok (.ireturn, 1) := by decide +kernel
set_option maxRecDepth 20000 in
theorem ggX7_ways_X7_weighByAgreements : GoodIn wsX7_ways wsX7_weighByAgreements := goodIn_r _ [7, 2, 8, 1, 9, 10, 11, 12, 13, 14, 15, 16, 17, 18, 19, 20, 21, 22, 23, 24, 25, 26, 27, 28, 29, 30, 31, 6, 32, 33, 34, 35, 36, 37, 38, 39, 40, 41, 42, 43, 44, 45, 46, 47, 48, 49, 50, 51, 52, 53, 54, 55, 56, 57, 58, 59, 60, 61, 62, 63, 64, 65, 66, 67, 68, 69, 70, 71, 72, 73, 74, 75, 76, 77, 78, 79, 80, 81, 82, 83, 84, 85, 86, 87, 88, 89, 90, 91, 92, 93, 94, 95, 96, 97, 98, 99, 100, 101, 102, 103, 104, 105, 106, 107, 108, 109, 110, 111, 112, 113, 114, 115, 116, 121, 122, 123, 124, 125, 126, 127, 128, 129, 130, 131, 132, 133, 134, 135, 136, 137, 138, 139, 140, 141, 142, 143, 144, 145, 146, 147, 148, 149, 150, 151] (by decide +kernel) (by decide +kernel)
set_option maxRecDepth 20000 in
theorem gX7_ways_X7_weighByAgreements : GoodIn wsX7_ways (wsV RX7 185 RX7 yX7_weighByAgreements wsX7_weighByAgreements) := goodIn_app (goodIn_of _ (by decide +kernel)) ggX7_ways_X7_weighByAgreements
set_option maxRecDepth 20000 in
theorem ggX7_ways_X1_everybody : GoodIn wsX7_ways wsX1_everybody := goodIn_r _ [89, 59, 131, 132, 133, 134, 135, 136, 137, 138, 139, 140, 141, 142] (by decide +kernel) (by decide +kernel)
set_option maxRecDepth 20000 in
theorem gX7_ways_X1_everybody : GoodIn wsX7_ways (wsV RX7 188 RX1 yX1_everybody wsX1_everybody) := goodIn_app (goodIn_of _ (by decide +kernel)) ggX7_ways_X1_everybody
set_option maxRecDepth 20000 in
theorem ggX7_ways_X2_waysOf : GoodIn wsX7_ways wsX2_waysOf := goodIn_r _ [120, 95, 31, 6, 32, 143, 144, 145] (by decide +kernel) (by decide +kernel)
set_option maxRecDepth 20000 in
theorem gX7_ways_X2_waysOf : GoodIn wsX7_ways (wsV RX7 197 RX2 yX2_waysOf wsX2_waysOf) := goodIn_app (goodIn_of _ (by decide +kernel)) ggX7_ways_X2_waysOf
theorem dX7_ways_0 : decode cX7_ways 0 = .ok (.aload_n 0, 1) := by decide +kernel
theorem dX7_ways_1 : decode cX7_ways 1 = .ok (.invokevirtual 185, 3) := by decide +kernel
theorem dX7_ways_4 : decode cX7_ways 4 = .ok (.aload_n 0, 1) := by decide +kernel
theorem dX7_ways_5 : decode cX7_ways 5 = .ok (.getfield 36, 3) := by decide +kernel
theorem dX7_ways_8 : decode cX7_ways 8 = .ok (.aload_n 0, 1) := by decide +kernel
theorem dX7_ways_9 : decode cX7_ways 9 = .ok (.getfield 10, 3) := by decide +kernel
theorem dX7_ways_12 : decode cX7_ways 12 = .ok (.invokevirtual 188, 3) := by decide +kernel
theorem dX7_ways_15 : decode cX7_ways 15 = .ok (.invokevirtual 197, 3) := by decide +kernel
theorem dX7_ways_18 : decode cX7_ways 18 = .ok (.ireturn, 1) := by decide +kernel
set_option maxRecDepth 20000 in
theorem ggX7_broken_X4_see : GoodIn wsX7_broken wsX4_see := goodIn_r _ [9, 10, 11, 12, 8, 13, 14, 15, 16, 17, 18, 19, 20, 21, 22, 23, 24, 25, 26, 27, 28, 29, 30, 31, 32, 33, 34, 35, 36, 37, 38, 39, 40, 41, 42, 43, 44, 45, 46, 47, 48, 49, 50, 51, 52, 53, 54, 55, 56, 57, 58, 59, 60, 61, 62, 63, 64, 65, 66, 67, 68, 69, 70, 71, 72, 73, 74, 75, 76, 77, 78, 177, 178, 179, 180, 165, 166, 167, 168, 169, 170, 171, 172, 173, 174, 175, 176] (by decide +kernel) (by decide +kernel)
set_option maxRecDepth 20000 in
theorem gX7_broken_X4_see : GoodIn wsX7_broken (wsV RX7 144 RX4 yX4_see wsX4_see) := goodIn_app (goodIn_of _ (by decide +kernel)) ggX7_broken_X4_see
set_option maxRecDepth 20000 in
theorem ggX7_broken_X7_wouldRatherAgree : GoodIn wsX7_broken wsX7_wouldRatherAgree := goodIn_r _ [82, 83, 2, 1, 84, 85, 86, 87, 88, 89, 90, 61, 62, 63, 91, 65, 66, 92, 93, 94, 95, 96, 97, 98, 99, 21, 100, 101, 102, 103, 104, 33, 105, 40, 41, 42, 43, 35, 106, 107, 108, 109, 110, 111, 112, 113, 114, 53, 54, 55, 115, 116, 117, 118, 119, 120, 121, 122, 123, 124, 125, 126, 127, 128, 129, 130, 131, 132, 133, 134, 135, 8, 136, 14, 137, 138, 139, 140, 141, 142, 143, 17, 144, 145, 146, 147, 48, 148, 155, 156, 157, 158, 159, 160, 161, 162, 163, 164, 181, 182, 183, 184, 185, 186, 165, 166, 167, 168, 169, 170, 171, 172, 173, 174, 175, 176, 177, 178, 179, 180] (by decide +kernel) (by decide +kernel)
set_option maxRecDepth 20000 in
theorem gX7_broken_X7_wouldRatherAgree : GoodIn wsX7_broken (wsV RX7 203 RX7 yX7_wouldRatherAgree wsX7_wouldRatherAgree) := goodIn_app (goodIn_of _ (by decide +kernel)) ggX7_broken_X7_wouldRatherAgree
set_option maxRecDepth 20000 in
theorem ggX7_broken_X7_found : GoodIn wsX7_broken wsX7_found := goodIn_r _ [152, 153, 154, 155, 156, 157, 158, 159, 160, 161, 162, 163, 164] (by decide +kernel) (by decide +kernel)
set_option maxRecDepth 20000 in
theorem gX7_broken_X7_found : GoodIn wsX7_broken (wsV RX7 71 RX7 yX7_found wsX7_found) := goodIn_app (goodIn_of _ (by decide +kernel)) ggX7_broken_X7_found
theorem dX7_broken_0 : decode cX7_broken 0 = .ok (.aload_n 0, 1) := by decide +kernel
theorem dX7_broken_1 : decode cX7_broken 1 = .ok (.getfield 22, 3) := by decide +kernel
theorem dX7_broken_4 : decode cX7_broken 4 = .ok (.aload_n 0, 1) := by decide +kernel
theorem dX7_broken_5 : decode cX7_broken 5 = .ok (.getfield 10, 3) := by decide +kernel
theorem dX7_broken_8 : decode cX7_broken 8 = .ok (.invokevirtual 144, 3) := by decide +kernel
theorem dX7_broken_11 : decode cX7_broken 11 = .ok (.iconst 0, 1) := by decide +kernel
theorem dX7_broken_12 : decode cX7_broken 12 = .ok (.istore_n 1, 1) := by decide +kernel
theorem dX7_broken_13 : decode cX7_broken 13 = .ok (.iload_n 1, 1) := by decide +kernel
theorem dX7_broken_14 : decode cX7_broken 14 = .ok (.aload_n 0, 1) := by decide +kernel
theorem dX7_broken_15 : decode cX7_broken 15 = .ok (.getfield 10, 3) := by decide +kernel
theorem dX7_broken_18 : decode cX7_broken 18 = .ok (.getfield 200, 3) := by decide +kernel
theorem dX7_broken_21 : decode cX7_broken 21 = .ok (.if_icmp .ge 59, 3) := by decide +kernel
theorem dX7_broken_24 : decode cX7_broken 24 = .ok (.iload_n 1, 1) := by decide +kernel
theorem dX7_broken_25 : decode cX7_broken 25 = .ok (.iconst 1, 1) := by decide +kernel
theorem dX7_broken_26 : decode cX7_broken 26 = .ok (.iadd, 1) := by decide +kernel
theorem dX7_broken_27 : decode cX7_broken 27 = .ok (.istore_n 2, 1) := by decide +kernel
theorem dX7_broken_28 : decode cX7_broken 28 = .ok (.iload_n 2, 1) := by decide +kernel
theorem dX7_broken_29 : decode cX7_broken 29 = .ok (.aload_n 0, 1) := by decide +kernel
theorem dX7_broken_30 : decode cX7_broken 30 = .ok (.getfield 10, 3) := by decide +kernel
theorem dX7_broken_33 : decode cX7_broken 33 = .ok (.getfield 200, 3) := by decide +kernel
theorem dX7_broken_36 : decode cX7_broken 36 = .ok (.if_icmp .ge 38, 3) := by decide +kernel
theorem dX7_broken_39 : decode cX7_broken 39 = .ok (.aload_n 0, 1) := by decide +kernel
theorem dX7_broken_40 : decode cX7_broken 40 = .ok (.getfield 10, 3) := by decide +kernel
theorem dX7_broken_43 : decode cX7_broken 43 = .ok (.getfield 98, 3) := by decide +kernel
theorem dX7_broken_46 : decode cX7_broken 46 = .ok (.iload_n 1, 1) := by decide +kernel
theorem dX7_broken_47 : decode cX7_broken 47 = .ok (.iaload, 1) := by decide +kernel
theorem dX7_broken_48 : decode cX7_broken 48 = .ok (.iload_n 2, 1) := by decide +kernel
theorem dX7_broken_49 : decode cX7_broken 49 = .ok (.if_icmp .eq 19, 3) := by decide +kernel
theorem dX7_broken_52 : decode cX7_broken 52 = .ok (.aload_n 0, 1) := by decide +kernel
theorem dX7_broken_53 : decode cX7_broken 53 = .ok (.iload_n 1, 1) := by decide +kernel
theorem dX7_broken_54 : decode cX7_broken 54 = .ok (.iload_n 2, 1) := by decide +kernel
theorem dX7_broken_55 : decode cX7_broken 55 = .ok (.invokevirtual 203, 3) := by decide +kernel
theorem dX7_broken_58 : decode cX7_broken 58 = .ok (.ifCond .eq 10, 3) := by decide +kernel
theorem dX7_broken_61 : decode cX7_broken 61 = .ok (.bipush 10, 2) := by decide +kernel
theorem dX7_broken_63 : decode cX7_broken 63 = .ok (.iload_n 1, 1) := by decide +kernel
theorem dX7_broken_64 : decode cX7_broken 64 = .ok (.imul, 1) := by decide +kernel
theorem dX7_broken_65 : decode cX7_broken 65 = .ok (.iload_n 2, 1) := by decide +kernel
theorem dX7_broken_66 : decode cX7_broken 66 = .ok (.iadd, 1) := by decide +kernel
theorem dX7_broken_67 : decode cX7_broken 67 = .ok (.ireturn, 1) := by decide +kernel
theorem dX7_broken_68 : decode cX7_broken 68 = .ok (.iinc 2 1, 3) := by decide +kernel
theorem dX7_broken_71 : decode cX7_broken 71 = .ok (.goto (-43), 3) := by decide +kernel
theorem dX7_broken_74 : decode cX7_broken 74 = .ok (.iinc 1 1, 3) := by decide +kernel
theorem dX7_broken_77 : decode cX7_broken 77 = .ok (.goto (-64), 3) := by decide +kernel
theorem dX7_broken_80 : decode cX7_broken 80 = .ok (.aload_n 0, 1) := by decide +kernel
theorem dX7_broken_81 : decode cX7_broken 81 = .ok (.iconst 3, 1) := by decide +kernel
theorem dX7_broken_82 : decode cX7_broken 82 = .ok (.invokevirtual 71, 3) := by decide +kernel
theorem dX7_broken_85 : decode cX7_broken 85 = .ok (.ireturn, 1) := by decide +kernel
set_option maxRecDepth 20000 in
theorem ggX7_fits_X7_lackOf : GoodIn wsX7_fits wsX7_lackOf := goodIn_r _ [8, 1, 9, 10, 7, 11, 12, 13, 14, 15, 16, 17, 18, 19, 20, 180, 181, 182, 183, 184, 185, 186, 187, 188, 189, 190, 191, 192] (by decide +kernel) (by decide +kernel)
set_option maxRecDepth 20000 in
theorem gX7_fits_X7_lackOf : GoodIn wsX7_fits (wsV RX7 206 RX7 yX7_lackOf wsX7_lackOf) := goodIn_app (goodIn_of _ (by decide +kernel)) ggX7_fits_X7_lackOf
set_option maxRecDepth 20000 in
theorem ggX7_fits_X7_found : GoodIn wsX7_fits wsX7_found := goodIn_r _ [24, 25, 26, 180, 181, 182, 183, 184, 185, 186, 187, 188, 189] (by decide +kernel) (by decide +kernel)
set_option maxRecDepth 20000 in
theorem gX7_fits_X7_found : GoodIn wsX7_fits (wsV RX7 71 RX7 yX7_found wsX7_found) := goodIn_app (goodIn_of _ (by decide +kernel)) ggX7_fits_X7_found
set_option maxRecDepth 20000 in
theorem ggX7_fits_X7_weighByShade : GoodIn wsX7_fits wsX7_weighByShade := goodIn_r _ [30, 3, 31, 32, 33, 34, 2, 35, 36, 37, 38, 39, 40, 41, 42, 43, 18, 44, 45, 46, 47, 48, 49, 50, 51, 52, 53, 54, 55, 56, 57, 58, 59, 60, 61, 62, 63, 64, 65, 66, 67, 68, 69, 70, 71, 72, 73, 74, 75, 76, 77, 78, 79, 80, 81, 82, 83, 84, 85, 86, 87, 88, 89, 90, 91, 92, 93, 94, 95, 96, 97, 98, 99, 100, 101, 102, 103, 104, 105, 106, 7, 107, 108, 109, 110, 111, 112, 113, 114, 115, 116, 117, 118, 119, 120, 121, 122, 123, 124, 125, 126, 127, 128, 129, 130, 131, 132, 133, 134, 135, 136, 137, 138, 139, 140, 141, 142, 13, 14, 143, 144, 145, 146, 147, 148, 149, 150, 151, 152, 153, 154, 155, 156, 157, 158, 159, 160, 161, 162, 163, 164, 165, 166, 167, 168, 169, 170, 171, 172, 173, 174, 175, 180, 181, 182, 183, 184, 185, 186, 187, 188, 189, 193, 194, 195, 196, 197, 198, 199, 200, 201, 202, 203, 204, 205, 206, 207, 208, 190, 191, 192, 209, 210, 211] (by decide +kernel) (by decide +kernel)
set_option maxRecDepth 20000 in
theorem gX7_fits_X7_weighByShade : GoodIn wsX7_fits (wsV RX7 209 RX7 yX7_weighByShade wsX7_weighByShade) := goodIn_app (goodIn_of _ (by decide +kernel)) ggX7_fits_X7_weighByShade
set_option maxRecDepth 20000 in
theorem ggX7_fits_X1_everybody : GoodIn wsX7_fits wsX1_everybody := goodIn_r _ [39, 40, 193, 194, 195, 196, 197, 198, 199, 200, 201, 202, 203, 204] (by decide +kernel) (by decide +kernel)
set_option maxRecDepth 20000 in
theorem gX7_fits_X1_everybody : GoodIn wsX7_fits (wsV RX7 188 RX1 yX1_everybody wsX1_everybody) := goodIn_app (goodIn_of _ (by decide +kernel)) ggX7_fits_X1_everybody
set_option maxRecDepth 20000 in
theorem ggX7_fits_X2_waysOf : GoodIn wsX7_fits wsX2_waysOf := goodIn_r _ [179, 148, 13, 7, 14, 209, 210, 211] (by decide +kernel) (by decide +kernel)
set_option maxRecDepth 20000 in
theorem gX7_fits_X2_waysOf : GoodIn wsX7_fits (wsV RX7 197 RX2 yX2_waysOf wsX2_waysOf) := goodIn_app (goodIn_of _ (by decide +kernel)) ggX7_fits_X2_waysOf
theorem dX7_fits_0 : decode cX7_fits 0 = .ok (.aload_n 0, 1) := by decide +kernel
theorem dX7_fits_1 : decode cX7_fits 1 = .ok (.iload_n 1, 1) := by decide +kernel
theorem dX7_fits_2 : decode cX7_fits 2 = .ok (.invokevirtual 206, 3) := by decide +kernel
theorem dX7_fits_5 : decode cX7_fits 5 = .ok (.istore_n 2, 1) := by decide +kernel
theorem dX7_fits_6 : decode cX7_fits 6 = .ok (.iload_n 2, 1) := by decide +kernel
theorem dX7_fits_7 : decode cX7_fits 7 = .ok (.iconst (-1), 1) := by decide +kernel
theorem dX7_fits_8 : decode cX7_fits 8 = .ok (.if_icmp .eq 9, 3) := by decide +kernel
theorem dX7_fits_11 : decode cX7_fits 11 = .ok (.aload_n 0, 1) := by decide +kernel
theorem dX7_fits_12 : decode cX7_fits 12 = .ok (.iload_n 2, 1) := by decide +kernel
theorem dX7_fits_13 : decode cX7_fits 13 = .ok (.invokevirtual 71, 3) := by decide +kernel
theorem dX7_fits_16 : decode cX7_fits 16 = .ok (.ireturn, 1) := by decide +kernel
theorem dX7_fits_17 : decode cX7_fits 17 = .ok (.aload_n 0, 1) := by decide +kernel
theorem dX7_fits_18 : decode cX7_fits 18 = .ok (.aload_n 0, 1) := by decide +kernel
theorem dX7_fits_19 : decode cX7_fits 19 = .ok (.getfield 54, 3) := by decide +kernel
theorem dX7_fits_22 : decode cX7_fits 22 = .ok (.iload_n 1, 1) := by decide +kernel
theorem dX7_fits_23 : decode cX7_fits 23 = .ok (.aaload, 1) := by decide +kernel
theorem dX7_fits_24 : decode cX7_fits 24 = .ok (.invokevirtual 209, 3) := by decide +kernel
theorem dX7_fits_27 : decode cX7_fits 27 = .ok (.ifCond .eq 20, 3) := by decide +kernel
theorem dX7_fits_30 : decode cX7_fits 30 = .ok (.aload_n 0, 1) := by decide +kernel
theorem dX7_fits_31 : decode cX7_fits 31 = .ok (.getfield 36, 3) := by decide +kernel
theorem dX7_fits_34 : decode cX7_fits 34 = .ok (.aload_n 0, 1) := by decide +kernel
theorem dX7_fits_35 : decode cX7_fits 35 = .ok (.getfield 10, 3) := by decide +kernel
theorem dX7_fits_38 : decode cX7_fits 38 = .ok (.invokevirtual 188, 3) := by decide +kernel
theorem dX7_fits_41 : decode cX7_fits 41 = .ok (.invokevirtual 197, 3) := by decide +kernel
theorem dX7_fits_44 : decode cX7_fits 44 = .ok (.goto 4, 3) := by decide +kernel
theorem dX7_fits_47 : decode cX7_fits 47 = .ok (.iconst 0, 1) := by decide +kernel
theorem dX7_fits_48 : decode cX7_fits 48 = .ok (.ireturn, 1) := by decide +kernel
set_option maxRecDepth 20000 in
theorem ggX7_may_X7_lackOf : GoodIn wsX7_may wsX7_lackOf := goodIn_r _ [8, 2, 9, 10, 7, 11, 12, 13, 14, 15, 16, 17, 18, 19, 20, 181, 182, 183, 184, 185, 186, 187, 188, 189, 190, 191, 192, 193] (by decide +kernel) (by decide +kernel)
set_option maxRecDepth 20000 in
theorem gX7_may_X7_lackOf : GoodIn wsX7_may (wsV RX7 206 RX7 yX7_lackOf wsX7_lackOf) := goodIn_app (goodIn_of _ (by decide +kernel)) ggX7_may_X7_lackOf
set_option maxRecDepth 20000 in
theorem ggX7_may_X7_found : GoodIn wsX7_may wsX7_found := goodIn_r _ [24, 25, 26, 181, 182, 183, 184, 185, 186, 187, 188, 189, 190] (by decide +kernel) (by decide +kernel)
set_option maxRecDepth 20000 in
theorem gX7_may_X7_found : GoodIn wsX7_may (wsV RX7 71 RX7 yX7_found wsX7_found) := goodIn_app (goodIn_of _ (by decide +kernel)) ggX7_may_X7_found
set_option maxRecDepth 20000 in
theorem ggX7_may_X1_isPerson : GoodIn wsX7_may wsX1_isPerson := goodIn_r _ [31, 32, 194, 195, 196, 197, 198, 199, 200, 201, 202, 203, 204, 205] (by decide +kernel) (by decide +kernel)
set_option maxRecDepth 20000 in
theorem gX7_may_X1_isPerson : GoodIn wsX7_may (wsV RX7 82 RX1 yX1_isPerson wsX1_isPerson) := goodIn_app (goodIn_of _ (by decide +kernel)) ggX7_may_X1_isPerson
set_option maxRecDepth 20000 in
theorem ggX7_may_X7_weighByShade : GoodIn wsX7_may wsX7_weighByShade := goodIn_r _ [36, 1, 37, 38, 39, 40, 3, 41, 42, 43, 30, 44, 32, 45, 46, 47, 18, 48, 49, 50, 51, 52, 53, 54, 55, 56, 57, 58, 59, 60, 61, 62, 63, 64, 65, 66, 67, 68, 69, 70, 71, 72, 73, 74, 75, 76, 77, 78, 79, 80, 81, 82, 83, 84, 85, 86, 87, 88, 28, 29, 31, 89, 90, 91, 92, 93, 94, 95, 96, 97, 98, 99, 100, 101, 102, 103, 104, 105, 106, 107, 7, 108, 109, 110, 111, 112, 113, 114, 115, 116, 117, 118, 119, 120, 121, 122, 123, 124, 125, 126, 127, 128, 129, 130, 131, 132, 133, 134, 135, 136, 137, 138, 139, 140, 141, 142, 143, 13, 14, 144, 145, 146, 147, 148, 149, 150, 151, 152, 153, 154, 155, 156, 157, 158, 159, 160, 161, 162, 163, 164, 165, 166, 167, 168, 169, 170, 171, 172, 173, 174, 175, 176, 181, 182, 183, 184, 185, 186, 187, 188, 189, 190, 194, 195, 196, 197, 198, 199, 200, 201, 202, 203, 204, 205, 206, 207, 208, 209, 191, 192, 193, 210, 211, 212] (by decide +kernel) (by decide +kernel)
set_option maxRecDepth 20000 in
theorem gX7_may_X7_weighByShade : GoodIn wsX7_may (wsV RX7 209 RX7 yX7_weighByShade wsX7_weighByShade) := goodIn_app (goodIn_of _ (by decide +kernel)) ggX7_may_X7_weighByShade
set_option maxRecDepth 20000 in
theorem ggX7_may_X1_everybody : GoodIn wsX7_may wsX1_everybody := goodIn_r _ [44, 32, 194, 195, 196, 197, 198, 199, 200, 201, 202, 203, 204, 205] (by decide +kernel) (by decide +kernel)
set_option maxRecDepth 20000 in
theorem gX7_may_X1_everybody : GoodIn wsX7_may (wsV RX7 188 RX1 yX1_everybody wsX1_everybody) := goodIn_app (goodIn_of _ (by decide +kernel)) ggX7_may_X1_everybody
set_option maxRecDepth 20000 in
theorem ggX7_may_X2_matesOf : GoodIn wsX7_may wsX2_matesOf := goodIn_r _ [180, 148, 13, 7, 14, 157, 158, 159, 141, 160, 107, 108, 161, 162, 163, 164, 165, 166, 167, 168, 169, 170, 171, 143, 172, 114, 115, 116, 173, 118, 119, 174, 175, 176, 210, 211, 212] (by decide +kernel) (by decide +kernel)
set_option maxRecDepth 20000 in
theorem gX7_may_X2_matesOf : GoodIn wsX7_may (wsV RX7 213 RX2 yX2_matesOf wsX2_matesOf) := goodIn_app (goodIn_of _ (by decide +kernel)) ggX7_may_X2_matesOf
theorem dX7_may_0 : decode cX7_may 0 = .ok (.aload_n 0, 1) := by decide +kernel
theorem dX7_may_1 : decode cX7_may 1 = .ok (.iload_n 1, 1) := by decide +kernel
theorem dX7_may_2 : decode cX7_may 2 = .ok (.invokevirtual 206, 3) := by decide +kernel
theorem dX7_may_5 : decode cX7_may 5 = .ok (.istore_n 3, 1) := by decide +kernel
theorem dX7_may_6 : decode cX7_may 6 = .ok (.iload_n 3, 1) := by decide +kernel
theorem dX7_may_7 : decode cX7_may 7 = .ok (.iconst (-1), 1) := by decide +kernel
theorem dX7_may_8 : decode cX7_may 8 = .ok (.if_icmp .eq 9, 3) := by decide +kernel
theorem dX7_may_11 : decode cX7_may 11 = .ok (.aload_n 0, 1) := by decide +kernel
theorem dX7_may_12 : decode cX7_may 12 = .ok (.iload_n 3, 1) := by decide +kernel
theorem dX7_may_13 : decode cX7_may 13 = .ok (.invokevirtual 71, 3) := by decide +kernel
theorem dX7_may_16 : decode cX7_may 16 = .ok (.ireturn, 1) := by decide +kernel
theorem dX7_may_17 : decode cX7_may 17 = .ok (.aload_n 0, 1) := by decide +kernel
theorem dX7_may_18 : decode cX7_may 18 = .ok (.getfield 10, 3) := by decide +kernel
theorem dX7_may_21 : decode cX7_may 21 = .ok (.iload_n 2, 1) := by decide +kernel
theorem dX7_may_22 : decode cX7_may 22 = .ok (.invokevirtual 82, 3) := by decide +kernel
theorem dX7_may_25 : decode cX7_may 25 = .ok (.ifCond .ne 9, 3) := by decide +kernel
theorem dX7_may_28 : decode cX7_may 28 = .ok (.aload_n 0, 1) := by decide +kernel
theorem dX7_may_29 : decode cX7_may 29 = .ok (.iconst 0, 1) := by decide +kernel
theorem dX7_may_30 : decode cX7_may 30 = .ok (.invokevirtual 71, 3) := by decide +kernel
theorem dX7_may_33 : decode cX7_may 33 = .ok (.ireturn, 1) := by decide +kernel
theorem dX7_may_34 : decode cX7_may 34 = .ok (.aload_n 0, 1) := by decide +kernel
theorem dX7_may_35 : decode cX7_may 35 = .ok (.aload_n 0, 1) := by decide +kernel
theorem dX7_may_36 : decode cX7_may 36 = .ok (.getfield 54, 3) := by decide +kernel
theorem dX7_may_39 : decode cX7_may 39 = .ok (.iload_n 1, 1) := by decide +kernel
theorem dX7_may_40 : decode cX7_may 40 = .ok (.aaload, 1) := by decide +kernel
theorem dX7_may_41 : decode cX7_may 41 = .ok (.invokevirtual 209, 3) := by decide +kernel
theorem dX7_may_44 : decode cX7_may 44 = .ok (.ifCond .eq 21, 3) := by decide +kernel
theorem dX7_may_47 : decode cX7_may 47 = .ok (.aload_n 0, 1) := by decide +kernel
theorem dX7_may_48 : decode cX7_may 48 = .ok (.getfield 36, 3) := by decide +kernel
theorem dX7_may_51 : decode cX7_may 51 = .ok (.iload_n 2, 1) := by decide +kernel
theorem dX7_may_52 : decode cX7_may 52 = .ok (.aload_n 0, 1) := by decide +kernel
theorem dX7_may_53 : decode cX7_may 53 = .ok (.getfield 10, 3) := by decide +kernel
theorem dX7_may_56 : decode cX7_may 56 = .ok (.invokevirtual 188, 3) := by decide +kernel
theorem dX7_may_59 : decode cX7_may 59 = .ok (.invokevirtual 213, 3) := by decide +kernel
theorem dX7_may_62 : decode cX7_may 62 = .ok (.goto 4, 3) := by decide +kernel
theorem dX7_may_65 : decode cX7_may 65 = .ok (.iconst 0, 1) := by decide +kernel
theorem dX7_may_66 : decode cX7_may 66 = .ok (.ireturn, 1) := by decide +kernel
set_option maxRecDepth 20000 in
theorem ggX7_duel_X1_areTwo : GoodIn wsX7_duel wsX1_areTwo := goodIn_r _ [13, 14, 15, 16, 12, 17, 18, 58, 59, 60, 61, 62, 63, 64, 65, 66, 67, 68, 69] (by decide +kernel) (by decide +kernel)
set_option maxRecDepth 20000 in
theorem gX7_duel_X1_areTwo : GoodIn wsX7_duel (wsV RX7 121 RX1 yX1_areTwo wsX1_areTwo) := goodIn_app (goodIn_of _ (by decide +kernel)) ggX7_duel_X1_areTwo
set_option maxRecDepth 20000 in
theorem ggX7_duel_X7_found : GoodIn wsX7_duel wsX7_found := goodIn_r _ [23, 24, 25, 48, 49, 50, 51, 52, 53, 54, 55, 56, 57] (by decide +kernel) (by decide +kernel)
set_option maxRecDepth 20000 in
theorem gX7_duel_X7_found : GoodIn wsX7_duel (wsV RX7 71 RX7 yX7_found wsX7_found) := goodIn_app (goodIn_of _ (by decide +kernel)) ggX7_duel_X7_found
set_option maxRecDepth 20000 in
theorem ggX7_duel_X7_duelForce : GoodIn wsX7_duel wsX7_duelForce := goodIn_r _ [29, 1, 30, 31, 32, 33, 22, 34, 35, 36, 37, 12, 38, 39, 3, 4, 5, 40, 7, 8, 41, 42, 43, 44, 18, 45, 46, 47, 48, 49, 50, 51, 52, 53, 54, 55, 56, 57, 58, 59, 60, 61, 62, 63, 64, 65, 66, 67, 68, 69] (by decide +kernel) (by decide +kernel)
set_option maxRecDepth 20000 in
theorem gX7_duel_X7_duelForce : GoodIn wsX7_duel (wsV RX7 224 RX7 yX7_duelForce wsX7_duelForce) := goodIn_app (goodIn_of _ (by decide +kernel)) ggX7_duel_X7_duelForce
theorem dX7_duel_0 : decode cX7_duel 0 = .ok (.aload_n 0, 1) := by decide +kernel
theorem dX7_duel_1 : decode cX7_duel 1 = .ok (.getfield 10, 3) := by decide +kernel
theorem dX7_duel_4 : decode cX7_duel 4 = .ok (.iload_n 1, 1) := by decide +kernel
theorem dX7_duel_5 : decode cX7_duel 5 = .ok (.iload_n 2, 1) := by decide +kernel
theorem dX7_duel_6 : decode cX7_duel 6 = .ok (.invokevirtual 121, 3) := by decide +kernel
theorem dX7_duel_9 : decode cX7_duel 9 = .ok (.ifCond .ne 9, 3) := by decide +kernel
theorem dX7_duel_12 : decode cX7_duel 12 = .ok (.aload_n 0, 1) := by decide +kernel
theorem dX7_duel_13 : decode cX7_duel 13 = .ok (.iconst 0, 1) := by decide +kernel
theorem dX7_duel_14 : decode cX7_duel 14 = .ok (.invokevirtual 71, 3) := by decide +kernel
theorem dX7_duel_17 : decode cX7_duel 17 = .ok (.ireturn, 1) := by decide +kernel
theorem dX7_duel_18 : decode cX7_duel 18 = .ok (.iload_n 1, 1) := by decide +kernel
theorem dX7_duel_19 : decode cX7_duel 19 = .ok (.iload_n 2, 1) := by decide +kernel
theorem dX7_duel_20 : decode cX7_duel 20 = .ok (.invokestatic 216, 3) := by decide +kernel
theorem dX7_duel_23 : decode cX7_duel 23 = .ok (.istore_n 3, 1) := by decide +kernel
theorem dX7_duel_24 : decode cX7_duel 24 = .ok (.iload_n 1, 1) := by decide +kernel
theorem dX7_duel_25 : decode cX7_duel 25 = .ok (.iload_n 2, 1) := by decide +kernel
theorem dX7_duel_26 : decode cX7_duel 26 = .ok (.invokestatic 221, 3) := by decide +kernel
theorem dX7_duel_29 : decode cX7_duel 29 = .ok (.istore 4, 2) := by decide +kernel
theorem dX7_duel_31 : decode cX7_duel 31 = .ok (.aload_n 0, 1) := by decide +kernel
theorem dX7_duel_32 : decode cX7_duel 32 = .ok (.iload 4, 2) := by decide +kernel
theorem dX7_duel_34 : decode cX7_duel 34 = .ok (.iload_n 3, 1) := by decide +kernel
theorem dX7_duel_35 : decode cX7_duel 35 = .ok (.invokevirtual 224, 3) := by decide +kernel
theorem dX7_duel_38 : decode cX7_duel 38 = .ok (.aload_n 0, 1) := by decide +kernel
theorem dX7_duel_39 : decode cX7_duel 39 = .ok (.iload_n 3, 1) := by decide +kernel
theorem dX7_duel_40 : decode cX7_duel 40 = .ok (.iload 4, 2) := by decide +kernel
theorem dX7_duel_42 : decode cX7_duel 42 = .ok (.invokevirtual 224, 3) := by decide +kernel
theorem dX7_duel_45 : decode cX7_duel 45 = .ok (.if_icmp .le 8, 3) := by decide +kernel
theorem dX7_duel_48 : decode cX7_duel 48 = .ok (.iload 4, 2) := by decide +kernel
theorem dX7_duel_50 : decode cX7_duel 50 = .ok (.goto 4, 3) := by decide +kernel
theorem dX7_duel_53 : decode cX7_duel 53 = .ok (.iload_n 3, 1) := by decide +kernel
theorem dX7_duel_54 : decode cX7_duel 54 = .ok (.ireturn, 1) := by decide +kernel
set_option maxRecDepth 20000 in
theorem ggX7_lanterns_X7_isWithin : GoodIn wsX7_lanterns wsX7_isWithin := goodIn_r _ [4] (by decide +kernel) (by decide +kernel)
set_option maxRecDepth 20000 in
theorem gX7_lanterns_X7_isWithin : GoodIn wsX7_lanterns (va_wsS RX7 67 yX7_isWithin wsX7_isWithin) := goodIn_app (goodIn_of _ (by decide +kernel)) ggX7_lanterns_X7_isWithin
set_option maxRecDepth 20000 in
theorem ggX7_lanterns_X7_found : GoodIn wsX7_lanterns wsX7_found := goodIn_r _ [8, 9, 10, 21, 22, 23, 24, 25, 26, 27, 28, 29, 30] (by decide +kernel) (by decide +kernel)
set_option maxRecDepth 20000 in
theorem gX7_lanterns_X7_found : GoodIn wsX7_lanterns (wsV RX7 71 RX7 yX7_found wsX7_found) := goodIn_app (goodIn_of _ (by decide +kernel)) ggX7_lanterns_X7_found
set_option maxRecDepth 20000 in
theorem ggX7_lanterns_X7_commonDivisor : GoodIn wsX7_lanterns wsX7_commonDivisor := goodIn_r _ [13, 14, 15, 16, 17] (by decide +kernel) (by decide +kernel)
set_option maxRecDepth 20000 in
theorem gX7_lanterns_X7_commonDivisor : GoodIn wsX7_lanterns (va_wsS RX7 227 yX7_commonDivisor wsX7_commonDivisor) := goodIn_app (goodIn_of _ (by decide +kernel)) ggX7_lanterns_X7_commonDivisor
set_option maxRecDepth 20000 in
theorem ggX7_lanterns_X7_power : GoodIn wsX7_lanterns wsX7_power := goodIn_r _ [20] (by decide +kernel) (by decide +kernel)
set_option maxRecDepth 20000 in
theorem gX7_lanterns_X7_power : GoodIn wsX7_lanterns (va_wsS RX7 230 yX7_power wsX7_power) := goodIn_app (goodIn_of _ (by decide +kernel)) ggX7_lanterns_X7_power
theorem dX7_lanterns_0 : decode cX7_lanterns 0 = .ok (.iload_n 1, 1) := by decide +kernel
theorem dX7_lanterns_1 : decode cX7_lanterns 1 = .ok (.bipush 15, 2) := by decide +kernel
theorem dX7_lanterns_3 : decode cX7_lanterns 3 = .ok (.invokestatic 67, 3) := by decide +kernel
theorem dX7_lanterns_6 : decode cX7_lanterns 6 = .ok (.ifCond .eq 20, 3) := by decide +kernel
theorem dX7_lanterns_9 : decode cX7_lanterns 9 = .ok (.iload_n 2, 1) := by decide +kernel
theorem dX7_lanterns_10 : decode cX7_lanterns 10 = .ok (.bipush 10, 2) := by decide +kernel
theorem dX7_lanterns_12 : decode cX7_lanterns 12 = .ok (.invokestatic 67, 3) := by decide +kernel
theorem dX7_lanterns_15 : decode cX7_lanterns 15 = .ok (.ifCond .eq 11, 3) := by decide +kernel
theorem dX7_lanterns_18 : decode cX7_lanterns 18 = .ok (.iload_n 3, 1) := by decide +kernel
theorem dX7_lanterns_19 : decode cX7_lanterns 19 = .ok (.iconst 1, 1) := by decide +kernel
theorem dX7_lanterns_20 : decode cX7_lanterns 20 = .ok (.invokestatic 67, 3) := by decide +kernel
theorem dX7_lanterns_23 : decode cX7_lanterns 23 = .ok (.ifCond .ne 10, 3) := by decide +kernel
theorem dX7_lanterns_26 : decode cX7_lanterns 26 = .ok (.aload_n 0, 1) := by decide +kernel
theorem dX7_lanterns_27 : decode cX7_lanterns 27 = .ok (.iconst 0, 1) := by decide +kernel
theorem dX7_lanterns_28 : decode cX7_lanterns 28 = .ok (.invokevirtual 71, 3) := by decide +kernel
theorem dX7_lanterns_31 : decode cX7_lanterns 31 = .ok (.i2l, 1) := by decide +kernel
theorem dX7_lanterns_32 : decode cX7_lanterns 32 = .ok (.lreturn, 1) := by decide +kernel
theorem dX7_lanterns_33 : decode cX7_lanterns 33 = .ok (.bipush 10, 2) := by decide +kernel
theorem dX7_lanterns_35 : decode cX7_lanterns 35 = .ok (.iload_n 2, 1) := by decide +kernel
theorem dX7_lanterns_36 : decode cX7_lanterns 36 = .ok (.isub, 1) := by decide +kernel
theorem dX7_lanterns_37 : decode cX7_lanterns 37 = .ok (.istore 4, 2) := by decide +kernel
theorem dX7_lanterns_39 : decode cX7_lanterns 39 = .ok (.iload 4, 2) := by decide +kernel
theorem dX7_lanterns_41 : decode cX7_lanterns 41 = .ok (.bipush 10, 2) := by decide +kernel
theorem dX7_lanterns_43 : decode cX7_lanterns 43 = .ok (.invokestatic 227, 3) := by decide +kernel
theorem dX7_lanterns_46 : decode cX7_lanterns 46 = .ok (.istore 5, 2) := by decide +kernel
theorem dX7_lanterns_48 : decode cX7_lanterns 48 = .ok (.iload_n 3, 1) := by decide +kernel
theorem dX7_lanterns_49 : decode cX7_lanterns 49 = .ok (.ifCond .ne 8, 3) := by decide +kernel
theorem dX7_lanterns_52 : decode cX7_lanterns 52 = .ok (.iload 4, 2) := by decide +kernel
theorem dX7_lanterns_54 : decode cX7_lanterns 54 = .ok (.goto 5, 3) := by decide +kernel
theorem dX7_lanterns_57 : decode cX7_lanterns 57 = .ok (.bipush 10, 2) := by decide +kernel
theorem dX7_lanterns_59 : decode cX7_lanterns 59 = .ok (.iload 5, 2) := by decide +kernel
theorem dX7_lanterns_61 : decode cX7_lanterns 61 = .ok (.idiv, 1) := by decide +kernel
theorem dX7_lanterns_62 : decode cX7_lanterns 62 = .ok (.iload_n 1, 1) := by decide +kernel
theorem dX7_lanterns_63 : decode cX7_lanterns 63 = .ok (.invokestatic 230, 3) := by decide +kernel
theorem dX7_lanterns_66 : decode cX7_lanterns 66 = .ok (.lreturn, 1) := by decide +kernel
set_option maxRecDepth 20000 in
theorem ggX7_days_X7_found : GoodIn wsX7_days wsX7_found := goodIn_r _ [12, 13, 14, 65, 66, 67, 68, 69, 70, 71, 72, 73, 74] (by decide +kernel) (by decide +kernel)
set_option maxRecDepth 20000 in
theorem gX7_days_X7_found : GoodIn wsX7_days (wsV RX7 71 RX7 yX7_found wsX7_found) := goodIn_app (goodIn_of _ (by decide +kernel)) ggX7_days_X7_found
set_option maxRecDepth 20000 in
theorem ggX7_days_X1_draw : GoodIn wsX7_days wsX1_draw := goodIn_r _ [19, 20, 21, 75, 76, 77, 78, 79, 80, 81, 82, 83, 84, 85, 86] (by decide +kernel) (by decide +kernel)
set_option maxRecDepth 20000 in
theorem gX7_days_X1_draw : GoodIn wsX7_days (wsV RX7 235 RX1 yX1_draw wsX1_draw) := goodIn_app (goodIn_of _ (by decide +kernel)) ggX7_days_X1_draw
set_option maxRecDepth 20000 in
theorem ggX7_days_X1_passHours : GoodIn wsX7_days wsX1_passHours := goodIn_r _ [25, 26, 27, 28, 29, 18, 30, 31, 32, 33, 34, 11, 35, 36, 37, 38, 39, 40, 41, 42, 43, 44, 45, 46, 47, 48, 49, 50, 51, 52, 53, 54, 55, 56, 57, 58, 59, 60, 61, 62, 63, 64, 75, 76, 77, 78, 79, 80, 81, 82, 83, 84, 85, 86] (by decide +kernel) (by decide +kernel)
set_option maxRecDepth 20000 in
theorem gX7_days_X1_passHours : GoodIn wsX7_days (wsV RX7 135 RX1 yX1_passHours wsX1_passHours) := goodIn_app (goodIn_of _ (by decide +kernel)) ggX7_days_X1_passHours
theorem dX7_days_0 : decode cX7_days 0 = .ok (.iload_n 1, 1) := by decide +kernel
theorem dX7_days_1 : decode cX7_days 1 = .ok (.iconst 1, 1) := by decide +kernel
theorem dX7_days_2 : decode cX7_days 2 = .ok (.if_icmp .lt 9, 3) := by decide +kernel
theorem dX7_days_5 : decode cX7_days 5 = .ok (.iload_n 1, 1) := by decide +kernel
theorem dX7_days_6 : decode cX7_days 6 = .ok (.bipush 20, 2) := by decide +kernel
theorem dX7_days_8 : decode cX7_days 8 = .ok (.if_icmp .le 9, 3) := by decide +kernel
theorem dX7_days_11 : decode cX7_days 11 = .ok (.aload_n 0, 1) := by decide +kernel
theorem dX7_days_12 : decode cX7_days 12 = .ok (.iconst 0, 1) := by decide +kernel
theorem dX7_days_13 : decode cX7_days 13 = .ok (.invokevirtual 71, 3) := by decide +kernel
theorem dX7_days_16 : decode cX7_days 16 = .ok (.ireturn, 1) := by decide +kernel
theorem dX7_days_17 : decode cX7_days 17 = .ok (.aload_n 0, 1) := by decide +kernel
theorem dX7_days_18 : decode cX7_days 18 = .ok (.getfield 10, 3) := by decide +kernel
theorem dX7_days_21 : decode cX7_days 21 = .ok (.getfield 138, 3) := by decide +kernel
theorem dX7_days_24 : decode cX7_days 24 = .ok (.ldc 234, 2) := by decide +kernel
theorem dX7_days_26 : decode cX7_days 26 = .ok (.if_icmp .gt 15, 3) := by decide +kernel
theorem dX7_days_29 : decode cX7_days 29 = .ok (.aload_n 0, 1) := by decide +kernel
theorem dX7_days_30 : decode cX7_days 30 = .ok (.getfield 10, 3) := by decide +kernel
theorem dX7_days_33 : decode cX7_days 33 = .ok (.getfield 141, 3) := by decide +kernel
theorem dX7_days_36 : decode cX7_days 36 = .ok (.ldc 234, 2) := by decide +kernel
theorem dX7_days_38 : decode cX7_days 38 = .ok (.if_icmp .le 9, 3) := by decide +kernel
theorem dX7_days_41 : decode cX7_days 41 = .ok (.aload_n 0, 1) := by decide +kernel
theorem dX7_days_42 : decode cX7_days 42 = .ok (.iconst 4, 1) := by decide +kernel
theorem dX7_days_43 : decode cX7_days 43 = .ok (.invokevirtual 71, 3) := by decide +kernel
theorem dX7_days_46 : decode cX7_days 46 = .ok (.ireturn, 1) := by decide +kernel
theorem dX7_days_47 : decode cX7_days 47 = .ok (.iconst 0, 1) := by decide +kernel
theorem dX7_days_48 : decode cX7_days 48 = .ok (.istore_n 2, 1) := by decide +kernel
theorem dX7_days_49 : decode cX7_days 49 = .ok (.iload_n 2, 1) := by decide +kernel
theorem dX7_days_50 : decode cX7_days 50 = .ok (.iload_n 1, 1) := by decide +kernel
theorem dX7_days_51 : decode cX7_days 51 = .ok (.if_icmp .ge 43, 3) := by decide +kernel
theorem dX7_days_54 : decode cX7_days 54 = .ok (.aload_n 0, 1) := by decide +kernel
theorem dX7_days_55 : decode cX7_days 55 = .ok (.getfield 10, 3) := by decide +kernel
theorem dX7_days_58 : decode cX7_days 58 = .ok (.aload_n 0, 1) := by decide +kernel
theorem dX7_days_59 : decode cX7_days 59 = .ok (.getfield 10, 3) := by decide +kernel
theorem dX7_days_62 : decode cX7_days 62 = .ok (.invokevirtual 235, 3) := by decide +kernel
theorem dX7_days_65 : decode cX7_days 65 = .ok (.ldc 120, 2) := by decide +kernel
theorem dX7_days_67 : decode cX7_days 67 = .ok (.iand, 1) := by decide +kernel
theorem dX7_days_68 : decode cX7_days 68 = .ok (.putfield 132, 3) := by decide +kernel
theorem dX7_days_71 : decode cX7_days 71 = .ok (.aload_n 0, 1) := by decide +kernel
theorem dX7_days_72 : decode cX7_days 72 = .ok (.getfield 10, 3) := by decide +kernel
theorem dX7_days_75 : decode cX7_days 75 = .ok (.iconst 0, 1) := by decide +kernel
theorem dX7_days_76 : decode cX7_days 76 = .ok (.putfield 101, 3) := by decide +kernel
theorem dX7_days_79 : decode cX7_days 79 = .ok (.aload_n 0, 1) := by decide +kernel
theorem dX7_days_80 : decode cX7_days 80 = .ok (.getfield 10, 3) := by decide +kernel
theorem dX7_days_83 : decode cX7_days 83 = .ok (.bipush 16, 2) := by decide +kernel
theorem dX7_days_85 : decode cX7_days 85 = .ok (.invokevirtual 135, 3) := by decide +kernel
theorem dX7_days_88 : decode cX7_days 88 = .ok (.iinc 2 1, 3) := by decide +kernel
theorem dX7_days_91 : decode cX7_days 91 = .ok (.goto (-42), 3) := by decide +kernel
theorem dX7_days_94 : decode cX7_days 94 = .ok (.aload_n 0, 1) := by decide +kernel
theorem dX7_days_95 : decode cX7_days 95 = .ok (.getfield 10, 3) := by decide +kernel
theorem dX7_days_98 : decode cX7_days 98 = .ok (.getfield 138, 3) := by decide +kernel
theorem dX7_days_101 : decode cX7_days 101 = .ok (.ireturn, 1) := by decide +kernel
theorem dX7_seed_0 : decode cX7_seed 0 = .ok (.aload_n 0, 1) := by decide +kernel
theorem dX7_seed_1 : decode cX7_seed 1 = .ok (.getfield 10, 3) := by decide +kernel
theorem dX7_seed_4 : decode cX7_seed 4 = .ok (.getfield 238, 3) := by decide +kernel
theorem dX7_seed_7 : decode cX7_seed 7 = .ok (.istore_n 2, 1) := by decide +kernel
theorem dX7_seed_8 : decode cX7_seed 8 = .ok (.aload_n 0, 1) := by decide +kernel
theorem dX7_seed_9 : decode cX7_seed 9 = .ok (.getfield 10, 3) := by decide +kernel
theorem dX7_seed_12 : decode cX7_seed 12 = .ok (.iload_n 1, 1) := by decide +kernel
theorem dX7_seed_13 : decode cX7_seed 13 = .ok (.putfield 238, 3) := by decide +kernel
theorem dX7_seed_16 : decode cX7_seed 16 = .ok (.iload_n 2, 1) := by decide +kernel
theorem dX7_seed_17 : decode cX7_seed 17 = .ok (.ireturn, 1) := by decide +kernel
set_option maxRecDepth 20000 in
theorem ggX7_feed_X7_found : GoodIn wsX7_feed wsX7_found := goodIn_r _ [7, 8, 9, 17, 18, 19, 20, 21, 22, 23, 24, 25, 26] (by decide +kernel) (by decide +kernel)
set_option maxRecDepth 20000 in
theorem gX7_feed_X7_found : GoodIn wsX7_feed (wsV RX7 71 RX7 yX7_found wsX7_found) := goodIn_app (goodIn_of _ (by decide +kernel)) ggX7_feed_X7_found
set_option maxRecDepth 20000 in
theorem ggX7_feed_X6_append : GoodIn wsX7_feed wsX6_append := goodIn_r _ [14, 15, 16, 27, 28] (by decide +kernel) (by decide +kernel)
set_option maxRecDepth 20000 in
theorem gX7_feed_X6_append : GoodIn wsX7_feed (wsV RX7 246 RX6 yX6_append wsX6_append) := goodIn_app (goodIn_of _ (by decide +kernel)) ggX7_feed_X6_append
theorem dX7_feed_0 : decode cX7_feed 0 = .ok (.iload_n 2, 1) := by decide +kernel
theorem dX7_feed_1 : decode cX7_feed 1 = .ok (.iconst 1, 1) := by decide +kernel
theorem dX7_feed_2 : decode cX7_feed 2 = .ok (.if_icmp .lt 8, 3) := by decide +kernel
theorem dX7_feed_5 : decode cX7_feed 5 = .ok (.iload_n 2, 1) := by decide +kernel
theorem dX7_feed_6 : decode cX7_feed 6 = .ok (.iconst 4, 1) := by decide +kernel
theorem dX7_feed_7 : decode cX7_feed 7 = .ok (.if_icmp .le 9, 3) := by decide +kernel
theorem dX7_feed_10 : decode cX7_feed 10 = .ok (.aload_n 0, 1) := by decide +kernel
theorem dX7_feed_11 : decode cX7_feed 11 = .ok (.iconst 0, 1) := by decide +kernel
theorem dX7_feed_12 : decode cX7_feed 12 = .ok (.invokevirtual 71, 3) := by decide +kernel
theorem dX7_feed_15 : decode cX7_feed 15 = .ok (.ireturn, 1) := by decide +kernel
theorem dX7_feed_16 : decode cX7_feed 16 = .ok (.iload_n 2, 1) := by decide +kernel
theorem dX7_feed_17 : decode cX7_feed 17 = .ok (.bipush 120, 2) := by decide +kernel
theorem dX7_feed_19 : decode cX7_feed 19 = .ok (.aload_n 0, 1) := by decide +kernel
theorem dX7_feed_20 : decode cX7_feed 20 = .ok (.getfield 51, 3) := by decide +kernel
theorem dX7_feed_23 : decode cX7_feed 23 = .ok (.getfield 243, 3) := by decide +kernel
theorem dX7_feed_26 : decode cX7_feed 26 = .ok (.isub, 1) := by decide +kernel
theorem dX7_feed_27 : decode cX7_feed 27 = .ok (.if_icmp .le 9, 3) := by decide +kernel
theorem dX7_feed_30 : decode cX7_feed 30 = .ok (.aload_n 0, 1) := by decide +kernel
theorem dX7_feed_31 : decode cX7_feed 31 = .ok (.iconst 1, 1) := by decide +kernel
theorem dX7_feed_32 : decode cX7_feed 32 = .ok (.invokevirtual 71, 3) := by decide +kernel
theorem dX7_feed_35 : decode cX7_feed 35 = .ok (.ireturn, 1) := by decide +kernel
theorem dX7_feed_36 : decode cX7_feed 36 = .ok (.iload_n 2, 1) := by decide +kernel
theorem dX7_feed_37 : decode cX7_feed 37 = .ok (.iconst 1, 1) := by decide +kernel
theorem dX7_feed_38 : decode cX7_feed 38 = .ok (.isub, 1) := by decide +kernel
theorem dX7_feed_39 : decode cX7_feed 39 = .ok (.istore_n 3, 1) := by decide +kernel
theorem dX7_feed_40 : decode cX7_feed 40 = .ok (.iload_n 3, 1) := by decide +kernel
theorem dX7_feed_41 : decode cX7_feed 41 = .ok (.ifCond .lt 22, 3) := by decide +kernel
theorem dX7_feed_44 : decode cX7_feed 44 = .ok (.aload_n 0, 1) := by decide +kernel
theorem dX7_feed_45 : decode cX7_feed 45 = .ok (.getfield 51, 3) := by decide +kernel
theorem dX7_feed_48 : decode cX7_feed 48 = .ok (.iload_n 1, 1) := by decide +kernel
theorem dX7_feed_49 : decode cX7_feed 49 = .ok (.bipush 8, 2) := by decide +kernel
theorem dX7_feed_51 : decode cX7_feed 51 = .ok (.iload_n 3, 1) := by decide +kernel
theorem dX7_feed_52 : decode cX7_feed 52 = .ok (.imul, 1) := by decide +kernel
theorem dX7_feed_53 : decode cX7_feed 53 = .ok (.iushr, 1) := by decide +kernel
theorem dX7_feed_54 : decode cX7_feed 54 = .ok (.invokevirtual 246, 3) := by decide +kernel
theorem dX7_feed_57 : decode cX7_feed 57 = .ok (.iinc 3 (-1), 3) := by decide +kernel
theorem dX7_feed_60 : decode cX7_feed 60 = .ok (.goto (-20), 3) := by decide +kernel
theorem dX7_feed_63 : decode cX7_feed 63 = .ok (.aload_n 0, 1) := by decide +kernel
theorem dX7_feed_64 : decode cX7_feed 64 = .ok (.getfield 51, 3) := by decide +kernel
theorem dX7_feed_67 : decode cX7_feed 67 = .ok (.getfield 243, 3) := by decide +kernel
theorem dX7_feed_70 : decode cX7_feed 70 = .ok (.ireturn, 1) := by decide +kernel
theorem dX7_wipe_0 : decode cX7_wipe 0 = .ok (.aload_n 0, 1) := by decide +kernel
theorem dX7_wipe_1 : decode cX7_wipe 1 = .ok (.getfield 51, 3) := by decide +kernel
theorem dX7_wipe_4 : decode cX7_wipe 4 = .ok (.getfield 243, 3) := by decide +kernel
theorem dX7_wipe_7 : decode cX7_wipe 7 = .ok (.istore_n 1, 1) := by decide +kernel
theorem dX7_wipe_8 : decode cX7_wipe 8 = .ok (.aload_n 0, 1) := by decide +kernel
theorem dX7_wipe_9 : decode cX7_wipe 9 = .ok (.getfield 51, 3) := by decide +kernel
theorem dX7_wipe_12 : decode cX7_wipe 12 = .ok (.iconst 0, 1) := by decide +kernel
theorem dX7_wipe_13 : decode cX7_wipe 13 = .ok (.putfield 243, 3) := by decide +kernel
theorem dX7_wipe_16 : decode cX7_wipe 16 = .ok (.iload_n 1, 1) := by decide +kernel
theorem dX7_wipe_17 : decode cX7_wipe 17 = .ok (.ireturn, 1) := by decide +kernel
set_option maxRecDepth 20000 in
theorem ggX7_text_X3_read : GoodIn wsX7_text wsX3_read := goodIn_r _ [9, 10, 11, 12, 13, 14, 15, 8, 16, 17, 18, 19, 20, 21, 22, 23, 24, 25, 26, 27, 28, 29, 30, 31, 32, 33, 34, 35, 36, 37, 38, 39, 40, 41, 42, 43, 44, 45, 46, 47, 48, 49, 50, 51, 52, 53, 54, 55, 56, 57, 58, 59, 60, 61, 62, 63, 64, 65, 66, 67, 68, 69, 70, 71, 72, 73, 74, 75, 76, 77, 78, 79, 80, 81, 82, 83, 84, 85, 86, 87, 88, 89, 90, 91, 92, 93, 94, 95, 96, 97, 98, 99, 100, 101, 102, 103, 104, 105, 106, 107, 108, 109, 110, 111, 112, 113, 114, 115, 116, 117, 118, 119, 120, 121, 122, 123, 124, 125, 126, 127, 128, 129, 130, 131, 132, 133, 134, 135, 136, 137, 138, 139, 140, 141, 142, 143, 144, 145, 146, 147, 148, 149, 150, 151, 152, 153, 154, 155, 156, 157, 158, 159, 160, 161, 162, 163, 164, 165, 166, 167, 168, 169, 170, 171, 172, 173, 174, 175, 176, 177, 178, 179, 180, 181, 182, 183, 184, 185, 186, 187, 188, 189, 190, 191, 192, 193, 194, 207, 208, 209, 210, 211, 212, 213, 214, 205, 206, 215, 216, 217, 218, 219, 220, 221, 222, 223, 224, 225, 226] (by decide +kernel) (by decide +kernel)
set_option maxRecDepth 20000 in
theorem gX7_text_X3_read : GoodIn wsX7_text (wsV RX7 249 RX3 yX3_read wsX3_read) := goodIn_app (goodIn_of _ (by decide +kernel)) ggX7_text_X3_read
theorem dX7_text_0 : decode cX7_text 0 = .ok (.aload_n 0, 1) := by decide +kernel
theorem dX7_text_1 : decode cX7_text 1 = .ok (.getfield 43, 3) := by decide +kernel
theorem dX7_text_4 : decode cX7_text 4 = .ok (.aload_n 0, 1) := by decide +kernel
theorem dX7_text_5 : decode cX7_text 5 = .ok (.getfield 10, 3) := by decide +kernel
theorem dX7_text_8 : decode cX7_text 8 = .ok (.invokevirtual 249, 3) := by decide +kernel
theorem dX7_text_11 : decode cX7_text 11 = .ok (.istore_n 1, 1) := by decide +kernel
theorem dX7_text_12 : decode cX7_text 12 = .ok (.aload_n 0, 1) := by decide +kernel
theorem dX7_text_13 : decode cX7_text 13 = .ok (.getfield 51, 3) := by decide +kernel
theorem dX7_text_16 : decode cX7_text 16 = .ok (.iconst 0, 1) := by decide +kernel
theorem dX7_text_17 : decode cX7_text 17 = .ok (.putfield 243, 3) := by decide +kernel
theorem dX7_text_20 : decode cX7_text 20 = .ok (.iload_n 1, 1) := by decide +kernel
theorem dX7_text_21 : decode cX7_text 21 = .ok (.ireturn, 1) := by decide +kernel
set_option maxRecDepth 20000 in
theorem ggX7_hold_X7_isWithin : GoodIn wsX7_hold wsX7_isWithin := goodIn_r _ [6] (by decide +kernel) (by decide +kernel)
set_option maxRecDepth 20000 in
theorem gX7_hold_X7_isWithin : GoodIn wsX7_hold (va_wsS RX7 67 yX7_isWithin wsX7_isWithin) := goodIn_app (goodIn_of _ (by decide +kernel)) ggX7_hold_X7_isWithin
set_option maxRecDepth 20000 in
theorem ggX7_hold_X1_isPerson : GoodIn wsX7_hold wsX1_isPerson := goodIn_r _ [11, 12, 29, 30, 31, 32, 33, 34, 35, 36, 37, 38, 39, 40] (by decide +kernel) (by decide +kernel)
set_option maxRecDepth 20000 in
theorem gX7_hold_X1_isPerson : GoodIn wsX7_hold (wsV RX7 82 RX1 yX1_isPerson wsX1_isPerson) := goodIn_app (goodIn_of _ (by decide +kernel)) ggX7_hold_X1_isPerson
set_option maxRecDepth 20000 in
theorem ggX7_hold_X7_found : GoodIn wsX7_hold wsX7_found := goodIn_r _ [16, 17, 18, 19, 20, 21, 22, 23, 24, 25, 26, 27, 28] (by decide +kernel) (by decide +kernel)
set_option maxRecDepth 20000 in
theorem gX7_hold_X7_found : GoodIn wsX7_hold (wsV RX7 71 RX7 yX7_found wsX7_found) := goodIn_app (goodIn_of _ (by decide +kernel)) ggX7_hold_X7_found
theorem dX7_hold_0 : decode cX7_hold 0 = .ok (.iload_n 1, 1) := by decide +kernel
theorem dX7_hold_1 : decode cX7_hold 1 = .ok (.bipush 9, 2) := by decide +kernel
theorem dX7_hold_3 : decode cX7_hold 3 = .ok (.invokestatic 67, 3) := by decide +kernel
theorem dX7_hold_6 : decode cX7_hold 6 = .ok (.ifCond .eq 19, 3) := by decide +kernel
theorem dX7_hold_9 : decode cX7_hold 9 = .ok (.iload_n 2, 1) := by decide +kernel
theorem dX7_hold_10 : decode cX7_hold 10 = .ok (.iconst (-1), 1) := by decide +kernel
theorem dX7_hold_11 : decode cX7_hold 11 = .ok (.if_icmp .eq 20, 3) := by decide +kernel
theorem dX7_hold_14 : decode cX7_hold 14 = .ok (.aload_n 0, 1) := by decide +kernel
theorem dX7_hold_15 : decode cX7_hold 15 = .ok (.getfield 10, 3) := by decide +kernel
theorem dX7_hold_18 : decode cX7_hold 18 = .ok (.iload_n 2, 1) := by decide +kernel
theorem dX7_hold_19 : decode cX7_hold 19 = .ok (.invokevirtual 82, 3) := by decide +kernel
theorem dX7_hold_22 : decode cX7_hold 22 = .ok (.ifCond .ne 9, 3) := by decide +kernel
theorem dX7_hold_25 : decode cX7_hold 25 = .ok (.aload_n 0, 1) := by decide +kernel
theorem dX7_hold_26 : decode cX7_hold 26 = .ok (.iconst 0, 1) := by decide +kernel
theorem dX7_hold_27 : decode cX7_hold 27 = .ok (.invokevirtual 71, 3) := by decide +kernel
theorem dX7_hold_30 : decode cX7_hold 30 = .ok (.ireturn, 1) := by decide +kernel
theorem dX7_hold_31 : decode cX7_hold 31 = .ok (.aload_n 0, 1) := by decide +kernel
theorem dX7_hold_32 : decode cX7_hold 32 = .ok (.getfield 10, 3) := by decide +kernel
theorem dX7_hold_35 : decode cX7_hold 35 = .ok (.getfield 253, 3) := by decide +kernel
theorem dX7_hold_38 : decode cX7_hold 38 = .ok (.iload_n 1, 1) := by decide +kernel
theorem dX7_hold_39 : decode cX7_hold 39 = .ok (.iload_n 2, 1) := by decide +kernel
theorem dX7_hold_40 : decode cX7_hold 40 = .ok (.iastore, 1) := by decide +kernel
theorem dX7_hold_41 : decode cX7_hold 41 = .ok (.iconst 1, 1) := by decide +kernel
theorem dX7_hold_42 : decode cX7_hold 42 = .ok (.ireturn, 1) := by decide +kernel
set_option maxRecDepth 20000 in
theorem ggX7_as_X7_isWithin : GoodIn wsX7_as wsX7_isWithin := goodIn_r _ [6] (by decide +kernel) (by decide +kernel)
set_option maxRecDepth 20000 in
theorem gX7_as_X7_isWithin : GoodIn wsX7_as (va_wsS RX7 67 yX7_isWithin wsX7_isWithin) := goodIn_app (goodIn_of _ (by decide +kernel)) ggX7_as_X7_isWithin
set_option maxRecDepth 20000 in
theorem ggX7_as_X7_found : GoodIn wsX7_as wsX7_found := goodIn_r _ [10, 11, 12, 25, 26, 27, 28, 29, 30, 31, 32, 33, 34] (by decide +kernel) (by decide +kernel)
set_option maxRecDepth 20000 in
theorem gX7_as_X7_found : GoodIn wsX7_as (wsV RX7 71 RX7 yX7_found wsX7_found) := goodIn_app (goodIn_of _ (by decide +kernel)) ggX7_as_X7_found
set_option maxRecDepth 20000 in
theorem ggX7_as_X1_isOfKind : GoodIn wsX7_as wsX1_isOfKind := goodIn_r _ [17, 18, 19, 20, 21, 22, 16, 23, 24, 4, 5, 6, 35, 36, 37, 38, 39, 40, 41, 42, 43, 44, 45, 46] (by decide +kernel) (by decide +kernel)
set_option maxRecDepth 20000 in
theorem gX7_as_X1_isOfKind : GoodIn wsX7_as (wsV RX7 256 RX1 yX1_isOfKind wsX1_isOfKind) := goodIn_app (goodIn_of _ (by decide +kernel)) ggX7_as_X1_isOfKind
theorem dX7_as_0 : decode cX7_as 0 = .ok (.iload_n 1, 1) := by decide +kernel
theorem dX7_as_1 : decode cX7_as 1 = .ok (.bipush 9, 2) := by decide +kernel
theorem dX7_as_3 : decode cX7_as 3 = .ok (.invokestatic 67, 3) := by decide +kernel
theorem dX7_as_6 : decode cX7_as 6 = .ok (.ifCond .eq 12, 3) := by decide +kernel
theorem dX7_as_9 : decode cX7_as 9 = .ok (.iload_n 2, 1) := by decide +kernel
theorem dX7_as_10 : decode cX7_as 10 = .ok (.bipush 6, 2) := by decide +kernel
theorem dX7_as_12 : decode cX7_as 12 = .ok (.invokestatic 67, 3) := by decide +kernel
theorem dX7_as_15 : decode cX7_as 15 = .ok (.ifCond .ne 9, 3) := by decide +kernel
theorem dX7_as_18 : decode cX7_as 18 = .ok (.aload_n 0, 1) := by decide +kernel
theorem dX7_as_19 : decode cX7_as 19 = .ok (.iconst 0, 1) := by decide +kernel
theorem dX7_as_20 : decode cX7_as 20 = .ok (.invokevirtual 71, 3) := by decide +kernel
theorem dX7_as_23 : decode cX7_as 23 = .ok (.ireturn, 1) := by decide +kernel
theorem dX7_as_24 : decode cX7_as 24 = .ok (.aload_n 0, 1) := by decide +kernel
theorem dX7_as_25 : decode cX7_as 25 = .ok (.getfield 10, 3) := by decide +kernel
theorem dX7_as_28 : decode cX7_as 28 = .ok (.getfield 253, 3) := by decide +kernel
theorem dX7_as_31 : decode cX7_as 31 = .ok (.iload_n 1, 1) := by decide +kernel
theorem dX7_as_32 : decode cX7_as 32 = .ok (.iaload, 1) := by decide +kernel
theorem dX7_as_33 : decode cX7_as 33 = .ok (.istore_n 3, 1) := by decide +kernel
theorem dX7_as_34 : decode cX7_as 34 = .ok (.iload_n 3, 1) := by decide +kernel
theorem dX7_as_35 : decode cX7_as 35 = .ok (.iconst (-1), 1) := by decide +kernel
theorem dX7_as_36 : decode cX7_as 36 = .ok (.if_icmp .ne 9, 3) := by decide +kernel
theorem dX7_as_39 : decode cX7_as 39 = .ok (.aload_n 0, 1) := by decide +kernel
theorem dX7_as_40 : decode cX7_as 40 = .ok (.iconst 5, 1) := by decide +kernel
theorem dX7_as_41 : decode cX7_as 41 = .ok (.invokevirtual 71, 3) := by decide +kernel
theorem dX7_as_44 : decode cX7_as 44 = .ok (.ireturn, 1) := by decide +kernel
theorem dX7_as_45 : decode cX7_as 45 = .ok (.aload_n 0, 1) := by decide +kernel
theorem dX7_as_46 : decode cX7_as 46 = .ok (.getfield 10, 3) := by decide +kernel
theorem dX7_as_49 : decode cX7_as 49 = .ok (.iload_n 3, 1) := by decide +kernel
theorem dX7_as_50 : decode cX7_as 50 = .ok (.iload_n 2, 1) := by decide +kernel
theorem dX7_as_51 : decode cX7_as 51 = .ok (.invokevirtual 256, 3) := by decide +kernel
theorem dX7_as_54 : decode cX7_as 54 = .ok (.ifCond .eq 7, 3) := by decide +kernel
theorem dX7_as_57 : decode cX7_as 57 = .ok (.iload_n 3, 1) := by decide +kernel
theorem dX7_as_58 : decode cX7_as 58 = .ok (.goto 8, 3) := by decide +kernel
theorem dX7_as_61 : decode cX7_as 61 = .ok (.aload_n 0, 1) := by decide +kernel
theorem dX7_as_62 : decode cX7_as 62 = .ok (.iconst 2, 1) := by decide +kernel
theorem dX7_as_63 : decode cX7_as 63 = .ok (.invokevirtual 71, 3) := by decide +kernel
theorem dX7_as_66 : decode cX7_as 66 = .ok (.ireturn, 1) := by decide +kernel
set_option maxRecDepth 20000 in
theorem ggX7_sheet_X7_isSheet : GoodIn wsX7_sheet wsX7_isSheet := goodIn_r _ [6, 7, 8, 5, 9] (by decide +kernel) (by decide +kernel)
set_option maxRecDepth 20000 in
theorem gX7_sheet_X7_isSheet : GoodIn wsX7_sheet (va_wsS RX7 259 yX7_isSheet wsX7_isSheet) := goodIn_app (goodIn_of _ (by decide +kernel)) ggX7_sheet_X7_isSheet
set_option maxRecDepth 20000 in
theorem ggX7_sheet_X7_found : GoodIn wsX7_sheet wsX7_found := goodIn_r _ [13, 14, 15, 31, 32, 33, 34, 35, 36, 37, 38, 39, 40] (by decide +kernel) (by decide +kernel)
set_option maxRecDepth 20000 in
theorem gX7_sheet_X7_found : GoodIn wsX7_sheet (wsV RX7 71 RX7 yX7_found wsX7_found) := goodIn_app (goodIn_of _ (by decide +kernel)) ggX7_sheet_X7_found
set_option maxRecDepth 20000 in
theorem ggX7_sheet_X5_renew : GoodIn wsX7_sheet wsX5_renew := goodIn_r _ [20, 21, 22, 23, 24, 25, 26, 27, 28, 29, 30, 41, 42, 43] (by decide +kernel) (by decide +kernel)
set_option maxRecDepth 20000 in
theorem gX7_sheet_X5_renew : GoodIn wsX7_sheet (wsV RX7 262 RX5 yX5_renew wsX5_renew) := goodIn_app (goodIn_of _ (by decide +kernel)) ggX7_sheet_X5_renew
theorem dX7_sheet_0 : decode cX7_sheet 0 = .ok (.iload_n 1, 1) := by decide +kernel
theorem dX7_sheet_1 : decode cX7_sheet 1 = .ok (.invokestatic 259, 3) := by decide +kernel
theorem dX7_sheet_4 : decode cX7_sheet 4 = .ok (.ifCond .eq 25, 3) := by decide +kernel
theorem dX7_sheet_7 : decode cX7_sheet 7 = .ok (.iload_n 2, 1) := by decide +kernel
theorem dX7_sheet_8 : decode cX7_sheet 8 = .ok (.ifCond .eq 27, 3) := by decide +kernel
theorem dX7_sheet_11 : decode cX7_sheet 11 = .ok (.iload_n 2, 1) := by decide +kernel
theorem dX7_sheet_12 : decode cX7_sheet 12 = .ok (.bipush 8, 2) := by decide +kernel
theorem dX7_sheet_14 : decode cX7_sheet 14 = .ok (.if_icmp .eq 21, 3) := by decide +kernel
theorem dX7_sheet_17 : decode cX7_sheet 17 = .ok (.iload_n 2, 1) := by decide +kernel
theorem dX7_sheet_18 : decode cX7_sheet 18 = .ok (.bipush 16, 2) := by decide +kernel
theorem dX7_sheet_20 : decode cX7_sheet 20 = .ok (.if_icmp .eq 15, 3) := by decide +kernel
theorem dX7_sheet_23 : decode cX7_sheet 23 = .ok (.iload_n 2, 1) := by decide +kernel
theorem dX7_sheet_24 : decode cX7_sheet 24 = .ok (.bipush 32, 2) := by decide +kernel
theorem dX7_sheet_26 : decode cX7_sheet 26 = .ok (.if_icmp .eq 9, 3) := by decide +kernel
theorem dX7_sheet_29 : decode cX7_sheet 29 = .ok (.aload_n 0, 1) := by decide +kernel
theorem dX7_sheet_30 : decode cX7_sheet 30 = .ok (.iconst 0, 1) := by decide +kernel
theorem dX7_sheet_31 : decode cX7_sheet 31 = .ok (.invokevirtual 71, 3) := by decide +kernel
theorem dX7_sheet_34 : decode cX7_sheet 34 = .ok (.ireturn, 1) := by decide +kernel
theorem dX7_sheet_35 : decode cX7_sheet 35 = .ok (.iload_n 3, 1) := by decide +kernel
theorem dX7_sheet_36 : decode cX7_sheet 36 = .ok (.ifCond .ge 10, 3) := by decide +kernel
theorem dX7_sheet_39 : decode cX7_sheet 39 = .ok (.aload_n 0, 1) := by decide +kernel
theorem dX7_sheet_40 : decode cX7_sheet 40 = .ok (.bipush 6, 2) := by decide +kernel
theorem dX7_sheet_42 : decode cX7_sheet 42 = .ok (.invokevirtual 71, 3) := by decide +kernel
theorem dX7_sheet_45 : decode cX7_sheet 45 = .ok (.ireturn, 1) := by decide +kernel
theorem dX7_sheet_46 : decode cX7_sheet 46 = .ok (.iload_n 3, 1) := by decide +kernel
theorem dX7_sheet_47 : decode cX7_sheet 47 = .ok (.bipush 40, 2) := by decide +kernel
theorem dX7_sheet_49 : decode cX7_sheet 49 = .ok (.if_icmp .le 9, 3) := by decide +kernel
theorem dX7_sheet_52 : decode cX7_sheet 52 = .ok (.aload_n 0, 1) := by decide +kernel
theorem dX7_sheet_53 : decode cX7_sheet 53 = .ok (.iconst 0, 1) := by decide +kernel
theorem dX7_sheet_54 : decode cX7_sheet 54 = .ok (.invokevirtual 71, 3) := by decide +kernel
theorem dX7_sheet_57 : decode cX7_sheet 57 = .ok (.ireturn, 1) := by decide +kernel
theorem dX7_sheet_58 : decode cX7_sheet 58 = .ok (.aload_n 0, 1) := by decide +kernel
theorem dX7_sheet_59 : decode cX7_sheet 59 = .ok (.getfield 54, 3) := by decide +kernel
theorem dX7_sheet_62 : decode cX7_sheet 62 = .ok (.iload_n 1, 1) := by decide +kernel
theorem dX7_sheet_63 : decode cX7_sheet 63 = .ok (.aaload, 1) := by decide +kernel
theorem dX7_sheet_64 : decode cX7_sheet 64 = .ok (.iload_n 2, 1) := by decide +kernel
theorem dX7_sheet_65 : decode cX7_sheet 65 = .ok (.iload_n 3, 1) := by decide +kernel
theorem dX7_sheet_66 : decode cX7_sheet 66 = .ok (.invokevirtual 262, 3) := by decide +kernel
theorem dX7_sheet_69 : decode cX7_sheet 69 = .ok (.aload_n 0, 1) := by decide +kernel
theorem dX7_sheet_70 : decode cX7_sheet 70 = .ok (.getfield 54, 3) := by decide +kernel
theorem dX7_sheet_73 : decode cX7_sheet 73 = .ok (.iload_n 1, 1) := by decide +kernel
theorem dX7_sheet_74 : decode cX7_sheet 74 = .ok (.aaload, 1) := by decide +kernel
theorem dX7_sheet_75 : decode cX7_sheet 75 = .ok (.getfield 265, 3) := by decide +kernel
theorem dX7_sheet_78 : decode cX7_sheet 78 = .ok (.ireturn, 1) := by decide +kernel
set_option maxRecDepth 20000 in
theorem ggX7_write_X7_lackOf : GoodIn wsX7_write wsX7_lackOf := goodIn_r _ [7, 1, 8, 9, 6, 10, 11, 12, 13, 14, 15, 16, 17, 18, 19, 32, 33, 34, 35, 36, 37, 38, 39, 40, 41, 42, 43, 44] (by decide +kernel) (by decide +kernel)
set_option maxRecDepth 20000 in
theorem gX7_write_X7_lackOf : GoodIn wsX7_write (wsV RX7 206 RX7 yX7_lackOf wsX7_lackOf) := goodIn_app (goodIn_of _ (by decide +kernel)) ggX7_write_X7_lackOf
set_option maxRecDepth 20000 in
theorem ggX7_write_X7_found : GoodIn wsX7_write wsX7_found := goodIn_r _ [23, 24, 25, 32, 33, 34, 35, 36, 37, 38, 39, 40, 41] (by decide +kernel) (by decide +kernel)
set_option maxRecDepth 20000 in
theorem gX7_write_X7_found : GoodIn wsX7_write (wsV RX7 71 RX7 yX7_found wsX7_found) := goodIn_app (goodIn_of _ (by decide +kernel)) ggX7_write_X7_found
set_option maxRecDepth 20000 in
theorem ggX7_write_X7_isWithin : GoodIn wsX7_write wsX7_isWithin := goodIn_r _ [13] (by decide +kernel) (by decide +kernel)
set_option maxRecDepth 20000 in
theorem gX7_write_X7_isWithin : GoodIn wsX7_write (va_wsS RX7 67 yX7_isWithin wsX7_isWithin) := goodIn_app (goodIn_of _ (by decide +kernel)) ggX7_write_X7_isWithin
set_option maxRecDepth 20000 in
theorem ggX7_write_X5_put : GoodIn wsX7_write wsX5_put := goodIn_r _ [29, 30, 31, 19, 12, 6, 13, 42, 43, 44] (by decide +kernel) (by decide +kernel)
set_option maxRecDepth 20000 in
theorem gX7_write_X5_put : GoodIn wsX7_write (wsV RX7 266 RX5 yX5_put wsX5_put) := goodIn_app (goodIn_of _ (by decide +kernel)) ggX7_write_X5_put
theorem dX7_write_0 : decode cX7_write 0 = .ok (.aload_n 0, 1) := by decide +kernel
theorem dX7_write_1 : decode cX7_write 1 = .ok (.iload_n 1, 1) := by decide +kernel
theorem dX7_write_2 : decode cX7_write 2 = .ok (.invokevirtual 206, 3) := by decide +kernel
theorem dX7_write_5 : decode cX7_write 5 = .ok (.istore 4, 2) := by decide +kernel
theorem dX7_write_7 : decode cX7_write 7 = .ok (.iload 4, 2) := by decide +kernel
theorem dX7_write_9 : decode cX7_write 9 = .ok (.iconst (-1), 1) := by decide +kernel
theorem dX7_write_10 : decode cX7_write 10 = .ok (.if_icmp .eq 10, 3) := by decide +kernel
theorem dX7_write_13 : decode cX7_write 13 = .ok (.aload_n 0, 1) := by decide +kernel
theorem dX7_write_14 : decode cX7_write 14 = .ok (.iload 4, 2) := by decide +kernel
theorem dX7_write_16 : decode cX7_write 16 = .ok (.invokevirtual 71, 3) := by decide +kernel
theorem dX7_write_19 : decode cX7_write 19 = .ok (.ireturn, 1) := by decide +kernel
theorem dX7_write_20 : decode cX7_write 20 = .ok (.iload_n 2, 1) := by decide +kernel
theorem dX7_write_21 : decode cX7_write 21 = .ok (.aload_n 0, 1) := by decide +kernel
theorem dX7_write_22 : decode cX7_write 22 = .ok (.getfield 54, 3) := by decide +kernel
theorem dX7_write_25 : decode cX7_write 25 = .ok (.iload_n 1, 1) := by decide +kernel
theorem dX7_write_26 : decode cX7_write 26 = .ok (.aaload, 1) := by decide +kernel
theorem dX7_write_27 : decode cX7_write 27 = .ok (.getfield 265, 3) := by decide +kernel
theorem dX7_write_30 : decode cX7_write 30 = .ok (.iconst 1, 1) := by decide +kernel
theorem dX7_write_31 : decode cX7_write 31 = .ok (.isub, 1) := by decide +kernel
theorem dX7_write_32 : decode cX7_write 32 = .ok (.invokestatic 67, 3) := by decide +kernel
theorem dX7_write_35 : decode cX7_write 35 = .ok (.ifCond .ne 9, 3) := by decide +kernel
theorem dX7_write_38 : decode cX7_write 38 = .ok (.aload_n 0, 1) := by decide +kernel
theorem dX7_write_39 : decode cX7_write 39 = .ok (.iconst 0, 1) := by decide +kernel
theorem dX7_write_40 : decode cX7_write 40 = .ok (.invokevirtual 71, 3) := by decide +kernel
theorem dX7_write_43 : decode cX7_write 43 = .ok (.ireturn, 1) := by decide +kernel
theorem dX7_write_44 : decode cX7_write 44 = .ok (.aload_n 0, 1) := by decide +kernel
theorem dX7_write_45 : decode cX7_write 45 = .ok (.getfield 54, 3) := by decide +kernel
theorem dX7_write_48 : decode cX7_write 48 = .ok (.iload_n 1, 1) := by decide +kernel
theorem dX7_write_49 : decode cX7_write 49 = .ok (.aaload, 1) := by decide +kernel
theorem dX7_write_50 : decode cX7_write 50 = .ok (.iload_n 2, 1) := by decide +kernel
theorem dX7_write_51 : decode cX7_write 51 = .ok (.iload_n 3, 1) := by decide +kernel
theorem dX7_write_52 : decode cX7_write 52 = .ok (.invokevirtual 266, 3) := by decide +kernel
theorem dX7_write_55 : decode cX7_write 55 = .ok (.iconst 1, 1) := by decide +kernel
theorem dX7_write_56 : decode cX7_write 56 = .ok (.ireturn, 1) := by decide +kernel
set_option maxRecDepth 20000 in
theorem ggX7_copy_X7_isSheet : GoodIn wsX7_copy wsX7_isSheet := goodIn_r _ [11, 12, 13, 10, 14] (by decide +kernel) (by decide +kernel)
set_option maxRecDepth 20000 in
theorem gX7_copy_X7_isSheet : GoodIn wsX7_copy (va_wsS RX7 259 yX7_isSheet wsX7_isSheet) := goodIn_app (goodIn_of _ (by decide +kernel)) ggX7_copy_X7_isSheet
set_option maxRecDepth 20000 in
theorem ggX7_copy_X7_found : GoodIn wsX7_copy wsX7_found := goodIn_r _ [18, 19, 20, 32, 33, 34, 35, 36, 37, 38, 39, 40, 41] (by decide +kernel) (by decide +kernel)
set_option maxRecDepth 20000 in
theorem gX7_copy_X7_found : GoodIn wsX7_copy (wsV RX7 71 RX7 yX7_found wsX7_found) := goodIn_app (goodIn_of _ (by decide +kernel)) ggX7_copy_X7_found
set_option maxRecDepth 20000 in
theorem ggX7_copy_X5_isMissing : GoodIn wsX7_copy wsX5_isMissing := goodIn_r _ [25, 26, 42, 43, 44] (by decide +kernel) (by decide +kernel)
set_option maxRecDepth 20000 in
theorem gX7_copy_X5_isMissing : GoodIn wsX7_copy (wsV RX7 269 RX5 yX5_isMissing wsX5_isMissing) := goodIn_app (goodIn_of _ (by decide +kernel)) ggX7_copy_X5_isMissing
set_option maxRecDepth 20000 in
theorem ggX7_copy_X5_hasRun : GoodIn wsX7_copy wsX5_hasRun := goodIn_r _ [30, 31, 42, 43, 44] (by decide +kernel) (by decide +kernel)
set_option maxRecDepth 20000 in
theorem gX7_copy_X5_hasRun : GoodIn wsX7_copy (wsV RX7 275 RX5 yX5_hasRun wsX5_hasRun) := goodIn_app (goodIn_of _ (by decide +kernel)) ggX7_copy_X5_hasRun
theorem dX7_copy_0 : decode cX7_copy 0 = .ok (.iload_n 1, 1) := by decide +kernel
theorem dX7_copy_1 : decode cX7_copy 1 = .ok (.invokestatic 259, 3) := by decide +kernel
theorem dX7_copy_4 : decode cX7_copy 4 = .ok (.ifCond .eq 10, 3) := by decide +kernel
theorem dX7_copy_7 : decode cX7_copy 7 = .ok (.iload_n 3, 1) := by decide +kernel
theorem dX7_copy_8 : decode cX7_copy 8 = .ok (.invokestatic 259, 3) := by decide +kernel
theorem dX7_copy_11 : decode cX7_copy 11 = .ok (.ifCond .ne 9, 3) := by decide +kernel
theorem dX7_copy_14 : decode cX7_copy 14 = .ok (.aload_n 0, 1) := by decide +kernel
theorem dX7_copy_15 : decode cX7_copy 15 = .ok (.iconst 0, 1) := by decide +kernel
theorem dX7_copy_16 : decode cX7_copy 16 = .ok (.invokevirtual 71, 3) := by decide +kernel
theorem dX7_copy_19 : decode cX7_copy 19 = .ok (.ireturn, 1) := by decide +kernel
theorem dX7_copy_20 : decode cX7_copy 20 = .ok (.aload_n 0, 1) := by decide +kernel
theorem dX7_copy_21 : decode cX7_copy 21 = .ok (.getfield 54, 3) := by decide +kernel
theorem dX7_copy_24 : decode cX7_copy 24 = .ok (.iload_n 1, 1) := by decide +kernel
theorem dX7_copy_25 : decode cX7_copy 25 = .ok (.aaload, 1) := by decide +kernel
theorem dX7_copy_26 : decode cX7_copy 26 = .ok (.invokevirtual 269, 3) := by decide +kernel
theorem dX7_copy_29 : decode cX7_copy 29 = .ok (.ifCond .ne 15, 3) := by decide +kernel
theorem dX7_copy_32 : decode cX7_copy 32 = .ok (.aload_n 0, 1) := by decide +kernel
theorem dX7_copy_33 : decode cX7_copy 33 = .ok (.getfield 54, 3) := by decide +kernel
theorem dX7_copy_36 : decode cX7_copy 36 = .ok (.iload_n 3, 1) := by decide +kernel
theorem dX7_copy_37 : decode cX7_copy 37 = .ok (.aaload, 1) := by decide +kernel
theorem dX7_copy_38 : decode cX7_copy 38 = .ok (.invokevirtual 269, 3) := by decide +kernel
theorem dX7_copy_41 : decode cX7_copy 41 = .ok (.ifCond .eq 9, 3) := by decide +kernel
theorem dX7_copy_44 : decode cX7_copy 44 = .ok (.aload_n 0, 1) := by decide +kernel
theorem dX7_copy_45 : decode cX7_copy 45 = .ok (.iconst 5, 1) := by decide +kernel
theorem dX7_copy_46 : decode cX7_copy 46 = .ok (.invokevirtual 71, 3) := by decide +kernel
theorem dX7_copy_49 : decode cX7_copy 49 = .ok (.ireturn, 1) := by decide +kernel
theorem dX7_copy_50 : decode cX7_copy 50 = .ok (.aload_n 0, 1) := by decide +kernel
theorem dX7_copy_51 : decode cX7_copy 51 = .ok (.getfield 54, 3) := by decide +kernel
theorem dX7_copy_54 : decode cX7_copy 54 = .ok (.iload_n 1, 1) := by decide +kernel
theorem dX7_copy_55 : decode cX7_copy 55 = .ok (.aaload, 1) := by decide +kernel
theorem dX7_copy_56 : decode cX7_copy 56 = .ok (.getfield 272, 3) := by decide +kernel
theorem dX7_copy_59 : decode cX7_copy 59 = .ok (.aload_n 0, 1) := by decide +kernel
theorem dX7_copy_60 : decode cX7_copy 60 = .ok (.getfield 54, 3) := by decide +kernel
theorem dX7_copy_63 : decode cX7_copy 63 = .ok (.iload_n 3, 1) := by decide +kernel
theorem dX7_copy_64 : decode cX7_copy 64 = .ok (.aaload, 1) := by decide +kernel
theorem dX7_copy_65 : decode cX7_copy 65 = .ok (.getfield 272, 3) := by decide +kernel
theorem dX7_copy_68 : decode cX7_copy 68 = .ok (.if_icmp .eq 9, 3) := by decide +kernel
theorem dX7_copy_71 : decode cX7_copy 71 = .ok (.aload_n 0, 1) := by decide +kernel
theorem dX7_copy_72 : decode cX7_copy 72 = .ok (.iconst 2, 1) := by decide +kernel
theorem dX7_copy_73 : decode cX7_copy 73 = .ok (.invokevirtual 71, 3) := by decide +kernel
theorem dX7_copy_76 : decode cX7_copy 76 = .ok (.ireturn, 1) := by decide +kernel
theorem dX7_copy_77 : decode cX7_copy 77 = .ok (.aload_n 0, 1) := by decide +kernel
theorem dX7_copy_78 : decode cX7_copy 78 = .ok (.getfield 54, 3) := by decide +kernel
theorem dX7_copy_81 : decode cX7_copy 81 = .ok (.iload_n 1, 1) := by decide +kernel
theorem dX7_copy_82 : decode cX7_copy 82 = .ok (.aaload, 1) := by decide +kernel
theorem dX7_copy_83 : decode cX7_copy 83 = .ok (.iload_n 2, 1) := by decide +kernel
theorem dX7_copy_84 : decode cX7_copy 84 = .ok (.iload 5, 2) := by decide +kernel
theorem dX7_copy_86 : decode cX7_copy 86 = .ok (.invokevirtual 275, 3) := by decide +kernel
theorem dX7_copy_89 : decode cX7_copy 89 = .ok (.ifCond .eq 19, 3) := by decide +kernel
theorem dX7_copy_92 : decode cX7_copy 92 = .ok (.aload_n 0, 1) := by decide +kernel
theorem dX7_copy_93 : decode cX7_copy 93 = .ok (.getfield 54, 3) := by decide +kernel
theorem dX7_copy_96 : decode cX7_copy 96 = .ok (.iload_n 3, 1) := by decide +kernel
theorem dX7_copy_97 : decode cX7_copy 97 = .ok (.aaload, 1) := by decide +kernel
theorem dX7_copy_98 : decode cX7_copy 98 = .ok (.iload 4, 2) := by decide +kernel
theorem dX7_copy_100 : decode cX7_copy 100 = .ok (.iload 5, 2) := by decide +kernel
theorem dX7_copy_102 : decode cX7_copy 102 = .ok (.invokevirtual 275, 3) := by decide +kernel
theorem dX7_copy_105 : decode cX7_copy 105 = .ok (.ifCond .ne 9, 3) := by decide +kernel
theorem dX7_copy_108 : decode cX7_copy 108 = .ok (.aload_n 0, 1) := by decide +kernel
theorem dX7_copy_109 : decode cX7_copy 109 = .ok (.iconst 0, 1) := by decide +kernel
theorem dX7_copy_110 : decode cX7_copy 110 = .ok (.invokevirtual 71, 3) := by decide +kernel
theorem dX7_copy_113 : decode cX7_copy 113 = .ok (.ireturn, 1) := by decide +kernel
theorem dX7_copy_114 : decode cX7_copy 114 = .ok (.aload_n 0, 1) := by decide +kernel
theorem dX7_copy_115 : decode cX7_copy 115 = .ok (.getfield 54, 3) := by decide +kernel
theorem dX7_copy_118 : decode cX7_copy 118 = .ok (.iload_n 1, 1) := by decide +kernel
theorem dX7_copy_119 : decode cX7_copy 119 = .ok (.aaload, 1) := by decide +kernel
theorem dX7_copy_120 : decode cX7_copy 120 = .ok (.getfield 278, 3) := by decide +kernel
theorem dX7_copy_123 : decode cX7_copy 123 = .ok (.iload_n 2, 1) := by decide +kernel
theorem dX7_copy_124 : decode cX7_copy 124 = .ok (.aload_n 0, 1) := by decide +kernel
theorem dX7_copy_125 : decode cX7_copy 125 = .ok (.getfield 54, 3) := by decide +kernel
theorem dX7_copy_128 : decode cX7_copy 128 = .ok (.iload_n 3, 1) := by decide +kernel
theorem dX7_copy_129 : decode cX7_copy 129 = .ok (.aaload, 1) := by decide +kernel
theorem dX7_copy_130 : decode cX7_copy 130 = .ok (.getfield 278, 3) := by decide +kernel
theorem dX7_copy_133 : decode cX7_copy 133 = .ok (.iload 4, 2) := by decide +kernel
theorem dX7_copy_135 : decode cX7_copy 135 = .ok (.iload 5, 2) := by decide +kernel
theorem dX7_copy_137 : decode cX7_copy 137 = .ok (.invokestatic 281, 3) := by decide +kernel
theorem dX7_copy_140 : decode cX7_copy 140 = .ok (.iload 5, 2) := by decide +kernel
theorem dX7_copy_142 : decode cX7_copy 142 = .ok (.ireturn, 1) := by decide +kernel
set_option maxRecDepth 20000 in
theorem ggX7_load_X7_lackOf : GoodIn wsX7_load wsX7_lackOf := goodIn_r _ [15, 1, 16, 17, 14, 18, 19, 20, 21, 22, 23, 24, 25, 26, 27, 34, 35, 36, 37, 38, 39, 40, 41, 42, 43, 44, 45, 46] (by decide +kernel) (by decide +kernel)
set_option maxRecDepth 20000 in
theorem gX7_load_X7_lackOf : GoodIn wsX7_load (wsV RX7 206 RX7 yX7_lackOf wsX7_lackOf) := goodIn_app (goodIn_of _ (by decide +kernel)) ggX7_load_X7_lackOf
set_option maxRecDepth 20000 in
theorem ggX7_load_X7_found : GoodIn wsX7_load wsX7_found := goodIn_r _ [31, 32, 33, 34, 35, 36, 37, 38, 39, 40, 41, 42, 43] (by decide +kernel) (by decide +kernel)
set_option maxRecDepth 20000 in
theorem gX7_load_X7_found : GoodIn wsX7_load (wsV RX7 71 RX7 yX7_found wsX7_found) := goodIn_app (goodIn_of _ (by decide +kernel)) ggX7_load_X7_found
set_option maxRecDepth 20000 in
theorem ggX7_load_X7_isWithin : GoodIn wsX7_load wsX7_isWithin := goodIn_r _ [21] (by decide +kernel) (by decide +kernel)
set_option maxRecDepth 20000 in
theorem gX7_load_X7_isWithin : GoodIn wsX7_load (va_wsS RX7 67 yX7_isWithin wsX7_isWithin) := goodIn_app (goodIn_of _ (by decide +kernel)) ggX7_load_X7_isWithin
theorem dX7_load_0 : decode cX7_load 0 = .ok (.aload_n 0, 1) := by decide +kernel
theorem dX7_load_1 : decode cX7_load 1 = .ok (.iload_n 1, 1) := by decide +kernel
theorem dX7_load_2 : decode cX7_load 2 = .ok (.invokevirtual 206, 3) := by decide +kernel
theorem dX7_load_5 : decode cX7_load 5 = .ok (.istore_n 2, 1) := by decide +kernel
theorem dX7_load_6 : decode cX7_load 6 = .ok (.iload_n 2, 1) := by decide +kernel
theorem dX7_load_7 : decode cX7_load 7 = .ok (.iconst (-1), 1) := by decide +kernel
theorem dX7_load_8 : decode cX7_load 8 = .ok (.if_icmp .eq 9, 3) := by decide +kernel
theorem dX7_load_11 : decode cX7_load 11 = .ok (.aload_n 0, 1) := by decide +kernel
theorem dX7_load_12 : decode cX7_load 12 = .ok (.iload_n 2, 1) := by decide +kernel
theorem dX7_load_13 : decode cX7_load 13 = .ok (.invokevirtual 71, 3) := by decide +kernel
theorem dX7_load_16 : decode cX7_load 16 = .ok (.ireturn, 1) := by decide +kernel
theorem dX7_load_17 : decode cX7_load 17 = .ok (.aload_n 0, 1) := by decide +kernel
theorem dX7_load_18 : decode cX7_load 18 = .ok (.getfield 54, 3) := by decide +kernel
theorem dX7_load_21 : decode cX7_load 21 = .ok (.iload_n 1, 1) := by decide +kernel
theorem dX7_load_22 : decode cX7_load 22 = .ok (.aaload, 1) := by decide +kernel
theorem dX7_load_23 : decode cX7_load 23 = .ok (.getfield 265, 3) := by decide +kernel
theorem dX7_load_26 : decode cX7_load 26 = .ok (.aload_n 0, 1) := by decide +kernel
theorem dX7_load_27 : decode cX7_load 27 = .ok (.getfield 10, 3) := by decide +kernel
theorem dX7_load_30 : decode cX7_load 30 = .ok (.getfield 200, 3) := by decide +kernel
theorem dX7_load_33 : decode cX7_load 33 = .ok (.invokestatic 216, 3) := by decide +kernel
theorem dX7_load_36 : decode cX7_load 36 = .ok (.istore_n 3, 1) := by decide +kernel
theorem dX7_load_37 : decode cX7_load 37 = .ok (.iconst 0, 1) := by decide +kernel
theorem dX7_load_38 : decode cX7_load 38 = .ok (.istore 4, 2) := by decide +kernel
theorem dX7_load_40 : decode cX7_load 40 = .ok (.iload 4, 2) := by decide +kernel
theorem dX7_load_42 : decode cX7_load 42 = .ok (.iload_n 3, 1) := by decide +kernel
theorem dX7_load_43 : decode cX7_load 43 = .ok (.if_icmp .ge 54, 3) := by decide +kernel
theorem dX7_load_46 : decode cX7_load 46 = .ok (.aload_n 0, 1) := by decide +kernel
theorem dX7_load_47 : decode cX7_load 47 = .ok (.getfield 54, 3) := by decide +kernel
theorem dX7_load_50 : decode cX7_load 50 = .ok (.iload_n 1, 1) := by decide +kernel
theorem dX7_load_51 : decode cX7_load 51 = .ok (.aaload, 1) := by decide +kernel
theorem dX7_load_52 : decode cX7_load 52 = .ok (.getfield 278, 3) := by decide +kernel
theorem dX7_load_55 : decode cX7_load 55 = .ok (.iload 4, 2) := by decide +kernel
theorem dX7_load_57 : decode cX7_load 57 = .ok (.iaload, 1) := by decide +kernel
theorem dX7_load_58 : decode cX7_load 58 = .ok (.bipush 99, 2) := by decide +kernel
theorem dX7_load_60 : decode cX7_load 60 = .ok (.invokestatic 67, 3) := by decide +kernel
theorem dX7_load_63 : decode cX7_load 63 = .ok (.ifCond .ne 6, 3) := by decide +kernel
theorem dX7_load_66 : decode cX7_load 66 = .ok (.iload 4, 2) := by decide +kernel
theorem dX7_load_68 : decode cX7_load 68 = .ok (.ireturn, 1) := by decide +kernel
theorem dX7_load_69 : decode cX7_load 69 = .ok (.aload_n 0, 1) := by decide +kernel
theorem dX7_load_70 : decode cX7_load 70 = .ok (.getfield 10, 3) := by decide +kernel
theorem dX7_load_73 : decode cX7_load 73 = .ok (.getfield 89, 3) := by decide +kernel
theorem dX7_load_76 : decode cX7_load 76 = .ok (.iload 4, 2) := by decide +kernel
theorem dX7_load_78 : decode cX7_load 78 = .ok (.aload_n 0, 1) := by decide +kernel
theorem dX7_load_79 : decode cX7_load 79 = .ok (.getfield 54, 3) := by decide +kernel
theorem dX7_load_82 : decode cX7_load 82 = .ok (.iload_n 1, 1) := by decide +kernel
theorem dX7_load_83 : decode cX7_load 83 = .ok (.aaload, 1) := by decide +kernel
theorem dX7_load_84 : decode cX7_load 84 = .ok (.getfield 278, 3) := by decide +kernel
theorem dX7_load_87 : decode cX7_load 87 = .ok (.iload 4, 2) := by decide +kernel
theorem dX7_load_89 : decode cX7_load 89 = .ok (.iaload, 1) := by decide +kernel
theorem dX7_load_90 : decode cX7_load 90 = .ok (.iastore, 1) := by decide +kernel
theorem dX7_load_91 : decode cX7_load 91 = .ok (.iinc 4 1, 3) := by decide +kernel
theorem dX7_load_94 : decode cX7_load 94 = .ok (.goto (-54), 3) := by decide +kernel
theorem dX7_load_97 : decode cX7_load 97 = .ok (.iload_n 3, 1) := by decide +kernel
theorem dX7_load_98 : decode cX7_load 98 = .ok (.ireturn, 1) := by decide +kernel
set_option maxRecDepth 20000 in
theorem ggX7_judge_X7_lackOf : GoodIn wsX7_judge wsX7_lackOf := goodIn_r _ [11, 3, 12, 13, 10, 14, 15, 16, 17, 18, 19, 20, 21, 22, 23, 107, 108, 109, 110, 111, 112, 113, 114, 115, 116, 117, 118, 119] (by decide +kernel) (by decide +kernel)
set_option maxRecDepth 20000 in
theorem gX7_judge_X7_lackOf : GoodIn wsX7_judge (wsV RX7 206 RX7 yX7_lackOf wsX7_lackOf) := goodIn_app (goodIn_of _ (by decide +kernel)) ggX7_judge_X7_lackOf
set_option maxRecDepth 20000 in
theorem ggX7_judge_X7_found : GoodIn wsX7_judge wsX7_found := goodIn_r _ [27, 28, 29, 107, 108, 109, 110, 111, 112, 113, 114, 115, 116] (by decide +kernel) (by decide +kernel)
set_option maxRecDepth 20000 in
theorem gX7_judge_X7_found : GoodIn wsX7_judge (wsV RX7 71 RX7 yX7_found wsX7_found) := goodIn_app (goodIn_of _ (by decide +kernel)) ggX7_judge_X7_found
set_option maxRecDepth 20000 in
theorem ggX7_judge_X4_see : GoodIn wsX7_judge wsX4_see := goodIn_r _ [34, 35, 36, 37, 33, 38, 39, 40, 41, 42, 43, 44, 45, 46, 47, 48, 49, 50, 51, 52, 53, 54, 55, 56, 57, 58, 59, 60, 61, 62, 63, 64, 65, 66, 67, 68, 69, 70, 71, 72, 73, 74, 75, 76, 77, 78, 10, 79, 80, 81, 82, 83, 84, 85, 86, 87, 88, 89, 90, 91, 92, 93, 94, 95, 96, 97, 98, 99, 100, 101, 102, 132, 133, 134, 135, 120, 121, 122, 123, 124, 125, 126, 127, 128, 129, 130, 131] (by decide +kernel) (by decide +kernel)
set_option maxRecDepth 20000 in
theorem gX7_judge_X4_see : GoodIn wsX7_judge (wsV RX7 144 RX4 yX4_see wsX4_see) := goodIn_app (goodIn_of _ (by decide +kernel)) ggX7_judge_X4_see
set_option maxRecDepth 20000 in
theorem ggX7_judge_X4_isShadowSet : GoodIn wsX7_judge wsX4_isShadowSet := goodIn_r _ [106, 41, 73, 132, 133, 134, 135] (by decide +kernel) (by decide +kernel)
set_option maxRecDepth 20000 in
theorem gX7_judge_X4_isShadowSet : GoodIn wsX7_judge (wsV RX7 287 RX4 yX4_isShadowSet wsX4_isShadowSet) := goodIn_app (goodIn_of _ (by decide +kernel)) ggX7_judge_X4_isShadowSet
theorem dX7_judge_0 : decode cX7_judge 0 = .ok (.aload_n 0, 1) := by decide +kernel
theorem dX7_judge_1 : decode cX7_judge 1 = .ok (.iload_n 1, 1) := by decide +kernel
theorem dX7_judge_2 : decode cX7_judge 2 = .ok (.invokevirtual 206, 3) := by decide +kernel
theorem dX7_judge_5 : decode cX7_judge 5 = .ok (.istore_n 2, 1) := by decide +kernel
theorem dX7_judge_6 : decode cX7_judge 6 = .ok (.iload_n 2, 1) := by decide +kernel
theorem dX7_judge_7 : decode cX7_judge 7 = .ok (.iconst (-1), 1) := by decide +kernel
theorem dX7_judge_8 : decode cX7_judge 8 = .ok (.if_icmp .eq 9, 3) := by decide +kernel
theorem dX7_judge_11 : decode cX7_judge 11 = .ok (.aload_n 0, 1) := by decide +kernel
theorem dX7_judge_12 : decode cX7_judge 12 = .ok (.iload_n 2, 1) := by decide +kernel
theorem dX7_judge_13 : decode cX7_judge 13 = .ok (.invokevirtual 71, 3) := by decide +kernel
theorem dX7_judge_16 : decode cX7_judge 16 = .ok (.ireturn, 1) := by decide +kernel
theorem dX7_judge_17 : decode cX7_judge 17 = .ok (.aload_n 0, 1) := by decide +kernel
theorem dX7_judge_18 : decode cX7_judge 18 = .ok (.getfield 22, 3) := by decide +kernel
theorem dX7_judge_21 : decode cX7_judge 21 = .ok (.aload_n 0, 1) := by decide +kernel
theorem dX7_judge_22 : decode cX7_judge 22 = .ok (.getfield 10, 3) := by decide +kernel
theorem dX7_judge_25 : decode cX7_judge 25 = .ok (.invokevirtual 144, 3) := by decide +kernel
theorem dX7_judge_28 : decode cX7_judge 28 = .ok (.iconst 0, 1) := by decide +kernel
theorem dX7_judge_29 : decode cX7_judge 29 = .ok (.istore_n 3, 1) := by decide +kernel
theorem dX7_judge_30 : decode cX7_judge 30 = .ok (.iload_n 3, 1) := by decide +kernel
theorem dX7_judge_31 : decode cX7_judge 31 = .ok (.aload_n 0, 1) := by decide +kernel
theorem dX7_judge_32 : decode cX7_judge 32 = .ok (.getfield 54, 3) := by decide +kernel
theorem dX7_judge_35 : decode cX7_judge 35 = .ok (.iload_n 1, 1) := by decide +kernel
theorem dX7_judge_36 : decode cX7_judge 36 = .ok (.aaload, 1) := by decide +kernel
theorem dX7_judge_37 : decode cX7_judge 37 = .ok (.getfield 265, 3) := by decide +kernel
theorem dX7_judge_40 : decode cX7_judge 40 = .ok (.if_icmp .ge 43, 3) := by decide +kernel
theorem dX7_judge_43 : decode cX7_judge 43 = .ok (.aload_n 0, 1) := by decide +kernel
theorem dX7_judge_44 : decode cX7_judge 44 = .ok (.getfield 22, 3) := by decide +kernel
theorem dX7_judge_47 : decode cX7_judge 47 = .ok (.aload_n 0, 1) := by decide +kernel
theorem dX7_judge_48 : decode cX7_judge 48 = .ok (.getfield 10, 3) := by decide +kernel
theorem dX7_judge_51 : decode cX7_judge 51 = .ok (.getfield 101, 3) := by decide +kernel
theorem dX7_judge_54 : decode cX7_judge 54 = .ok (.iload_n 3, 1) := by decide +kernel
theorem dX7_judge_55 : decode cX7_judge 55 = .ok (.iadd, 1) := by decide +kernel
theorem dX7_judge_56 : decode cX7_judge 56 = .ok (.aload_n 0, 1) := by decide +kernel
theorem dX7_judge_57 : decode cX7_judge 57 = .ok (.getfield 54, 3) := by decide +kernel
theorem dX7_judge_60 : decode cX7_judge 60 = .ok (.iload_n 1, 1) := by decide +kernel
theorem dX7_judge_61 : decode cX7_judge 61 = .ok (.aaload, 1) := by decide +kernel
theorem dX7_judge_62 : decode cX7_judge 62 = .ok (.getfield 278, 3) := by decide +kernel
theorem dX7_judge_65 : decode cX7_judge 65 = .ok (.iload_n 3, 1) := by decide +kernel
theorem dX7_judge_66 : decode cX7_judge 66 = .ok (.iaload, 1) := by decide +kernel
theorem dX7_judge_67 : decode cX7_judge 67 = .ok (.invokevirtual 287, 3) := by decide +kernel
theorem dX7_judge_70 : decode cX7_judge 70 = .ok (.ifCond .ne 7, 3) := by decide +kernel
theorem dX7_judge_73 : decode cX7_judge 73 = .ok (.iconst 1, 1) := by decide +kernel
theorem dX7_judge_74 : decode cX7_judge 74 = .ok (.iload_n 3, 1) := by decide +kernel
theorem dX7_judge_75 : decode cX7_judge 75 = .ok (.iadd, 1) := by decide +kernel
theorem dX7_judge_76 : decode cX7_judge 76 = .ok (.ireturn, 1) := by decide +kernel
theorem dX7_judge_77 : decode cX7_judge 77 = .ok (.iinc 3 1, 3) := by decide +kernel
theorem dX7_judge_80 : decode cX7_judge 80 = .ok (.goto (-50), 3) := by decide +kernel
theorem dX7_judge_83 : decode cX7_judge 83 = .ok (.iconst 0, 1) := by decide +kernel
theorem dX7_judge_84 : decode cX7_judge 84 = .ok (.ireturn, 1) := by decide +kernel
set_option maxRecDepth 20000 in
theorem ggX7_image_X1_become : GoodIn wsX7_image wsX1_become := goodIn_r _ [8, 9, 10, 11, 12, 13, 14, 15, 16, 17, 18, 19, 20, 21, 22, 23, 24, 35, 36, 37, 38, 39, 40, 41, 42, 43, 44, 45, 46] (by decide +kernel) (by decide +kernel)
set_option maxRecDepth 20000 in
theorem gX7_image_X1_become : GoodIn wsX7_image (wsV RX7 290 RX1 yX1_become wsX1_become) := goodIn_app (goodIn_of _ (by decide +kernel)) ggX7_image_X1_become
theorem dX7_image_0 : decode cX7_image 0 = .ok (.aload_n 0, 1) := by decide +kernel
theorem dX7_image_1 : decode cX7_image 1 = .ok (.getfield 16, 3) := by decide +kernel
theorem dX7_image_4 : decode cX7_image 4 = .ok (.aload_n 0, 1) := by decide +kernel
theorem dX7_image_5 : decode cX7_image 5 = .ok (.getfield 10, 3) := by decide +kernel
theorem dX7_image_8 : decode cX7_image 8 = .ok (.invokevirtual 290, 3) := by decide +kernel
theorem dX7_image_11 : decode cX7_image 11 = .ok (.aload_n 0, 1) := by decide +kernel
theorem dX7_image_12 : decode cX7_image 12 = .ok (.iconst 1, 1) := by decide +kernel
theorem dX7_image_13 : decode cX7_image 13 = .ok (.putfield 62, 3) := by decide +kernel
theorem dX7_image_16 : decode cX7_image 16 = .ok (.iconst 1, 1) := by decide +kernel
theorem dX7_image_17 : decode cX7_image 17 = .ok (.ireturn, 1) := by decide +kernel
set_option maxRecDepth 20000 in
theorem ggX7_undo_X7_found : GoodIn wsX7_undo wsX7_found := goodIn_r _ [9, 10, 11, 33, 34, 35, 36, 37, 38, 39, 40, 41, 42] (by decide +kernel) (by decide +kernel)
set_option maxRecDepth 20000 in
theorem gX7_undo_X7_found : GoodIn wsX7_undo (wsV RX7 71 RX7 yX7_found wsX7_found) := goodIn_app (goodIn_of _ (by decide +kernel)) ggX7_undo_X7_found
set_option maxRecDepth 20000 in
theorem ggX7_undo_X1_become : GoodIn wsX7_undo wsX1_become := goodIn_r _ [16, 17, 18, 19, 20, 21, 22, 23, 24, 25, 26, 27, 28, 29, 30, 31, 32, 43, 44, 45, 46, 47, 48, 49, 50, 51, 52, 53, 54] (by decide +kernel) (by decide +kernel)
set_option maxRecDepth 20000 in
theorem gX7_undo_X1_become : GoodIn wsX7_undo (wsV RX7 290 RX1 yX1_become wsX1_become) := goodIn_app (goodIn_of _ (by decide +kernel)) ggX7_undo_X1_become
theorem dX7_undo_0 : decode cX7_undo 0 = .ok (.aload_n 0, 1) := by decide +kernel
theorem dX7_undo_1 : decode cX7_undo 1 = .ok (.getfield 62, 3) := by decide +kernel
theorem dX7_undo_4 : decode cX7_undo 4 = .ok (.ifCond .ne 9, 3) := by decide +kernel
theorem dX7_undo_7 : decode cX7_undo 7 = .ok (.aload_n 0, 1) := by decide +kernel
theorem dX7_undo_8 : decode cX7_undo 8 = .ok (.iconst 3, 1) := by decide +kernel
theorem dX7_undo_9 : decode cX7_undo 9 = .ok (.invokevirtual 71, 3) := by decide +kernel
theorem dX7_undo_12 : decode cX7_undo 12 = .ok (.ireturn, 1) := by decide +kernel
theorem dX7_undo_13 : decode cX7_undo 13 = .ok (.aload_n 0, 1) := by decide +kernel
theorem dX7_undo_14 : decode cX7_undo 14 = .ok (.getfield 10, 3) := by decide +kernel
theorem dX7_undo_17 : decode cX7_undo 17 = .ok (.aload_n 0, 1) := by decide +kernel
theorem dX7_undo_18 : decode cX7_undo 18 = .ok (.getfield 16, 3) := by decide +kernel
theorem dX7_undo_21 : decode cX7_undo 21 = .ok (.invokevirtual 290, 3) := by decide +kernel
theorem dX7_undo_24 : decode cX7_undo 24 = .ok (.aload_n 0, 1) := by decide +kernel
theorem dX7_undo_25 : decode cX7_undo 25 = .ok (.getfield 10, 3) := by decide +kernel
theorem dX7_undo_28 : decode cX7_undo 28 = .ok (.getfield 101, 3) := by decide +kernel
theorem dX7_undo_31 : decode cX7_undo 31 = .ok (.ireturn, 1) := by decide +kernel
theorem dX7_tear_0 : decode cX7_tear 0 = .ok (.aload_n 0, 1) := by decide +kernel
theorem dX7_tear_1 : decode cX7_tear 1 = .ok (.getfield 62, 3) := by decide +kernel
theorem dX7_tear_4 : decode cX7_tear 4 = .ok (.ifCond .eq 7, 3) := by decide +kernel
theorem dX7_tear_7 : decode cX7_tear 7 = .ok (.iconst 1, 1) := by decide +kernel
theorem dX7_tear_8 : decode cX7_tear 8 = .ok (.goto 4, 3) := by decide +kernel
theorem dX7_tear_11 : decode cX7_tear 11 = .ok (.iconst 0, 1) := by decide +kernel
theorem dX7_tear_12 : decode cX7_tear 12 = .ok (.istore_n 1, 1) := by decide +kernel
theorem dX7_tear_13 : decode cX7_tear 13 = .ok (.aload_n 0, 1) := by decide +kernel
theorem dX7_tear_14 : decode cX7_tear 14 = .ok (.iconst 0, 1) := by decide +kernel
theorem dX7_tear_15 : decode cX7_tear 15 = .ok (.putfield 62, 3) := by decide +kernel
theorem dX7_tear_18 : decode cX7_tear 18 = .ok (.iload_n 1, 1) := by decide +kernel
theorem dX7_tear_19 : decode cX7_tear 19 = .ok (.ireturn, 1) := by decide +kernel
set_option maxRecDepth 20000 in
theorem ggX7_count_X1_countMated : GoodIn wsX7_count wsX1_countMated := goodIn_r _ [12, 13, 14, 42, 43, 44, 45, 46, 47, 48, 49, 50, 51, 52, 53] (by decide +kernel) (by decide +kernel)
set_option maxRecDepth 20000 in
theorem gX7_count_X1_countMated : GoodIn wsX7_count (wsV RX7 293 RX1 yX1_countMated wsX1_countMated) := goodIn_app (goodIn_of _ (by decide +kernel)) ggX7_count_X1_countMated
set_option maxRecDepth 20000 in
theorem ggX7_count_X1_sunOfAll : GoodIn wsX7_count wsX1_sunOfAll := goodIn_r _ [18, 13, 19, 42, 43, 44, 45, 46, 47, 48, 49, 50, 51, 52, 53] (by decide +kernel) (by decide +kernel)
set_option maxRecDepth 20000 in
theorem gX7_count_X1_sunOfAll : GoodIn wsX7_count (wsV RX7 296 RX1 yX1_sunOfAll wsX1_sunOfAll) := goodIn_app (goodIn_of _ (by decide +kernel)) ggX7_count_X1_sunOfAll
set_option maxRecDepth 20000 in
theorem ggX7_count_X1_countHeld : GoodIn wsX7_count wsX1_countHeld := goodIn_r _ [23, 24, 42, 43, 44, 45, 46, 47, 48, 49, 50, 51, 52, 53] (by decide +kernel) (by decide +kernel)
set_option maxRecDepth 20000 in
theorem gX7_count_X1_countHeld : GoodIn wsX7_count (wsV RX7 299 RX1 yX1_countHeld wsX1_countHeld) := goodIn_app (goodIn_of _ (by decide +kernel)) ggX7_count_X1_countHeld
set_option maxRecDepth 20000 in
theorem ggX7_count_X7_found : GoodIn wsX7_count wsX7_found := goodIn_r _ [29, 30, 31, 32, 33, 34, 35, 36, 37, 38, 39, 40, 41] (by decide +kernel) (by decide +kernel)
set_option maxRecDepth 20000 in
theorem gX7_count_X7_found : GoodIn wsX7_count (wsV RX7 71 RX7 yX7_found wsX7_found) := goodIn_app (goodIn_of _ (by decide +kernel)) ggX7_count_X7_found
theorem dX7_count_0 : decode cX7_count 0 = .ok (.iload_n 1, 1) := by decide +kernel
theorem dX7_count_1 : decode cX7_count 1 = .ok (.tableswitch 111 0 7 #[47, 55, 63, 71, 79, 87, 95, 103], 47) := by decide +kernel
theorem dX7_count_48 : decode cX7_count 48 = .ok (.aload_n 0, 1) := by decide +kernel
theorem dX7_count_49 : decode cX7_count 49 = .ok (.getfield 10, 3) := by decide +kernel
theorem dX7_count_52 : decode cX7_count 52 = .ok (.getfield 101, 3) := by decide +kernel
theorem dX7_count_55 : decode cX7_count 55 = .ok (.ireturn, 1) := by decide +kernel
theorem dX7_count_56 : decode cX7_count 56 = .ok (.aload_n 0, 1) := by decide +kernel
theorem dX7_count_57 : decode cX7_count 57 = .ok (.getfield 10, 3) := by decide +kernel
theorem dX7_count_60 : decode cX7_count 60 = .ok (.getfield 200, 3) := by decide +kernel
theorem dX7_count_63 : decode cX7_count 63 = .ok (.ireturn, 1) := by decide +kernel
theorem dX7_count_64 : decode cX7_count 64 = .ok (.aload_n 0, 1) := by decide +kernel
theorem dX7_count_65 : decode cX7_count 65 = .ok (.getfield 10, 3) := by decide +kernel
theorem dX7_count_68 : decode cX7_count 68 = .ok (.invokevirtual 293, 3) := by decide +kernel
theorem dX7_count_71 : decode cX7_count 71 = .ok (.ireturn, 1) := by decide +kernel
theorem dX7_count_72 : decode cX7_count 72 = .ok (.aload_n 0, 1) := by decide +kernel
theorem dX7_count_73 : decode cX7_count 73 = .ok (.getfield 10, 3) := by decide +kernel
theorem dX7_count_76 : decode cX7_count 76 = .ok (.getfield 138, 3) := by decide +kernel
theorem dX7_count_79 : decode cX7_count 79 = .ok (.ireturn, 1) := by decide +kernel
theorem dX7_count_80 : decode cX7_count 80 = .ok (.aload_n 0, 1) := by decide +kernel
theorem dX7_count_81 : decode cX7_count 81 = .ok (.getfield 10, 3) := by decide +kernel
theorem dX7_count_84 : decode cX7_count 84 = .ok (.invokevirtual 296, 3) := by decide +kernel
theorem dX7_count_87 : decode cX7_count 87 = .ok (.ireturn, 1) := by decide +kernel
theorem dX7_count_88 : decode cX7_count 88 = .ok (.aload_n 0, 1) := by decide +kernel
theorem dX7_count_89 : decode cX7_count 89 = .ok (.getfield 51, 3) := by decide +kernel
theorem dX7_count_92 : decode cX7_count 92 = .ok (.getfield 243, 3) := by decide +kernel
theorem dX7_count_95 : decode cX7_count 95 = .ok (.ireturn, 1) := by decide +kernel
theorem dX7_count_96 : decode cX7_count 96 = .ok (.aload_n 0, 1) := by decide +kernel
theorem dX7_count_97 : decode cX7_count 97 = .ok (.getfield 10, 3) := by decide +kernel
theorem dX7_count_100 : decode cX7_count 100 = .ok (.getfield 238, 3) := by decide +kernel
theorem dX7_count_103 : decode cX7_count 103 = .ok (.ireturn, 1) := by decide +kernel
theorem dX7_count_104 : decode cX7_count 104 = .ok (.aload_n 0, 1) := by decide +kernel
theorem dX7_count_105 : decode cX7_count 105 = .ok (.getfield 10, 3) := by decide +kernel
theorem dX7_count_108 : decode cX7_count 108 = .ok (.invokevirtual 299, 3) := by decide +kernel
theorem dX7_count_111 : decode cX7_count 111 = .ok (.ireturn, 1) := by decide +kernel
theorem dX7_count_112 : decode cX7_count 112 = .ok (.aload_n 0, 1) := by decide +kernel
theorem dX7_count_113 : decode cX7_count 113 = .ok (.iconst 0, 1) := by decide +kernel
theorem dX7_count_114 : decode cX7_count 114 = .ok (.invokevirtual 71, 3) := by decide +kernel
theorem dX7_count_117 : decode cX7_count 117 = .ok (.ireturn, 1) := by decide +kernel
set_option maxRecDepth 20000 in
theorem ggX7_status_X7_sum : GoodIn wsX7_status wsX7_sum := goodIn_r _ [5] (by decide +kernel) (by decide +kernel)
set_option maxRecDepth 20000 in
theorem gX7_status_X7_sum : GoodIn wsX7_status (va_wsS RX7 302 yX7_sum wsX7_sum) := goodIn_app (goodIn_of _ (by decide +kernel)) ggX7_status_X7_sum
set_option maxRecDepth 20000 in
theorem ggX7_status_X7_isWithin : GoodIn wsX7_status wsX7_isWithin := goodIn_r _ [8] (by decide +kernel) (by decide +kernel)
set_option maxRecDepth 20000 in
theorem gX7_status_X7_isWithin : GoodIn wsX7_status (va_wsS RX7 67 yX7_isWithin wsX7_isWithin) := goodIn_app (goodIn_of _ (by decide +kernel)) ggX7_status_X7_isWithin
set_option maxRecDepth 20000 in
theorem ggX7_status_X7_found : GoodIn wsX7_status wsX7_found := goodIn_r _ [12, 1, 13, 14, 15, 16, 17, 18, 19, 20, 21, 22, 23] (by decide +kernel) (by decide +kernel)
set_option maxRecDepth 20000 in
theorem gX7_status_X7_found : GoodIn wsX7_status (wsV RX7 71 RX7 yX7_found wsX7_found) := goodIn_app (goodIn_of _ (by decide +kernel)) ggX7_status_X7_found
theorem dX7_status_0 : decode cX7_status 0 = .ok (.iload_n 1, 1) := by decide +kernel
theorem dX7_status_1 : decode cX7_status 1 = .ok (.iconst (-1), 1) := by decide +kernel
theorem dX7_status_2 : decode cX7_status 2 = .ok (.if_icmp .ne 11, 3) := by decide +kernel
theorem dX7_status_5 : decode cX7_status 5 = .ok (.aload_n 0, 1) := by decide +kernel
theorem dX7_status_6 : decode cX7_status 6 = .ok (.getfield 58, 3) := by decide +kernel
theorem dX7_status_9 : decode cX7_status 9 = .ok (.invokestatic 302, 3) := by decide +kernel
theorem dX7_status_12 : decode cX7_status 12 = .ok (.ireturn, 1) := by decide +kernel
theorem dX7_status_13 : decode cX7_status 13 = .ok (.iload_n 1, 1) := by decide +kernel
theorem dX7_status_14 : decode cX7_status 14 = .ok (.bipush 6, 2) := by decide +kernel
theorem dX7_status_16 : decode cX7_status 16 = .ok (.invokestatic 67, 3) := by decide +kernel
theorem dX7_status_19 : decode cX7_status 19 = .ok (.ifCond .eq 12, 3) := by decide +kernel
theorem dX7_status_22 : decode cX7_status 22 = .ok (.aload_n 0, 1) := by decide +kernel
theorem dX7_status_23 : decode cX7_status 23 = .ok (.getfield 58, 3) := by decide +kernel
theorem dX7_status_26 : decode cX7_status 26 = .ok (.iload_n 1, 1) := by decide +kernel
theorem dX7_status_27 : decode cX7_status 27 = .ok (.iaload, 1) := by decide +kernel
theorem dX7_status_28 : decode cX7_status 28 = .ok (.goto 8, 3) := by decide +kernel
theorem dX7_status_31 : decode cX7_status 31 = .ok (.aload_n 0, 1) := by decide +kernel
theorem dX7_status_32 : decode cX7_status 32 = .ok (.iconst 0, 1) := by decide +kernel
theorem dX7_status_33 : decode cX7_status 33 = .ok (.invokevirtual 71, 3) := by decide +kernel
theorem dX7_status_36 : decode cX7_status 36 = .ok (.ireturn, 1) := by decide +kernel
theorem dX7_found_0 : decode cX7_found 0 = .ok (.aload_n 0, 1) := by decide +kernel
theorem dX7_found_1 : decode cX7_found 1 = .ok (.getfield 58, 3) := by decide +kernel
theorem dX7_found_4 : decode cX7_found 4 = .ok (.iload_n 1, 1) := by decide +kernel
theorem dX7_found_5 : decode cX7_found 5 = .ok (.dup2, 1) := by decide +kernel
theorem dX7_found_6 : decode cX7_found 6 = .ok (.iaload, 1) := by decide +kernel
theorem dX7_found_7 : decode cX7_found 7 = .ok (.iconst 1, 1) := by decide +kernel
theorem dX7_found_8 : decode cX7_found 8 = .ok (.iadd, 1) := by decide +kernel
theorem dX7_found_9 : decode cX7_found 9 = .ok (.iastore, 1) := by decide +kernel
theorem dX7_found_10 : decode cX7_found 10 = .ok (.ldc_w 306, 3) := by decide +kernel
theorem dX7_found_13 : decode cX7_found 13 = .ok (.iload_n 1, 1) := by decide +kernel
theorem dX7_found_14 : decode cX7_found 14 = .ok (.isub, 1) := by decide +kernel
theorem dX7_found_15 : decode cX7_found 15 = .ok (.ireturn, 1) := by decide +kernel
set_option maxRecDepth 20000 in
theorem ggX7_isSheet_X7_isWithin : GoodIn wsX7_isSheet wsX7_isWithin := goodIn_r _ [4] (by decide +kernel) (by decide +kernel)
set_option maxRecDepth 20000 in
theorem gX7_isSheet_X7_isWithin : GoodIn wsX7_isSheet (va_wsS RX7 67 yX7_isWithin wsX7_isWithin) := goodIn_app (goodIn_of _ (by decide +kernel)) ggX7_isSheet_X7_isWithin
theorem dX7_isSheet_0 : decode cX7_isSheet 0 = .ok (.iload_n 0, 1) := by decide +kernel
theorem dX7_isSheet_1 : decode cX7_isSheet 1 = .ok (.iconst 3, 1) := by decide +kernel
theorem dX7_isSheet_2 : decode cX7_isSheet 2 = .ok (.invokestatic 67, 3) := by decide +kernel
theorem dX7_isSheet_5 : decode cX7_isSheet 5 = .ok (.ireturn, 1) := by decide +kernel
set_option maxRecDepth 20000 in
theorem ggX7_lackOf_X7_isSheet : GoodIn wsX7_lackOf wsX7_isSheet := goodIn_r _ [5, 6, 7, 4, 8] (by decide +kernel) (by decide +kernel)
set_option maxRecDepth 20000 in
theorem gX7_lackOf_X7_isSheet : GoodIn wsX7_lackOf (va_wsS RX7 259 yX7_isSheet wsX7_isSheet) := goodIn_app (goodIn_of _ (by decide +kernel)) ggX7_lackOf_X7_isSheet
set_option maxRecDepth 20000 in
theorem ggX7_lackOf_X5_isMissing : GoodIn wsX7_lackOf wsX5_isMissing := goodIn_r _ [13, 14, 25, 26, 27] (by decide +kernel) (by decide +kernel)
set_option maxRecDepth 20000 in
theorem gX7_lackOf_X5_isMissing : GoodIn wsX7_lackOf (wsV RX7 269 RX5 yX5_isMissing wsX5_isMissing) := goodIn_app (goodIn_of _ (by decide +kernel)) ggX7_lackOf_X5_isMissing
theorem dX7_lackOf_0 : decode cX7_lackOf 0 = .ok (.iload_n 1, 1) := by decide +kernel
theorem dX7_lackOf_1 : decode cX7_lackOf 1 = .ok (.invokestatic 259, 3) := by decide +kernel
theorem dX7_lackOf_4 : decode cX7_lackOf 4 = .ok (.ifCond .ne 5, 3) := by decide +kernel
theorem dX7_lackOf_7 : decode cX7_lackOf 7 = .ok (.iconst 0, 1) := by decide +kernel
theorem dX7_lackOf_8 : decode cX7_lackOf 8 = .ok (.ireturn, 1) := by decide +kernel
theorem dX7_lackOf_9 : decode cX7_lackOf 9 = .ok (.aload_n 0, 1) := by decide +kernel
theorem dX7_lackOf_10 : decode cX7_lackOf 10 = .ok (.getfield 54, 3) := by decide +kernel
theorem dX7_lackOf_13 : decode cX7_lackOf 13 = .ok (.iload_n 1, 1) := by decide +kernel
theorem dX7_lackOf_14 : decode cX7_lackOf 14 = .ok (.aaload, 1) := by decide +kernel
theorem dX7_lackOf_15 : decode cX7_lackOf 15 = .ok (.invokevirtual 269, 3) := by decide +kernel
theorem dX7_lackOf_18 : decode cX7_lackOf 18 = .ok (.ifCond .eq 7, 3) := by decide +kernel
theorem dX7_lackOf_21 : decode cX7_lackOf 21 = .ok (.iconst 5, 1) := by decide +kernel
theorem dX7_lackOf_22 : decode cX7_lackOf 22 = .ok (.goto 4, 3) := by decide +kernel
theorem dX7_lackOf_25 : decode cX7_lackOf 25 = .ok (.iconst (-1), 1) := by decide +kernel
theorem dX7_lackOf_26 : decode cX7_lackOf 26 = .ok (.ireturn, 1) := by decide +kernel
set_option maxRecDepth 20000 in
theorem ggX7_replace_X7_isWithin : GoodIn wsX7_replace wsX7_isWithin := goodIn_r _ [4] (by decide +kernel) (by decide +kernel)
set_option maxRecDepth 20000 in
theorem gX7_replace_X7_isWithin : GoodIn wsX7_replace (va_wsS RX7 67 yX7_isWithin wsX7_isWithin) := goodIn_app (goodIn_of _ (by decide +kernel)) ggX7_replace_X7_isWithin
set_option maxRecDepth 20000 in
theorem ggX7_replace_X7_found : GoodIn wsX7_replace wsX7_found := goodIn_r _ [8, 9, 10, 11, 12, 13, 14, 15, 16, 17, 18, 19, 20] (by decide +kernel) (by decide +kernel)
set_option maxRecDepth 20000 in
theorem gX7_replace_X7_found : GoodIn wsX7_replace (wsV RX7 71 RX7 yX7_found wsX7_found) := goodIn_app (goodIn_of _ (by decide +kernel)) ggX7_replace_X7_found
theorem dX7_replace_0 : decode cX7_replace 0 = .ok (.iload_n 3, 1) := by decide +kernel
theorem dX7_replace_1 : decode cX7_replace 1 = .ok (.iload 4, 2) := by decide +kernel
theorem dX7_replace_3 : decode cX7_replace 3 = .ok (.invokestatic 67, 3) := by decide +kernel
theorem dX7_replace_6 : decode cX7_replace 6 = .ok (.ifCond .ne 9, 3) := by decide +kernel
theorem dX7_replace_9 : decode cX7_replace 9 = .ok (.aload_n 0, 1) := by decide +kernel
theorem dX7_replace_10 : decode cX7_replace 10 = .ok (.iconst 0, 1) := by decide +kernel
theorem dX7_replace_11 : decode cX7_replace 11 = .ok (.invokevirtual 71, 3) := by decide +kernel
theorem dX7_replace_14 : decode cX7_replace 14 = .ok (.ireturn, 1) := by decide +kernel
theorem dX7_replace_15 : decode cX7_replace 15 = .ok (.aload_n 1, 1) := by decide +kernel
theorem dX7_replace_16 : decode cX7_replace 16 = .ok (.iload_n 2, 1) := by decide +kernel
theorem dX7_replace_17 : decode cX7_replace 17 = .ok (.iaload, 1) := by decide +kernel
theorem dX7_replace_18 : decode cX7_replace 18 = .ok (.istore 5, 2) := by decide +kernel
theorem dX7_replace_20 : decode cX7_replace 20 = .ok (.aload_n 1, 1) := by decide +kernel
theorem dX7_replace_21 : decode cX7_replace 21 = .ok (.iload_n 2, 1) := by decide +kernel
theorem dX7_replace_22 : decode cX7_replace 22 = .ok (.iload_n 3, 1) := by decide +kernel
theorem dX7_replace_23 : decode cX7_replace 23 = .ok (.iastore, 1) := by decide +kernel
theorem dX7_replace_24 : decode cX7_replace 24 = .ok (.iload 5, 2) := by decide +kernel
theorem dX7_replace_26 : decode cX7_replace 26 = .ok (.ireturn, 1) := by decide +kernel
set_option maxRecDepth 20000 in
theorem ggX7_weighByAgreements_X1_hoursLeft : GoodIn wsX7_weighByAgreements wsX1_hoursLeft := goodIn_r _ [10, 11, 12, 123, 124, 125, 126, 127, 128, 129, 130, 131, 132, 133, 134] (by decide +kernel) (by decide +kernel)
set_option maxRecDepth 20000 in
theorem gX7_weighByAgreements_X1_hoursLeft : GoodIn wsX7_weighByAgreements (wsV RX7 307 RX1 yX1_hoursLeft wsX1_hoursLeft) := goodIn_app (goodIn_of _ (by decide +kernel)) ggX7_weighByAgreements_X1_hoursLeft
set_option maxRecDepth 20000 in
theorem ggX7_weighByAgreements_J6_bitCount_0f7a4 : GoodIn wsX7_weighByAgreements wsJ6_bitCount_0f7a4 := goodIn_r _ [16, 17, 18, 19] (by decide +kernel) (by decide +kernel)
set_option maxRecDepth 20000 in
theorem gX7_weighByAgreements_J6_bitCount_0f7a4 : GoodIn wsX7_weighByAgreements (va_wsS RX7 310 yJ6_bitCount_0f7a4 wsJ6_bitCount_0f7a4) := goodIn_app (goodIn_of _ (by decide +kernel)) ggX7_weighByAgreements_J6_bitCount_0f7a4
set_option maxRecDepth 20000 in
theorem ggX7_weighByAgreements_X2_value : GoodIn wsX7_weighByAgreements wsX2_value := goodIn_r _ [24, 25, 26, 27, 28, 135, 136, 137] (by decide +kernel) (by decide +kernel)
set_option maxRecDepth 20000 in
theorem gX7_weighByAgreements_X2_value : GoodIn wsX7_weighByAgreements (wsV RX7 315 RX2 yX2_value wsX2_value) := goodIn_app (goodIn_of _ (by decide +kernel)) ggX7_weighByAgreements_X2_value
set_option maxRecDepth 20000 in
theorem ggX7_weighByAgreements_X0_make : GoodIn wsX7_weighByAgreements wsX0_make := goodIn_r _ [33, 34, 35, 36, 37, 38, 39, 40, 41, 42, 43, 44, 45, 46, 47, 48, 49, 9, 50, 51, 52, 53, 54, 55, 56, 7, 8, 10, 11, 12, 57, 58, 59, 32, 60, 61, 62, 63, 64, 65, 66, 27, 67, 68, 69, 70, 71, 72, 138, 139, 140, 141, 142, 143, 123, 124, 125, 126, 127, 128, 129, 130, 131, 132, 133, 134] (by decide +kernel) (by decide +kernel)
set_option maxRecDepth 20000 in
theorem gX7_weighByAgreements_X0_make : GoodIn wsX7_weighByAgreements (wsV RX7 172 RX0 yX0_make wsX0_make) := goodIn_app (goodIn_of _ (by decide +kernel)) ggX7_weighByAgreements_X0_make
set_option maxRecDepth 20000 in
theorem ggX7_weighByAgreements_X0_metOfBoth : GoodIn wsX7_weighByAgreements wsX0_metOfBoth := goodIn_r _ [76, 77, 78, 79, 32, 80, 42, 46, 72, 26, 27, 28, 81, 14, 15, 16, 17, 18, 19, 138, 139, 140, 141, 142, 143] (by decide +kernel) (by decide +kernel)
set_option maxRecDepth 20000 in
theorem gX7_weighByAgreements_X0_metOfBoth : GoodIn wsX7_weighByAgreements (wsV RX7 176 RX0 yX0_metOfBoth wsX0_metOfBoth) := goodIn_app (goodIn_of _ (by decide +kernel)) ggX7_weighByAgreements_X0_metOfBoth
set_option maxRecDepth 20000 in
theorem ggX7_weighByAgreements_X1_everybody : GoodIn wsX7_weighByAgreements wsX1_everybody := goodIn_r _ [85, 55, 123, 124, 125, 126, 127, 128, 129, 130, 131, 132, 133, 134] (by decide +kernel) (by decide +kernel)
set_option maxRecDepth 20000 in
theorem gX7_weighByAgreements_X1_everybody : GoodIn wsX7_weighByAgreements (wsV RX7 188 RX1 yX1_everybody wsX1_everybody) := goodIn_app (goodIn_of _ (by decide +kernel)) ggX7_weighByAgreements_X1_everybody
set_option maxRecDepth 20000 in
theorem ggX7_weighByAgreements_X2_weigh : GoodIn wsX7_weighByAgreements wsX2_weigh := goodIn_r _ [89, 90, 91, 92, 93, 94, 23, 95, 96, 97, 98, 66, 27, 67, 99, 100, 101, 102, 103, 14, 15, 16, 17, 18, 19, 104, 105, 106, 107, 25, 108, 36, 37, 38, 109, 40, 41, 110, 111, 112, 135, 136, 137] (by decide +kernel) (by decide +kernel)
set_option maxRecDepth 20000 in
theorem gX7_weighByAgreements_X2_weigh : GoodIn wsX7_weighByAgreements (wsV RX7 319 RX2 yX2_weigh wsX2_weigh) := goodIn_app (goodIn_of _ (by decide +kernel)) ggX7_weighByAgreements_X2_weigh
theorem dX7_weighByAgreements_0 : decode cX7_weighByAgreements 0 = .ok (.iconst 0, 1) := by decide +kernel
theorem dX7_weighByAgreements_1 : decode cX7_weighByAgreements 1 = .ok (.istore_n 1, 1) := by decide +kernel
theorem dX7_weighByAgreements_2 : decode cX7_weighByAgreements 2 = .ok (.iload_n 1, 1) := by decide +kernel
theorem dX7_weighByAgreements_3 : decode cX7_weighByAgreements 3 = .ok (.aload_n 0, 1) := by decide +kernel
theorem dX7_weighByAgreements_4 : decode cX7_weighByAgreements 4 = .ok (.getfield 10, 3) := by decide +kernel
theorem dX7_weighByAgreements_7 : decode cX7_weighByAgreements 7 = .ok (.getfield 200, 3) := by decide +kernel
theorem dX7_weighByAgreements_10 : decode cX7_weighByAgreements 10 = .ok (.if_icmp .ge 88, 3) := by decide +kernel
theorem dX7_weighByAgreements_13 : decode cX7_weighByAgreements 13 = .ok (.aload_n 0, 1) := by decide +kernel
theorem dX7_weighByAgreements_14 : decode cX7_weighByAgreements 14 = .ok (.getfield 36, 3) := by decide +kernel
theorem dX7_weighByAgreements_17 : decode cX7_weighByAgreements 17 = .ok (.iload_n 1, 1) := by decide +kernel
theorem dX7_weighByAgreements_18 : decode cX7_weighByAgreements 18 = .ok (.iload_n 1, 1) := by decide +kernel
theorem dX7_weighByAgreements_19 : decode cX7_weighByAgreements 19 = .ok (.aload_n 0, 1) := by decide +kernel
theorem dX7_weighByAgreements_20 : decode cX7_weighByAgreements 20 = .ok (.getfield 10, 3) := by decide +kernel
theorem dX7_weighByAgreements_23 : decode cX7_weighByAgreements 23 = .ok (.getfield 95, 3) := by decide +kernel
theorem dX7_weighByAgreements_26 : decode cX7_weighByAgreements 26 = .ok (.iload_n 1, 1) := by decide +kernel
theorem dX7_weighByAgreements_27 : decode cX7_weighByAgreements 27 = .ok (.iaload, 1) := by decide +kernel
theorem dX7_weighByAgreements_28 : decode cX7_weighByAgreements 28 = .ok (.aload_n 0, 1) := by decide +kernel
theorem dX7_weighByAgreements_29 : decode cX7_weighByAgreements 29 = .ok (.getfield 10, 3) := by decide +kernel
theorem dX7_weighByAgreements_32 : decode cX7_weighByAgreements 32 = .ok (.invokevirtual 307, 3) := by decide +kernel
theorem dX7_weighByAgreements_35 : decode cX7_weighByAgreements 35 = .ok (.iand, 1) := by decide +kernel
theorem dX7_weighByAgreements_36 : decode cX7_weighByAgreements 36 = .ok (.invokestatic 310, 3) := by decide +kernel
theorem dX7_weighByAgreements_39 : decode cX7_weighByAgreements 39 = .ok (.invokevirtual 315, 3) := by decide +kernel
theorem dX7_weighByAgreements_42 : decode cX7_weighByAgreements 42 = .ok (.iload_n 1, 1) := by decide +kernel
theorem dX7_weighByAgreements_43 : decode cX7_weighByAgreements 43 = .ok (.iconst 1, 1) := by decide +kernel
theorem dX7_weighByAgreements_44 : decode cX7_weighByAgreements 44 = .ok (.iadd, 1) := by decide +kernel
theorem dX7_weighByAgreements_45 : decode cX7_weighByAgreements 45 = .ok (.istore_n 2, 1) := by decide +kernel
theorem dX7_weighByAgreements_46 : decode cX7_weighByAgreements 46 = .ok (.iload_n 2, 1) := by decide +kernel
theorem dX7_weighByAgreements_47 : decode cX7_weighByAgreements 47 = .ok (.aload_n 0, 1) := by decide +kernel
theorem dX7_weighByAgreements_48 : decode cX7_weighByAgreements 48 = .ok (.getfield 10, 3) := by decide +kernel
theorem dX7_weighByAgreements_51 : decode cX7_weighByAgreements 51 = .ok (.getfield 200, 3) := by decide +kernel
theorem dX7_weighByAgreements_54 : decode cX7_weighByAgreements 54 = .ok (.if_icmp .ge 38, 3) := by decide +kernel
theorem dX7_weighByAgreements_57 : decode cX7_weighByAgreements 57 = .ok (.aload_n 0, 1) := by decide +kernel
theorem dX7_weighByAgreements_58 : decode cX7_weighByAgreements 58 = .ok (.getfield 29, 3) := by decide +kernel
theorem dX7_weighByAgreements_61 : decode cX7_weighByAgreements 61 = .ok (.aload_n 0, 1) := by decide +kernel
theorem dX7_weighByAgreements_62 : decode cX7_weighByAgreements 62 = .ok (.getfield 10, 3) := by decide +kernel
theorem dX7_weighByAgreements_65 : decode cX7_weighByAgreements 65 = .ok (.iload_n 1, 1) := by decide +kernel
theorem dX7_weighByAgreements_66 : decode cX7_weighByAgreements 66 = .ok (.iload_n 2, 1) := by decide +kernel
theorem dX7_weighByAgreements_67 : decode cX7_weighByAgreements 67 = .ok (.invokevirtual 172, 3) := by decide +kernel
theorem dX7_weighByAgreements_70 : decode cX7_weighByAgreements 70 = .ok (.aload_n 0, 1) := by decide +kernel
theorem dX7_weighByAgreements_71 : decode cX7_weighByAgreements 71 = .ok (.getfield 36, 3) := by decide +kernel
theorem dX7_weighByAgreements_74 : decode cX7_weighByAgreements 74 = .ok (.iload_n 1, 1) := by decide +kernel
theorem dX7_weighByAgreements_75 : decode cX7_weighByAgreements 75 = .ok (.iload_n 2, 1) := by decide +kernel
theorem dX7_weighByAgreements_76 : decode cX7_weighByAgreements 76 = .ok (.aload_n 0, 1) := by decide +kernel
theorem dX7_weighByAgreements_77 : decode cX7_weighByAgreements 77 = .ok (.getfield 29, 3) := by decide +kernel
theorem dX7_weighByAgreements_80 : decode cX7_weighByAgreements 80 = .ok (.invokevirtual 176, 3) := by decide +kernel
theorem dX7_weighByAgreements_83 : decode cX7_weighByAgreements 83 = .ok (.invokevirtual 315, 3) := by decide +kernel
theorem dX7_weighByAgreements_86 : decode cX7_weighByAgreements 86 = .ok (.iinc 2 1, 3) := by decide +kernel
theorem dX7_weighByAgreements_89 : decode cX7_weighByAgreements 89 = .ok (.goto (-43), 3) := by decide +kernel
theorem dX7_weighByAgreements_92 : decode cX7_weighByAgreements 92 = .ok (.iinc 1 1, 3) := by decide +kernel
theorem dX7_weighByAgreements_95 : decode cX7_weighByAgreements 95 = .ok (.goto (-93), 3) := by decide +kernel
theorem dX7_weighByAgreements_98 : decode cX7_weighByAgreements 98 = .ok (.aload_n 0, 1) := by decide +kernel
theorem dX7_weighByAgreements_99 : decode cX7_weighByAgreements 99 = .ok (.getfield 36, 3) := by decide +kernel
theorem dX7_weighByAgreements_102 : decode cX7_weighByAgreements 102 = .ok (.aload_n 0, 1) := by decide +kernel
theorem dX7_weighByAgreements_103 : decode cX7_weighByAgreements 103 = .ok (.getfield 10, 3) := by decide +kernel
theorem dX7_weighByAgreements_106 : decode cX7_weighByAgreements 106 = .ok (.invokevirtual 188, 3) := by decide +kernel
theorem dX7_weighByAgreements_109 : decode cX7_weighByAgreements 109 = .ok (.invokevirtual 319, 3) := by decide +kernel
theorem dX7_weighByAgreements_112 : decode cX7_weighByAgreements 112 = .ok (.return_, 1) := by decide +kernel
set_option maxRecDepth 20000 in
theorem ggX7_weighByShade_X1_everybody : GoodIn wsX7_weighByShade wsX1_everybody := goodIn_r _ [11, 12, 162, 163, 164, 165, 166, 167, 168, 169, 170, 171, 172, 173] (by decide +kernel) (by decide +kernel)
set_option maxRecDepth 20000 in
theorem gX7_weighByShade_X1_everybody : GoodIn wsX7_weighByShade (wsV RX7 188 RX1 yX1_everybody wsX1_everybody) := goodIn_app (goodIn_of _ (by decide +kernel)) ggX7_weighByShade_X1_everybody
set_option maxRecDepth 20000 in
theorem ggX7_weighByShade_X5_tellsSetsOf : GoodIn wsX7_weighByShade wsX5_tellsSetsOf := goodIn_r _ [17, 18, 19, 178, 179, 180] (by decide +kernel) (by decide +kernel)
set_option maxRecDepth 20000 in
theorem gX7_weighByShade_X5_tellsSetsOf : GoodIn wsX7_weighByShade (wsV RX7 322 RX5 yX5_tellsSetsOf wsX5_tellsSetsOf) := goodIn_app (goodIn_of _ (by decide +kernel)) ggX7_weighByShade_X5_tellsSetsOf
set_option maxRecDepth 20000 in
theorem ggX7_weighByShade_X4_begin : GoodIn wsX7_weighByShade wsX4_begin := goodIn_r _ [24, 25, 26, 27, 28, 29, 30, 31, 10, 32, 33, 34, 35, 36, 37, 38, 39, 40, 41, 42, 12, 43, 44, 45, 46, 47, 48, 49, 50, 51, 52, 174, 175, 176, 177, 162, 163, 164, 165, 166, 167, 168, 169, 170, 171, 172, 173] (by decide +kernel) (by decide +kernel)
set_option maxRecDepth 20000 in
theorem gX7_weighByShade_X4_begin : GoodIn wsX7_weighByShade (wsV RX7 163 RX4 yX4_begin wsX4_begin) := goodIn_app (goodIn_of _ (by decide +kernel)) ggX7_weighByShade_X4_begin
set_option maxRecDepth 20000 in
theorem ggX7_weighByShade_X1_separate : GoodIn wsX7_weighByShade wsX1_separate := goodIn_r _ [56, 41, 57, 58, 59, 10, 60, 12, 162, 163, 164, 165, 166, 167, 168, 169, 170, 171, 172, 173] (by decide +kernel) (by decide +kernel)
set_option maxRecDepth 20000 in
theorem gX7_weighByShade_X1_separate : GoodIn wsX7_weighByShade (wsV RX7 128 RX1 yX1_separate wsX1_separate) := goodIn_app (goodIn_of _ (by decide +kernel)) ggX7_weighByShade_X1_separate
set_option maxRecDepth 20000 in
theorem ggX7_weighByShade_X1_join : GoodIn wsX7_weighByShade wsX1_join := goodIn_r _ [64, 41, 65, 66, 67, 10, 68, 57, 58, 59, 60, 12, 69, 54, 55, 56, 162, 163, 164, 165, 166, 167, 168, 169, 170, 171, 172, 173] (by decide +kernel) (by decide +kernel)
set_option maxRecDepth 20000 in
theorem gX7_weighByShade_X1_join : GoodIn wsX7_weighByShade (wsV RX7 124 RX1 yX1_join wsX1_join) := goodIn_app (goodIn_of _ (by decide +kernel)) ggX7_weighByShade_X1_join
set_option maxRecDepth 20000 in
theorem ggX7_weighByShade_X4_run : GoodIn wsX7_weighByShade wsX4_run := goodIn_r _ [73, 27, 74, 25, 75, 76, 77, 10, 78, 44, 43, 12, 41, 79, 80, 81, 82, 83, 84, 85, 86, 87, 88, 89, 90, 91, 92, 93, 94, 95, 96, 38, 33, 39, 97, 98, 99, 100, 40, 101, 102, 103, 104, 45, 46, 174, 175, 176, 177, 162, 163, 164, 165, 166, 167, 168, 169, 170, 171, 172, 173] (by decide +kernel) (by decide +kernel)
set_option maxRecDepth 20000 in
theorem gX7_weighByShade_X4_run : GoodIn wsX7_weighByShade (wsV RX7 169 RX4 yX4_run wsX4_run) := goodIn_app (goodIn_of _ (by decide +kernel)) ggX7_weighByShade_X4_run
set_option maxRecDepth 20000 in
theorem ggX7_weighByShade_X4_isShadeOf : GoodIn wsX7_weighByShade wsX4_isShadeOf := goodIn_r _ [108, 27, 109, 74, 110, 79, 80, 81, 174, 175, 176, 177, 178, 179, 180] (by decide +kernel) (by decide +kernel)
set_option maxRecDepth 20000 in
theorem gX7_weighByShade_X4_isShadeOf : GoodIn wsX7_weighByShade (wsV RX7 325 RX4 yX4_isShadeOf wsX4_isShadeOf) := goodIn_app (goodIn_of _ (by decide +kernel)) ggX7_weighByShade_X4_isShadeOf
set_option maxRecDepth 20000 in
theorem ggX7_weighByShade_X2_value : GoodIn wsX7_weighByShade wsX2_value := goodIn_r _ [115, 116, 117, 80, 118, 181, 182, 183] (by decide +kernel) (by decide +kernel)
set_option maxRecDepth 20000 in
theorem gX7_weighByShade_X2_value : GoodIn wsX7_weighByShade (wsV RX7 315 RX2 yX2_value wsX2_value) := goodIn_app (goodIn_of _ (by decide +kernel)) ggX7_weighByShade_X2_value
set_option maxRecDepth 20000 in
theorem ggX7_weighByShade_X2_weigh : GoodIn wsX7_weighByShade wsX2_weigh := goodIn_r _ [122, 123, 124, 125, 126, 127, 114, 128, 129, 130, 131, 79, 80, 81, 132, 133, 134, 135, 136, 137, 138, 139, 140, 141, 142, 143, 144, 145, 146, 116, 147, 87, 88, 89, 148, 91, 92, 149, 150, 151, 181, 182, 183] (by decide +kernel) (by decide +kernel)
set_option maxRecDepth 20000 in
theorem gX7_weighByShade_X2_weigh : GoodIn wsX7_weighByShade (wsV RX7 319 RX2 yX2_weigh wsX2_weigh) := goodIn_app (goodIn_of _ (by decide +kernel)) ggX7_weighByShade_X2_weigh
theorem dX7_weighByShade_0 : decode cX7_weighByShade 0 = .ok (.aload_n 1, 1) := by decide +kernel
theorem dX7_weighByShade_1 : decode cX7_weighByShade 1 = .ok (.aload_n 0, 1) := by decide +kernel
theorem dX7_weighByShade_2 : decode cX7_weighByShade 2 = .ok (.getfield 10, 3) := by decide +kernel
theorem dX7_weighByShade_5 : decode cX7_weighByShade 5 = .ok (.invokevirtual 188, 3) := by decide +kernel
theorem dX7_weighByShade_8 : decode cX7_weighByShade 8 = .ok (.bipush 16, 2) := by decide +kernel
theorem dX7_weighByShade_10 : decode cX7_weighByShade 10 = .ok (.aload_n 0, 1) := by decide +kernel
theorem dX7_weighByShade_11 : decode cX7_weighByShade 11 = .ok (.getfield 10, 3) := by decide +kernel
theorem dX7_weighByShade_14 : decode cX7_weighByShade 14 = .ok (.getfield 101, 3) := by decide +kernel
theorem dX7_weighByShade_17 : decode cX7_weighByShade 17 = .ok (.isub, 1) := by decide +kernel
theorem dX7_weighByShade_18 : decode cX7_weighByShade 18 = .ok (.invokevirtual 322, 3) := by decide +kernel
theorem dX7_weighByShade_21 : decode cX7_weighByShade 21 = .ok (.ifCond .ne 5, 3) := by decide +kernel
theorem dX7_weighByShade_24 : decode cX7_weighByShade 24 = .ok (.iconst 0, 1) := by decide +kernel
theorem dX7_weighByShade_25 : decode cX7_weighByShade 25 = .ok (.ireturn, 1) := by decide +kernel
theorem dX7_weighByShade_26 : decode cX7_weighByShade 26 = .ok (.iconst 0, 1) := by decide +kernel
theorem dX7_weighByShade_27 : decode cX7_weighByShade 27 = .ok (.istore_n 2, 1) := by decide +kernel
theorem dX7_weighByShade_28 : decode cX7_weighByShade 28 = .ok (.iload_n 2, 1) := by decide +kernel
theorem dX7_weighByShade_29 : decode cX7_weighByShade 29 = .ok (.aload_n 0, 1) := by decide +kernel
theorem dX7_weighByShade_30 : decode cX7_weighByShade 30 = .ok (.getfield 10, 3) := by decide +kernel
theorem dX7_weighByShade_33 : decode cX7_weighByShade 33 = .ok (.getfield 200, 3) := by decide +kernel
theorem dX7_weighByShade_36 : decode cX7_weighByShade 36 = .ok (.if_icmp .ge 107, 3) := by decide +kernel
theorem dX7_weighByShade_39 : decode cX7_weighByShade 39 = .ok (.iload_n 2, 1) := by decide +kernel
theorem dX7_weighByShade_40 : decode cX7_weighByShade 40 = .ok (.istore_n 3, 1) := by decide +kernel
theorem dX7_weighByShade_41 : decode cX7_weighByShade 41 = .ok (.iload_n 3, 1) := by decide +kernel
theorem dX7_weighByShade_42 : decode cX7_weighByShade 42 = .ok (.aload_n 0, 1) := by decide +kernel
theorem dX7_weighByShade_43 : decode cX7_weighByShade 43 = .ok (.getfield 10, 3) := by decide +kernel
theorem dX7_weighByShade_46 : decode cX7_weighByShade 46 = .ok (.getfield 200, 3) := by decide +kernel
theorem dX7_weighByShade_49 : decode cX7_weighByShade 49 = .ok (.if_icmp .ge 88, 3) := by decide +kernel
theorem dX7_weighByShade_52 : decode cX7_weighByShade 52 = .ok (.aload_n 0, 1) := by decide +kernel
theorem dX7_weighByShade_53 : decode cX7_weighByShade 53 = .ok (.getfield 22, 3) := by decide +kernel
theorem dX7_weighByShade_56 : decode cX7_weighByShade 56 = .ok (.aload_n 0, 1) := by decide +kernel
theorem dX7_weighByShade_57 : decode cX7_weighByShade 57 = .ok (.getfield 10, 3) := by decide +kernel
theorem dX7_weighByShade_60 : decode cX7_weighByShade 60 = .ok (.invokevirtual 163, 3) := by decide +kernel
theorem dX7_weighByShade_63 : decode cX7_weighByShade 63 = .ok (.aload_n 0, 1) := by decide +kernel
theorem dX7_weighByShade_64 : decode cX7_weighByShade 64 = .ok (.getfield 22, 3) := by decide +kernel
theorem dX7_weighByShade_67 : decode cX7_weighByShade 67 = .ok (.getfield 166, 3) := by decide +kernel
theorem dX7_weighByShade_70 : decode cX7_weighByShade 70 = .ok (.iload_n 2, 1) := by decide +kernel
theorem dX7_weighByShade_71 : decode cX7_weighByShade 71 = .ok (.invokevirtual 128, 3) := by decide +kernel
theorem dX7_weighByShade_74 : decode cX7_weighByShade 74 = .ok (.aload_n 0, 1) := by decide +kernel
theorem dX7_weighByShade_75 : decode cX7_weighByShade 75 = .ok (.getfield 22, 3) := by decide +kernel
theorem dX7_weighByShade_78 : decode cX7_weighByShade 78 = .ok (.getfield 166, 3) := by decide +kernel
theorem dX7_weighByShade_81 : decode cX7_weighByShade 81 = .ok (.iload_n 2, 1) := by decide +kernel
theorem dX7_weighByShade_82 : decode cX7_weighByShade 82 = .ok (.iload_n 3, 1) := by decide +kernel
theorem dX7_weighByShade_83 : decode cX7_weighByShade 83 = .ok (.invokevirtual 124, 3) := by decide +kernel
theorem dX7_weighByShade_86 : decode cX7_weighByShade 86 = .ok (.aload_n 0, 1) := by decide +kernel
theorem dX7_weighByShade_87 : decode cX7_weighByShade 87 = .ok (.getfield 22, 3) := by decide +kernel
theorem dX7_weighByShade_90 : decode cX7_weighByShade 90 = .ok (.invokevirtual 169, 3) := by decide +kernel
theorem dX7_weighByShade_93 : decode cX7_weighByShade 93 = .ok (.aload_n 0, 1) := by decide +kernel
theorem dX7_weighByShade_94 : decode cX7_weighByShade 94 = .ok (.getfield 36, 3) := by decide +kernel
theorem dX7_weighByShade_97 : decode cX7_weighByShade 97 = .ok (.iload_n 2, 1) := by decide +kernel
theorem dX7_weighByShade_98 : decode cX7_weighByShade 98 = .ok (.iload_n 3, 1) := by decide +kernel
theorem dX7_weighByShade_99 : decode cX7_weighByShade 99 = .ok (.aload_n 0, 1) := by decide +kernel
theorem dX7_weighByShade_100 : decode cX7_weighByShade 100 = .ok (.getfield 22, 3) := by decide +kernel
theorem dX7_weighByShade_103 : decode cX7_weighByShade 103 = .ok (.iload_n 2, 1) := by decide +kernel
theorem dX7_weighByShade_104 : decode cX7_weighByShade 104 = .ok (.aload_n 1, 1) := by decide +kernel
theorem dX7_weighByShade_105 : decode cX7_weighByShade 105 = .ok (.invokevirtual 325, 3) := by decide +kernel
theorem dX7_weighByShade_108 : decode cX7_weighByShade 108 = .ok (.ifCond .eq 19, 3) := by decide +kernel
theorem dX7_weighByShade_111 : decode cX7_weighByShade 111 = .ok (.aload_n 0, 1) := by decide +kernel
theorem dX7_weighByShade_112 : decode cX7_weighByShade 112 = .ok (.getfield 22, 3) := by decide +kernel
theorem dX7_weighByShade_115 : decode cX7_weighByShade 115 = .ok (.iload_n 3, 1) := by decide +kernel
theorem dX7_weighByShade_116 : decode cX7_weighByShade 116 = .ok (.aload_n 1, 1) := by decide +kernel
theorem dX7_weighByShade_117 : decode cX7_weighByShade 117 = .ok (.invokevirtual 325, 3) := by decide +kernel
theorem dX7_weighByShade_120 : decode cX7_weighByShade 120 = .ok (.ifCond .eq 7, 3) := by decide +kernel
theorem dX7_weighByShade_123 : decode cX7_weighByShade 123 = .ok (.iconst 0, 1) := by decide +kernel
theorem dX7_weighByShade_124 : decode cX7_weighByShade 124 = .ok (.goto 4, 3) := by decide +kernel
theorem dX7_weighByShade_127 : decode cX7_weighByShade 127 = .ok (.iconst (-1), 1) := by decide +kernel
theorem dX7_weighByShade_128 : decode cX7_weighByShade 128 = .ok (.invokevirtual 315, 3) := by decide +kernel
theorem dX7_weighByShade_131 : decode cX7_weighByShade 131 = .ok (.iinc 3 1, 3) := by decide +kernel
theorem dX7_weighByShade_134 : decode cX7_weighByShade 134 = .ok (.goto (-93), 3) := by decide +kernel
theorem dX7_weighByShade_137 : decode cX7_weighByShade 137 = .ok (.iinc 2 1, 3) := by decide +kernel
theorem dX7_weighByShade_140 : decode cX7_weighByShade 140 = .ok (.goto (-112), 3) := by decide +kernel
theorem dX7_weighByShade_143 : decode cX7_weighByShade 143 = .ok (.aload_n 0, 1) := by decide +kernel
theorem dX7_weighByShade_144 : decode cX7_weighByShade 144 = .ok (.getfield 36, 3) := by decide +kernel
theorem dX7_weighByShade_147 : decode cX7_weighByShade 147 = .ok (.aload_n 0, 1) := by decide +kernel
theorem dX7_weighByShade_148 : decode cX7_weighByShade 148 = .ok (.getfield 10, 3) := by decide +kernel
theorem dX7_weighByShade_151 : decode cX7_weighByShade 151 = .ok (.invokevirtual 188, 3) := by decide +kernel
theorem dX7_weighByShade_154 : decode cX7_weighByShade 154 = .ok (.invokevirtual 319, 3) := by decide +kernel
theorem dX7_weighByShade_157 : decode cX7_weighByShade 157 = .ok (.iconst 1, 1) := by decide +kernel
theorem dX7_weighByShade_158 : decode cX7_weighByShade 158 = .ok (.ireturn, 1) := by decide +kernel
set_option maxRecDepth 20000 in
theorem ggX7_wouldRatherAgree_X0_make : GoodIn wsX7_wouldRatherAgree wsX0_make := goodIn_r _ [8, 9, 10, 11, 12, 13, 14, 15, 16, 17, 18, 19, 20, 21, 22, 23, 24, 25, 26, 27, 28, 29, 30, 31, 32, 33, 34, 35, 36, 37, 38, 39, 40, 7, 41, 42, 43, 44, 45, 46, 47, 48, 49, 50, 51, 52, 53, 54, 98, 99, 100, 101, 102, 103, 104, 105, 106, 107, 108, 109, 110, 111, 112, 113, 114, 115] (by decide +kernel) (by decide +kernel)
set_option maxRecDepth 20000 in
theorem gX7_wouldRatherAgree_X0_make : GoodIn wsX7_wouldRatherAgree (wsV RX7 172 RX0 yX0_make wsX0_make) := goodIn_app (goodIn_of _ (by decide +kernel)) ggX7_wouldRatherAgree_X0_make
set_option maxRecDepth 20000 in
theorem ggX7_wouldRatherAgree_X0_metOfSide : GoodIn wsX7_wouldRatherAgree wsX0_metOfSide := goodIn_r _ [58, 17, 21, 54, 59, 48, 60, 61, 62, 63, 64, 65, 66, 67, 98, 99, 100, 101, 102, 103] (by decide +kernel) (by decide +kernel)
set_option maxRecDepth 20000 in
theorem gX7_wouldRatherAgree_X0_metOfSide : GoodIn wsX7_wouldRatherAgree (wsV RX7 329 RX0 yX0_metOfSide wsX0_metOfSide) := goodIn_app (goodIn_of _ (by decide +kernel)) ggX7_wouldRatherAgree_X0_metOfSide
set_option maxRecDepth 20000 in
theorem ggX7_wouldRatherAgree_X4_metOf : GoodIn wsX7_wouldRatherAgree wsX4_metOf := goodIn_r _ [72, 73, 74, 75, 28, 29, 25, 30, 31, 76, 77, 78, 71, 79, 80, 81, 82, 83, 84, 85, 86, 47, 48, 49, 87, 62, 63, 64, 65, 66, 67, 116, 117, 118, 119, 104, 105, 106, 107, 108, 109, 110, 111, 112, 113, 114, 115] (by decide +kernel) (by decide +kernel)
set_option maxRecDepth 20000 in
theorem gX7_wouldRatherAgree_X4_metOf : GoodIn wsX7_wouldRatherAgree (wsV RX7 148 RX4 yX4_metOf wsX4_metOf) := goodIn_app (goodIn_of _ (by decide +kernel)) ggX7_wouldRatherAgree_X4_metOf
theorem dX7_wouldRatherAgree_0 : decode cX7_wouldRatherAgree 0 = .ok (.aload_n 0, 1) := by decide +kernel
theorem dX7_wouldRatherAgree_1 : decode cX7_wouldRatherAgree 1 = .ok (.getfield 29, 3) := by decide +kernel
theorem dX7_wouldRatherAgree_4 : decode cX7_wouldRatherAgree 4 = .ok (.aload_n 0, 1) := by decide +kernel
theorem dX7_wouldRatherAgree_5 : decode cX7_wouldRatherAgree 5 = .ok (.getfield 10, 3) := by decide +kernel
theorem dX7_wouldRatherAgree_8 : decode cX7_wouldRatherAgree 8 = .ok (.iload_n 1, 1) := by decide +kernel
theorem dX7_wouldRatherAgree_9 : decode cX7_wouldRatherAgree 9 = .ok (.iload_n 2, 1) := by decide +kernel
theorem dX7_wouldRatherAgree_10 : decode cX7_wouldRatherAgree 10 = .ok (.invokevirtual 172, 3) := by decide +kernel
theorem dX7_wouldRatherAgree_13 : decode cX7_wouldRatherAgree 13 = .ok (.aload_n 0, 1) := by decide +kernel
theorem dX7_wouldRatherAgree_14 : decode cX7_wouldRatherAgree 14 = .ok (.getfield 29, 3) := by decide +kernel
theorem dX7_wouldRatherAgree_17 : decode cX7_wouldRatherAgree 17 = .ok (.iconst 0, 1) := by decide +kernel
theorem dX7_wouldRatherAgree_18 : decode cX7_wouldRatherAgree 18 = .ok (.invokevirtual 329, 3) := by decide +kernel
theorem dX7_wouldRatherAgree_21 : decode cX7_wouldRatherAgree 21 = .ok (.aload_n 0, 1) := by decide +kernel
theorem dX7_wouldRatherAgree_22 : decode cX7_wouldRatherAgree 22 = .ok (.getfield 22, 3) := by decide +kernel
theorem dX7_wouldRatherAgree_25 : decode cX7_wouldRatherAgree 25 = .ok (.iload_n 1, 1) := by decide +kernel
theorem dX7_wouldRatherAgree_26 : decode cX7_wouldRatherAgree 26 = .ok (.invokevirtual 148, 3) := by decide +kernel
theorem dX7_wouldRatherAgree_29 : decode cX7_wouldRatherAgree 29 = .ok (.if_icmp .le 26, 3) := by decide +kernel
theorem dX7_wouldRatherAgree_32 : decode cX7_wouldRatherAgree 32 = .ok (.aload_n 0, 1) := by decide +kernel
theorem dX7_wouldRatherAgree_33 : decode cX7_wouldRatherAgree 33 = .ok (.getfield 29, 3) := by decide +kernel
theorem dX7_wouldRatherAgree_36 : decode cX7_wouldRatherAgree 36 = .ok (.iconst 1, 1) := by decide +kernel
theorem dX7_wouldRatherAgree_37 : decode cX7_wouldRatherAgree 37 = .ok (.invokevirtual 329, 3) := by decide +kernel
theorem dX7_wouldRatherAgree_40 : decode cX7_wouldRatherAgree 40 = .ok (.aload_n 0, 1) := by decide +kernel
theorem dX7_wouldRatherAgree_41 : decode cX7_wouldRatherAgree 41 = .ok (.getfield 22, 3) := by decide +kernel
theorem dX7_wouldRatherAgree_44 : decode cX7_wouldRatherAgree 44 = .ok (.iload_n 2, 1) := by decide +kernel
theorem dX7_wouldRatherAgree_45 : decode cX7_wouldRatherAgree 45 = .ok (.invokevirtual 148, 3) := by decide +kernel
theorem dX7_wouldRatherAgree_48 : decode cX7_wouldRatherAgree 48 = .ok (.if_icmp .le 7, 3) := by decide +kernel
theorem dX7_wouldRatherAgree_51 : decode cX7_wouldRatherAgree 51 = .ok (.iconst 1, 1) := by decide +kernel
theorem dX7_wouldRatherAgree_52 : decode cX7_wouldRatherAgree 52 = .ok (.goto 4, 3) := by decide +kernel
theorem dX7_wouldRatherAgree_55 : decode cX7_wouldRatherAgree 55 = .ok (.iconst 0, 1) := by decide +kernel
theorem dX7_wouldRatherAgree_56 : decode cX7_wouldRatherAgree 56 = .ok (.ireturn, 1) := by decide +kernel
set_option maxRecDepth 20000 in
theorem ggX7_duelForce_X7_bit : GoodIn wsX7_duelForce wsX7_bit := goodIn_r _ [7] (by decide +kernel) (by decide +kernel)
set_option maxRecDepth 20000 in
theorem gX7_duelForce_X7_bit : GoodIn wsX7_duelForce (va_wsS RX7 113 yX7_bit wsX7_bit) := goodIn_app (goodIn_of _ (by decide +kernel)) ggX7_duelForce_X7_bit
set_option maxRecDepth 20000 in
theorem ggX7_duelForce_X1_stronger : GoodIn wsX7_duelForce wsX1_stronger := goodIn_r _ [12, 13, 14, 15, 16, 17, 18, 19, 20, 21, 22, 11, 23, 24, 25, 26, 27, 38, 39, 40, 41, 42, 43, 44, 45, 46, 47, 48, 49] (by decide +kernel) (by decide +kernel)
set_option maxRecDepth 20000 in
theorem gX7_duelForce_X1_stronger : GoodIn wsX7_duelForce (wsV RX7 332 RX1 yX1_stronger wsX1_stronger) := goodIn_app (goodIn_of _ (by decide +kernel)) ggX7_duelForce_X1_stronger
theorem dX7_duelForce_0 : decode cX7_duelForce 0 = .ok (.aload_n 0, 1) := by decide +kernel
theorem dX7_duelForce_1 : decode cX7_duelForce 1 = .ok (.getfield 10, 3) := by decide +kernel
theorem dX7_duelForce_4 : decode cX7_duelForce 4 = .ok (.getfield 132, 3) := by decide +kernel
theorem dX7_duelForce_7 : decode cX7_duelForce 7 = .ok (.bipush 8, 2) := by decide +kernel
theorem dX7_duelForce_9 : decode cX7_duelForce 9 = .ok (.invokestatic 113, 3) := by decide +kernel
theorem dX7_duelForce_12 : decode cX7_duelForce 12 = .ok (.iconst 1, 1) := by decide +kernel
theorem dX7_duelForce_13 : decode cX7_duelForce 13 = .ok (.if_icmp .ne 22, 3) := by decide +kernel
theorem dX7_duelForce_16 : decode cX7_duelForce 16 = .ok (.aload_n 0, 1) := by decide +kernel
theorem dX7_duelForce_17 : decode cX7_duelForce 17 = .ok (.getfield 10, 3) := by decide +kernel
theorem dX7_duelForce_20 : decode cX7_duelForce 20 = .ok (.iload_n 1, 1) := by decide +kernel
theorem dX7_duelForce_21 : decode cX7_duelForce 21 = .ok (.iload_n 2, 1) := by decide +kernel
theorem dX7_duelForce_22 : decode cX7_duelForce 22 = .ok (.bipush 8, 2) := by decide +kernel
theorem dX7_duelForce_24 : decode cX7_duelForce 24 = .ok (.invokevirtual 332, 3) := by decide +kernel
theorem dX7_duelForce_27 : decode cX7_duelForce 27 = .ok (.iload_n 1, 1) := by decide +kernel
theorem dX7_duelForce_28 : decode cX7_duelForce 28 = .ok (.if_icmp .ne 7, 3) := by decide +kernel
theorem dX7_duelForce_31 : decode cX7_duelForce 31 = .ok (.iconst 1, 1) := by decide +kernel
theorem dX7_duelForce_32 : decode cX7_duelForce 32 = .ok (.goto 4, 3) := by decide +kernel
theorem dX7_duelForce_35 : decode cX7_duelForce 35 = .ok (.iconst 0, 1) := by decide +kernel
theorem dX7_duelForce_36 : decode cX7_duelForce 36 = .ok (.istore_n 3, 1) := by decide +kernel
theorem dX7_duelForce_37 : decode cX7_duelForce 37 = .ok (.aload_n 0, 1) := by decide +kernel
theorem dX7_duelForce_38 : decode cX7_duelForce 38 = .ok (.getfield 10, 3) := by decide +kernel
theorem dX7_duelForce_41 : decode cX7_duelForce 41 = .ok (.getfield 92, 3) := by decide +kernel
theorem dX7_duelForce_44 : decode cX7_duelForce 44 = .ok (.iload_n 1, 1) := by decide +kernel
theorem dX7_duelForce_45 : decode cX7_duelForce 45 = .ok (.iaload, 1) := by decide +kernel
theorem dX7_duelForce_46 : decode cX7_duelForce 46 = .ok (.iload_n 3, 1) := by decide +kernel
theorem dX7_duelForce_47 : decode cX7_duelForce 47 = .ok (.ifCond .eq 7, 3) := by decide +kernel
theorem dX7_duelForce_50 : decode cX7_duelForce 50 = .ok (.iconst 3, 1) := by decide +kernel
theorem dX7_duelForce_51 : decode cX7_duelForce 51 = .ok (.goto 4, 3) := by decide +kernel
theorem dX7_duelForce_54 : decode cX7_duelForce 54 = .ok (.iconst 0, 1) := by decide +kernel
theorem dX7_duelForce_55 : decode cX7_duelForce 55 = .ok (.iadd, 1) := by decide +kernel
theorem dX7_duelForce_56 : decode cX7_duelForce 56 = .ok (.ireturn, 1) := by decide +kernel
theorem dX7_isWithin_0 : decode cX7_isWithin 0 = .ok (.iload_n 0, 1) := by decide +kernel
theorem dX7_isWithin_1 : decode cX7_isWithin 1 = .ok (.ifCond .lt 12, 3) := by decide +kernel
theorem dX7_isWithin_4 : decode cX7_isWithin 4 = .ok (.iload_n 0, 1) := by decide +kernel
theorem dX7_isWithin_5 : decode cX7_isWithin 5 = .ok (.iload_n 1, 1) := by decide +kernel
theorem dX7_isWithin_6 : decode cX7_isWithin 6 = .ok (.if_icmp .gt 7, 3) := by decide +kernel
theorem dX7_isWithin_9 : decode cX7_isWithin 9 = .ok (.iconst 1, 1) := by decide +kernel
theorem dX7_isWithin_10 : decode cX7_isWithin 10 = .ok (.goto 4, 3) := by decide +kernel
theorem dX7_isWithin_13 : decode cX7_isWithin 13 = .ok (.iconst 0, 1) := by decide +kernel
theorem dX7_isWithin_14 : decode cX7_isWithin 14 = .ok (.ireturn, 1) := by decide +kernel
theorem dX7_bit_0 : decode cX7_bit 0 = .ok (.iload_n 0, 1) := by decide +kernel
theorem dX7_bit_1 : decode cX7_bit 1 = .ok (.iload_n 1, 1) := by decide +kernel
theorem dX7_bit_2 : decode cX7_bit 2 = .ok (.iushr, 1) := by decide +kernel
theorem dX7_bit_3 : decode cX7_bit 3 = .ok (.iconst 1, 1) := by decide +kernel
theorem dX7_bit_4 : decode cX7_bit 4 = .ok (.iand, 1) := by decide +kernel
theorem dX7_bit_5 : decode cX7_bit 5 = .ok (.ireturn, 1) := by decide +kernel
theorem dX7_sum_0 : decode cX7_sum 0 = .ok (.iconst 0, 1) := by decide +kernel
theorem dX7_sum_1 : decode cX7_sum 1 = .ok (.istore_n 1, 1) := by decide +kernel
theorem dX7_sum_2 : decode cX7_sum 2 = .ok (.aload_n 0, 1) := by decide +kernel
theorem dX7_sum_3 : decode cX7_sum 3 = .ok (.astore_n 2, 1) := by decide +kernel
theorem dX7_sum_4 : decode cX7_sum 4 = .ok (.aload_n 2, 1) := by decide +kernel
theorem dX7_sum_5 : decode cX7_sum 5 = .ok (.arraylength, 1) := by decide +kernel
theorem dX7_sum_6 : decode cX7_sum 6 = .ok (.istore_n 3, 1) := by decide +kernel
theorem dX7_sum_7 : decode cX7_sum 7 = .ok (.iconst 0, 1) := by decide +kernel
theorem dX7_sum_8 : decode cX7_sum 8 = .ok (.istore 4, 2) := by decide +kernel
theorem dX7_sum_10 : decode cX7_sum 10 = .ok (.iload 4, 2) := by decide +kernel
theorem dX7_sum_12 : decode cX7_sum 12 = .ok (.iload_n 3, 1) := by decide +kernel
theorem dX7_sum_13 : decode cX7_sum 13 = .ok (.if_icmp .ge 20, 3) := by decide +kernel
theorem dX7_sum_16 : decode cX7_sum 16 = .ok (.aload_n 2, 1) := by decide +kernel
theorem dX7_sum_17 : decode cX7_sum 17 = .ok (.iload 4, 2) := by decide +kernel
theorem dX7_sum_19 : decode cX7_sum 19 = .ok (.iaload, 1) := by decide +kernel
theorem dX7_sum_20 : decode cX7_sum 20 = .ok (.istore 5, 2) := by decide +kernel
theorem dX7_sum_22 : decode cX7_sum 22 = .ok (.iload_n 1, 1) := by decide +kernel
theorem dX7_sum_23 : decode cX7_sum 23 = .ok (.iload 5, 2) := by decide +kernel
theorem dX7_sum_25 : decode cX7_sum 25 = .ok (.iadd, 1) := by decide +kernel
theorem dX7_sum_26 : decode cX7_sum 26 = .ok (.istore_n 1, 1) := by decide +kernel
theorem dX7_sum_27 : decode cX7_sum 27 = .ok (.iinc 4 1, 3) := by decide +kernel
theorem dX7_sum_30 : decode cX7_sum 30 = .ok (.goto (-20), 3) := by decide +kernel
theorem dX7_sum_33 : decode cX7_sum 33 = .ok (.iload_n 1, 1) := by decide +kernel
theorem dX7_sum_34 : decode cX7_sum 34 = .ok (.ireturn, 1) := by decide +kernel
theorem dX7_commonDivisor_0 : decode cX7_commonDivisor 0 = .ok (.iload_n 0, 1) := by decide +kernel
theorem dX7_commonDivisor_1 : decode cX7_commonDivisor 1 = .ok (.iload_n 1, 1) := by decide +kernel
theorem dX7_commonDivisor_2 : decode cX7_commonDivisor 2 = .ok (.invokestatic 221, 3) := by decide +kernel
theorem dX7_commonDivisor_5 : decode cX7_commonDivisor 5 = .ok (.istore_n 2, 1) := by decide +kernel
theorem dX7_commonDivisor_6 : decode cX7_commonDivisor 6 = .ok (.iload_n 2, 1) := by decide +kernel
theorem dX7_commonDivisor_7 : decode cX7_commonDivisor 7 = .ok (.iconst 1, 1) := by decide +kernel
theorem dX7_commonDivisor_8 : decode cX7_commonDivisor 8 = .ok (.if_icmp .le 23, 3) := by decide +kernel
theorem dX7_commonDivisor_11 : decode cX7_commonDivisor 11 = .ok (.iload_n 0, 1) := by decide +kernel
theorem dX7_commonDivisor_12 : decode cX7_commonDivisor 12 = .ok (.iload_n 2, 1) := by decide +kernel
theorem dX7_commonDivisor_13 : decode cX7_commonDivisor 13 = .ok (.irem, 1) := by decide +kernel
theorem dX7_commonDivisor_14 : decode cX7_commonDivisor 14 = .ok (.ifCond .ne 11, 3) := by decide +kernel
theorem dX7_commonDivisor_17 : decode cX7_commonDivisor 17 = .ok (.iload_n 1, 1) := by decide +kernel
theorem dX7_commonDivisor_18 : decode cX7_commonDivisor 18 = .ok (.iload_n 2, 1) := by decide +kernel
theorem dX7_commonDivisor_19 : decode cX7_commonDivisor 19 = .ok (.irem, 1) := by decide +kernel
theorem dX7_commonDivisor_20 : decode cX7_commonDivisor 20 = .ok (.ifCond .ne 5, 3) := by decide +kernel
theorem dX7_commonDivisor_23 : decode cX7_commonDivisor 23 = .ok (.iload_n 2, 1) := by decide +kernel
theorem dX7_commonDivisor_24 : decode cX7_commonDivisor 24 = .ok (.ireturn, 1) := by decide +kernel
theorem dX7_commonDivisor_25 : decode cX7_commonDivisor 25 = .ok (.iinc 2 (-1), 3) := by decide +kernel
theorem dX7_commonDivisor_28 : decode cX7_commonDivisor 28 = .ok (.goto (-22), 3) := by decide +kernel
theorem dX7_commonDivisor_31 : decode cX7_commonDivisor 31 = .ok (.iconst 1, 1) := by decide +kernel
theorem dX7_commonDivisor_32 : decode cX7_commonDivisor 32 = .ok (.ireturn, 1) := by decide +kernel
theorem dX7_power_0 : decode cX7_power 0 = .ok (.lconst 1, 1) := by decide +kernel
theorem dX7_power_1 : decode cX7_power 1 = .ok (.lstore_n 2, 1) := by decide +kernel
theorem dX7_power_2 : decode cX7_power 2 = .ok (.iconst 0, 1) := by decide +kernel
theorem dX7_power_3 : decode cX7_power 3 = .ok (.istore 4, 2) := by decide +kernel
theorem dX7_power_5 : decode cX7_power 5 = .ok (.iload 4, 2) := by decide +kernel
theorem dX7_power_7 : decode cX7_power 7 = .ok (.iload_n 1, 1) := by decide +kernel
theorem dX7_power_8 : decode cX7_power 8 = .ok (.if_icmp .ge 14, 3) := by decide +kernel
theorem dX7_power_11 : decode cX7_power 11 = .ok (.lload_n 2, 1) := by decide +kernel
theorem dX7_power_12 : decode cX7_power 12 = .ok (.iload_n 0, 1) := by decide +kernel
theorem dX7_power_13 : decode cX7_power 13 = .ok (.i2l, 1) := by decide +kernel
theorem dX7_power_14 : decode cX7_power 14 = .ok (.lmul, 1) := by decide +kernel
theorem dX7_power_15 : decode cX7_power 15 = .ok (.lstore_n 2, 1) := by decide +kernel
theorem dX7_power_16 : decode cX7_power 16 = .ok (.iinc 4 1, 3) := by decide +kernel
theorem dX7_power_19 : decode cX7_power 19 = .ok (.goto (-14), 3) := by decide +kernel
theorem dX7_power_22 : decode cX7_power 22 = .ok (.lload_n 2, 1) := by decide +kernel
theorem dX7_power_23 : decode cX7_power 23 = .ok (.lreturn, 1) := by decide +kernel
theorem dX8_init_0 : decode cX8_init 0 = .ok (.aload_n 0, 1) := by decide +kernel
theorem dX8_init_1 : decode cX8_init 1 = .ok (.invokespecial 1, 3) := by decide +kernel
theorem dX8_init_4 : decode cX8_init 4 = .ok (.aload_n 0, 1) := by decide +kernel
theorem dX8_init_5 : decode cX8_init 5 = .ok (.bipush 56, 2) := by decide +kernel
theorem dX8_init_7 : decode cX8_init 7 = .ok (.newarray .int, 2) := by decide +kernel
theorem dX8_init_9 : decode cX8_init 9 = .ok (.putfield 9, 3) := by decide +kernel
theorem dX8_init_12 : decode cX8_init 12 = .ok (.aload_n 0, 1) := by decide +kernel
theorem dX8_init_13 : decode cX8_init 13 = .ok (.bipush 56, 2) := by decide +kernel
theorem dX8_init_15 : decode cX8_init 15 = .ok (.newarray .int, 2) := by decide +kernel
theorem dX8_init_17 : decode cX8_init 17 = .ok (.putfield 13, 3) := by decide +kernel
theorem dX8_init_20 : decode cX8_init 20 = .ok (.aload_n 0, 1) := by decide +kernel
theorem dX8_init_21 : decode cX8_init 21 = .ok (.bipush 56, 2) := by decide +kernel
theorem dX8_init_23 : decode cX8_init 23 = .ok (.newarray .int, 2) := by decide +kernel
theorem dX8_init_25 : decode cX8_init 25 = .ok (.putfield 16, 3) := by decide +kernel
theorem dX8_init_28 : decode cX8_init 28 = .ok (.aload_n 0, 1) := by decide +kernel
theorem dX8_init_29 : decode cX8_init 29 = .ok (.bipush 8, 2) := by decide +kernel
theorem dX8_init_31 : decode cX8_init 31 = .ok (.newarray .int, 2) := by decide +kernel
theorem dX8_init_33 : decode cX8_init 33 = .ok (.putfield 19, 3) := by decide +kernel
theorem dX8_init_36 : decode cX8_init 36 = .ok (.aload_n 0, 1) := by decide +kernel
theorem dX8_init_37 : decode cX8_init 37 = .ok (.bipush 51, 2) := by decide +kernel
theorem dX8_init_39 : decode cX8_init 39 = .ok (.newarray .int, 2) := by decide +kernel
theorem dX8_init_41 : decode cX8_init 41 = .ok (.putfield 22, 3) := by decide +kernel
theorem dX8_init_44 : decode cX8_init 44 = .ok (.aload_n 0, 1) := by decide +kernel
theorem dX8_init_45 : decode cX8_init 45 = .ok (.sipush 256, 3) := by decide +kernel
theorem dX8_init_48 : decode cX8_init 48 = .ok (.newarray .int, 2) := by decide +kernel
theorem dX8_init_50 : decode cX8_init 50 = .ok (.putfield 25, 3) := by decide +kernel
theorem dX8_init_53 : decode cX8_init 53 = .ok (.aload_n 0, 1) := by decide +kernel
theorem dX8_init_54 : decode cX8_init 54 = .ok (.sipush 256, 3) := by decide +kernel
theorem dX8_init_57 : decode cX8_init 57 = .ok (.newarray .int, 2) := by decide +kernel
theorem dX8_init_59 : decode cX8_init 59 = .ok (.putfield 28, 3) := by decide +kernel
theorem dX8_init_62 : decode cX8_init 62 = .ok (.aload_n 0, 1) := by decide +kernel
theorem dX8_init_63 : decode cX8_init 63 = .ok (.bipush 8, 2) := by decide +kernel
theorem dX8_init_65 : decode cX8_init 65 = .ok (.newarray .int, 2) := by decide +kernel
theorem dX8_init_67 : decode cX8_init 67 = .ok (.putfield 31, 3) := by decide +kernel
theorem dX8_init_70 : decode cX8_init 70 = .ok (.aload_n 0, 1) := by decide +kernel
theorem dX8_init_71 : decode cX8_init 71 = .ok (.bipush 120, 2) := by decide +kernel
theorem dX8_init_73 : decode cX8_init 73 = .ok (.newarray .int, 2) := by decide +kernel
theorem dX8_init_75 : decode cX8_init 75 = .ok (.putfield 34, 3) := by decide +kernel
theorem dX8_init_78 : decode cX8_init 78 = .ok (.aload_n 0, 1) := by decide +kernel
theorem dX8_init_79 : decode cX8_init 79 = .ok (.bipush 7, 2) := by decide +kernel
theorem dX8_init_81 : decode cX8_init 81 = .ok (.anewarray 37, 3) := by decide +kernel
theorem dX8_init_84 : decode cX8_init 84 = .ok (.dup, 1) := by decide +kernel
theorem dX8_init_85 : decode cX8_init 85 = .ok (.iconst 0, 1) := by decide +kernel
theorem dX8_init_86 : decode cX8_init 86 = .ok (.ldc 39, 2) := by decide +kernel
theorem dX8_init_88 : decode cX8_init 88 = .ok (.aastore, 1) := by decide +kernel
theorem dX8_init_89 : decode cX8_init 89 = .ok (.dup, 1) := by decide +kernel
theorem dX8_init_90 : decode cX8_init 90 = .ok (.iconst 1, 1) := by decide +kernel
theorem dX8_init_91 : decode cX8_init 91 = .ok (.ldc 41, 2) := by decide +kernel
theorem dX8_init_93 : decode cX8_init 93 = .ok (.aastore, 1) := by decide +kernel
theorem dX8_init_94 : decode cX8_init 94 = .ok (.dup, 1) := by decide +kernel
theorem dX8_init_95 : decode cX8_init 95 = .ok (.iconst 2, 1) := by decide +kernel
theorem dX8_init_96 : decode cX8_init 96 = .ok (.ldc 43, 2) := by decide +kernel
theorem dX8_init_98 : decode cX8_init 98 = .ok (.aastore, 1) := by decide +kernel
theorem dX8_init_99 : decode cX8_init 99 = .ok (.dup, 1) := by decide +kernel
theorem dX8_init_100 : decode cX8_init 100 = .ok (.iconst 3, 1) := by decide +kernel
theorem dX8_init_101 : decode cX8_init 101 = .ok (.ldc 45, 2) := by decide +kernel
theorem dX8_init_103 : decode cX8_init 103 = .ok (.aastore, 1) := by decide +kernel
theorem dX8_init_104 : decode cX8_init 104 = .ok (.dup, 1) := by decide +kernel
theorem dX8_init_105 : decode cX8_init 105 = .ok (.iconst 4, 1) := by decide +kernel
theorem dX8_init_106 : decode cX8_init 106 = .ok (.ldc 47, 2) := by decide +kernel
theorem dX8_init_108 : decode cX8_init 108 = .ok (.aastore, 1) := by decide +kernel
theorem dX8_init_109 : decode cX8_init 109 = .ok (.dup, 1) := by decide +kernel
theorem dX8_init_110 : decode cX8_init 110 = .ok (.iconst 5, 1) := by decide +kernel
theorem dX8_init_111 : decode cX8_init 111 = .ok (.ldc 49, 2) := by decide +kernel
theorem dX8_init_113 : decode cX8_init 113 = .ok (.aastore, 1) := by decide +kernel
theorem dX8_init_114 : decode cX8_init 114 = .ok (.dup, 1) := by decide +kernel
theorem dX8_init_115 : decode cX8_init 115 = .ok (.bipush 6, 2) := by decide +kernel
theorem dX8_init_117 : decode cX8_init 117 = .ok (.ldc 51, 2) := by decide +kernel
theorem dX8_init_119 : decode cX8_init 119 = .ok (.aastore, 1) := by decide +kernel
theorem dX8_init_120 : decode cX8_init 120 = .ok (.putfield 53, 3) := by decide +kernel
theorem dX8_init_123 : decode cX8_init 123 = .ok (.aload_n 0, 1) := by decide +kernel
theorem dX8_init_124 : decode cX8_init 124 = .ok (.sipush 480, 3) := by decide +kernel
theorem dX8_init_127 : decode cX8_init 127 = .ok (.newarray .int, 2) := by decide +kernel
theorem dX8_init_129 : decode cX8_init 129 = .ok (.putfield 57, 3) := by decide +kernel
theorem dX8_init_132 : decode cX8_init 132 = .ok (.aload_n 0, 1) := by decide +kernel
theorem dX8_init_133 : decode cX8_init 133 = .ok (.iconst 4, 1) := by decide +kernel
theorem dX8_init_134 : decode cX8_init 134 = .ok (.newarray .int, 2) := by decide +kernel
theorem dX8_init_136 : decode cX8_init 136 = .ok (.putfield 60, 3) := by decide +kernel
theorem dX8_init_139 : decode cX8_init 139 = .ok (.aload_n 0, 1) := by decide +kernel
theorem dX8_init_140 : decode cX8_init 140 = .ok (.iconst 4, 1) := by decide +kernel
theorem dX8_init_141 : decode cX8_init 141 = .ok (.newarray .int, 2) := by decide +kernel
theorem dX8_init_143 : decode cX8_init 143 = .ok (.putfield 63, 3) := by decide +kernel
theorem dX8_init_146 : decode cX8_init 146 = .ok (.aload_n 0, 1) := by decide +kernel
theorem dX8_init_147 : decode cX8_init 147 = .ok (.sipush 160, 3) := by decide +kernel
theorem dX8_init_150 : decode cX8_init 150 = .ok (.newarray .int, 2) := by decide +kernel
theorem dX8_init_152 : decode cX8_init 152 = .ok (.putfield 66, 3) := by decide +kernel
theorem dX8_init_155 : decode cX8_init 155 = .ok (.aload_n 0, 1) := by decide +kernel
theorem dX8_init_156 : decode cX8_init 156 = .ok (.bipush 40, 2) := by decide +kernel
theorem dX8_init_158 : decode cX8_init 158 = .ok (.newarray .int, 2) := by decide +kernel
theorem dX8_init_160 : decode cX8_init 160 = .ok (.putfield 69, 3) := by decide +kernel
theorem dX8_init_163 : decode cX8_init 163 = .ok (.aload_n 0, 1) := by decide +kernel
theorem dX8_init_164 : decode cX8_init 164 = .ok (.getfield 9, 3) := by decide +kernel
theorem dX8_init_167 : decode cX8_init 167 = .ok (.iconst 3, 1) := by decide +kernel
theorem dX8_init_168 : decode cX8_init 168 = .ok (.ldc 72, 2) := by decide +kernel
theorem dX8_init_170 : decode cX8_init 170 = .ok (.iastore, 1) := by decide +kernel
theorem dX8_init_171 : decode cX8_init 171 = .ok (.aload_n 0, 1) := by decide +kernel
theorem dX8_init_172 : decode cX8_init 172 = .ok (.getfield 9, 3) := by decide +kernel
theorem dX8_init_175 : decode cX8_init 175 = .ok (.iconst 5, 1) := by decide +kernel
theorem dX8_init_176 : decode cX8_init 176 = .ok (.iconst 1, 1) := by decide +kernel
theorem dX8_init_177 : decode cX8_init 177 = .ok (.iastore, 1) := by decide +kernel
theorem dX8_init_178 : decode cX8_init 178 = .ok (.iconst 0, 1) := by decide +kernel
theorem dX8_init_179 : decode cX8_init 179 = .ok (.istore_n 1, 1) := by decide +kernel
theorem dX8_init_180 : decode cX8_init 180 = .ok (.iload_n 1, 1) := by decide +kernel
theorem dX8_init_181 : decode cX8_init 181 = .ok (.bipush 10, 2) := by decide +kernel
theorem dX8_init_183 : decode cX8_init 183 = .ok (.if_icmp .ge 19, 3) := by decide +kernel
theorem dX8_init_186 : decode cX8_init 186 = .ok (.aload_n 0, 1) := by decide +kernel
theorem dX8_init_187 : decode cX8_init 187 = .ok (.getfield 9, 3) := by decide +kernel
theorem dX8_init_190 : decode cX8_init 190 = .ok (.bipush 6, 2) := by decide +kernel
theorem dX8_init_192 : decode cX8_init 192 = .ok (.iload_n 1, 1) := by decide +kernel
theorem dX8_init_193 : decode cX8_init 193 = .ok (.iadd, 1) := by decide +kernel
theorem dX8_init_194 : decode cX8_init 194 = .ok (.iconst (-1), 1) := by decide +kernel
theorem dX8_init_195 : decode cX8_init 195 = .ok (.iastore, 1) := by decide +kernel
theorem dX8_init_196 : decode cX8_init 196 = .ok (.iinc 1 1, 3) := by decide +kernel
theorem dX8_init_199 : decode cX8_init 199 = .ok (.goto (-19), 3) := by decide +kernel
theorem dX8_init_202 : decode cX8_init 202 = .ok (.return_, 1) := by decide +kernel
theorem dX8_finding_0 : decode cX8_finding 0 = .ok (.aload_n 0, 1) := by decide +kernel
theorem dX8_finding_1 : decode cX8_finding 1 = .ok (.getfield 19, 3) := by decide +kernel
theorem dX8_finding_4 : decode cX8_finding 4 = .ok (.ldc 73, 2) := by decide +kernel
theorem dX8_finding_6 : decode cX8_finding 6 = .ok (.iload_n 1, 1) := by decide +kernel
theorem dX8_finding_7 : decode cX8_finding 7 = .ok (.isub, 1) := by decide +kernel
theorem dX8_finding_8 : decode cX8_finding 8 = .ok (.iconst 1, 1) := by decide +kernel
theorem dX8_finding_9 : decode cX8_finding 9 = .ok (.iadd, 1) := by decide +kernel
theorem dX8_finding_10 : decode cX8_finding 10 = .ok (.dup2, 1) := by decide +kernel
theorem dX8_finding_11 : decode cX8_finding 11 = .ok (.iaload, 1) := by decide +kernel
theorem dX8_finding_12 : decode cX8_finding 12 = .ok (.iconst 1, 1) := by decide +kernel
theorem dX8_finding_13 : decode cX8_finding 13 = .ok (.iadd, 1) := by decide +kernel
theorem dX8_finding_14 : decode cX8_finding 14 = .ok (.iastore, 1) := by decide +kernel
theorem dX8_finding_15 : decode cX8_finding 15 = .ok (.aload_n 0, 1) := by decide +kernel
theorem dX8_finding_16 : decode cX8_finding 16 = .ok (.getfield 19, 3) := by decide +kernel
theorem dX8_finding_19 : decode cX8_finding 19 = .ok (.iconst 0, 1) := by decide +kernel
theorem dX8_finding_20 : decode cX8_finding 20 = .ok (.dup2, 1) := by decide +kernel
theorem dX8_finding_21 : decode cX8_finding 21 = .ok (.iaload, 1) := by decide +kernel
theorem dX8_finding_22 : decode cX8_finding 22 = .ok (.iconst 1, 1) := by decide +kernel
theorem dX8_finding_23 : decode cX8_finding 23 = .ok (.iadd, 1) := by decide +kernel
theorem dX8_finding_24 : decode cX8_finding 24 = .ok (.iastore, 1) := by decide +kernel
theorem dX8_finding_25 : decode cX8_finding 25 = .ok (.iload_n 1, 1) := by decide +kernel
theorem dX8_finding_26 : decode cX8_finding 26 = .ok (.ireturn, 1) := by decide +kernel
theorem dX8_within_0 : decode cX8_within 0 = .ok (.iload_n 0, 1) := by decide +kernel
theorem dX8_within_1 : decode cX8_within 1 = .ok (.iload_n 1, 1) := by decide +kernel
theorem dX8_within_2 : decode cX8_within 2 = .ok (.if_icmp .lt 12, 3) := by decide +kernel
theorem dX8_within_5 : decode cX8_within 5 = .ok (.iload_n 0, 1) := by decide +kernel
theorem dX8_within_6 : decode cX8_within 6 = .ok (.iload_n 2, 1) := by decide +kernel
theorem dX8_within_7 : decode cX8_within 7 = .ok (.if_icmp .gt 7, 3) := by decide +kernel
theorem dX8_within_10 : decode cX8_within 10 = .ok (.iconst 1, 1) := by decide +kernel
theorem dX8_within_11 : decode cX8_within 11 = .ok (.goto 4, 3) := by decide +kernel
theorem dX8_within_14 : decode cX8_within 14 = .ok (.iconst 0, 1) := by decide +kernel
theorem dX8_within_15 : decode cX8_within 15 = .ok (.ireturn, 1) := by decide +kernel
theorem dX8_become_0 : decode cX8_become 0 = .ok (.aload_n 0, 1) := by decide +kernel
theorem dX8_become_1 : decode cX8_become 1 = .ok (.getfield 9, 3) := by decide +kernel
theorem dX8_become_4 : decode cX8_become 4 = .ok (.iload_n 1, 1) := by decide +kernel
theorem dX8_become_5 : decode cX8_become 5 = .ok (.iaload, 1) := by decide +kernel
theorem dX8_become_6 : decode cX8_become 6 = .ok (.istore_n 3, 1) := by decide +kernel
theorem dX8_become_7 : decode cX8_become 7 = .ok (.aload_n 0, 1) := by decide +kernel
theorem dX8_become_8 : decode cX8_become 8 = .ok (.getfield 9, 3) := by decide +kernel
theorem dX8_become_11 : decode cX8_become 11 = .ok (.iload_n 1, 1) := by decide +kernel
theorem dX8_become_12 : decode cX8_become 12 = .ok (.iload_n 2, 1) := by decide +kernel
theorem dX8_become_13 : decode cX8_become 13 = .ok (.iastore, 1) := by decide +kernel
theorem dX8_become_14 : decode cX8_become 14 = .ok (.iload_n 3, 1) := by decide +kernel
theorem dX8_become_15 : decode cX8_become 15 = .ok (.ireturn, 1) := by decide +kernel
theorem dX8_copyRow_0 : decode cX8_copyRow 0 = .ok (.iconst 0, 1) := by decide +kernel
theorem dX8_copyRow_1 : decode cX8_copyRow 1 = .ok (.istore_n 2, 1) := by decide +kernel
theorem dX8_copyRow_2 : decode cX8_copyRow 2 = .ok (.iload_n 2, 1) := by decide +kernel
theorem dX8_copyRow_3 : decode cX8_copyRow 3 = .ok (.bipush 56, 2) := by decide +kernel
theorem dX8_copyRow_5 : decode cX8_copyRow 5 = .ok (.if_icmp .ge 15, 3) := by decide +kernel
theorem dX8_copyRow_8 : decode cX8_copyRow 8 = .ok (.aload_n 1, 1) := by decide +kernel
theorem dX8_copyRow_9 : decode cX8_copyRow 9 = .ok (.iload_n 2, 1) := by decide +kernel
theorem dX8_copyRow_10 : decode cX8_copyRow 10 = .ok (.aload_n 0, 1) := by decide +kernel
theorem dX8_copyRow_11 : decode cX8_copyRow 11 = .ok (.iload_n 2, 1) := by decide +kernel
theorem dX8_copyRow_12 : decode cX8_copyRow 12 = .ok (.iaload, 1) := by decide +kernel
theorem dX8_copyRow_13 : decode cX8_copyRow 13 = .ok (.iastore, 1) := by decide +kernel
theorem dX8_copyRow_14 : decode cX8_copyRow 14 = .ok (.iinc 2 1, 3) := by decide +kernel
theorem dX8_copyRow_17 : decode cX8_copyRow 17 = .ok (.goto (-15), 3) := by decide +kernel
theorem dX8_copyRow_20 : decode cX8_copyRow 20 = .ok (.return_, 1) := by decide +kernel
set_option maxRecDepth 20000 in
theorem ggX8_putBack_X8_copyRow : GoodIn wsX8_putBack wsX8_copyRow := goodIn_r _ [6] (by decide +kernel) (by decide +kernel)
set_option maxRecDepth 20000 in
theorem gX8_putBack_X8_copyRow : GoodIn wsX8_putBack (va_wsS RX8 74 yX8_copyRow wsX8_copyRow) := goodIn_app (goodIn_of _ (by decide +kernel)) ggX8_putBack_X8_copyRow
theorem dX8_putBack_0 : decode cX8_putBack 0 = .ok (.aload_n 0, 1) := by decide +kernel
theorem dX8_putBack_1 : decode cX8_putBack 1 = .ok (.getfield 16, 3) := by decide +kernel
theorem dX8_putBack_4 : decode cX8_putBack 4 = .ok (.aload_n 0, 1) := by decide +kernel
theorem dX8_putBack_5 : decode cX8_putBack 5 = .ok (.getfield 9, 3) := by decide +kernel
theorem dX8_putBack_8 : decode cX8_putBack 8 = .ok (.invokestatic 74, 3) := by decide +kernel
theorem dX8_putBack_11 : decode cX8_putBack 11 = .ok (.iload_n 1, 1) := by decide +kernel
theorem dX8_putBack_12 : decode cX8_putBack 12 = .ok (.ireturn, 1) := by decide +kernel
theorem dX8_has_0 : decode cX8_has 0 = .ok (.iload_n 0, 1) := by decide +kernel
theorem dX8_has_1 : decode cX8_has 1 = .ok (.iload_n 1, 1) := by decide +kernel
theorem dX8_has_2 : decode cX8_has 2 = .ok (.ishr, 1) := by decide +kernel
theorem dX8_has_3 : decode cX8_has 3 = .ok (.iconst 1, 1) := by decide +kernel
theorem dX8_has_4 : decode cX8_has 4 = .ok (.iand, 1) := by decide +kernel
theorem dX8_has_5 : decode cX8_has 5 = .ok (.iconst 1, 1) := by decide +kernel
theorem dX8_has_6 : decode cX8_has 6 = .ok (.if_icmp .ne 7, 3) := by decide +kernel
theorem dX8_has_9 : decode cX8_has 9 = .ok (.iconst 1, 1) := by decide +kernel
theorem dX8_has_10 : decode cX8_has 10 = .ok (.goto 4, 3) := by decide +kernel
theorem dX8_has_13 : decode cX8_has 13 = .ok (.iconst 0, 1) := by decide +kernel
theorem dX8_has_14 : decode cX8_has 14 = .ok (.ireturn, 1) := by decide +kernel
theorem dX8_bits_0 : decode cX8_bits 0 = .ok (.iconst 0, 1) := by decide +kernel
theorem dX8_bits_1 : decode cX8_bits 1 = .ok (.istore_n 1, 1) := by decide +kernel
theorem dX8_bits_2 : decode cX8_bits 2 = .ok (.iload_n 0, 1) := by decide +kernel
theorem dX8_bits_3 : decode cX8_bits 3 = .ok (.istore_n 2, 1) := by decide +kernel
theorem dX8_bits_4 : decode cX8_bits 4 = .ok (.iload_n 2, 1) := by decide +kernel
theorem dX8_bits_5 : decode cX8_bits 5 = .ok (.ifCond .eq 15, 3) := by decide +kernel
theorem dX8_bits_8 : decode cX8_bits 8 = .ok (.iinc 1 1, 3) := by decide +kernel
theorem dX8_bits_11 : decode cX8_bits 11 = .ok (.iload_n 2, 1) := by decide +kernel
theorem dX8_bits_12 : decode cX8_bits 12 = .ok (.iload_n 2, 1) := by decide +kernel
theorem dX8_bits_13 : decode cX8_bits 13 = .ok (.iconst 1, 1) := by decide +kernel
theorem dX8_bits_14 : decode cX8_bits 14 = .ok (.isub, 1) := by decide +kernel
theorem dX8_bits_15 : decode cX8_bits 15 = .ok (.iand, 1) := by decide +kernel
theorem dX8_bits_16 : decode cX8_bits 16 = .ok (.istore_n 2, 1) := by decide +kernel
theorem dX8_bits_17 : decode cX8_bits 17 = .ok (.goto (-13), 3) := by decide +kernel
theorem dX8_bits_20 : decode cX8_bits 20 = .ok (.iload_n 1, 1) := by decide +kernel
theorem dX8_bits_21 : decode cX8_bits 21 = .ok (.ireturn, 1) := by decide +kernel
set_option maxRecDepth 20000 in
theorem ggX8_isPerson_X8_within : GoodIn wsX8_isPerson wsX8_within := goodIn_r _ [5] (by decide +kernel) (by decide +kernel)
set_option maxRecDepth 20000 in
theorem gX8_isPerson_X8_within : GoodIn wsX8_isPerson (va_wsS RX8 78 yX8_within wsX8_within) := goodIn_app (goodIn_of _ (by decide +kernel)) ggX8_isPerson_X8_within
theorem dX8_isPerson_0 : decode cX8_isPerson 0 = .ok (.iload_n 1, 1) := by decide +kernel
theorem dX8_isPerson_1 : decode cX8_isPerson 1 = .ok (.iconst 0, 1) := by decide +kernel
theorem dX8_isPerson_2 : decode cX8_isPerson 2 = .ok (.aload_n 0, 1) := by decide +kernel
theorem dX8_isPerson_3 : decode cX8_isPerson 3 = .ok (.getfield 9, 3) := by decide +kernel
theorem dX8_isPerson_6 : decode cX8_isPerson 6 = .ok (.iconst 4, 1) := by decide +kernel
theorem dX8_isPerson_7 : decode cX8_isPerson 7 = .ok (.iaload, 1) := by decide +kernel
theorem dX8_isPerson_8 : decode cX8_isPerson 8 = .ok (.iconst 1, 1) := by decide +kernel
theorem dX8_isPerson_9 : decode cX8_isPerson 9 = .ok (.isub, 1) := by decide +kernel
theorem dX8_isPerson_10 : decode cX8_isPerson 10 = .ok (.invokestatic 78, 3) := by decide +kernel
theorem dX8_isPerson_13 : decode cX8_isPerson 13 = .ok (.ireturn, 1) := by decide +kernel
set_option maxRecDepth 20000 in
theorem ggX8_isKind_X8_within : GoodIn wsX8_isKind wsX8_within := goodIn_r _ [4] (by decide +kernel) (by decide +kernel)
set_option maxRecDepth 20000 in
theorem gX8_isKind_X8_within : GoodIn wsX8_isKind (va_wsS RX8 78 yX8_within wsX8_within) := goodIn_app (goodIn_of _ (by decide +kernel)) ggX8_isKind_X8_within
theorem dX8_isKind_0 : decode cX8_isKind 0 = .ok (.iload_n 0, 1) := by decide +kernel
theorem dX8_isKind_1 : decode cX8_isKind 1 = .ok (.iconst 0, 1) := by decide +kernel
theorem dX8_isKind_2 : decode cX8_isKind 2 = .ok (.bipush 6, 2) := by decide +kernel
theorem dX8_isKind_4 : decode cX8_isKind 4 = .ok (.invokestatic 78, 3) := by decide +kernel
theorem dX8_isKind_7 : decode cX8_isKind 7 = .ok (.ireturn, 1) := by decide +kernel
set_option maxRecDepth 20000 in
theorem ggX8_isHours_X8_within : GoodIn wsX8_isHours wsX8_within := goodIn_r _ [5] (by decide +kernel) (by decide +kernel)
set_option maxRecDepth 20000 in
theorem gX8_isHours_X8_within : GoodIn wsX8_isHours (va_wsS RX8 78 yX8_within wsX8_within) := goodIn_app (goodIn_of _ (by decide +kernel)) ggX8_isHours_X8_within
theorem dX8_isHours_0 : decode cX8_isHours 0 = .ok (.iload_n 0, 1) := by decide +kernel
theorem dX8_isHours_1 : decode cX8_isHours 1 = .ok (.iconst 0, 1) := by decide +kernel
theorem dX8_isHours_2 : decode cX8_isHours 2 = .ok (.ldc 72, 2) := by decide +kernel
theorem dX8_isHours_4 : decode cX8_isHours 4 = .ok (.invokestatic 78, 3) := by decide +kernel
theorem dX8_isHours_7 : decode cX8_isHours 7 = .ok (.ireturn, 1) := by decide +kernel
theorem dX8_at_0 : decode cX8_at 0 = .ok (.bipush 16, 2) := by decide +kernel
theorem dX8_at_2 : decode cX8_at 2 = .ok (.iconst 5, 1) := by decide +kernel
theorem dX8_at_3 : decode cX8_at 3 = .ok (.iload_n 0, 1) := by decide +kernel
theorem dX8_at_4 : decode cX8_at 4 = .ok (.imul, 1) := by decide +kernel
theorem dX8_at_5 : decode cX8_at 5 = .ok (.iadd, 1) := by decide +kernel
theorem dX8_at_6 : decode cX8_at 6 = .ok (.iload_n 1, 1) := by decide +kernel
theorem dX8_at_7 : decode cX8_at 7 = .ok (.iadd, 1) := by decide +kernel
theorem dX8_at_8 : decode cX8_at 8 = .ok (.ireturn, 1) := by decide +kernel
set_option maxRecDepth 20000 in
theorem ggX8_personIs_X8_at : GoodIn wsX8_personIs wsX8_at := goodIn_r _ [5] (by decide +kernel) (by decide +kernel)
set_option maxRecDepth 20000 in
theorem gX8_personIs_X8_at : GoodIn wsX8_personIs (va_wsS RX8 82 yX8_at wsX8_at) := goodIn_app (goodIn_of _ (by decide +kernel)) ggX8_personIs_X8_at
theorem dX8_personIs_0 : decode cX8_personIs 0 = .ok (.aload_n 0, 1) := by decide +kernel
theorem dX8_personIs_1 : decode cX8_personIs 1 = .ok (.getfield 9, 3) := by decide +kernel
theorem dX8_personIs_4 : decode cX8_personIs 4 = .ok (.iload_n 1, 1) := by decide +kernel
theorem dX8_personIs_5 : decode cX8_personIs 5 = .ok (.iload_n 2, 1) := by decide +kernel
theorem dX8_personIs_6 : decode cX8_personIs 6 = .ok (.invokestatic 82, 3) := by decide +kernel
theorem dX8_personIs_9 : decode cX8_personIs 9 = .ok (.iaload, 1) := by decide +kernel
theorem dX8_personIs_10 : decode cX8_personIs 10 = .ok (.ireturn, 1) := by decide +kernel
set_option maxRecDepth 20000 in
theorem ggX8_comes_X8_at : GoodIn wsX8_comes wsX8_at := goodIn_r _ [5] (by decide +kernel) (by decide +kernel)
set_option maxRecDepth 20000 in
theorem gX8_comes_X8_at : GoodIn wsX8_comes (va_wsS RX8 82 yX8_at wsX8_at) := goodIn_app (goodIn_of _ (by decide +kernel)) ggX8_comes_X8_at
theorem dX8_comes_0 : decode cX8_comes 0 = .ok (.aload_n 0, 1) := by decide +kernel
theorem dX8_comes_1 : decode cX8_comes 1 = .ok (.getfield 9, 3) := by decide +kernel
theorem dX8_comes_4 : decode cX8_comes 4 = .ok (.iconst 4, 1) := by decide +kernel
theorem dX8_comes_5 : decode cX8_comes 5 = .ok (.iaload, 1) := by decide +kernel
theorem dX8_comes_6 : decode cX8_comes 6 = .ok (.istore 5, 2) := by decide +kernel
theorem dX8_comes_8 : decode cX8_comes 8 = .ok (.aload_n 0, 1) := by decide +kernel
theorem dX8_comes_9 : decode cX8_comes 9 = .ok (.getfield 9, 3) := by decide +kernel
theorem dX8_comes_12 : decode cX8_comes 12 = .ok (.iload 5, 2) := by decide +kernel
theorem dX8_comes_14 : decode cX8_comes 14 = .ok (.iconst 0, 1) := by decide +kernel
theorem dX8_comes_15 : decode cX8_comes 15 = .ok (.invokestatic 82, 3) := by decide +kernel
theorem dX8_comes_18 : decode cX8_comes 18 = .ok (.iload_n 1, 1) := by decide +kernel
theorem dX8_comes_19 : decode cX8_comes 19 = .ok (.iastore, 1) := by decide +kernel
theorem dX8_comes_20 : decode cX8_comes 20 = .ok (.aload_n 0, 1) := by decide +kernel
theorem dX8_comes_21 : decode cX8_comes 21 = .ok (.getfield 9, 3) := by decide +kernel
theorem dX8_comes_24 : decode cX8_comes 24 = .ok (.iload 5, 2) := by decide +kernel
theorem dX8_comes_26 : decode cX8_comes 26 = .ok (.iconst 1, 1) := by decide +kernel
theorem dX8_comes_27 : decode cX8_comes 27 = .ok (.invokestatic 82, 3) := by decide +kernel
theorem dX8_comes_30 : decode cX8_comes 30 = .ok (.iload_n 2, 1) := by decide +kernel
theorem dX8_comes_31 : decode cX8_comes 31 = .ok (.iastore, 1) := by decide +kernel
theorem dX8_comes_32 : decode cX8_comes 32 = .ok (.aload_n 0, 1) := by decide +kernel
theorem dX8_comes_33 : decode cX8_comes 33 = .ok (.getfield 9, 3) := by decide +kernel
theorem dX8_comes_36 : decode cX8_comes 36 = .ok (.iload 5, 2) := by decide +kernel
theorem dX8_comes_38 : decode cX8_comes 38 = .ok (.iconst 2, 1) := by decide +kernel
theorem dX8_comes_39 : decode cX8_comes 39 = .ok (.invokestatic 82, 3) := by decide +kernel
theorem dX8_comes_42 : decode cX8_comes 42 = .ok (.iload_n 3, 1) := by decide +kernel
theorem dX8_comes_43 : decode cX8_comes 43 = .ok (.iastore, 1) := by decide +kernel
theorem dX8_comes_44 : decode cX8_comes 44 = .ok (.aload_n 0, 1) := by decide +kernel
theorem dX8_comes_45 : decode cX8_comes 45 = .ok (.getfield 9, 3) := by decide +kernel
theorem dX8_comes_48 : decode cX8_comes 48 = .ok (.iload 5, 2) := by decide +kernel
theorem dX8_comes_50 : decode cX8_comes 50 = .ok (.iconst 3, 1) := by decide +kernel
theorem dX8_comes_51 : decode cX8_comes 51 = .ok (.invokestatic 82, 3) := by decide +kernel
theorem dX8_comes_54 : decode cX8_comes 54 = .ok (.iload 4, 2) := by decide +kernel
theorem dX8_comes_56 : decode cX8_comes 56 = .ok (.iastore, 1) := by decide +kernel
theorem dX8_comes_57 : decode cX8_comes 57 = .ok (.aload_n 0, 1) := by decide +kernel
theorem dX8_comes_58 : decode cX8_comes 58 = .ok (.getfield 9, 3) := by decide +kernel
theorem dX8_comes_61 : decode cX8_comes 61 = .ok (.iload 5, 2) := by decide +kernel
theorem dX8_comes_63 : decode cX8_comes 63 = .ok (.iconst 4, 1) := by decide +kernel
theorem dX8_comes_64 : decode cX8_comes 64 = .ok (.invokestatic 82, 3) := by decide +kernel
theorem dX8_comes_67 : decode cX8_comes 67 = .ok (.iconst (-1), 1) := by decide +kernel
theorem dX8_comes_68 : decode cX8_comes 68 = .ok (.iastore, 1) := by decide +kernel
theorem dX8_comes_69 : decode cX8_comes 69 = .ok (.aload_n 0, 1) := by decide +kernel
theorem dX8_comes_70 : decode cX8_comes 70 = .ok (.getfield 9, 3) := by decide +kernel
theorem dX8_comes_73 : decode cX8_comes 73 = .ok (.iconst 4, 1) := by decide +kernel
theorem dX8_comes_74 : decode cX8_comes 74 = .ok (.dup2, 1) := by decide +kernel
theorem dX8_comes_75 : decode cX8_comes 75 = .ok (.iaload, 1) := by decide +kernel
theorem dX8_comes_76 : decode cX8_comes 76 = .ok (.iconst 1, 1) := by decide +kernel
theorem dX8_comes_77 : decode cX8_comes 77 = .ok (.iadd, 1) := by decide +kernel
theorem dX8_comes_78 : decode cX8_comes 78 = .ok (.iastore, 1) := by decide +kernel
theorem dX8_comes_79 : decode cX8_comes 79 = .ok (.iload 5, 2) := by decide +kernel
theorem dX8_comes_81 : decode cX8_comes 81 = .ok (.ireturn, 1) := by decide +kernel
set_option maxRecDepth 20000 in
theorem ggX8_person_X8_isKind : GoodIn wsX8_person wsX8_isKind := goodIn_r _ [7, 8, 9, 6, 10] (by decide +kernel) (by decide +kernel)
set_option maxRecDepth 20000 in
theorem gX8_person_X8_isKind : GoodIn wsX8_person (va_wsS RX8 86 yX8_isKind wsX8_isKind) := goodIn_app (goodIn_of _ (by decide +kernel)) ggX8_person_X8_isKind
set_option maxRecDepth 20000 in
theorem ggX8_person_X8_finding : GoodIn wsX8_person wsX8_finding := goodIn_r _ [14, 15, 1, 23, 24, 25, 26, 27, 28, 29, 30, 31, 32, 33, 34, 35, 36, 37, 38, 39, 40, 41, 42, 43, 44, 45, 46, 47, 48, 49, 50, 51] (by decide +kernel) (by decide +kernel)
set_option maxRecDepth 20000 in
theorem gX8_person_X8_finding : GoodIn wsX8_person (wsV RX8 90 RX8 yX8_finding wsX8_finding) := goodIn_app (goodIn_of _ (by decide +kernel)) ggX8_person_X8_finding
set_option maxRecDepth 20000 in
theorem ggX8_person_X8_comes : GoodIn wsX8_person wsX8_comes := goodIn_r _ [19, 2, 20, 21, 6, 22, 23, 24, 25, 26, 27, 28, 29, 30, 31, 32, 33, 34, 35, 36, 37, 38, 39, 40, 41, 42, 43, 44, 45, 46, 47, 48, 49, 50, 51] (by decide +kernel) (by decide +kernel)
set_option maxRecDepth 20000 in
theorem gX8_person_X8_comes : GoodIn wsX8_person (wsV RX8 95 RX8 yX8_comes wsX8_comes) := goodIn_app (goodIn_of _ (by decide +kernel)) ggX8_person_X8_comes
theorem dX8_person_0 : decode cX8_person 0 = .ok (.iload_n 1, 1) := by decide +kernel
theorem dX8_person_1 : decode cX8_person 1 = .ok (.invokestatic 86, 3) := by decide +kernel
theorem dX8_person_4 : decode cX8_person 4 = .ok (.ifCond .ne 10, 3) := by decide +kernel
theorem dX8_person_7 : decode cX8_person 7 = .ok (.aload_n 0, 1) := by decide +kernel
theorem dX8_person_8 : decode cX8_person 8 = .ok (.ldc 73, 2) := by decide +kernel
theorem dX8_person_10 : decode cX8_person 10 = .ok (.invokevirtual 90, 3) := by decide +kernel
theorem dX8_person_13 : decode cX8_person 13 = .ok (.ireturn, 1) := by decide +kernel
theorem dX8_person_14 : decode cX8_person 14 = .ok (.aload_n 0, 1) := by decide +kernel
theorem dX8_person_15 : decode cX8_person 15 = .ok (.getfield 9, 3) := by decide +kernel
theorem dX8_person_18 : decode cX8_person 18 = .ok (.iconst 4, 1) := by decide +kernel
theorem dX8_person_19 : decode cX8_person 19 = .ok (.iaload, 1) := by decide +kernel
theorem dX8_person_20 : decode cX8_person 20 = .ok (.bipush 8, 2) := by decide +kernel
theorem dX8_person_22 : decode cX8_person 22 = .ok (.if_icmp .ne 12, 3) := by decide +kernel
theorem dX8_person_25 : decode cX8_person 25 = .ok (.aload_n 0, 1) := by decide +kernel
theorem dX8_person_26 : decode cX8_person 26 = .ok (.ldc 94, 2) := by decide +kernel
theorem dX8_person_28 : decode cX8_person 28 = .ok (.invokevirtual 90, 3) := by decide +kernel
theorem dX8_person_31 : decode cX8_person 31 = .ok (.goto 11, 3) := by decide +kernel
theorem dX8_person_34 : decode cX8_person 34 = .ok (.aload_n 0, 1) := by decide +kernel
theorem dX8_person_35 : decode cX8_person 35 = .ok (.iload_n 1, 1) := by decide +kernel
theorem dX8_person_36 : decode cX8_person 36 = .ok (.iconst 0, 1) := by decide +kernel
theorem dX8_person_37 : decode cX8_person 37 = .ok (.iconst 3, 1) := by decide +kernel
theorem dX8_person_38 : decode cX8_person 38 = .ok (.iconst 0, 1) := by decide +kernel
theorem dX8_person_39 : decode cX8_person 39 = .ok (.invokevirtual 95, 3) := by decide +kernel
theorem dX8_person_42 : decode cX8_person 42 = .ok (.ireturn, 1) := by decide +kernel
theorem dX8_above_0 : decode cX8_above 0 = .ok (.iload_n 0, 1) := by decide +kernel
theorem dX8_above_1 : decode cX8_above 1 = .ok (.ifCond .ne 7, 3) := by decide +kernel
theorem dX8_above_4 : decode cX8_above 4 = .ok (.iconst (-1), 1) := by decide +kernel
theorem dX8_above_5 : decode cX8_above 5 = .ok (.goto 32, 3) := by decide +kernel
theorem dX8_above_8 : decode cX8_above 8 = .ok (.iload_n 0, 1) := by decide +kernel
theorem dX8_above_9 : decode cX8_above 9 = .ok (.iconst 3, 1) := by decide +kernel
theorem dX8_above_10 : decode cX8_above 10 = .ok (.if_icmp .ne 7, 3) := by decide +kernel
theorem dX8_above_13 : decode cX8_above 13 = .ok (.iconst 2, 1) := by decide +kernel
theorem dX8_above_14 : decode cX8_above 14 = .ok (.goto 23, 3) := by decide +kernel
theorem dX8_above_17 : decode cX8_above 17 = .ok (.iload_n 0, 1) := by decide +kernel
theorem dX8_above_18 : decode cX8_above 18 = .ok (.iconst 4, 1) := by decide +kernel
theorem dX8_above_19 : decode cX8_above 19 = .ok (.if_icmp .ne 7, 3) := by decide +kernel
theorem dX8_above_22 : decode cX8_above 22 = .ok (.iconst 3, 1) := by decide +kernel
theorem dX8_above_23 : decode cX8_above 23 = .ok (.goto 14, 3) := by decide +kernel
theorem dX8_above_26 : decode cX8_above 26 = .ok (.iload_n 0, 1) := by decide +kernel
theorem dX8_above_27 : decode cX8_above 27 = .ok (.bipush 6, 2) := by decide +kernel
theorem dX8_above_29 : decode cX8_above 29 = .ok (.if_icmp .ne 7, 3) := by decide +kernel
theorem dX8_above_32 : decode cX8_above 32 = .ok (.iconst 1, 1) := by decide +kernel
theorem dX8_above_33 : decode cX8_above 33 = .ok (.goto 4, 3) := by decide +kernel
theorem dX8_above_36 : decode cX8_above 36 = .ok (.iconst 0, 1) := by decide +kernel
theorem dX8_above_37 : decode cX8_above 37 = .ok (.ireturn, 1) := by decide +kernel
set_option maxRecDepth 20000 in
theorem ggX8_isUnder_X8_above : GoodIn wsX8_isUnder wsX8_above := goodIn_r _ [4] (by decide +kernel) (by decide +kernel)
set_option maxRecDepth 20000 in
theorem gX8_isUnder_X8_above : GoodIn wsX8_isUnder (va_wsS RX8 99 yX8_above wsX8_above) := goodIn_app (goodIn_of _ (by decide +kernel)) ggX8_isUnder_X8_above
theorem dX8_isUnder_0 : decode cX8_isUnder 0 = .ok (.iload_n 0, 1) := by decide +kernel
theorem dX8_isUnder_1 : decode cX8_isUnder 1 = .ok (.istore_n 2, 1) := by decide +kernel
theorem dX8_isUnder_2 : decode cX8_isUnder 2 = .ok (.iload_n 2, 1) := by decide +kernel
theorem dX8_isUnder_3 : decode cX8_isUnder 3 = .ok (.ifCond .lt 16, 3) := by decide +kernel
theorem dX8_isUnder_6 : decode cX8_isUnder 6 = .ok (.iload_n 2, 1) := by decide +kernel
theorem dX8_isUnder_7 : decode cX8_isUnder 7 = .ok (.iload_n 1, 1) := by decide +kernel
theorem dX8_isUnder_8 : decode cX8_isUnder 8 = .ok (.if_icmp .eq 11, 3) := by decide +kernel
theorem dX8_isUnder_11 : decode cX8_isUnder 11 = .ok (.iload_n 2, 1) := by decide +kernel
theorem dX8_isUnder_12 : decode cX8_isUnder 12 = .ok (.invokestatic 99, 3) := by decide +kernel
theorem dX8_isUnder_15 : decode cX8_isUnder 15 = .ok (.istore_n 2, 1) := by decide +kernel
theorem dX8_isUnder_16 : decode cX8_isUnder 16 = .ok (.goto (-14), 3) := by decide +kernel
theorem dX8_isUnder_19 : decode cX8_isUnder 19 = .ok (.iload_n 2, 1) := by decide +kernel
theorem dX8_isUnder_20 : decode cX8_isUnder 20 = .ok (.ifCond .lt 7, 3) := by decide +kernel
theorem dX8_isUnder_23 : decode cX8_isUnder 23 = .ok (.iconst 1, 1) := by decide +kernel
theorem dX8_isUnder_24 : decode cX8_isUnder 24 = .ok (.goto 4, 3) := by decide +kernel
theorem dX8_isUnder_27 : decode cX8_isUnder 27 = .ok (.iconst 0, 1) := by decide +kernel
theorem dX8_isUnder_28 : decode cX8_isUnder 28 = .ok (.ireturn, 1) := by decide +kernel
set_option maxRecDepth 20000 in
theorem ggX8_claimOf_X8_personIs : GoodIn wsX8_claimOf wsX8_personIs := goodIn_r _ [5, 6, 7, 8, 4, 9, 10, 11, 12, 13, 14, 15, 16, 17, 18, 19, 20, 21, 22, 23, 24, 25, 26, 27, 28, 29, 30, 31, 32, 33, 34, 35, 36, 37, 38] (by decide +kernel) (by decide +kernel)
set_option maxRecDepth 20000 in
theorem gX8_claimOf_X8_personIs : GoodIn wsX8_claimOf (wsV RX8 102 RX8 yX8_personIs wsX8_personIs) := goodIn_app (goodIn_of _ (by decide +kernel)) ggX8_claimOf_X8_personIs
theorem dX8_claimOf_0 : decode cX8_claimOf 0 = .ok (.aload_n 0, 1) := by decide +kernel
theorem dX8_claimOf_1 : decode cX8_claimOf 1 = .ok (.iload_n 1, 1) := by decide +kernel
theorem dX8_claimOf_2 : decode cX8_claimOf 2 = .ok (.iconst 1, 1) := by decide +kernel
theorem dX8_claimOf_3 : decode cX8_claimOf 3 = .ok (.invokevirtual 102, 3) := by decide +kernel
theorem dX8_claimOf_6 : decode cX8_claimOf 6 = .ok (.istore_n 3, 1) := by decide +kernel
theorem dX8_claimOf_7 : decode cX8_claimOf 7 = .ok (.iload_n 3, 1) := by decide +kernel
theorem dX8_claimOf_8 : decode cX8_claimOf 8 = .ok (.iconst 2, 1) := by decide +kernel
theorem dX8_claimOf_9 : decode cX8_claimOf 9 = .ok (.aload_n 0, 1) := by decide +kernel
theorem dX8_claimOf_10 : decode cX8_claimOf 10 = .ok (.iload_n 1, 1) := by decide +kernel
theorem dX8_claimOf_11 : decode cX8_claimOf 11 = .ok (.iconst 2, 1) := by decide +kernel
theorem dX8_claimOf_12 : decode cX8_claimOf 12 = .ok (.invokevirtual 102, 3) := by decide +kernel
theorem dX8_claimOf_15 : decode cX8_claimOf 15 = .ok (.imul, 1) := by decide +kernel
theorem dX8_claimOf_16 : decode cX8_claimOf 16 = .ok (.iadd, 1) := by decide +kernel
theorem dX8_claimOf_17 : decode cX8_claimOf 17 = .ok (.istore 4, 2) := by decide +kernel
theorem dX8_claimOf_19 : decode cX8_claimOf 19 = .ok (.aload_n 0, 1) := by decide +kernel
theorem dX8_claimOf_20 : decode cX8_claimOf 20 = .ok (.iload_n 1, 1) := by decide +kernel
theorem dX8_claimOf_21 : decode cX8_claimOf 21 = .ok (.iconst 0, 1) := by decide +kernel
theorem dX8_claimOf_22 : decode cX8_claimOf 22 = .ok (.invokevirtual 102, 3) := by decide +kernel
theorem dX8_claimOf_25 : decode cX8_claimOf 25 = .ok (.tableswitch 101 1 6 #[39, 42, 47, 54, 71, 87], 39) := by decide +kernel
theorem dX8_claimOf_64 : decode cX8_claimOf 64 = .ok (.iload 4, 2) := by decide +kernel
theorem dX8_claimOf_66 : decode cX8_claimOf 66 = .ok (.ireturn, 1) := by decide +kernel
theorem dX8_claimOf_67 : decode cX8_claimOf 67 = .ok (.iload_n 3, 1) := by decide +kernel
theorem dX8_claimOf_68 : decode cX8_claimOf 68 = .ok (.bipush 10, 2) := by decide +kernel
theorem dX8_claimOf_70 : decode cX8_claimOf 70 = .ok (.iadd, 1) := by decide +kernel
theorem dX8_claimOf_71 : decode cX8_claimOf 71 = .ok (.ireturn, 1) := by decide +kernel
theorem dX8_claimOf_72 : decode cX8_claimOf 72 = .ok (.iload_n 3, 1) := by decide +kernel
theorem dX8_claimOf_73 : decode cX8_claimOf 73 = .ok (.bipush 10, 2) := by decide +kernel
theorem dX8_claimOf_75 : decode cX8_claimOf 75 = .ok (.iadd, 1) := by decide +kernel
theorem dX8_claimOf_76 : decode cX8_claimOf 76 = .ok (.iconst 2, 1) := by decide +kernel
theorem dX8_claimOf_77 : decode cX8_claimOf 77 = .ok (.idiv, 1) := by decide +kernel
theorem dX8_claimOf_78 : decode cX8_claimOf 78 = .ok (.ireturn, 1) := by decide +kernel
theorem dX8_claimOf_79 : decode cX8_claimOf 79 = .ok (.iload_n 2, 1) := by decide +kernel
theorem dX8_claimOf_80 : decode cX8_claimOf 80 = .ok (.iconst 2, 1) := by decide +kernel
theorem dX8_claimOf_81 : decode cX8_claimOf 81 = .ok (.irem, 1) := by decide +kernel
theorem dX8_claimOf_82 : decode cX8_claimOf 82 = .ok (.ifCond .ne 12, 3) := by decide +kernel
theorem dX8_claimOf_85 : decode cX8_claimOf 85 = .ok (.iload_n 3, 1) := by decide +kernel
theorem dX8_claimOf_86 : decode cX8_claimOf 86 = .ok (.bipush 10, 2) := by decide +kernel
theorem dX8_claimOf_88 : decode cX8_claimOf 88 = .ok (.iadd, 1) := by decide +kernel
theorem dX8_claimOf_89 : decode cX8_claimOf 89 = .ok (.iconst 2, 1) := by decide +kernel
theorem dX8_claimOf_90 : decode cX8_claimOf 90 = .ok (.idiv, 1) := by decide +kernel
theorem dX8_claimOf_91 : decode cX8_claimOf 91 = .ok (.goto 4, 3) := by decide +kernel
theorem dX8_claimOf_94 : decode cX8_claimOf 94 = .ok (.iconst 0, 1) := by decide +kernel
theorem dX8_claimOf_95 : decode cX8_claimOf 95 = .ok (.ireturn, 1) := by decide +kernel
theorem dX8_claimOf_96 : decode cX8_claimOf 96 = .ok (.iload_n 2, 1) := by decide +kernel
theorem dX8_claimOf_97 : decode cX8_claimOf 97 = .ok (.iconst 2, 1) := by decide +kernel
theorem dX8_claimOf_98 : decode cX8_claimOf 98 = .ok (.irem, 1) := by decide +kernel
theorem dX8_claimOf_99 : decode cX8_claimOf 99 = .ok (.iload_n 1, 1) := by decide +kernel
theorem dX8_claimOf_100 : decode cX8_claimOf 100 = .ok (.iconst 2, 1) := by decide +kernel
theorem dX8_claimOf_101 : decode cX8_claimOf 101 = .ok (.irem, 1) := by decide +kernel
theorem dX8_claimOf_102 : decode cX8_claimOf 102 = .ok (.if_icmp .ne 8, 3) := by decide +kernel
theorem dX8_claimOf_105 : decode cX8_claimOf 105 = .ok (.bipush 50, 2) := by decide +kernel
theorem dX8_claimOf_107 : decode cX8_claimOf 107 = .ok (.goto 4, 3) := by decide +kernel
theorem dX8_claimOf_110 : decode cX8_claimOf 110 = .ok (.iconst 0, 1) := by decide +kernel
theorem dX8_claimOf_111 : decode cX8_claimOf 111 = .ok (.ireturn, 1) := by decide +kernel
theorem dX8_claimOf_112 : decode cX8_claimOf 112 = .ok (.iload_n 2, 1) := by decide +kernel
theorem dX8_claimOf_113 : decode cX8_claimOf 113 = .ok (.bipush 8, 2) := by decide +kernel
theorem dX8_claimOf_115 : decode cX8_claimOf 115 = .ok (.if_icmp .ne 8, 3) := by decide +kernel
theorem dX8_claimOf_118 : decode cX8_claimOf 118 = .ok (.bipush 99, 2) := by decide +kernel
theorem dX8_claimOf_120 : decode cX8_claimOf 120 = .ok (.goto 5, 3) := by decide +kernel
theorem dX8_claimOf_123 : decode cX8_claimOf 123 = .ok (.iload 4, 2) := by decide +kernel
theorem dX8_claimOf_125 : decode cX8_claimOf 125 = .ok (.ireturn, 1) := by decide +kernel
theorem dX8_claimOf_126 : decode cX8_claimOf 126 = .ok (.iload_n 3, 1) := by decide +kernel
theorem dX8_claimOf_127 : decode cX8_claimOf 127 = .ok (.ireturn, 1) := by decide +kernel
set_option maxRecDepth 20000 in
theorem ggX8_firstOf_X8_claimOf : GoodIn wsX8_firstOf wsX8_claimOf := goodIn_r _ [12, 13, 14, 15, 11, 16, 17, 18, 19, 20, 21, 22, 23, 24, 25, 26, 27, 28, 29, 30, 31, 32, 33, 34, 35, 36, 37, 38, 39, 40, 41, 42, 43, 44, 45, 46, 47, 48, 49] (by decide +kernel) (by decide +kernel)
set_option maxRecDepth 20000 in
theorem gX8_firstOf_X8_claimOf : GoodIn wsX8_firstOf (wsV RX8 113 RX8 yX8_claimOf wsX8_claimOf) := goodIn_app (goodIn_of _ (by decide +kernel)) ggX8_firstOf_X8_claimOf
theorem dX8_firstOf_0 : decode cX8_firstOf 0 = .ok (.iload_n 1, 1) := by decide +kernel
theorem dX8_firstOf_1 : decode cX8_firstOf 1 = .ok (.iload_n 2, 1) := by decide +kernel
theorem dX8_firstOf_2 : decode cX8_firstOf 2 = .ok (.invokestatic 105, 3) := by decide +kernel
theorem dX8_firstOf_5 : decode cX8_firstOf 5 = .ok (.istore 4, 2) := by decide +kernel
theorem dX8_firstOf_7 : decode cX8_firstOf 7 = .ok (.iload_n 1, 1) := by decide +kernel
theorem dX8_firstOf_8 : decode cX8_firstOf 8 = .ok (.iload_n 2, 1) := by decide +kernel
theorem dX8_firstOf_9 : decode cX8_firstOf 9 = .ok (.invokestatic 110, 3) := by decide +kernel
theorem dX8_firstOf_12 : decode cX8_firstOf 12 = .ok (.istore 5, 2) := by decide +kernel
theorem dX8_firstOf_14 : decode cX8_firstOf 14 = .ok (.aload_n 0, 1) := by decide +kernel
theorem dX8_firstOf_15 : decode cX8_firstOf 15 = .ok (.iload 5, 2) := by decide +kernel
theorem dX8_firstOf_17 : decode cX8_firstOf 17 = .ok (.iload_n 3, 1) := by decide +kernel
theorem dX8_firstOf_18 : decode cX8_firstOf 18 = .ok (.invokevirtual 113, 3) := by decide +kernel
theorem dX8_firstOf_21 : decode cX8_firstOf 21 = .ok (.aload_n 0, 1) := by decide +kernel
theorem dX8_firstOf_22 : decode cX8_firstOf 22 = .ok (.iload 4, 2) := by decide +kernel
theorem dX8_firstOf_24 : decode cX8_firstOf 24 = .ok (.iload_n 3, 1) := by decide +kernel
theorem dX8_firstOf_25 : decode cX8_firstOf 25 = .ok (.invokevirtual 113, 3) := by decide +kernel
theorem dX8_firstOf_28 : decode cX8_firstOf 28 = .ok (.if_icmp .le 8, 3) := by decide +kernel
theorem dX8_firstOf_31 : decode cX8_firstOf 31 = .ok (.iload 5, 2) := by decide +kernel
theorem dX8_firstOf_33 : decode cX8_firstOf 33 = .ok (.goto 5, 3) := by decide +kernel
theorem dX8_firstOf_36 : decode cX8_firstOf 36 = .ok (.iload 4, 2) := by decide +kernel
theorem dX8_firstOf_38 : decode cX8_firstOf 38 = .ok (.ireturn, 1) := by decide +kernel
set_option maxRecDepth 20000 in
theorem ggX8_isLit_X8_has : GoodIn wsX8_isLit wsX8_has := goodIn_r _ [5] (by decide +kernel) (by decide +kernel)
set_option maxRecDepth 20000 in
theorem gX8_isLit_X8_has : GoodIn wsX8_isLit (va_wsS RX8 116 yX8_has wsX8_has) := goodIn_app (goodIn_of _ (by decide +kernel)) ggX8_isLit_X8_has
theorem dX8_isLit_0 : decode cX8_isLit 0 = .ok (.aload_n 0, 1) := by decide +kernel
theorem dX8_isLit_1 : decode cX8_isLit 1 = .ok (.getfield 9, 3) := by decide +kernel
theorem dX8_isLit_4 : decode cX8_isLit 4 = .ok (.iconst 3, 1) := by decide +kernel
theorem dX8_isLit_5 : decode cX8_isLit 5 = .ok (.iaload, 1) := by decide +kernel
theorem dX8_isLit_6 : decode cX8_isLit 6 = .ok (.iload_n 1, 1) := by decide +kernel
theorem dX8_isLit_7 : decode cX8_isLit 7 = .ok (.invokestatic 116, 3) := by decide +kernel
theorem dX8_isLit_10 : decode cX8_isLit 10 = .ok (.ireturn, 1) := by decide +kernel
set_option maxRecDepth 20000 in
theorem ggX8_hasShadow_X8_personIs : GoodIn wsX8_hasShadow wsX8_personIs := goodIn_r _ [5, 6, 7, 8, 4, 9, 32, 33, 34, 35, 36, 37, 38, 39, 40, 41, 42, 43, 44, 45, 46, 47, 48, 49, 50, 51, 52, 53, 54, 55, 56, 57, 58, 59, 60] (by decide +kernel) (by decide +kernel)
set_option maxRecDepth 20000 in
theorem gX8_hasShadow_X8_personIs : GoodIn wsX8_hasShadow (wsV RX8 102 RX8 yX8_personIs wsX8_personIs) := goodIn_app (goodIn_of _ (by decide +kernel)) ggX8_hasShadow_X8_personIs
set_option maxRecDepth 20000 in
theorem ggX8_hasShadow_X8_isLit : GoodIn wsX8_hasShadow wsX8_isLit := goodIn_r _ [13, 6, 14, 15, 4, 16, 32, 33, 34, 35, 36, 37, 38, 39, 40, 41, 42, 43, 44, 45, 46, 47, 48, 49, 50, 51, 52, 53, 54, 55, 56, 57, 58, 59, 60] (by decide +kernel) (by decide +kernel)
set_option maxRecDepth 20000 in
theorem gX8_hasShadow_X8_isLit : GoodIn wsX8_hasShadow (wsV RX8 120 RX8 yX8_isLit wsX8_isLit) := goodIn_app (goodIn_of _ (by decide +kernel)) ggX8_hasShadow_X8_isLit
set_option maxRecDepth 20000 in
theorem ggX8_hasShadow_X8_firstOf : GoodIn wsX8_hasShadow wsX8_firstOf := goodIn_r _ [20, 21, 22, 23, 24, 25, 26, 27, 28, 29, 30, 4, 31, 1, 2, 3, 5, 6, 7, 8, 9, 32, 33, 34, 35, 36, 37, 38, 39, 40, 41, 42, 43, 44, 45, 46, 47, 48, 49, 50, 51, 52, 53, 54, 55, 56, 57, 58, 59, 60] (by decide +kernel) (by decide +kernel)
set_option maxRecDepth 20000 in
theorem gX8_hasShadow_X8_firstOf : GoodIn wsX8_hasShadow (wsV RX8 123 RX8 yX8_firstOf wsX8_firstOf) := goodIn_app (goodIn_of _ (by decide +kernel)) ggX8_hasShadow_X8_firstOf
theorem dX8_hasShadow_0 : decode cX8_hasShadow 0 = .ok (.aload_n 0, 1) := by decide +kernel
theorem dX8_hasShadow_1 : decode cX8_hasShadow 1 = .ok (.iload_n 1, 1) := by decide +kernel
theorem dX8_hasShadow_2 : decode cX8_hasShadow 2 = .ok (.iconst 4, 1) := by decide +kernel
theorem dX8_hasShadow_3 : decode cX8_hasShadow 3 = .ok (.invokevirtual 102, 3) := by decide +kernel
theorem dX8_hasShadow_6 : decode cX8_hasShadow 6 = .ok (.istore_n 3, 1) := by decide +kernel
theorem dX8_hasShadow_7 : decode cX8_hasShadow 7 = .ok (.aload_n 0, 1) := by decide +kernel
theorem dX8_hasShadow_8 : decode cX8_hasShadow 8 = .ok (.iload_n 2, 1) := by decide +kernel
theorem dX8_hasShadow_9 : decode cX8_hasShadow 9 = .ok (.invokevirtual 120, 3) := by decide +kernel
theorem dX8_hasShadow_12 : decode cX8_hasShadow 12 = .ok (.ifCond .eq 22, 3) := by decide +kernel
theorem dX8_hasShadow_15 : decode cX8_hasShadow 15 = .ok (.iload_n 3, 1) := by decide +kernel
theorem dX8_hasShadow_16 : decode cX8_hasShadow 16 = .ok (.ifCond .lt 14, 3) := by decide +kernel
theorem dX8_hasShadow_19 : decode cX8_hasShadow 19 = .ok (.aload_n 0, 1) := by decide +kernel
theorem dX8_hasShadow_20 : decode cX8_hasShadow 20 = .ok (.iload_n 1, 1) := by decide +kernel
theorem dX8_hasShadow_21 : decode cX8_hasShadow 21 = .ok (.iload_n 3, 1) := by decide +kernel
theorem dX8_hasShadow_22 : decode cX8_hasShadow 22 = .ok (.iload_n 2, 1) := by decide +kernel
theorem dX8_hasShadow_23 : decode cX8_hasShadow 23 = .ok (.invokevirtual 123, 3) := by decide +kernel
theorem dX8_hasShadow_26 : decode cX8_hasShadow 26 = .ok (.iload_n 1, 1) := by decide +kernel
theorem dX8_hasShadow_27 : decode cX8_hasShadow 27 = .ok (.if_icmp .ne 7, 3) := by decide +kernel
theorem dX8_hasShadow_30 : decode cX8_hasShadow 30 = .ok (.iconst 1, 1) := by decide +kernel
theorem dX8_hasShadow_31 : decode cX8_hasShadow 31 = .ok (.goto 4, 3) := by decide +kernel
theorem dX8_hasShadow_34 : decode cX8_hasShadow 34 = .ok (.iconst 0, 1) := by decide +kernel
theorem dX8_hasShadow_35 : decode cX8_hasShadow 35 = .ok (.ireturn, 1) := by decide +kernel
set_option maxRecDepth 20000 in
theorem ggX8_whoHave_X8_hasShadow : GoodIn wsX8_whoHave wsX8_hasShadow := goodIn_r _ [6, 7, 8, 9, 5, 10, 1, 11, 12, 13, 14, 15, 16, 17, 18, 19, 20, 21, 22, 23, 24, 25, 26, 27, 28, 29, 30, 31, 32, 33, 34, 35, 36, 37, 38, 39, 40, 41, 42, 43, 44, 45, 46, 47, 48, 49, 50, 51, 52, 53, 54, 55, 56, 57, 58, 59, 60, 61, 62, 63, 64] (by decide +kernel) (by decide +kernel)
set_option maxRecDepth 20000 in
theorem gX8_whoHave_X8_hasShadow : GoodIn wsX8_whoHave (wsV RX8 127 RX8 yX8_hasShadow wsX8_hasShadow) := goodIn_app (goodIn_of _ (by decide +kernel)) ggX8_whoHave_X8_hasShadow
theorem dX8_whoHave_0 : decode cX8_whoHave 0 = .ok (.iconst 0, 1) := by decide +kernel
theorem dX8_whoHave_1 : decode cX8_whoHave 1 = .ok (.istore_n 2, 1) := by decide +kernel
theorem dX8_whoHave_2 : decode cX8_whoHave 2 = .ok (.iconst 0, 1) := by decide +kernel
theorem dX8_whoHave_3 : decode cX8_whoHave 3 = .ok (.istore_n 3, 1) := by decide +kernel
theorem dX8_whoHave_4 : decode cX8_whoHave 4 = .ok (.iload_n 3, 1) := by decide +kernel
theorem dX8_whoHave_5 : decode cX8_whoHave 5 = .ok (.aload_n 0, 1) := by decide +kernel
theorem dX8_whoHave_6 : decode cX8_whoHave 6 = .ok (.getfield 9, 3) := by decide +kernel
theorem dX8_whoHave_9 : decode cX8_whoHave 9 = .ok (.iconst 4, 1) := by decide +kernel
theorem dX8_whoHave_10 : decode cX8_whoHave 10 = .ok (.iaload, 1) := by decide +kernel
theorem dX8_whoHave_11 : decode cX8_whoHave 11 = .ok (.if_icmp .ge 28, 3) := by decide +kernel
theorem dX8_whoHave_14 : decode cX8_whoHave 14 = .ok (.iload_n 2, 1) := by decide +kernel
theorem dX8_whoHave_15 : decode cX8_whoHave 15 = .ok (.aload_n 0, 1) := by decide +kernel
theorem dX8_whoHave_16 : decode cX8_whoHave 16 = .ok (.iload_n 3, 1) := by decide +kernel
theorem dX8_whoHave_17 : decode cX8_whoHave 17 = .ok (.iload_n 1, 1) := by decide +kernel
theorem dX8_whoHave_18 : decode cX8_whoHave 18 = .ok (.invokevirtual 127, 3) := by decide +kernel
theorem dX8_whoHave_21 : decode cX8_whoHave 21 = .ok (.ifCond .eq 9, 3) := by decide +kernel
theorem dX8_whoHave_24 : decode cX8_whoHave 24 = .ok (.iconst 1, 1) := by decide +kernel
theorem dX8_whoHave_25 : decode cX8_whoHave 25 = .ok (.iload_n 3, 1) := by decide +kernel
theorem dX8_whoHave_26 : decode cX8_whoHave 26 = .ok (.ishl, 1) := by decide +kernel
theorem dX8_whoHave_27 : decode cX8_whoHave 27 = .ok (.goto 4, 3) := by decide +kernel
theorem dX8_whoHave_30 : decode cX8_whoHave 30 = .ok (.iconst 0, 1) := by decide +kernel
theorem dX8_whoHave_31 : decode cX8_whoHave 31 = .ok (.ior, 1) := by decide +kernel
theorem dX8_whoHave_32 : decode cX8_whoHave 32 = .ok (.istore_n 2, 1) := by decide +kernel
theorem dX8_whoHave_33 : decode cX8_whoHave 33 = .ok (.iinc 3 1, 3) := by decide +kernel
theorem dX8_whoHave_36 : decode cX8_whoHave 36 = .ok (.goto (-32), 3) := by decide +kernel
theorem dX8_whoHave_39 : decode cX8_whoHave 39 = .ok (.iload_n 2, 1) := by decide +kernel
theorem dX8_whoHave_40 : decode cX8_whoHave 40 = .ok (.ireturn, 1) := by decide +kernel
theorem dX8_isOver_0 : decode cX8_isOver 0 = .ok (.aload_n 0, 1) := by decide +kernel
theorem dX8_isOver_1 : decode cX8_isOver 1 = .ok (.getfield 9, 3) := by decide +kernel
theorem dX8_isOver_4 : decode cX8_isOver 4 = .ok (.iconst 0, 1) := by decide +kernel
theorem dX8_isOver_5 : decode cX8_isOver 5 = .ok (.iaload, 1) := by decide +kernel
theorem dX8_isOver_6 : decode cX8_isOver 6 = .ok (.bipush 16, 2) := by decide +kernel
theorem dX8_isOver_8 : decode cX8_isOver 8 = .ok (.if_icmp .ne 7, 3) := by decide +kernel
theorem dX8_isOver_11 : decode cX8_isOver 11 = .ok (.iconst 1, 1) := by decide +kernel
theorem dX8_isOver_12 : decode cX8_isOver 12 = .ok (.goto 4, 3) := by decide +kernel
theorem dX8_isOver_15 : decode cX8_isOver 15 = .ok (.iconst 0, 1) := by decide +kernel
theorem dX8_isOver_16 : decode cX8_isOver 16 = .ok (.ireturn, 1) := by decide +kernel
set_option maxRecDepth 20000 in
theorem ggX8_of_X8_isPerson : GoodIn wsX8_of wsX8_isPerson := goodIn_r _ [7, 2, 8, 9, 6, 10, 53, 54, 55, 56, 57, 58, 59, 60, 61, 62, 63, 64, 65, 66, 67, 68, 69, 70, 71, 72, 73, 74, 75, 76, 77, 78, 79, 80, 81] (by decide +kernel) (by decide +kernel)
set_option maxRecDepth 20000 in
theorem gX8_of_X8_isPerson : GoodIn wsX8_of (wsV RX8 130 RX8 yX8_isPerson wsX8_isPerson) := goodIn_app (goodIn_of _ (by decide +kernel)) ggX8_of_X8_isPerson
set_option maxRecDepth 20000 in
theorem ggX8_of_X8_within : GoodIn wsX8_of wsX8_within := goodIn_r _ [10] (by decide +kernel) (by decide +kernel)
set_option maxRecDepth 20000 in
theorem gX8_of_X8_within : GoodIn wsX8_of (va_wsS RX8 78 yX8_within wsX8_within) := goodIn_app (goodIn_of _ (by decide +kernel)) ggX8_of_X8_within
set_option maxRecDepth 20000 in
theorem ggX8_of_X8_finding : GoodIn wsX8_of wsX8_finding := goodIn_r _ [14, 15, 1, 53, 54, 55, 56, 57, 58, 59, 60, 61, 62, 63, 64, 65, 66, 67, 68, 69, 70, 71, 72, 73, 74, 75, 76, 77, 78, 79, 80, 81] (by decide +kernel) (by decide +kernel)
set_option maxRecDepth 20000 in
theorem gX8_of_X8_finding : GoodIn wsX8_of (wsV RX8 90 RX8 yX8_finding wsX8_finding) := goodIn_app (goodIn_of _ (by decide +kernel)) ggX8_of_X8_finding
set_option maxRecDepth 20000 in
theorem ggX8_of_X8_personIs : GoodIn wsX8_of wsX8_personIs := goodIn_r _ [19, 2, 20, 21, 6, 22, 53, 54, 55, 56, 57, 58, 59, 60, 61, 62, 63, 64, 65, 66, 67, 68, 69, 70, 71, 72, 73, 74, 75, 76, 77, 78, 79, 80, 81] (by decide +kernel) (by decide +kernel)
set_option maxRecDepth 20000 in
theorem gX8_of_X8_personIs : GoodIn wsX8_of (wsV RX8 102 RX8 yX8_personIs wsX8_personIs) := goodIn_app (goodIn_of _ (by decide +kernel)) ggX8_of_X8_personIs
set_option maxRecDepth 20000 in
theorem ggX8_of_X8_isOver : GoodIn wsX8_of wsX8_isOver := goodIn_r _ [26, 2, 53, 54, 55, 56, 57, 58, 59, 60, 61, 62, 63, 64, 65, 66, 67, 68, 69, 70, 71, 72, 73, 74, 75, 76, 77, 78, 79, 80, 81] (by decide +kernel) (by decide +kernel)
set_option maxRecDepth 20000 in
theorem gX8_of_X8_isOver : GoodIn wsX8_of (wsV RX8 133 RX8 yX8_isOver wsX8_isOver) := goodIn_app (goodIn_of _ (by decide +kernel)) ggX8_of_X8_isOver
set_option maxRecDepth 20000 in
theorem ggX8_of_X8_claimOf : GoodIn wsX8_of wsX8_claimOf := goodIn_r _ [30, 16, 17, 18, 6, 19, 2, 20, 21, 22, 53, 54, 55, 56, 57, 58, 59, 60, 61, 62, 63, 64, 65, 66, 67, 68, 69, 70, 71, 72, 73, 74, 75, 76, 77, 78, 79, 80, 81] (by decide +kernel) (by decide +kernel)
set_option maxRecDepth 20000 in
theorem gX8_of_X8_claimOf : GoodIn wsX8_of (wsV RX8 113 RX8 yX8_claimOf wsX8_claimOf) := goodIn_app (goodIn_of _ (by decide +kernel)) ggX8_of_X8_claimOf
set_option maxRecDepth 20000 in
theorem ggX8_of_X8_hasShadow : GoodIn wsX8_of wsX8_hasShadow := goodIn_r _ [34, 16, 17, 18, 6, 19, 2, 20, 21, 22, 35, 36, 37, 38, 39, 40, 41, 42, 43, 44, 45, 46, 47, 48, 49, 50, 51, 52, 27, 28, 29, 30, 53, 54, 55, 56, 57, 58, 59, 60, 61, 62, 63, 64, 65, 66, 67, 68, 69, 70, 71, 72, 73, 74, 75, 76, 77, 78, 79, 80, 81] (by decide +kernel) (by decide +kernel)
set_option maxRecDepth 20000 in
theorem gX8_of_X8_hasShadow : GoodIn wsX8_of (wsV RX8 127 RX8 yX8_hasShadow wsX8_hasShadow) := goodIn_app (goodIn_of _ (by decide +kernel)) ggX8_of_X8_hasShadow
theorem dX8_of_0 : decode cX8_of 0 = .ok (.aload_n 0, 1) := by decide +kernel
theorem dX8_of_1 : decode cX8_of 1 = .ok (.iload_n 1, 1) := by decide +kernel
theorem dX8_of_2 : decode cX8_of 2 = .ok (.invokevirtual 130, 3) := by decide +kernel
theorem dX8_of_5 : decode cX8_of 5 = .ok (.ifCond .eq 13, 3) := by decide +kernel
theorem dX8_of_8 : decode cX8_of 8 = .ok (.iload_n 2, 1) := by decide +kernel
theorem dX8_of_9 : decode cX8_of 9 = .ok (.iconst 0, 1) := by decide +kernel
theorem dX8_of_10 : decode cX8_of 10 = .ok (.bipush 6, 2) := by decide +kernel
theorem dX8_of_12 : decode cX8_of 12 = .ok (.invokestatic 78, 3) := by decide +kernel
theorem dX8_of_15 : decode cX8_of 15 = .ok (.ifCond .ne 10, 3) := by decide +kernel
theorem dX8_of_18 : decode cX8_of 18 = .ok (.aload_n 0, 1) := by decide +kernel
theorem dX8_of_19 : decode cX8_of 19 = .ok (.ldc 73, 2) := by decide +kernel
theorem dX8_of_21 : decode cX8_of 21 = .ok (.invokevirtual 90, 3) := by decide +kernel
theorem dX8_of_24 : decode cX8_of 24 = .ok (.ireturn, 1) := by decide +kernel
theorem dX8_of_25 : decode cX8_of 25 = .ok (.iload_n 2, 1) := by decide +kernel
theorem dX8_of_26 : decode cX8_of 26 = .ok (.iconst 5, 1) := by decide +kernel
theorem dX8_of_27 : decode cX8_of 27 = .ok (.if_icmp .ge 10, 3) := by decide +kernel
theorem dX8_of_30 : decode cX8_of 30 = .ok (.aload_n 0, 1) := by decide +kernel
theorem dX8_of_31 : decode cX8_of 31 = .ok (.iload_n 1, 1) := by decide +kernel
theorem dX8_of_32 : decode cX8_of 32 = .ok (.iload_n 2, 1) := by decide +kernel
theorem dX8_of_33 : decode cX8_of 33 = .ok (.invokevirtual 102, 3) := by decide +kernel
theorem dX8_of_36 : decode cX8_of 36 = .ok (.ireturn, 1) := by decide +kernel
theorem dX8_of_37 : decode cX8_of 37 = .ok (.aload_n 0, 1) := by decide +kernel
theorem dX8_of_38 : decode cX8_of 38 = .ok (.invokevirtual 133, 3) := by decide +kernel
theorem dX8_of_41 : decode cX8_of 41 = .ok (.ifCond .eq 7, 3) := by decide +kernel
theorem dX8_of_44 : decode cX8_of 44 = .ok (.iconst 0, 1) := by decide +kernel
theorem dX8_of_45 : decode cX8_of 45 = .ok (.goto 41, 3) := by decide +kernel
theorem dX8_of_48 : decode cX8_of 48 = .ok (.iload_n 2, 1) := by decide +kernel
theorem dX8_of_49 : decode cX8_of 49 = .ok (.iconst 5, 1) := by decide +kernel
theorem dX8_of_50 : decode cX8_of 50 = .ok (.if_icmp .ne 17, 3) := by decide +kernel
theorem dX8_of_53 : decode cX8_of 53 = .ok (.aload_n 0, 1) := by decide +kernel
theorem dX8_of_54 : decode cX8_of 54 = .ok (.iload_n 1, 1) := by decide +kernel
theorem dX8_of_55 : decode cX8_of 55 = .ok (.aload_n 0, 1) := by decide +kernel
theorem dX8_of_56 : decode cX8_of 56 = .ok (.getfield 9, 3) := by decide +kernel
theorem dX8_of_59 : decode cX8_of 59 = .ok (.iconst 0, 1) := by decide +kernel
theorem dX8_of_60 : decode cX8_of 60 = .ok (.iaload, 1) := by decide +kernel
theorem dX8_of_61 : decode cX8_of 61 = .ok (.invokevirtual 113, 3) := by decide +kernel
theorem dX8_of_64 : decode cX8_of 64 = .ok (.goto 22, 3) := by decide +kernel
theorem dX8_of_67 : decode cX8_of 67 = .ok (.aload_n 0, 1) := by decide +kernel
theorem dX8_of_68 : decode cX8_of 68 = .ok (.iload_n 1, 1) := by decide +kernel
theorem dX8_of_69 : decode cX8_of 69 = .ok (.aload_n 0, 1) := by decide +kernel
theorem dX8_of_70 : decode cX8_of 70 = .ok (.getfield 9, 3) := by decide +kernel
theorem dX8_of_73 : decode cX8_of 73 = .ok (.iconst 0, 1) := by decide +kernel
theorem dX8_of_74 : decode cX8_of 74 = .ok (.iaload, 1) := by decide +kernel
theorem dX8_of_75 : decode cX8_of 75 = .ok (.invokevirtual 127, 3) := by decide +kernel
theorem dX8_of_78 : decode cX8_of 78 = .ok (.ifCond .eq 7, 3) := by decide +kernel
theorem dX8_of_81 : decode cX8_of 81 = .ok (.iconst 1, 1) := by decide +kernel
theorem dX8_of_82 : decode cX8_of 82 = .ok (.goto 4, 3) := by decide +kernel
theorem dX8_of_85 : decode cX8_of 85 = .ok (.iconst 0, 1) := by decide +kernel
theorem dX8_of_86 : decode cX8_of 86 = .ok (.ireturn, 1) := by decide +kernel
set_option maxRecDepth 20000 in
theorem ggX8_change_X8_isKind : GoodIn wsX8_change wsX8_isKind := goodIn_r _ [5, 6, 7, 4, 8] (by decide +kernel) (by decide +kernel)
set_option maxRecDepth 20000 in
theorem gX8_change_X8_isKind : GoodIn wsX8_change (va_wsS RX8 86 yX8_isKind wsX8_isKind) := goodIn_app (goodIn_of _ (by decide +kernel)) ggX8_change_X8_isKind
set_option maxRecDepth 20000 in
theorem ggX8_change_X8_within : GoodIn wsX8_change wsX8_within := goodIn_r _ [8] (by decide +kernel) (by decide +kernel)
set_option maxRecDepth 20000 in
theorem gX8_change_X8_within : GoodIn wsX8_change (va_wsS RX8 78 yX8_within wsX8_within) := goodIn_app (goodIn_of _ (by decide +kernel)) ggX8_change_X8_within
set_option maxRecDepth 20000 in
theorem ggX8_change_X8_isHours : GoodIn wsX8_change wsX8_isHours := goodIn_r _ [11, 12, 6, 7, 4, 8] (by decide +kernel) (by decide +kernel)
set_option maxRecDepth 20000 in
theorem gX8_change_X8_isHours : GoodIn wsX8_change (va_wsS RX8 137 yX8_isHours wsX8_isHours) := goodIn_app (goodIn_of _ (by decide +kernel)) ggX8_change_X8_isHours
set_option maxRecDepth 20000 in
theorem ggX8_change_X8_isPerson : GoodIn wsX8_change wsX8_isPerson := goodIn_r _ [16, 17, 6, 7, 4, 8, 30, 31, 32, 33, 34, 35, 36, 37, 38, 39, 40, 41, 42, 43, 44, 45, 46, 47, 48, 49, 50, 51, 52, 53, 54, 55, 56, 57, 58] (by decide +kernel) (by decide +kernel)
set_option maxRecDepth 20000 in
theorem gX8_change_X8_isPerson : GoodIn wsX8_change (wsV RX8 130 RX8 yX8_isPerson wsX8_isPerson) := goodIn_app (goodIn_of _ (by decide +kernel)) ggX8_change_X8_isPerson
set_option maxRecDepth 20000 in
theorem ggX8_change_X8_at : GoodIn wsX8_change wsX8_at := goodIn_r _ [20] (by decide +kernel) (by decide +kernel)
set_option maxRecDepth 20000 in
theorem gX8_change_X8_at : GoodIn wsX8_change (va_wsS RX8 82 yX8_at wsX8_at) := goodIn_app (goodIn_of _ (by decide +kernel)) ggX8_change_X8_at
set_option maxRecDepth 20000 in
theorem ggX8_change_X8_become : GoodIn wsX8_change wsX8_become := goodIn_r _ [24, 17, 30, 31, 32, 33, 34, 35, 36, 37, 38, 39, 40, 41, 42, 43, 44, 45, 46, 47, 48, 49, 50, 51, 52, 53, 54, 55, 56, 57, 58] (by decide +kernel) (by decide +kernel)
set_option maxRecDepth 20000 in
theorem gX8_change_X8_become : GoodIn wsX8_change (wsV RX8 140 RX8 yX8_become wsX8_become) := goodIn_app (goodIn_of _ (by decide +kernel)) ggX8_change_X8_become
set_option maxRecDepth 20000 in
theorem ggX8_change_X8_finding : GoodIn wsX8_change wsX8_finding := goodIn_r _ [28, 29, 1, 30, 31, 32, 33, 34, 35, 36, 37, 38, 39, 40, 41, 42, 43, 44, 45, 46, 47, 48, 49, 50, 51, 52, 53, 54, 55, 56, 57, 58] (by decide +kernel) (by decide +kernel)
set_option maxRecDepth 20000 in
theorem gX8_change_X8_finding : GoodIn wsX8_change (wsV RX8 90 RX8 yX8_finding wsX8_finding) := goodIn_app (goodIn_of _ (by decide +kernel)) ggX8_change_X8_finding
theorem dX8_change_0 : decode cX8_change 0 = .ok (.iload_n 2, 1) := by decide +kernel
theorem dX8_change_1 : decode cX8_change 1 = .ok (.ifCond .ne 10, 3) := by decide +kernel
theorem dX8_change_4 : decode cX8_change 4 = .ok (.iload_n 3, 1) := by decide +kernel
theorem dX8_change_5 : decode cX8_change 5 = .ok (.invokestatic 86, 3) := by decide +kernel
theorem dX8_change_8 : decode cX8_change 8 = .ok (.ifCond .ne 45, 3) := by decide +kernel
theorem dX8_change_11 : decode cX8_change 11 = .ok (.iload_n 2, 1) := by decide +kernel
theorem dX8_change_12 : decode cX8_change 12 = .ok (.iconst 1, 1) := by decide +kernel
theorem dX8_change_13 : decode cX8_change 13 = .ok (.if_icmp .ne 13, 3) := by decide +kernel
theorem dX8_change_16 : decode cX8_change 16 = .ok (.iload_n 3, 1) := by decide +kernel
theorem dX8_change_17 : decode cX8_change 17 = .ok (.iconst 0, 1) := by decide +kernel
theorem dX8_change_18 : decode cX8_change 18 = .ok (.bipush 99, 2) := by decide +kernel
theorem dX8_change_20 : decode cX8_change 20 = .ok (.invokestatic 78, 3) := by decide +kernel
theorem dX8_change_23 : decode cX8_change 23 = .ok (.ifCond .ne 30, 3) := by decide +kernel
theorem dX8_change_26 : decode cX8_change 26 = .ok (.iload_n 2, 1) := by decide +kernel
theorem dX8_change_27 : decode cX8_change 27 = .ok (.iconst 2, 1) := by decide +kernel
theorem dX8_change_28 : decode cX8_change 28 = .ok (.if_icmp .ne 13, 3) := by decide +kernel
theorem dX8_change_31 : decode cX8_change 31 = .ok (.iload_n 3, 1) := by decide +kernel
theorem dX8_change_32 : decode cX8_change 32 = .ok (.iconst 0, 1) := by decide +kernel
theorem dX8_change_33 : decode cX8_change 33 = .ok (.bipush 9, 2) := by decide +kernel
theorem dX8_change_35 : decode cX8_change 35 = .ok (.invokestatic 78, 3) := by decide +kernel
theorem dX8_change_38 : decode cX8_change 38 = .ok (.ifCond .ne 15, 3) := by decide +kernel
theorem dX8_change_41 : decode cX8_change 41 = .ok (.iload_n 2, 1) := by decide +kernel
theorem dX8_change_42 : decode cX8_change 42 = .ok (.iconst 3, 1) := by decide +kernel
theorem dX8_change_43 : decode cX8_change 43 = .ok (.if_icmp .ne 14, 3) := by decide +kernel
theorem dX8_change_46 : decode cX8_change 46 = .ok (.iload_n 3, 1) := by decide +kernel
theorem dX8_change_47 : decode cX8_change 47 = .ok (.invokestatic 137, 3) := by decide +kernel
theorem dX8_change_50 : decode cX8_change 50 = .ok (.ifCond .eq 7, 3) := by decide +kernel
theorem dX8_change_53 : decode cX8_change 53 = .ok (.iconst 1, 1) := by decide +kernel
theorem dX8_change_54 : decode cX8_change 54 = .ok (.goto 4, 3) := by decide +kernel
theorem dX8_change_57 : decode cX8_change 57 = .ok (.iconst 0, 1) := by decide +kernel
theorem dX8_change_58 : decode cX8_change 58 = .ok (.istore 4, 2) := by decide +kernel
theorem dX8_change_60 : decode cX8_change 60 = .ok (.aload_n 0, 1) := by decide +kernel
theorem dX8_change_61 : decode cX8_change 61 = .ok (.iload_n 1, 1) := by decide +kernel
theorem dX8_change_62 : decode cX8_change 62 = .ok (.invokevirtual 130, 3) := by decide +kernel
theorem dX8_change_65 : decode cX8_change 65 = .ok (.ifCond .eq 21, 3) := by decide +kernel
theorem dX8_change_68 : decode cX8_change 68 = .ok (.iload 4, 2) := by decide +kernel
theorem dX8_change_70 : decode cX8_change 70 = .ok (.ifCond .eq 16, 3) := by decide +kernel
theorem dX8_change_73 : decode cX8_change 73 = .ok (.aload_n 0, 1) := by decide +kernel
theorem dX8_change_74 : decode cX8_change 74 = .ok (.iload_n 1, 1) := by decide +kernel
theorem dX8_change_75 : decode cX8_change 75 = .ok (.iload_n 2, 1) := by decide +kernel
theorem dX8_change_76 : decode cX8_change 76 = .ok (.invokestatic 82, 3) := by decide +kernel
theorem dX8_change_79 : decode cX8_change 79 = .ok (.iload_n 3, 1) := by decide +kernel
theorem dX8_change_80 : decode cX8_change 80 = .ok (.invokevirtual 140, 3) := by decide +kernel
theorem dX8_change_83 : decode cX8_change 83 = .ok (.goto 9, 3) := by decide +kernel
theorem dX8_change_86 : decode cX8_change 86 = .ok (.aload_n 0, 1) := by decide +kernel
theorem dX8_change_87 : decode cX8_change 87 = .ok (.ldc 73, 2) := by decide +kernel
theorem dX8_change_89 : decode cX8_change 89 = .ok (.invokevirtual 90, 3) := by decide +kernel
theorem dX8_change_92 : decode cX8_change 92 = .ok (.ireturn, 1) := by decide +kernel
set_option maxRecDepth 20000 in
theorem ggX8_parts_X8_at : GoodIn wsX8_parts wsX8_at := goodIn_r _ [5] (by decide +kernel) (by decide +kernel)
set_option maxRecDepth 20000 in
theorem gX8_parts_X8_at : GoodIn wsX8_parts (va_wsS RX8 82 yX8_at wsX8_at) := goodIn_app (goodIn_of _ (by decide +kernel)) ggX8_parts_X8_at
set_option maxRecDepth 20000 in
theorem ggX8_parts_X8_become : GoodIn wsX8_parts wsX8_become := goodIn_r _ [9, 1, 10, 11, 12, 13, 14, 15, 16, 17, 18, 19, 20, 21, 22, 23, 24, 25, 26, 27, 28, 29, 30, 31, 32, 33, 34, 35, 36, 37, 38] (by decide +kernel) (by decide +kernel)
set_option maxRecDepth 20000 in
theorem gX8_parts_X8_become : GoodIn wsX8_parts (wsV RX8 140 RX8 yX8_become wsX8_become) := goodIn_app (goodIn_of _ (by decide +kernel)) ggX8_parts_X8_become
theorem dX8_parts_0 : decode cX8_parts 0 = .ok (.aload_n 0, 1) := by decide +kernel
theorem dX8_parts_1 : decode cX8_parts 1 = .ok (.iload_n 1, 1) := by decide +kernel
theorem dX8_parts_2 : decode cX8_parts 2 = .ok (.iconst 4, 1) := by decide +kernel
theorem dX8_parts_3 : decode cX8_parts 3 = .ok (.invokestatic 82, 3) := by decide +kernel
theorem dX8_parts_6 : decode cX8_parts 6 = .ok (.iconst (-1), 1) := by decide +kernel
theorem dX8_parts_7 : decode cX8_parts 7 = .ok (.invokevirtual 140, 3) := by decide +kernel
theorem dX8_parts_10 : decode cX8_parts 10 = .ok (.istore_n 2, 1) := by decide +kernel
theorem dX8_parts_11 : decode cX8_parts 11 = .ok (.iload_n 2, 1) := by decide +kernel
theorem dX8_parts_12 : decode cX8_parts 12 = .ok (.ifCond .lt 14, 3) := by decide +kernel
theorem dX8_parts_15 : decode cX8_parts 15 = .ok (.aload_n 0, 1) := by decide +kernel
theorem dX8_parts_16 : decode cX8_parts 16 = .ok (.getfield 9, 3) := by decide +kernel
theorem dX8_parts_19 : decode cX8_parts 19 = .ok (.iload_n 2, 1) := by decide +kernel
theorem dX8_parts_20 : decode cX8_parts 20 = .ok (.iconst 4, 1) := by decide +kernel
theorem dX8_parts_21 : decode cX8_parts 21 = .ok (.invokestatic 82, 3) := by decide +kernel
theorem dX8_parts_24 : decode cX8_parts 24 = .ok (.iconst (-1), 1) := by decide +kernel
theorem dX8_parts_25 : decode cX8_parts 25 = .ok (.iastore, 1) := by decide +kernel
theorem dX8_parts_26 : decode cX8_parts 26 = .ok (.iload_n 2, 1) := by decide +kernel
theorem dX8_parts_27 : decode cX8_parts 27 = .ok (.ireturn, 1) := by decide +kernel
set_option maxRecDepth 20000 in
theorem ggX8_areMates_X8_personIs : GoodIn wsX8_areMates wsX8_personIs := goodIn_r _ [6, 1, 7, 8, 5, 9, 18, 19, 20, 21, 22, 23, 24, 25, 26, 27, 28, 29, 30, 31, 32, 33, 34, 35, 36, 37, 38, 39, 40, 41, 42, 43, 44, 45, 46] (by decide +kernel) (by decide +kernel)
set_option maxRecDepth 20000 in
theorem gX8_areMates_X8_personIs : GoodIn wsX8_areMates (wsV RX8 102 RX8 yX8_personIs wsX8_personIs) := goodIn_app (goodIn_of _ (by decide +kernel)) ggX8_areMates_X8_personIs
set_option maxRecDepth 20000 in
theorem ggX8_areMates_X8_parts : GoodIn wsX8_areMates wsX8_parts := goodIn_r _ [13, 1, 7, 8, 5, 9, 14, 15, 16, 17, 18, 19, 20, 21, 22, 23, 24, 25, 26, 27, 28, 29, 30, 31, 32, 33, 34, 35, 36, 37, 38, 39, 40, 41, 42, 43, 44, 45, 46] (by decide +kernel) (by decide +kernel)
set_option maxRecDepth 20000 in
theorem gX8_areMates_X8_parts : GoodIn wsX8_areMates (wsV RX8 143 RX8 yX8_parts wsX8_parts) := goodIn_app (goodIn_of _ (by decide +kernel)) ggX8_areMates_X8_parts
set_option maxRecDepth 20000 in
theorem ggX8_areMates_X8_at : GoodIn wsX8_areMates wsX8_at := goodIn_r _ [9] (by decide +kernel) (by decide +kernel)
set_option maxRecDepth 20000 in
theorem gX8_areMates_X8_at : GoodIn wsX8_areMates (va_wsS RX8 82 yX8_at wsX8_at) := goodIn_app (goodIn_of _ (by decide +kernel)) ggX8_areMates_X8_at
theorem dX8_areMates_0 : decode cX8_areMates 0 = .ok (.aload_n 0, 1) := by decide +kernel
theorem dX8_areMates_1 : decode cX8_areMates 1 = .ok (.iload_n 1, 1) := by decide +kernel
theorem dX8_areMates_2 : decode cX8_areMates 2 = .ok (.iconst 4, 1) := by decide +kernel
theorem dX8_areMates_3 : decode cX8_areMates 3 = .ok (.invokevirtual 102, 3) := by decide +kernel
theorem dX8_areMates_6 : decode cX8_areMates 6 = .ok (.iload_n 2, 1) := by decide +kernel
theorem dX8_areMates_7 : decode cX8_areMates 7 = .ok (.if_icmp .ne 5, 3) := by decide +kernel
theorem dX8_areMates_10 : decode cX8_areMates 10 = .ok (.iconst 0, 1) := by decide +kernel
theorem dX8_areMates_11 : decode cX8_areMates 11 = .ok (.ireturn, 1) := by decide +kernel
theorem dX8_areMates_12 : decode cX8_areMates 12 = .ok (.aload_n 0, 1) := by decide +kernel
theorem dX8_areMates_13 : decode cX8_areMates 13 = .ok (.iload_n 1, 1) := by decide +kernel
theorem dX8_areMates_14 : decode cX8_areMates 14 = .ok (.invokevirtual 143, 3) := by decide +kernel
theorem dX8_areMates_17 : decode cX8_areMates 17 = .ok (.istore_n 3, 1) := by decide +kernel
theorem dX8_areMates_18 : decode cX8_areMates 18 = .ok (.iload_n 3, 1) := by decide +kernel
theorem dX8_areMates_19 : decode cX8_areMates 19 = .ok (.aload_n 0, 1) := by decide +kernel
theorem dX8_areMates_20 : decode cX8_areMates 20 = .ok (.iload_n 2, 1) := by decide +kernel
theorem dX8_areMates_21 : decode cX8_areMates 21 = .ok (.invokevirtual 143, 3) := by decide +kernel
theorem dX8_areMates_24 : decode cX8_areMates 24 = .ok (.iadd, 1) := by decide +kernel
theorem dX8_areMates_25 : decode cX8_areMates 25 = .ok (.istore_n 3, 1) := by decide +kernel
theorem dX8_areMates_26 : decode cX8_areMates 26 = .ok (.aload_n 0, 1) := by decide +kernel
theorem dX8_areMates_27 : decode cX8_areMates 27 = .ok (.getfield 9, 3) := by decide +kernel
theorem dX8_areMates_30 : decode cX8_areMates 30 = .ok (.iload_n 1, 1) := by decide +kernel
theorem dX8_areMates_31 : decode cX8_areMates 31 = .ok (.iconst 4, 1) := by decide +kernel
theorem dX8_areMates_32 : decode cX8_areMates 32 = .ok (.invokestatic 82, 3) := by decide +kernel
theorem dX8_areMates_35 : decode cX8_areMates 35 = .ok (.iload_n 2, 1) := by decide +kernel
theorem dX8_areMates_36 : decode cX8_areMates 36 = .ok (.iastore, 1) := by decide +kernel
theorem dX8_areMates_37 : decode cX8_areMates 37 = .ok (.aload_n 0, 1) := by decide +kernel
theorem dX8_areMates_38 : decode cX8_areMates 38 = .ok (.getfield 9, 3) := by decide +kernel
theorem dX8_areMates_41 : decode cX8_areMates 41 = .ok (.iload_n 2, 1) := by decide +kernel
theorem dX8_areMates_42 : decode cX8_areMates 42 = .ok (.iconst 4, 1) := by decide +kernel
theorem dX8_areMates_43 : decode cX8_areMates 43 = .ok (.invokestatic 82, 3) := by decide +kernel
theorem dX8_areMates_46 : decode cX8_areMates 46 = .ok (.iload_n 1, 1) := by decide +kernel
theorem dX8_areMates_47 : decode cX8_areMates 47 = .ok (.iastore, 1) := by decide +kernel
theorem dX8_areMates_48 : decode cX8_areMates 48 = .ok (.iload_n 3, 1) := by decide +kernel
theorem dX8_areMates_49 : decode cX8_areMates 49 = .ok (.bipush (-2), 2) := by decide +kernel
theorem dX8_areMates_51 : decode cX8_areMates 51 = .ok (.if_icmp .ge 7, 3) := by decide +kernel
theorem dX8_areMates_54 : decode cX8_areMates 54 = .ok (.iconst 0, 1) := by decide +kernel
theorem dX8_areMates_55 : decode cX8_areMates 55 = .ok (.goto 4, 3) := by decide +kernel
theorem dX8_areMates_58 : decode cX8_areMates 58 = .ok (.iconst 1, 1) := by decide +kernel
theorem dX8_areMates_59 : decode cX8_areMates 59 = .ok (.ireturn, 1) := by decide +kernel
set_option maxRecDepth 20000 in
theorem ggX8_areTwo_X8_isPerson : GoodIn wsX8_areTwo wsX8_isPerson := goodIn_r _ [5, 6, 7, 8, 4, 9, 10, 11, 12, 13, 14, 15, 16, 17, 18, 19, 20, 21, 22, 23, 24, 25, 26, 27, 28, 29, 30, 31, 32, 33, 34, 35, 36, 37, 38] (by decide +kernel) (by decide +kernel)
set_option maxRecDepth 20000 in
theorem gX8_areTwo_X8_isPerson : GoodIn wsX8_areTwo (wsV RX8 130 RX8 yX8_isPerson wsX8_isPerson) := goodIn_app (goodIn_of _ (by decide +kernel)) ggX8_areTwo_X8_isPerson
theorem dX8_areTwo_0 : decode cX8_areTwo 0 = .ok (.aload_n 0, 1) := by decide +kernel
theorem dX8_areTwo_1 : decode cX8_areTwo 1 = .ok (.iload_n 1, 1) := by decide +kernel
theorem dX8_areTwo_2 : decode cX8_areTwo 2 = .ok (.invokevirtual 130, 3) := by decide +kernel
theorem dX8_areTwo_5 : decode cX8_areTwo 5 = .ok (.ifCond .eq 20, 3) := by decide +kernel
theorem dX8_areTwo_8 : decode cX8_areTwo 8 = .ok (.aload_n 0, 1) := by decide +kernel
theorem dX8_areTwo_9 : decode cX8_areTwo 9 = .ok (.iload_n 2, 1) := by decide +kernel
theorem dX8_areTwo_10 : decode cX8_areTwo 10 = .ok (.invokevirtual 130, 3) := by decide +kernel
theorem dX8_areTwo_13 : decode cX8_areTwo 13 = .ok (.ifCond .eq 12, 3) := by decide +kernel
theorem dX8_areTwo_16 : decode cX8_areTwo 16 = .ok (.iload_n 1, 1) := by decide +kernel
theorem dX8_areTwo_17 : decode cX8_areTwo 17 = .ok (.iload_n 2, 1) := by decide +kernel
theorem dX8_areTwo_18 : decode cX8_areTwo 18 = .ok (.if_icmp .eq 7, 3) := by decide +kernel
theorem dX8_areTwo_21 : decode cX8_areTwo 21 = .ok (.iconst 1, 1) := by decide +kernel
theorem dX8_areTwo_22 : decode cX8_areTwo 22 = .ok (.goto 4, 3) := by decide +kernel
theorem dX8_areTwo_25 : decode cX8_areTwo 25 = .ok (.iconst 0, 1) := by decide +kernel
theorem dX8_areTwo_26 : decode cX8_areTwo 26 = .ok (.ireturn, 1) := by decide +kernel
set_option maxRecDepth 20000 in
theorem ggX8_share_X8_areTwo : GoodIn wsX8_share wsX8_areTwo := goodIn_r _ [6, 7, 8, 9, 5, 10, 11, 12, 13, 14, 39, 40, 41, 42, 43, 44, 45, 46, 47, 48, 49, 50, 51, 52, 53, 54, 55, 56, 57, 58, 59, 60, 61, 62, 63, 64, 65, 66, 67] (by decide +kernel) (by decide +kernel)
set_option maxRecDepth 20000 in
theorem gX8_share_X8_areTwo : GoodIn wsX8_share (wsV RX8 146 RX8 yX8_areTwo wsX8_areTwo) := goodIn_app (goodIn_of _ (by decide +kernel)) ggX8_share_X8_areTwo
set_option maxRecDepth 20000 in
theorem ggX8_share_X8_areMates : GoodIn wsX8_share wsX8_areMates := goodIn_r _ [18, 11, 19, 20, 21, 5, 22, 23, 24, 25, 26, 27, 28, 29, 30, 31, 32, 33, 39, 40, 41, 42, 43, 44, 45, 46, 47, 48, 49, 50, 51, 52, 53, 54, 55, 56, 57, 58, 59, 60, 61, 62, 63, 64, 65, 66, 67] (by decide +kernel) (by decide +kernel)
set_option maxRecDepth 20000 in
theorem gX8_share_X8_areMates : GoodIn wsX8_share (wsV RX8 149 RX8 yX8_areMates wsX8_areMates) := goodIn_app (goodIn_of _ (by decide +kernel)) ggX8_share_X8_areMates
set_option maxRecDepth 20000 in
theorem ggX8_share_X8_finding : GoodIn wsX8_share wsX8_finding := goodIn_r _ [37, 38, 1, 39, 40, 41, 42, 43, 44, 45, 46, 47, 48, 49, 50, 51, 52, 53, 54, 55, 56, 57, 58, 59, 60, 61, 62, 63, 64, 65, 66, 67] (by decide +kernel) (by decide +kernel)
set_option maxRecDepth 20000 in
theorem gX8_share_X8_finding : GoodIn wsX8_share (wsV RX8 90 RX8 yX8_finding wsX8_finding) := goodIn_app (goodIn_of _ (by decide +kernel)) ggX8_share_X8_finding
theorem dX8_share_0 : decode cX8_share 0 = .ok (.aload_n 0, 1) := by decide +kernel
theorem dX8_share_1 : decode cX8_share 1 = .ok (.iload_n 1, 1) := by decide +kernel
theorem dX8_share_2 : decode cX8_share 2 = .ok (.iload_n 2, 1) := by decide +kernel
theorem dX8_share_3 : decode cX8_share 3 = .ok (.invokevirtual 146, 3) := by decide +kernel
theorem dX8_share_6 : decode cX8_share 6 = .ok (.ifCond .eq 12, 3) := by decide +kernel
theorem dX8_share_9 : decode cX8_share 9 = .ok (.aload_n 0, 1) := by decide +kernel
theorem dX8_share_10 : decode cX8_share 10 = .ok (.iload_n 1, 1) := by decide +kernel
theorem dX8_share_11 : decode cX8_share 11 = .ok (.iload_n 2, 1) := by decide +kernel
theorem dX8_share_12 : decode cX8_share 12 = .ok (.invokevirtual 149, 3) := by decide +kernel
theorem dX8_share_15 : decode cX8_share 15 = .ok (.goto 9, 3) := by decide +kernel
theorem dX8_share_18 : decode cX8_share 18 = .ok (.aload_n 0, 1) := by decide +kernel
theorem dX8_share_19 : decode cX8_share 19 = .ok (.ldc 73, 2) := by decide +kernel
theorem dX8_share_21 : decode cX8_share 21 = .ok (.invokevirtual 90, 3) := by decide +kernel
theorem dX8_share_24 : decode cX8_share 24 = .ok (.ireturn, 1) := by decide +kernel
set_option maxRecDepth 20000 in
theorem ggX8_part_X8_isPerson : GoodIn wsX8_part wsX8_isPerson := goodIn_r _ [7, 8, 9, 10, 6, 11, 32, 33, 34, 35, 36, 37, 38, 39, 40, 41, 42, 43, 44, 45, 46, 47, 48, 49, 50, 51, 52, 53, 54, 55, 56, 57, 58, 59, 60] (by decide +kernel) (by decide +kernel)
set_option maxRecDepth 20000 in
theorem gX8_part_X8_isPerson : GoodIn wsX8_part (wsV RX8 130 RX8 yX8_isPerson wsX8_isPerson) := goodIn_app (goodIn_of _ (by decide +kernel)) ggX8_part_X8_isPerson
set_option maxRecDepth 20000 in
theorem ggX8_part_X8_finding : GoodIn wsX8_part wsX8_finding := goodIn_r _ [15, 16, 1, 32, 33, 34, 35, 36, 37, 38, 39, 40, 41, 42, 43, 44, 45, 46, 47, 48, 49, 50, 51, 52, 53, 54, 55, 56, 57, 58, 59, 60] (by decide +kernel) (by decide +kernel)
set_option maxRecDepth 20000 in
theorem gX8_part_X8_finding : GoodIn wsX8_part (wsV RX8 90 RX8 yX8_finding wsX8_finding) := goodIn_app (goodIn_of _ (by decide +kernel)) ggX8_part_X8_finding
set_option maxRecDepth 20000 in
theorem ggX8_part_X8_personIs : GoodIn wsX8_part wsX8_personIs := goodIn_r _ [20, 8, 21, 22, 6, 23, 32, 33, 34, 35, 36, 37, 38, 39, 40, 41, 42, 43, 44, 45, 46, 47, 48, 49, 50, 51, 52, 53, 54, 55, 56, 57, 58, 59, 60] (by decide +kernel) (by decide +kernel)
set_option maxRecDepth 20000 in
theorem gX8_part_X8_personIs : GoodIn wsX8_part (wsV RX8 102 RX8 yX8_personIs wsX8_personIs) := goodIn_app (goodIn_of _ (by decide +kernel)) ggX8_part_X8_personIs
set_option maxRecDepth 20000 in
theorem ggX8_part_X8_parts : GoodIn wsX8_part wsX8_parts := goodIn_r _ [27, 8, 21, 22, 6, 23, 28, 29, 30, 31, 32, 33, 34, 35, 36, 37, 38, 39, 40, 41, 42, 43, 44, 45, 46, 47, 48, 49, 50, 51, 52, 53, 54, 55, 56, 57, 58, 59, 60] (by decide +kernel) (by decide +kernel)
set_option maxRecDepth 20000 in
theorem gX8_part_X8_parts : GoodIn wsX8_part (wsV RX8 143 RX8 yX8_parts wsX8_parts) := goodIn_app (goodIn_of _ (by decide +kernel)) ggX8_part_X8_parts
theorem dX8_part_0 : decode cX8_part 0 = .ok (.aload_n 0, 1) := by decide +kernel
theorem dX8_part_1 : decode cX8_part 1 = .ok (.iload_n 1, 1) := by decide +kernel
theorem dX8_part_2 : decode cX8_part 2 = .ok (.invokevirtual 130, 3) := by decide +kernel
theorem dX8_part_5 : decode cX8_part 5 = .ok (.ifCond .ne 10, 3) := by decide +kernel
theorem dX8_part_8 : decode cX8_part 8 = .ok (.aload_n 0, 1) := by decide +kernel
theorem dX8_part_9 : decode cX8_part 9 = .ok (.ldc 73, 2) := by decide +kernel
theorem dX8_part_11 : decode cX8_part 11 = .ok (.invokevirtual 90, 3) := by decide +kernel
theorem dX8_part_14 : decode cX8_part 14 = .ok (.ireturn, 1) := by decide +kernel
theorem dX8_part_15 : decode cX8_part 15 = .ok (.aload_n 0, 1) := by decide +kernel
theorem dX8_part_16 : decode cX8_part 16 = .ok (.iload_n 1, 1) := by decide +kernel
theorem dX8_part_17 : decode cX8_part 17 = .ok (.iconst 4, 1) := by decide +kernel
theorem dX8_part_18 : decode cX8_part 18 = .ok (.invokevirtual 102, 3) := by decide +kernel
theorem dX8_part_21 : decode cX8_part 21 = .ok (.ifCond .ge 12, 3) := by decide +kernel
theorem dX8_part_24 : decode cX8_part 24 = .ok (.aload_n 0, 1) := by decide +kernel
theorem dX8_part_25 : decode cX8_part 25 = .ok (.ldc 152, 2) := by decide +kernel
theorem dX8_part_27 : decode cX8_part 27 = .ok (.invokevirtual 90, 3) := by decide +kernel
theorem dX8_part_30 : decode cX8_part 30 = .ok (.goto 8, 3) := by decide +kernel
theorem dX8_part_33 : decode cX8_part 33 = .ok (.aload_n 0, 1) := by decide +kernel
theorem dX8_part_34 : decode cX8_part 34 = .ok (.iload_n 1, 1) := by decide +kernel
theorem dX8_part_35 : decode cX8_part 35 = .ok (.invokevirtual 143, 3) := by decide +kernel
theorem dX8_part_38 : decode cX8_part 38 = .ok (.ireturn, 1) := by decide +kernel
set_option maxRecDepth 20000 in
theorem ggX8_light_X8_isHours : GoodIn wsX8_light wsX8_isHours := goodIn_r _ [5, 6, 7, 8, 4, 9] (by decide +kernel) (by decide +kernel)
set_option maxRecDepth 20000 in
theorem gX8_light_X8_isHours : GoodIn wsX8_light (va_wsS RX8 137 yX8_isHours wsX8_isHours) := goodIn_app (goodIn_of _ (by decide +kernel)) ggX8_light_X8_isHours
set_option maxRecDepth 20000 in
theorem ggX8_light_X8_become : GoodIn wsX8_light wsX8_become := goodIn_r _ [13, 14, 20, 21, 22, 23, 24, 25, 26, 27, 28, 29, 30, 31, 32, 33, 34, 35, 36, 37, 38, 39, 40, 41, 42, 43, 44, 45, 46, 47, 48] (by decide +kernel) (by decide +kernel)
set_option maxRecDepth 20000 in
theorem gX8_light_X8_become : GoodIn wsX8_light (wsV RX8 140 RX8 yX8_become wsX8_become) := goodIn_app (goodIn_of _ (by decide +kernel)) ggX8_light_X8_become
set_option maxRecDepth 20000 in
theorem ggX8_light_X8_finding : GoodIn wsX8_light wsX8_finding := goodIn_r _ [18, 19, 1, 20, 21, 22, 23, 24, 25, 26, 27, 28, 29, 30, 31, 32, 33, 34, 35, 36, 37, 38, 39, 40, 41, 42, 43, 44, 45, 46, 47, 48] (by decide +kernel) (by decide +kernel)
set_option maxRecDepth 20000 in
theorem gX8_light_X8_finding : GoodIn wsX8_light (wsV RX8 90 RX8 yX8_finding wsX8_finding) := goodIn_app (goodIn_of _ (by decide +kernel)) ggX8_light_X8_finding
theorem dX8_light_0 : decode cX8_light 0 = .ok (.iload_n 1, 1) := by decide +kernel
theorem dX8_light_1 : decode cX8_light 1 = .ok (.invokestatic 137, 3) := by decide +kernel
theorem dX8_light_4 : decode cX8_light 4 = .ok (.ifCond .eq 12, 3) := by decide +kernel
theorem dX8_light_7 : decode cX8_light 7 = .ok (.aload_n 0, 1) := by decide +kernel
theorem dX8_light_8 : decode cX8_light 8 = .ok (.iconst 3, 1) := by decide +kernel
theorem dX8_light_9 : decode cX8_light 9 = .ok (.iload_n 1, 1) := by decide +kernel
theorem dX8_light_10 : decode cX8_light 10 = .ok (.invokevirtual 140, 3) := by decide +kernel
theorem dX8_light_13 : decode cX8_light 13 = .ok (.goto 9, 3) := by decide +kernel
theorem dX8_light_16 : decode cX8_light 16 = .ok (.aload_n 0, 1) := by decide +kernel
theorem dX8_light_17 : decode cX8_light 17 = .ok (.ldc 73, 2) := by decide +kernel
theorem dX8_light_19 : decode cX8_light 19 = .ok (.invokevirtual 90, 3) := by decide +kernel
theorem dX8_light_22 : decode cX8_light 22 = .ok (.ireturn, 1) := by decide +kernel
set_option maxRecDepth 20000 in
theorem ggX8_claim_X8_isPerson : GoodIn wsX8_claim wsX8_isPerson := goodIn_r _ [6, 7, 8, 9, 5, 10, 27, 28, 29, 30, 31, 32, 33, 34, 35, 36, 37, 38, 39, 40, 41, 42, 43, 44, 45, 46, 47, 48, 49, 50, 51, 52, 53, 54, 55] (by decide +kernel) (by decide +kernel)
set_option maxRecDepth 20000 in
theorem gX8_claim_X8_isPerson : GoodIn wsX8_claim (wsV RX8 130 RX8 yX8_isPerson wsX8_isPerson) := goodIn_app (goodIn_of _ (by decide +kernel)) ggX8_claim_X8_isPerson
set_option maxRecDepth 20000 in
theorem ggX8_claim_X8_within : GoodIn wsX8_claim wsX8_within := goodIn_r _ [10] (by decide +kernel) (by decide +kernel)
set_option maxRecDepth 20000 in
theorem gX8_claim_X8_within : GoodIn wsX8_claim (va_wsS RX8 78 yX8_within wsX8_within) := goodIn_app (goodIn_of _ (by decide +kernel)) ggX8_claim_X8_within
set_option maxRecDepth 20000 in
theorem ggX8_claim_X8_claimOf : GoodIn wsX8_claim wsX8_claimOf := goodIn_r _ [14, 15, 16, 17, 5, 18, 7, 19, 20, 21, 27, 28, 29, 30, 31, 32, 33, 34, 35, 36, 37, 38, 39, 40, 41, 42, 43, 44, 45, 46, 47, 48, 49, 50, 51, 52, 53, 54, 55] (by decide +kernel) (by decide +kernel)
set_option maxRecDepth 20000 in
theorem gX8_claim_X8_claimOf : GoodIn wsX8_claim (wsV RX8 113 RX8 yX8_claimOf wsX8_claimOf) := goodIn_app (goodIn_of _ (by decide +kernel)) ggX8_claim_X8_claimOf
set_option maxRecDepth 20000 in
theorem ggX8_claim_X8_finding : GoodIn wsX8_claim wsX8_finding := goodIn_r _ [25, 26, 1, 27, 28, 29, 30, 31, 32, 33, 34, 35, 36, 37, 38, 39, 40, 41, 42, 43, 44, 45, 46, 47, 48, 49, 50, 51, 52, 53, 54, 55] (by decide +kernel) (by decide +kernel)
set_option maxRecDepth 20000 in
theorem gX8_claim_X8_finding : GoodIn wsX8_claim (wsV RX8 90 RX8 yX8_finding wsX8_finding) := goodIn_app (goodIn_of _ (by decide +kernel)) ggX8_claim_X8_finding
theorem dX8_claim_0 : decode cX8_claim 0 = .ok (.aload_n 0, 1) := by decide +kernel
theorem dX8_claim_1 : decode cX8_claim 1 = .ok (.iload_n 1, 1) := by decide +kernel
theorem dX8_claim_2 : decode cX8_claim 2 = .ok (.invokevirtual 130, 3) := by decide +kernel
theorem dX8_claim_5 : decode cX8_claim 5 = .ok (.ifCond .eq 22, 3) := by decide +kernel
theorem dX8_claim_8 : decode cX8_claim 8 = .ok (.iload_n 2, 1) := by decide +kernel
theorem dX8_claim_9 : decode cX8_claim 9 = .ok (.iconst 0, 1) := by decide +kernel
theorem dX8_claim_10 : decode cX8_claim 10 = .ok (.bipush 15, 2) := by decide +kernel
theorem dX8_claim_12 : decode cX8_claim 12 = .ok (.invokestatic 78, 3) := by decide +kernel
theorem dX8_claim_15 : decode cX8_claim 15 = .ok (.ifCond .eq 12, 3) := by decide +kernel
theorem dX8_claim_18 : decode cX8_claim 18 = .ok (.aload_n 0, 1) := by decide +kernel
theorem dX8_claim_19 : decode cX8_claim 19 = .ok (.iload_n 1, 1) := by decide +kernel
theorem dX8_claim_20 : decode cX8_claim 20 = .ok (.iload_n 2, 1) := by decide +kernel
theorem dX8_claim_21 : decode cX8_claim 21 = .ok (.invokevirtual 113, 3) := by decide +kernel
theorem dX8_claim_24 : decode cX8_claim 24 = .ok (.goto 9, 3) := by decide +kernel
theorem dX8_claim_27 : decode cX8_claim 27 = .ok (.aload_n 0, 1) := by decide +kernel
theorem dX8_claim_28 : decode cX8_claim 28 = .ok (.ldc 73, 2) := by decide +kernel
theorem dX8_claim_30 : decode cX8_claim 30 = .ok (.invokevirtual 90, 3) := by decide +kernel
theorem dX8_claim_33 : decode cX8_claim 33 = .ok (.ireturn, 1) := by decide +kernel
set_option maxRecDepth 20000 in
theorem ggX8_hour_X8_whoHave : GoodIn wsX8_hour wsX8_whoHave := goodIn_r _ [13, 1, 14, 15, 16, 12, 17, 18, 19, 20, 21, 22, 23, 24, 25, 26, 27, 28, 29, 30, 31, 32, 33, 34, 35, 6, 7, 4, 8, 2, 3, 5, 36, 37, 38, 39, 40, 41, 42, 43, 44, 45, 46, 47, 48, 49, 50, 51, 52, 53, 54, 55, 56, 57, 58, 59, 60, 61, 62, 63, 64, 65, 66, 67, 68] (by decide +kernel) (by decide +kernel)
set_option maxRecDepth 20000 in
theorem gX8_hour_X8_whoHave : GoodIn wsX8_hour (wsV RX8 153 RX8 yX8_whoHave wsX8_whoHave) := goodIn_app (goodIn_of _ (by decide +kernel)) ggX8_hour_X8_whoHave
set_option maxRecDepth 20000 in
theorem ggX8_hour_X8_personIs : GoodIn wsX8_hour wsX8_personIs := goodIn_r _ [21, 1, 22, 23, 12, 24, 40, 41, 42, 43, 44, 45, 46, 47, 48, 49, 50, 51, 52, 53, 54, 55, 56, 57, 58, 59, 60, 61, 62, 63, 64, 65, 66, 67, 68] (by decide +kernel) (by decide +kernel)
set_option maxRecDepth 20000 in
theorem gX8_hour_X8_personIs : GoodIn wsX8_hour (wsV RX8 102 RX8 yX8_personIs wsX8_personIs) := goodIn_app (goodIn_of _ (by decide +kernel)) ggX8_hour_X8_personIs
set_option maxRecDepth 20000 in
theorem ggX8_hour_X8_has : GoodIn wsX8_hour wsX8_has := goodIn_r _ [31] (by decide +kernel) (by decide +kernel)
set_option maxRecDepth 20000 in
theorem gX8_hour_X8_has : GoodIn wsX8_hour (va_wsS RX8 116 yX8_has wsX8_has) := goodIn_app (goodIn_of _ (by decide +kernel)) ggX8_hour_X8_has
set_option maxRecDepth 20000 in
theorem ggX8_hour_X8_isLit : GoodIn wsX8_hour wsX8_isLit := goodIn_r _ [28, 1, 29, 30, 12, 31, 40, 41, 42, 43, 44, 45, 46, 47, 48, 49, 50, 51, 52, 53, 54, 55, 56, 57, 58, 59, 60, 61, 62, 63, 64, 65, 66, 67, 68] (by decide +kernel) (by decide +kernel)
set_option maxRecDepth 20000 in
theorem gX8_hour_X8_isLit : GoodIn wsX8_hour (wsV RX8 120 RX8 yX8_isLit wsX8_isLit) := goodIn_app (goodIn_of _ (by decide +kernel)) ggX8_hour_X8_isLit
set_option maxRecDepth 20000 in
theorem ggX8_hour_X8_at : GoodIn wsX8_hour wsX8_at := goodIn_r _ [24] (by decide +kernel) (by decide +kernel)
set_option maxRecDepth 20000 in
theorem gX8_hour_X8_at : GoodIn wsX8_hour (va_wsS RX8 82 yX8_at wsX8_at) := goodIn_app (goodIn_of _ (by decide +kernel)) ggX8_hour_X8_at
theorem dX8_hour_0 : decode cX8_hour 0 = .ok (.aload_n 0, 1) := by decide +kernel
theorem dX8_hour_1 : decode cX8_hour 1 = .ok (.getfield 9, 3) := by decide +kernel
theorem dX8_hour_4 : decode cX8_hour 4 = .ok (.iconst 0, 1) := by decide +kernel
theorem dX8_hour_5 : decode cX8_hour 5 = .ok (.iaload, 1) := by decide +kernel
theorem dX8_hour_6 : decode cX8_hour 6 = .ok (.istore_n 1, 1) := by decide +kernel
theorem dX8_hour_7 : decode cX8_hour 7 = .ok (.aload_n 0, 1) := by decide +kernel
theorem dX8_hour_8 : decode cX8_hour 8 = .ok (.iload_n 1, 1) := by decide +kernel
theorem dX8_hour_9 : decode cX8_hour 9 = .ok (.invokevirtual 153, 3) := by decide +kernel
theorem dX8_hour_12 : decode cX8_hour 12 = .ok (.istore_n 2, 1) := by decide +kernel
theorem dX8_hour_13 : decode cX8_hour 13 = .ok (.iconst 0, 1) := by decide +kernel
theorem dX8_hour_14 : decode cX8_hour 14 = .ok (.istore_n 3, 1) := by decide +kernel
theorem dX8_hour_15 : decode cX8_hour 15 = .ok (.iload_n 3, 1) := by decide +kernel
theorem dX8_hour_16 : decode cX8_hour 16 = .ok (.aload_n 0, 1) := by decide +kernel
theorem dX8_hour_17 : decode cX8_hour 17 = .ok (.getfield 9, 3) := by decide +kernel
theorem dX8_hour_20 : decode cX8_hour 20 = .ok (.iconst 4, 1) := by decide +kernel
theorem dX8_hour_21 : decode cX8_hour 21 = .ok (.iaload, 1) := by decide +kernel
theorem dX8_hour_22 : decode cX8_hour 22 = .ok (.if_icmp .ge 151, 3) := by decide +kernel
theorem dX8_hour_25 : decode cX8_hour 25 = .ok (.aload_n 0, 1) := by decide +kernel
theorem dX8_hour_26 : decode cX8_hour 26 = .ok (.iload_n 3, 1) := by decide +kernel
theorem dX8_hour_27 : decode cX8_hour 27 = .ok (.iconst 3, 1) := by decide +kernel
theorem dX8_hour_28 : decode cX8_hour 28 = .ok (.invokevirtual 102, 3) := by decide +kernel
theorem dX8_hour_31 : decode cX8_hour 31 = .ok (.iload_n 1, 1) := by decide +kernel
theorem dX8_hour_32 : decode cX8_hour 32 = .ok (.invokestatic 116, 3) := by decide +kernel
theorem dX8_hour_35 : decode cX8_hour 35 = .ok (.istore 4, 2) := by decide +kernel
theorem dX8_hour_37 : decode cX8_hour 37 = .ok (.aload_n 0, 1) := by decide +kernel
theorem dX8_hour_38 : decode cX8_hour 38 = .ok (.iload_n 1, 1) := by decide +kernel
theorem dX8_hour_39 : decode cX8_hour 39 = .ok (.invokevirtual 120, 3) := by decide +kernel
theorem dX8_hour_42 : decode cX8_hour 42 = .ok (.ifCond .eq 11, 3) := by decide +kernel
theorem dX8_hour_45 : decode cX8_hour 45 = .ok (.iload_n 2, 1) := by decide +kernel
theorem dX8_hour_46 : decode cX8_hour 46 = .ok (.iload_n 3, 1) := by decide +kernel
theorem dX8_hour_47 : decode cX8_hour 47 = .ok (.invokestatic 116, 3) := by decide +kernel
theorem dX8_hour_50 : decode cX8_hour 50 = .ok (.ifCond .eq 7, 3) := by decide +kernel
theorem dX8_hour_53 : decode cX8_hour 53 = .ok (.iconst 1, 1) := by decide +kernel
theorem dX8_hour_54 : decode cX8_hour 54 = .ok (.goto 4, 3) := by decide +kernel
theorem dX8_hour_57 : decode cX8_hour 57 = .ok (.iconst 0, 1) := by decide +kernel
theorem dX8_hour_58 : decode cX8_hour 58 = .ok (.istore 5, 2) := by decide +kernel
theorem dX8_hour_60 : decode cX8_hour 60 = .ok (.aload_n 0, 1) := by decide +kernel
theorem dX8_hour_61 : decode cX8_hour 61 = .ok (.getfield 9, 3) := by decide +kernel
theorem dX8_hour_64 : decode cX8_hour 64 = .ok (.iconst 1, 1) := by decide +kernel
theorem dX8_hour_65 : decode cX8_hour 65 = .ok (.dup2, 1) := by decide +kernel
theorem dX8_hour_66 : decode cX8_hour 66 = .ok (.iaload, 1) := by decide +kernel
theorem dX8_hour_67 : decode cX8_hour 67 = .ok (.iload 4, 2) := by decide +kernel
theorem dX8_hour_69 : decode cX8_hour 69 = .ok (.ifCond .eq 12, 3) := by decide +kernel
theorem dX8_hour_72 : decode cX8_hour 72 = .ok (.iload 5, 2) := by decide +kernel
theorem dX8_hour_74 : decode cX8_hour 74 = .ok (.ifCond .eq 7, 3) := by decide +kernel
theorem dX8_hour_77 : decode cX8_hour 77 = .ok (.iconst 1, 1) := by decide +kernel
theorem dX8_hour_78 : decode cX8_hour 78 = .ok (.goto 4, 3) := by decide +kernel
theorem dX8_hour_81 : decode cX8_hour 81 = .ok (.iconst 0, 1) := by decide +kernel
theorem dX8_hour_82 : decode cX8_hour 82 = .ok (.iadd, 1) := by decide +kernel
theorem dX8_hour_83 : decode cX8_hour 83 = .ok (.iastore, 1) := by decide +kernel
theorem dX8_hour_84 : decode cX8_hour 84 = .ok (.aload_n 0, 1) := by decide +kernel
theorem dX8_hour_85 : decode cX8_hour 85 = .ok (.getfield 9, 3) := by decide +kernel
theorem dX8_hour_88 : decode cX8_hour 88 = .ok (.iconst 2, 1) := by decide +kernel
theorem dX8_hour_89 : decode cX8_hour 89 = .ok (.dup2, 1) := by decide +kernel
theorem dX8_hour_90 : decode cX8_hour 90 = .ok (.iaload, 1) := by decide +kernel
theorem dX8_hour_91 : decode cX8_hour 91 = .ok (.iload 4, 2) := by decide +kernel
theorem dX8_hour_93 : decode cX8_hour 93 = .ok (.ifCond .eq 12, 3) := by decide +kernel
theorem dX8_hour_96 : decode cX8_hour 96 = .ok (.iload 5, 2) := by decide +kernel
theorem dX8_hour_98 : decode cX8_hour 98 = .ok (.ifCond .ne 7, 3) := by decide +kernel
theorem dX8_hour_101 : decode cX8_hour 101 = .ok (.iconst 1, 1) := by decide +kernel
theorem dX8_hour_102 : decode cX8_hour 102 = .ok (.goto 4, 3) := by decide +kernel
theorem dX8_hour_105 : decode cX8_hour 105 = .ok (.iconst 0, 1) := by decide +kernel
theorem dX8_hour_106 : decode cX8_hour 106 = .ok (.iadd, 1) := by decide +kernel
theorem dX8_hour_107 : decode cX8_hour 107 = .ok (.iastore, 1) := by decide +kernel
theorem dX8_hour_108 : decode cX8_hour 108 = .ok (.aload_n 0, 1) := by decide +kernel
theorem dX8_hour_109 : decode cX8_hour 109 = .ok (.iload_n 3, 1) := by decide +kernel
theorem dX8_hour_110 : decode cX8_hour 110 = .ok (.iconst 1, 1) := by decide +kernel
theorem dX8_hour_111 : decode cX8_hour 111 = .ok (.invokevirtual 102, 3) := by decide +kernel
theorem dX8_hour_114 : decode cX8_hour 114 = .ok (.istore 6, 2) := by decide +kernel
theorem dX8_hour_116 : decode cX8_hour 116 = .ok (.aload_n 0, 1) := by decide +kernel
theorem dX8_hour_117 : decode cX8_hour 117 = .ok (.getfield 9, 3) := by decide +kernel
theorem dX8_hour_120 : decode cX8_hour 120 = .ok (.iload_n 3, 1) := by decide +kernel
theorem dX8_hour_121 : decode cX8_hour 121 = .ok (.iconst 1, 1) := by decide +kernel
theorem dX8_hour_122 : decode cX8_hour 122 = .ok (.invokestatic 82, 3) := by decide +kernel
theorem dX8_hour_125 : decode cX8_hour 125 = .ok (.aload_n 0, 1) := by decide +kernel
theorem dX8_hour_126 : decode cX8_hour 126 = .ok (.iload_n 1, 1) := by decide +kernel
theorem dX8_hour_127 : decode cX8_hour 127 = .ok (.invokevirtual 120, 3) := by decide +kernel
theorem dX8_hour_130 : decode cX8_hour 130 = .ok (.ifCond .ne 8, 3) := by decide +kernel
theorem dX8_hour_133 : decode cX8_hour 133 = .ok (.iload 6, 2) := by decide +kernel
theorem dX8_hour_135 : decode cX8_hour 135 = .ok (.goto 31, 3) := by decide +kernel
theorem dX8_hour_138 : decode cX8_hour 138 = .ok (.iload_n 2, 1) := by decide +kernel
theorem dX8_hour_139 : decode cX8_hour 139 = .ok (.iload_n 3, 1) := by decide +kernel
theorem dX8_hour_140 : decode cX8_hour 140 = .ok (.invokestatic 116, 3) := by decide +kernel
theorem dX8_hour_143 : decode cX8_hour 143 = .ok (.ifCond .eq 14, 3) := by decide +kernel
theorem dX8_hour_146 : decode cX8_hour 146 = .ok (.iconst 0, 1) := by decide +kernel
theorem dX8_hour_147 : decode cX8_hour 147 = .ok (.iload 6, 2) := by decide +kernel
theorem dX8_hour_149 : decode cX8_hour 149 = .ok (.iconst 1, 1) := by decide +kernel
theorem dX8_hour_150 : decode cX8_hour 150 = .ok (.isub, 1) := by decide +kernel
theorem dX8_hour_151 : decode cX8_hour 151 = .ok (.invokestatic 110, 3) := by decide +kernel
theorem dX8_hour_154 : decode cX8_hour 154 = .ok (.goto 12, 3) := by decide +kernel
theorem dX8_hour_157 : decode cX8_hour 157 = .ok (.bipush 99, 2) := by decide +kernel
theorem dX8_hour_159 : decode cX8_hour 159 = .ok (.iload 6, 2) := by decide +kernel
theorem dX8_hour_161 : decode cX8_hour 161 = .ok (.iconst 1, 1) := by decide +kernel
theorem dX8_hour_162 : decode cX8_hour 162 = .ok (.iadd, 1) := by decide +kernel
theorem dX8_hour_163 : decode cX8_hour 163 = .ok (.invokestatic 105, 3) := by decide +kernel
theorem dX8_hour_166 : decode cX8_hour 166 = .ok (.iastore, 1) := by decide +kernel
theorem dX8_hour_167 : decode cX8_hour 167 = .ok (.iinc 3 1, 3) := by decide +kernel
theorem dX8_hour_170 : decode cX8_hour 170 = .ok (.goto (-155), 3) := by decide +kernel
theorem dX8_hour_173 : decode cX8_hour 173 = .ok (.aload_n 0, 1) := by decide +kernel
theorem dX8_hour_174 : decode cX8_hour 174 = .ok (.getfield 9, 3) := by decide +kernel
theorem dX8_hour_177 : decode cX8_hour 177 = .ok (.iconst 0, 1) := by decide +kernel
theorem dX8_hour_178 : decode cX8_hour 178 = .ok (.dup2, 1) := by decide +kernel
theorem dX8_hour_179 : decode cX8_hour 179 = .ok (.iaload, 1) := by decide +kernel
theorem dX8_hour_180 : decode cX8_hour 180 = .ok (.iconst 1, 1) := by decide +kernel
theorem dX8_hour_181 : decode cX8_hour 181 = .ok (.iadd, 1) := by decide +kernel
theorem dX8_hour_182 : decode cX8_hour 182 = .ok (.iastore, 1) := by decide +kernel
theorem dX8_hour_183 : decode cX8_hour 183 = .ok (.return_, 1) := by decide +kernel
set_option maxRecDepth 20000 in
theorem ggX8_hoursGo_X8_hour : GoodIn wsX8_hoursGo wsX8_hour := goodIn_r _ [6, 1, 7, 8, 9, 10, 11, 12, 13, 14, 15, 16, 5, 17, 18, 19, 20, 21, 22, 23, 24, 25, 26, 27, 28, 29, 30, 31, 32, 33, 34, 35, 36, 37, 38, 39, 40, 41, 42, 43, 44, 45, 46, 47, 48, 49, 50, 51, 52, 53, 54, 55, 56, 57, 58, 59, 60, 61, 62, 63, 64, 65, 66, 67, 68, 69, 70, 71, 72] (by decide +kernel) (by decide +kernel)
set_option maxRecDepth 20000 in
theorem gX8_hoursGo_X8_hour : GoodIn wsX8_hoursGo (wsV RX8 156 RX8 yX8_hour wsX8_hour) := goodIn_app (goodIn_of _ (by decide +kernel)) ggX8_hoursGo_X8_hour
theorem dX8_hoursGo_0 : decode cX8_hoursGo 0 = .ok (.iconst 0, 1) := by decide +kernel
theorem dX8_hoursGo_1 : decode cX8_hoursGo 1 = .ok (.istore_n 2, 1) := by decide +kernel
theorem dX8_hoursGo_2 : decode cX8_hoursGo 2 = .ok (.iload_n 2, 1) := by decide +kernel
theorem dX8_hoursGo_3 : decode cX8_hoursGo 3 = .ok (.iload_n 1, 1) := by decide +kernel
theorem dX8_hoursGo_4 : decode cX8_hoursGo 4 = .ok (.if_icmp .ge 13, 3) := by decide +kernel
theorem dX8_hoursGo_7 : decode cX8_hoursGo 7 = .ok (.aload_n 0, 1) := by decide +kernel
theorem dX8_hoursGo_8 : decode cX8_hoursGo 8 = .ok (.invokevirtual 156, 3) := by decide +kernel
theorem dX8_hoursGo_11 : decode cX8_hoursGo 11 = .ok (.iinc 2 1, 3) := by decide +kernel
theorem dX8_hoursGo_14 : decode cX8_hoursGo 14 = .ok (.goto (-12), 3) := by decide +kernel
theorem dX8_hoursGo_17 : decode cX8_hoursGo 17 = .ok (.aload_n 0, 1) := by decide +kernel
theorem dX8_hoursGo_18 : decode cX8_hoursGo 18 = .ok (.getfield 9, 3) := by decide +kernel
theorem dX8_hoursGo_21 : decode cX8_hoursGo 21 = .ok (.iconst 1, 1) := by decide +kernel
theorem dX8_hoursGo_22 : decode cX8_hoursGo 22 = .ok (.iaload, 1) := by decide +kernel
theorem dX8_hoursGo_23 : decode cX8_hoursGo 23 = .ok (.ireturn, 1) := by decide +kernel
set_option maxRecDepth 20000 in
theorem ggX8_go_X8_within : GoodIn wsX8_go wsX8_within := goodIn_r _ [7] (by decide +kernel) (by decide +kernel)
set_option maxRecDepth 20000 in
theorem gX8_go_X8_within : GoodIn wsX8_go (va_wsS RX8 78 yX8_within wsX8_within) := goodIn_app (goodIn_of _ (by decide +kernel)) ggX8_go_X8_within
set_option maxRecDepth 20000 in
theorem ggX8_go_X8_finding : GoodIn wsX8_go wsX8_finding := goodIn_r _ [11, 12, 1, 58, 59, 60, 61, 62, 63, 64, 65, 66, 67, 68, 69, 70, 71, 72, 73, 74, 75, 76, 77, 78, 79, 80, 81, 82, 83, 84, 85, 86] (by decide +kernel) (by decide +kernel)
set_option maxRecDepth 20000 in
theorem gX8_go_X8_finding : GoodIn wsX8_go (wsV RX8 90 RX8 yX8_finding wsX8_finding) := goodIn_app (goodIn_of _ (by decide +kernel)) ggX8_go_X8_finding
set_option maxRecDepth 20000 in
theorem ggX8_go_X8_hoursGo : GoodIn wsX8_go wsX8_hoursGo := goodIn_r _ [16, 2, 17, 18, 19, 6, 20, 21, 22, 23, 24, 25, 26, 27, 28, 29, 30, 31, 32, 33, 34, 35, 36, 37, 38, 39, 40, 41, 42, 43, 44, 45, 46, 47, 48, 49, 50, 51, 52, 53, 54, 55, 56, 57, 58, 59, 60, 61, 62, 63, 64, 65, 66, 67, 68, 69, 70, 71, 72, 73, 74, 75, 76, 77, 78, 79, 80, 81, 82, 83, 84, 85, 86] (by decide +kernel) (by decide +kernel)
set_option maxRecDepth 20000 in
theorem gX8_go_X8_hoursGo : GoodIn wsX8_go (wsV RX8 160 RX8 yX8_hoursGo wsX8_hoursGo) := goodIn_app (goodIn_of _ (by decide +kernel)) ggX8_go_X8_hoursGo
theorem dX8_go_0 : decode cX8_go 0 = .ok (.iload_n 1, 1) := by decide +kernel
theorem dX8_go_1 : decode cX8_go 1 = .ok (.iconst 1, 1) := by decide +kernel
theorem dX8_go_2 : decode cX8_go 2 = .ok (.bipush 16, 2) := by decide +kernel
theorem dX8_go_4 : decode cX8_go 4 = .ok (.invokestatic 78, 3) := by decide +kernel
theorem dX8_go_7 : decode cX8_go 7 = .ok (.ifCond .ne 10, 3) := by decide +kernel
theorem dX8_go_10 : decode cX8_go 10 = .ok (.aload_n 0, 1) := by decide +kernel
theorem dX8_go_11 : decode cX8_go 11 = .ok (.ldc 73, 2) := by decide +kernel
theorem dX8_go_13 : decode cX8_go 13 = .ok (.invokevirtual 90, 3) := by decide +kernel
theorem dX8_go_16 : decode cX8_go 16 = .ok (.ireturn, 1) := by decide +kernel
theorem dX8_go_17 : decode cX8_go 17 = .ok (.aload_n 0, 1) := by decide +kernel
theorem dX8_go_18 : decode cX8_go 18 = .ok (.getfield 9, 3) := by decide +kernel
theorem dX8_go_21 : decode cX8_go 21 = .ok (.iconst 0, 1) := by decide +kernel
theorem dX8_go_22 : decode cX8_go 22 = .ok (.iaload, 1) := by decide +kernel
theorem dX8_go_23 : decode cX8_go 23 = .ok (.iload_n 1, 1) := by decide +kernel
theorem dX8_go_24 : decode cX8_go 24 = .ok (.iadd, 1) := by decide +kernel
theorem dX8_go_25 : decode cX8_go 25 = .ok (.bipush 16, 2) := by decide +kernel
theorem dX8_go_27 : decode cX8_go 27 = .ok (.if_icmp .le 12, 3) := by decide +kernel
theorem dX8_go_30 : decode cX8_go 30 = .ok (.aload_n 0, 1) := by decide +kernel
theorem dX8_go_31 : decode cX8_go 31 = .ok (.ldc 159, 2) := by decide +kernel
theorem dX8_go_33 : decode cX8_go 33 = .ok (.invokevirtual 90, 3) := by decide +kernel
theorem dX8_go_36 : decode cX8_go 36 = .ok (.goto 8, 3) := by decide +kernel
theorem dX8_go_39 : decode cX8_go 39 = .ok (.aload_n 0, 1) := by decide +kernel
theorem dX8_go_40 : decode cX8_go 40 = .ok (.iload_n 1, 1) := by decide +kernel
theorem dX8_go_41 : decode cX8_go 41 = .ok (.invokevirtual 160, 3) := by decide +kernel
theorem dX8_go_44 : decode cX8_go 44 = .ok (.ireturn, 1) := by decide +kernel
set_option maxRecDepth 20000 in
theorem ggX8_at__X8_within : GoodIn wsX8_at_ wsX8_within := goodIn_r _ [5] (by decide +kernel) (by decide +kernel)
set_option maxRecDepth 20000 in
theorem gX8_at__X8_within : GoodIn wsX8_at_ (va_wsS RX8 78 yX8_within wsX8_within) := goodIn_app (goodIn_of _ (by decide +kernel)) ggX8_at__X8_within
set_option maxRecDepth 20000 in
theorem ggX8_at__X8_become : GoodIn wsX8_at_ wsX8_become := goodIn_r _ [9, 10, 16, 17, 18, 19, 20, 21, 22, 23, 24, 25, 26, 27, 28, 29, 30, 31, 32, 33, 34, 35, 36, 37, 38, 39, 40, 41, 42, 43, 44] (by decide +kernel) (by decide +kernel)
set_option maxRecDepth 20000 in
theorem gX8_at__X8_become : GoodIn wsX8_at_ (wsV RX8 140 RX8 yX8_become wsX8_become) := goodIn_app (goodIn_of _ (by decide +kernel)) ggX8_at__X8_become
set_option maxRecDepth 20000 in
theorem ggX8_at__X8_finding : GoodIn wsX8_at_ wsX8_finding := goodIn_r _ [14, 15, 1, 16, 17, 18, 19, 20, 21, 22, 23, 24, 25, 26, 27, 28, 29, 30, 31, 32, 33, 34, 35, 36, 37, 38, 39, 40, 41, 42, 43, 44] (by decide +kernel) (by decide +kernel)
set_option maxRecDepth 20000 in
theorem gX8_at__X8_finding : GoodIn wsX8_at_ (wsV RX8 90 RX8 yX8_finding wsX8_finding) := goodIn_app (goodIn_of _ (by decide +kernel)) ggX8_at__X8_finding
theorem dX8_at__0 : decode cX8_at_ 0 = .ok (.iload_n 1, 1) := by decide +kernel
theorem dX8_at__1 : decode cX8_at_ 1 = .ok (.iconst 0, 1) := by decide +kernel
theorem dX8_at__2 : decode cX8_at_ 2 = .ok (.bipush 16, 2) := by decide +kernel
theorem dX8_at__4 : decode cX8_at_ 4 = .ok (.invokestatic 78, 3) := by decide +kernel
theorem dX8_at__7 : decode cX8_at_ 7 = .ok (.ifCond .eq 12, 3) := by decide +kernel
theorem dX8_at__10 : decode cX8_at_ 10 = .ok (.aload_n 0, 1) := by decide +kernel
theorem dX8_at__11 : decode cX8_at_ 11 = .ok (.iconst 0, 1) := by decide +kernel
theorem dX8_at__12 : decode cX8_at_ 12 = .ok (.iload_n 1, 1) := by decide +kernel
theorem dX8_at__13 : decode cX8_at_ 13 = .ok (.invokevirtual 140, 3) := by decide +kernel
theorem dX8_at__16 : decode cX8_at_ 16 = .ok (.goto 9, 3) := by decide +kernel
theorem dX8_at__19 : decode cX8_at_ 19 = .ok (.aload_n 0, 1) := by decide +kernel
theorem dX8_at__20 : decode cX8_at_ 20 = .ok (.ldc 73, 2) := by decide +kernel
theorem dX8_at__22 : decode cX8_at_ 22 = .ok (.invokevirtual 90, 3) := by decide +kernel
theorem dX8_at__25 : decode cX8_at_ 25 = .ok (.ireturn, 1) := by decide +kernel
set_option maxRecDepth 20000 in
theorem ggX8_now_X8_within : GoodIn wsX8_now wsX8_within := goodIn_r _ [6] (by decide +kernel) (by decide +kernel)
set_option maxRecDepth 20000 in
theorem gX8_now_X8_within : GoodIn wsX8_now (va_wsS RX8 78 yX8_within wsX8_within) := goodIn_app (goodIn_of _ (by decide +kernel)) ggX8_now_X8_within
set_option maxRecDepth 20000 in
theorem ggX8_now_X8_finding : GoodIn wsX8_now wsX8_finding := goodIn_r _ [10, 11, 1, 53, 54, 55, 56, 57, 58, 59, 60, 61, 62, 63, 64, 65, 66, 67, 68, 69, 70, 71, 72, 73, 74, 75, 76, 77, 78, 79, 80, 81] (by decide +kernel) (by decide +kernel)
set_option maxRecDepth 20000 in
theorem gX8_now_X8_finding : GoodIn wsX8_now (wsV RX8 90 RX8 yX8_finding wsX8_finding) := goodIn_app (goodIn_of _ (by decide +kernel)) ggX8_now_X8_finding
set_option maxRecDepth 20000 in
theorem ggX8_now_X8_isOver : GoodIn wsX8_now wsX8_isOver := goodIn_r _ [15, 2, 53, 54, 55, 56, 57, 58, 59, 60, 61, 62, 63, 64, 65, 66, 67, 68, 69, 70, 71, 72, 73, 74, 75, 76, 77, 78, 79, 80, 81] (by decide +kernel) (by decide +kernel)
set_option maxRecDepth 20000 in
theorem gX8_now_X8_isOver : GoodIn wsX8_now (wsV RX8 133 RX8 yX8_isOver wsX8_isOver) := goodIn_app (goodIn_of _ (by decide +kernel)) ggX8_now_X8_isOver
set_option maxRecDepth 20000 in
theorem ggX8_now_X8_whoHave : GoodIn wsX8_now wsX8_whoHave := goodIn_r _ [19, 2, 20, 21, 22, 5, 23, 24, 25, 26, 27, 28, 29, 30, 31, 32, 33, 34, 35, 36, 37, 38, 39, 40, 41, 42, 43, 44, 45, 46, 47, 48, 49, 50, 51, 52, 53, 54, 55, 56, 57, 58, 59, 60, 61, 62, 63, 64, 65, 66, 67, 68, 69, 70, 71, 72, 73, 74, 75, 76, 77, 78, 79, 80, 81] (by decide +kernel) (by decide +kernel)
set_option maxRecDepth 20000 in
theorem gX8_now_X8_whoHave : GoodIn wsX8_now (wsV RX8 153 RX8 yX8_whoHave wsX8_whoHave) := goodIn_app (goodIn_of _ (by decide +kernel)) ggX8_now_X8_whoHave
theorem dX8_now_0 : decode cX8_now 0 = .ok (.iload_n 1, 1) := by decide +kernel
theorem dX8_now_1 : decode cX8_now 1 = .ok (.iconst 0, 1) := by decide +kernel
theorem dX8_now_2 : decode cX8_now 2 = .ok (.iconst 4, 1) := by decide +kernel
theorem dX8_now_3 : decode cX8_now 3 = .ok (.invokestatic 78, 3) := by decide +kernel
theorem dX8_now_6 : decode cX8_now 6 = .ok (.ifCond .ne 10, 3) := by decide +kernel
theorem dX8_now_9 : decode cX8_now 9 = .ok (.aload_n 0, 1) := by decide +kernel
theorem dX8_now_10 : decode cX8_now 10 = .ok (.ldc 73, 2) := by decide +kernel
theorem dX8_now_12 : decode cX8_now 12 = .ok (.invokevirtual 90, 3) := by decide +kernel
theorem dX8_now_15 : decode cX8_now 15 = .ok (.ireturn, 1) := by decide +kernel
theorem dX8_now_16 : decode cX8_now 16 = .ok (.iload_n 1, 1) := by decide +kernel
theorem dX8_now_17 : decode cX8_now 17 = .ok (.iconst 4, 1) := by decide +kernel
theorem dX8_now_18 : decode cX8_now 18 = .ok (.if_icmp .ge 12, 3) := by decide +kernel
theorem dX8_now_21 : decode cX8_now 21 = .ok (.aload_n 0, 1) := by decide +kernel
theorem dX8_now_22 : decode cX8_now 22 = .ok (.getfield 9, 3) := by decide +kernel
theorem dX8_now_25 : decode cX8_now 25 = .ok (.iload_n 1, 1) := by decide +kernel
theorem dX8_now_26 : decode cX8_now 26 = .ok (.iaload, 1) := by decide +kernel
theorem dX8_now_27 : decode cX8_now 27 = .ok (.goto 24, 3) := by decide +kernel
theorem dX8_now_30 : decode cX8_now 30 = .ok (.aload_n 0, 1) := by decide +kernel
theorem dX8_now_31 : decode cX8_now 31 = .ok (.invokevirtual 133, 3) := by decide +kernel
theorem dX8_now_34 : decode cX8_now 34 = .ok (.ifCond .eq 7, 3) := by decide +kernel
theorem dX8_now_37 : decode cX8_now 37 = .ok (.iconst 0, 1) := by decide +kernel
theorem dX8_now_38 : decode cX8_now 38 = .ok (.goto 13, 3) := by decide +kernel
theorem dX8_now_41 : decode cX8_now 41 = .ok (.aload_n 0, 1) := by decide +kernel
theorem dX8_now_42 : decode cX8_now 42 = .ok (.aload_n 0, 1) := by decide +kernel
theorem dX8_now_43 : decode cX8_now 43 = .ok (.getfield 9, 3) := by decide +kernel
theorem dX8_now_46 : decode cX8_now 46 = .ok (.iconst 0, 1) := by decide +kernel
theorem dX8_now_47 : decode cX8_now 47 = .ok (.iaload, 1) := by decide +kernel
theorem dX8_now_48 : decode cX8_now 48 = .ok (.invokevirtual 153, 3) := by decide +kernel
theorem dX8_now_51 : decode cX8_now 51 = .ok (.ireturn, 1) := by decide +kernel
set_option maxRecDepth 20000 in
theorem ggX8_findRest_X8_copyRow : GoodIn wsX8_findRest wsX8_copyRow := goodIn_r _ [10] (by decide +kernel) (by decide +kernel)
set_option maxRecDepth 20000 in
theorem gX8_findRest_X8_copyRow : GoodIn wsX8_findRest (va_wsS RX8 74 yX8_copyRow wsX8_copyRow) := goodIn_app (goodIn_of _ (by decide +kernel)) ggX8_findRest_X8_copyRow
set_option maxRecDepth 20000 in
theorem ggX8_findRest_X8_isOver : GoodIn wsX8_findRest wsX8_isOver := goodIn_r _ [14, 1, 59, 60, 61, 62, 63, 64, 65, 66, 67, 68, 69, 70, 71, 72, 73, 74, 75, 76, 77, 78, 79, 80, 81, 82, 83, 84, 85, 86, 87] (by decide +kernel) (by decide +kernel)
set_option maxRecDepth 20000 in
theorem gX8_findRest_X8_isOver : GoodIn wsX8_findRest (wsV RX8 133 RX8 yX8_isOver wsX8_isOver) := goodIn_app (goodIn_of _ (by decide +kernel)) ggX8_findRest_X8_isOver
set_option maxRecDepth 20000 in
theorem ggX8_findRest_X8_hasShadow : GoodIn wsX8_findRest wsX8_hasShadow := goodIn_r _ [18, 19, 20, 21, 9, 22, 1, 23, 24, 25, 26, 27, 28, 29, 30, 31, 32, 33, 34, 35, 36, 37, 38, 39, 40, 41, 42, 43, 44, 45, 46, 47, 59, 60, 61, 62, 63, 64, 65, 66, 67, 68, 69, 70, 71, 72, 73, 74, 75, 76, 77, 78, 79, 80, 81, 82, 83, 84, 85, 86, 87] (by decide +kernel) (by decide +kernel)
set_option maxRecDepth 20000 in
theorem gX8_findRest_X8_hasShadow : GoodIn wsX8_findRest (wsV RX8 127 RX8 yX8_hasShadow wsX8_hasShadow) := goodIn_app (goodIn_of _ (by decide +kernel)) ggX8_findRest_X8_hasShadow
set_option maxRecDepth 20000 in
theorem ggX8_findRest_X8_isLit : GoodIn wsX8_findRest wsX8_isLit := goodIn_r _ [29, 1, 30, 31, 9, 32, 59, 60, 61, 62, 63, 64, 65, 66, 67, 68, 69, 70, 71, 72, 73, 74, 75, 76, 77, 78, 79, 80, 81, 82, 83, 84, 85, 86, 87] (by decide +kernel) (by decide +kernel)
set_option maxRecDepth 20000 in
theorem gX8_findRest_X8_isLit : GoodIn wsX8_findRest (wsV RX8 120 RX8 yX8_isLit wsX8_isLit) := goodIn_app (goodIn_of _ (by decide +kernel)) ggX8_findRest_X8_isLit
set_option maxRecDepth 20000 in
theorem ggX8_findRest_X8_personIs : GoodIn wsX8_findRest wsX8_personIs := goodIn_r _ [22, 1, 23, 24, 9, 25, 59, 60, 61, 62, 63, 64, 65, 66, 67, 68, 69, 70, 71, 72, 73, 74, 75, 76, 77, 78, 79, 80, 81, 82, 83, 84, 85, 86, 87] (by decide +kernel) (by decide +kernel)
set_option maxRecDepth 20000 in
theorem gX8_findRest_X8_personIs : GoodIn wsX8_findRest (wsV RX8 102 RX8 yX8_personIs wsX8_personIs) := goodIn_app (goodIn_of _ (by decide +kernel)) ggX8_findRest_X8_personIs
set_option maxRecDepth 20000 in
theorem ggX8_findRest_X8_hour : GoodIn wsX8_findRest wsX8_hour := goodIn_r _ [51, 1, 41, 42, 39, 43, 37, 38, 40, 52, 53, 54, 9, 55, 15, 16, 17, 18, 19, 20, 21, 22, 23, 24, 25, 26, 27, 28, 29, 30, 31, 32, 33, 34, 35, 36, 44, 45, 46, 47, 59, 60, 61, 62, 63, 64, 65, 66, 67, 68, 69, 70, 71, 72, 73, 74, 75, 76, 77, 78, 79, 80, 81, 82, 83, 84, 85, 86, 87] (by decide +kernel) (by decide +kernel)
set_option maxRecDepth 20000 in
theorem gX8_findRest_X8_hour : GoodIn wsX8_findRest (wsV RX8 156 RX8 yX8_hour wsX8_hour) := goodIn_app (goodIn_of _ (by decide +kernel)) ggX8_findRest_X8_hour
set_option maxRecDepth 20000 in
theorem ggX8_findRest_X8_bits : GoodIn wsX8_findRest wsX8_bits := goodIn_r _ [58] (by decide +kernel) (by decide +kernel)
set_option maxRecDepth 20000 in
theorem gX8_findRest_X8_bits : GoodIn wsX8_findRest (va_wsS RX8 173 yX8_bits wsX8_bits) := goodIn_app (goodIn_of _ (by decide +kernel)) ggX8_findRest_X8_bits
theorem dX8_findRest_0 : decode cX8_findRest 0 = .ok (.aload_n 0, 1) := by decide +kernel
theorem dX8_findRest_1 : decode cX8_findRest 1 = .ok (.getfield 9, 3) := by decide +kernel
theorem dX8_findRest_4 : decode cX8_findRest 4 = .ok (.aload_n 0, 1) := by decide +kernel
theorem dX8_findRest_5 : decode cX8_findRest 5 = .ok (.getfield 16, 3) := by decide +kernel
theorem dX8_findRest_8 : decode cX8_findRest 8 = .ok (.invokestatic 74, 3) := by decide +kernel
theorem dX8_findRest_11 : decode cX8_findRest 11 = .ok (.aload_n 0, 1) := by decide +kernel
theorem dX8_findRest_12 : decode cX8_findRest 12 = .ok (.iconst 0, 1) := by decide +kernel
theorem dX8_findRest_13 : decode cX8_findRest 13 = .ok (.putfield 163, 3) := by decide +kernel
theorem dX8_findRest_16 : decode cX8_findRest 16 = .ok (.aload_n 0, 1) := by decide +kernel
theorem dX8_findRest_17 : decode cX8_findRest 17 = .ok (.iconst 0, 1) := by decide +kernel
theorem dX8_findRest_18 : decode cX8_findRest 18 = .ok (.putfield 167, 3) := by decide +kernel
theorem dX8_findRest_21 : decode cX8_findRest 21 = .ok (.aload_n 0, 1) := by decide +kernel
theorem dX8_findRest_22 : decode cX8_findRest 22 = .ok (.invokevirtual 133, 3) := by decide +kernel
theorem dX8_findRest_25 : decode cX8_findRest 25 = .ok (.ifCond .ne 91, 3) := by decide +kernel
theorem dX8_findRest_28 : decode cX8_findRest 28 = .ok (.iconst 1, 1) := by decide +kernel
theorem dX8_findRest_29 : decode cX8_findRest 29 = .ok (.aload_n 0, 1) := by decide +kernel
theorem dX8_findRest_30 : decode cX8_findRest 30 = .ok (.getfield 9, 3) := by decide +kernel
theorem dX8_findRest_33 : decode cX8_findRest 33 = .ok (.iconst 0, 1) := by decide +kernel
theorem dX8_findRest_34 : decode cX8_findRest 34 = .ok (.iaload, 1) := by decide +kernel
theorem dX8_findRest_35 : decode cX8_findRest 35 = .ok (.ishl, 1) := by decide +kernel
theorem dX8_findRest_36 : decode cX8_findRest 36 = .ok (.istore_n 2, 1) := by decide +kernel
theorem dX8_findRest_37 : decode cX8_findRest 37 = .ok (.aload_n 0, 1) := by decide +kernel
theorem dX8_findRest_38 : decode cX8_findRest 38 = .ok (.iload_n 1, 1) := by decide +kernel
theorem dX8_findRest_39 : decode cX8_findRest 39 = .ok (.aload_n 0, 1) := by decide +kernel
theorem dX8_findRest_40 : decode cX8_findRest 40 = .ok (.getfield 9, 3) := by decide +kernel
theorem dX8_findRest_43 : decode cX8_findRest 43 = .ok (.iconst 0, 1) := by decide +kernel
theorem dX8_findRest_44 : decode cX8_findRest 44 = .ok (.iaload, 1) := by decide +kernel
theorem dX8_findRest_45 : decode cX8_findRest 45 = .ok (.invokevirtual 127, 3) := by decide +kernel
theorem dX8_findRest_48 : decode cX8_findRest 48 = .ok (.istore_n 3, 1) := by decide +kernel
theorem dX8_findRest_49 : decode cX8_findRest 49 = .ok (.aload_n 0, 1) := by decide +kernel
theorem dX8_findRest_50 : decode cX8_findRest 50 = .ok (.dup, 1) := by decide +kernel
theorem dX8_findRest_51 : decode cX8_findRest 51 = .ok (.getfield 167, 3) := by decide +kernel
theorem dX8_findRest_54 : decode cX8_findRest 54 = .ok (.iload_n 3, 1) := by decide +kernel
theorem dX8_findRest_55 : decode cX8_findRest 55 = .ok (.ifCond .eq 7, 3) := by decide +kernel
theorem dX8_findRest_58 : decode cX8_findRest 58 = .ok (.iload_n 2, 1) := by decide +kernel
theorem dX8_findRest_59 : decode cX8_findRest 59 = .ok (.goto 4, 3) := by decide +kernel
theorem dX8_findRest_62 : decode cX8_findRest 62 = .ok (.iconst 0, 1) := by decide +kernel
theorem dX8_findRest_63 : decode cX8_findRest 63 = .ok (.ior, 1) := by decide +kernel
theorem dX8_findRest_64 : decode cX8_findRest 64 = .ok (.putfield 167, 3) := by decide +kernel
theorem dX8_findRest_67 : decode cX8_findRest 67 = .ok (.aload_n 0, 1) := by decide +kernel
theorem dX8_findRest_68 : decode cX8_findRest 68 = .ok (.dup, 1) := by decide +kernel
theorem dX8_findRest_69 : decode cX8_findRest 69 = .ok (.getfield 163, 3) := by decide +kernel
theorem dX8_findRest_72 : decode cX8_findRest 72 = .ok (.iload_n 3, 1) := by decide +kernel
theorem dX8_findRest_73 : decode cX8_findRest 73 = .ok (.ifCond .ne 27, 3) := by decide +kernel
theorem dX8_findRest_76 : decode cX8_findRest 76 = .ok (.aload_n 0, 1) := by decide +kernel
theorem dX8_findRest_77 : decode cX8_findRest 77 = .ok (.aload_n 0, 1) := by decide +kernel
theorem dX8_findRest_78 : decode cX8_findRest 78 = .ok (.getfield 9, 3) := by decide +kernel
theorem dX8_findRest_81 : decode cX8_findRest 81 = .ok (.iconst 0, 1) := by decide +kernel
theorem dX8_findRest_82 : decode cX8_findRest 82 = .ok (.iaload, 1) := by decide +kernel
theorem dX8_findRest_83 : decode cX8_findRest 83 = .ok (.invokevirtual 120, 3) := by decide +kernel
theorem dX8_findRest_86 : decode cX8_findRest 86 = .ok (.ifCond .eq 14, 3) := by decide +kernel
theorem dX8_findRest_89 : decode cX8_findRest 89 = .ok (.aload_n 0, 1) := by decide +kernel
theorem dX8_findRest_90 : decode cX8_findRest 90 = .ok (.iload_n 1, 1) := by decide +kernel
theorem dX8_findRest_91 : decode cX8_findRest 91 = .ok (.iconst 3, 1) := by decide +kernel
theorem dX8_findRest_92 : decode cX8_findRest 92 = .ok (.invokevirtual 102, 3) := by decide +kernel
theorem dX8_findRest_95 : decode cX8_findRest 95 = .ok (.iload_n 2, 1) := by decide +kernel
theorem dX8_findRest_96 : decode cX8_findRest 96 = .ok (.iand, 1) := by decide +kernel
theorem dX8_findRest_97 : decode cX8_findRest 97 = .ok (.ifCond .ne 7, 3) := by decide +kernel
theorem dX8_findRest_100 : decode cX8_findRest 100 = .ok (.iload_n 2, 1) := by decide +kernel
theorem dX8_findRest_101 : decode cX8_findRest 101 = .ok (.goto 4, 3) := by decide +kernel
theorem dX8_findRest_104 : decode cX8_findRest 104 = .ok (.iconst 0, 1) := by decide +kernel
theorem dX8_findRest_105 : decode cX8_findRest 105 = .ok (.ior, 1) := by decide +kernel
theorem dX8_findRest_106 : decode cX8_findRest 106 = .ok (.putfield 163, 3) := by decide +kernel
theorem dX8_findRest_109 : decode cX8_findRest 109 = .ok (.aload_n 0, 1) := by decide +kernel
theorem dX8_findRest_110 : decode cX8_findRest 110 = .ok (.invokevirtual 156, 3) := by decide +kernel
theorem dX8_findRest_113 : decode cX8_findRest 113 = .ok (.goto (-92), 3) := by decide +kernel
theorem dX8_findRest_116 : decode cX8_findRest 116 = .ok (.aload_n 0, 1) := by decide +kernel
theorem dX8_findRest_117 : decode cX8_findRest 117 = .ok (.aload_n 0, 1) := by decide +kernel
theorem dX8_findRest_118 : decode cX8_findRest 118 = .ok (.iload_n 1, 1) := by decide +kernel
theorem dX8_findRest_119 : decode cX8_findRest 119 = .ok (.iconst 1, 1) := by decide +kernel
theorem dX8_findRest_120 : decode cX8_findRest 120 = .ok (.invokevirtual 102, 3) := by decide +kernel
theorem dX8_findRest_123 : decode cX8_findRest 123 = .ok (.putfield 170, 3) := by decide +kernel
theorem dX8_findRest_126 : decode cX8_findRest 126 = .ok (.aload_n 0, 1) := by decide +kernel
theorem dX8_findRest_127 : decode cX8_findRest 127 = .ok (.aload_n 0, 1) := by decide +kernel
theorem dX8_findRest_128 : decode cX8_findRest 128 = .ok (.getfield 163, 3) := by decide +kernel
theorem dX8_findRest_131 : decode cX8_findRest 131 = .ok (.aload_n 0, 1) := by decide +kernel
theorem dX8_findRest_132 : decode cX8_findRest 132 = .ok (.iload_n 1, 1) := by decide +kernel
theorem dX8_findRest_133 : decode cX8_findRest 133 = .ok (.iconst 3, 1) := by decide +kernel
theorem dX8_findRest_134 : decode cX8_findRest 134 = .ok (.invokevirtual 102, 3) := by decide +kernel
theorem dX8_findRest_137 : decode cX8_findRest 137 = .ok (.iand, 1) := by decide +kernel
theorem dX8_findRest_138 : decode cX8_findRest 138 = .ok (.invokestatic 173, 3) := by decide +kernel
theorem dX8_findRest_141 : decode cX8_findRest 141 = .ok (.putfield 176, 3) := by decide +kernel
theorem dX8_findRest_144 : decode cX8_findRest 144 = .ok (.aload_n 0, 1) := by decide +kernel
theorem dX8_findRest_145 : decode cX8_findRest 145 = .ok (.getfield 16, 3) := by decide +kernel
theorem dX8_findRest_148 : decode cX8_findRest 148 = .ok (.aload_n 0, 1) := by decide +kernel
theorem dX8_findRest_149 : decode cX8_findRest 149 = .ok (.getfield 9, 3) := by decide +kernel
theorem dX8_findRest_152 : decode cX8_findRest 152 = .ok (.invokestatic 74, 3) := by decide +kernel
theorem dX8_findRest_155 : decode cX8_findRest 155 = .ok (.return_, 1) := by decide +kernel
set_option maxRecDepth 20000 in
theorem ggX8_met_X8_isPerson : GoodIn wsX8_met wsX8_isPerson := goodIn_r _ [7, 8, 9, 10, 6, 11, 76, 77, 78, 79, 80, 81, 82, 83, 84, 85, 86, 87, 88, 89, 90, 91, 92, 93, 94, 95, 96, 97, 98, 99, 100, 101, 102, 103, 104] (by decide +kernel) (by decide +kernel)
set_option maxRecDepth 20000 in
theorem gX8_met_X8_isPerson : GoodIn wsX8_met (wsV RX8 130 RX8 yX8_isPerson wsX8_isPerson) := goodIn_app (goodIn_of _ (by decide +kernel)) ggX8_met_X8_isPerson
set_option maxRecDepth 20000 in
theorem ggX8_met_X8_finding : GoodIn wsX8_met wsX8_finding := goodIn_r _ [15, 16, 1, 76, 77, 78, 79, 80, 81, 82, 83, 84, 85, 86, 87, 88, 89, 90, 91, 92, 93, 94, 95, 96, 97, 98, 99, 100, 101, 102, 103, 104] (by decide +kernel) (by decide +kernel)
set_option maxRecDepth 20000 in
theorem gX8_met_X8_finding : GoodIn wsX8_met (wsV RX8 90 RX8 yX8_finding wsX8_finding) := goodIn_app (goodIn_of _ (by decide +kernel)) ggX8_met_X8_finding
set_option maxRecDepth 20000 in
theorem ggX8_met_X8_findRest : GoodIn wsX8_met wsX8_findRest := goodIn_r _ [20, 8, 21, 22, 23, 24, 2, 25, 26, 6, 27, 28, 29, 30, 31, 32, 33, 34, 35, 36, 37, 38, 39, 40, 41, 42, 43, 44, 45, 46, 47, 48, 49, 50, 51, 52, 53, 54, 55, 56, 57, 58, 59, 60, 61, 62, 63, 64, 65, 66, 67, 68, 69, 70, 71, 72, 73, 74, 75, 76, 77, 78, 79, 80, 81, 82, 83, 84, 85, 86, 87, 88, 89, 90, 91, 92, 93, 94, 95, 96, 97, 98, 99, 100, 101, 102, 103, 104] (by decide +kernel) (by decide +kernel)
set_option maxRecDepth 20000 in
theorem gX8_met_X8_findRest : GoodIn wsX8_met (wsV RX8 179 RX8 yX8_findRest wsX8_findRest) := goodIn_app (goodIn_of _ (by decide +kernel)) ggX8_met_X8_findRest
theorem dX8_met_0 : decode cX8_met 0 = .ok (.aload_n 0, 1) := by decide +kernel
theorem dX8_met_1 : decode cX8_met 1 = .ok (.iload_n 1, 1) := by decide +kernel
theorem dX8_met_2 : decode cX8_met 2 = .ok (.invokevirtual 130, 3) := by decide +kernel
theorem dX8_met_5 : decode cX8_met 5 = .ok (.ifCond .ne 10, 3) := by decide +kernel
theorem dX8_met_8 : decode cX8_met 8 = .ok (.aload_n 0, 1) := by decide +kernel
theorem dX8_met_9 : decode cX8_met 9 = .ok (.ldc 73, 2) := by decide +kernel
theorem dX8_met_11 : decode cX8_met 11 = .ok (.invokevirtual 90, 3) := by decide +kernel
theorem dX8_met_14 : decode cX8_met 14 = .ok (.ireturn, 1) := by decide +kernel
theorem dX8_met_15 : decode cX8_met 15 = .ok (.aload_n 0, 1) := by decide +kernel
theorem dX8_met_16 : decode cX8_met 16 = .ok (.iload_n 1, 1) := by decide +kernel
theorem dX8_met_17 : decode cX8_met 17 = .ok (.invokevirtual 179, 3) := by decide +kernel
theorem dX8_met_20 : decode cX8_met 20 = .ok (.aload_n 0, 1) := by decide +kernel
theorem dX8_met_21 : decode cX8_met 21 = .ok (.getfield 176, 3) := by decide +kernel
theorem dX8_met_24 : decode cX8_met 24 = .ok (.ireturn, 1) := by decide +kernel
theorem dX8_restHours_0 : decode cX8_restHours 0 = .ok (.ldc 183, 2) := by decide +kernel
theorem dX8_restHours_2 : decode cX8_restHours 2 = .ok (.iconst 1, 1) := by decide +kernel
theorem dX8_restHours_3 : decode cX8_restHours 3 = .ok (.aload_n 0, 1) := by decide +kernel
theorem dX8_restHours_4 : decode cX8_restHours 4 = .ok (.getfield 9, 3) := by decide +kernel
theorem dX8_restHours_7 : decode cX8_restHours 7 = .ok (.iconst 0, 1) := by decide +kernel
theorem dX8_restHours_8 : decode cX8_restHours 8 = .ok (.iaload, 1) := by decide +kernel
theorem dX8_restHours_9 : decode cX8_restHours 9 = .ok (.ishl, 1) := by decide +kernel
theorem dX8_restHours_10 : decode cX8_restHours 10 = .ok (.isub, 1) := by decide +kernel
theorem dX8_restHours_11 : decode cX8_restHours 11 = .ok (.ireturn, 1) := by decide +kernel
set_option maxRecDepth 20000 in
theorem ggX8_cold_X8_isPerson : GoodIn wsX8_cold wsX8_isPerson := goodIn_r _ [8, 9, 10, 11, 7, 12, 82, 83, 84, 85, 86, 87, 88, 89, 90, 91, 92, 93, 94, 95, 96, 97, 98, 99, 100, 101, 102, 103, 104, 105, 106, 107, 108, 109, 110] (by decide +kernel) (by decide +kernel)
set_option maxRecDepth 20000 in
theorem gX8_cold_X8_isPerson : GoodIn wsX8_cold (wsV RX8 130 RX8 yX8_isPerson wsX8_isPerson) := goodIn_app (goodIn_of _ (by decide +kernel)) ggX8_cold_X8_isPerson
set_option maxRecDepth 20000 in
theorem ggX8_cold_X8_finding : GoodIn wsX8_cold wsX8_finding := goodIn_r _ [16, 17, 1, 82, 83, 84, 85, 86, 87, 88, 89, 90, 91, 92, 93, 94, 95, 96, 97, 98, 99, 100, 101, 102, 103, 104, 105, 106, 107, 108, 109, 110] (by decide +kernel) (by decide +kernel)
set_option maxRecDepth 20000 in
theorem gX8_cold_X8_finding : GoodIn wsX8_cold (wsV RX8 90 RX8 yX8_finding wsX8_finding) := goodIn_app (goodIn_of _ (by decide +kernel)) ggX8_cold_X8_finding
set_option maxRecDepth 20000 in
theorem ggX8_cold_X8_findRest : GoodIn wsX8_cold wsX8_findRest := goodIn_r _ [21, 9, 22, 2, 23, 24, 25, 26, 27, 7, 28, 29, 30, 31, 32, 33, 34, 35, 36, 37, 38, 39, 40, 41, 42, 43, 44, 45, 46, 47, 48, 49, 50, 51, 52, 53, 54, 55, 56, 57, 58, 59, 60, 61, 62, 63, 64, 65, 66, 67, 68, 69, 70, 71, 72, 73, 74, 75, 76, 82, 83, 84, 85, 86, 87, 88, 89, 90, 91, 92, 93, 94, 95, 96, 97, 98, 99, 100, 101, 102, 103, 104, 105, 106, 107, 108, 109, 110] (by decide +kernel) (by decide +kernel)
set_option maxRecDepth 20000 in
theorem gX8_cold_X8_findRest : GoodIn wsX8_cold (wsV RX8 179 RX8 yX8_findRest wsX8_findRest) := goodIn_app (goodIn_of _ (by decide +kernel)) ggX8_cold_X8_findRest
set_option maxRecDepth 20000 in
theorem ggX8_cold_X8_restHours : GoodIn wsX8_cold wsX8_restHours := goodIn_r _ [80, 81, 9, 82, 83, 84, 85, 86, 87, 88, 89, 90, 91, 92, 93, 94, 95, 96, 97, 98, 99, 100, 101, 102, 103, 104, 105, 106, 107, 108, 109, 110] (by decide +kernel) (by decide +kernel)
set_option maxRecDepth 20000 in
theorem gX8_cold_X8_restHours : GoodIn wsX8_cold (wsV RX8 184 RX8 yX8_restHours wsX8_restHours) := goodIn_app (goodIn_of _ (by decide +kernel)) ggX8_cold_X8_restHours
set_option maxRecDepth 20000 in
theorem ggX8_cold_X8_has : GoodIn wsX8_cold wsX8_has := goodIn_r _ [50] (by decide +kernel) (by decide +kernel)
set_option maxRecDepth 20000 in
theorem gX8_cold_X8_has : GoodIn wsX8_cold (va_wsS RX8 116 yX8_has wsX8_has) := goodIn_app (goodIn_of _ (by decide +kernel)) ggX8_cold_X8_has
theorem dX8_cold_0 : decode cX8_cold 0 = .ok (.aload_n 0, 1) := by decide +kernel
theorem dX8_cold_1 : decode cX8_cold 1 = .ok (.iload_n 1, 1) := by decide +kernel
theorem dX8_cold_2 : decode cX8_cold 2 = .ok (.invokevirtual 130, 3) := by decide +kernel
theorem dX8_cold_5 : decode cX8_cold 5 = .ok (.ifCond .ne 10, 3) := by decide +kernel
theorem dX8_cold_8 : decode cX8_cold 8 = .ok (.aload_n 0, 1) := by decide +kernel
theorem dX8_cold_9 : decode cX8_cold 9 = .ok (.ldc 73, 2) := by decide +kernel
theorem dX8_cold_11 : decode cX8_cold 11 = .ok (.invokevirtual 90, 3) := by decide +kernel
theorem dX8_cold_14 : decode cX8_cold 14 = .ok (.ireturn, 1) := by decide +kernel
theorem dX8_cold_15 : decode cX8_cold 15 = .ok (.aload_n 0, 1) := by decide +kernel
theorem dX8_cold_16 : decode cX8_cold 16 = .ok (.iload_n 1, 1) := by decide +kernel
theorem dX8_cold_17 : decode cX8_cold 17 = .ok (.invokevirtual 179, 3) := by decide +kernel
theorem dX8_cold_20 : decode cX8_cold 20 = .ok (.aload_n 0, 1) := by decide +kernel
theorem dX8_cold_21 : decode cX8_cold 21 = .ok (.invokevirtual 184, 3) := by decide +kernel
theorem dX8_cold_24 : decode cX8_cold 24 = .ok (.aload_n 0, 1) := by decide +kernel
theorem dX8_cold_25 : decode cX8_cold 25 = .ok (.getfield 163, 3) := by decide +kernel
theorem dX8_cold_28 : decode cX8_cold 28 = .ok (.iconst (-1), 1) := by decide +kernel
theorem dX8_cold_29 : decode cX8_cold 29 = .ok (.ixor, 1) := by decide +kernel
theorem dX8_cold_30 : decode cX8_cold 30 = .ok (.iand, 1) := by decide +kernel
theorem dX8_cold_31 : decode cX8_cold 31 = .ok (.istore_n 2, 1) := by decide +kernel
theorem dX8_cold_32 : decode cX8_cold 32 = .ok (.iconst 0, 1) := by decide +kernel
theorem dX8_cold_33 : decode cX8_cold 33 = .ok (.istore_n 3, 1) := by decide +kernel
theorem dX8_cold_34 : decode cX8_cold 34 = .ok (.iload_n 2, 1) := by decide +kernel
theorem dX8_cold_35 : decode cX8_cold 35 = .ok (.ifCond .eq 17, 3) := by decide +kernel
theorem dX8_cold_38 : decode cX8_cold 38 = .ok (.iload_n 2, 1) := by decide +kernel
theorem dX8_cold_39 : decode cX8_cold 39 = .ok (.iload_n 3, 1) := by decide +kernel
theorem dX8_cold_40 : decode cX8_cold 40 = .ok (.invokestatic 116, 3) := by decide +kernel
theorem dX8_cold_43 : decode cX8_cold 43 = .ok (.ifCond .ne 9, 3) := by decide +kernel
theorem dX8_cold_46 : decode cX8_cold 46 = .ok (.iinc 3 1, 3) := by decide +kernel
theorem dX8_cold_49 : decode cX8_cold 49 = .ok (.goto (-15), 3) := by decide +kernel
theorem dX8_cold_52 : decode cX8_cold 52 = .ok (.iload_n 2, 1) := by decide +kernel
theorem dX8_cold_53 : decode cX8_cold 53 = .ok (.ifCond .ne 12, 3) := by decide +kernel
theorem dX8_cold_56 : decode cX8_cold 56 = .ok (.aload_n 0, 1) := by decide +kernel
theorem dX8_cold_57 : decode cX8_cold 57 = .ok (.ldc 152, 2) := by decide +kernel
theorem dX8_cold_59 : decode cX8_cold 59 = .ok (.invokevirtual 90, 3) := by decide +kernel
theorem dX8_cold_62 : decode cX8_cold 62 = .ok (.goto 4, 3) := by decide +kernel
theorem dX8_cold_65 : decode cX8_cold 65 = .ok (.iload_n 3, 1) := by decide +kernel
theorem dX8_cold_66 : decode cX8_cold 66 = .ok (.ireturn, 1) := by decide +kernel
set_option maxRecDepth 20000 in
theorem ggX8_shade_X8_isPerson : GoodIn wsX8_shade wsX8_isPerson := goodIn_r _ [7, 8, 9, 10, 6, 11, 76, 77, 78, 79, 80, 81, 82, 83, 84, 85, 86, 87, 88, 89, 90, 91, 92, 93, 94, 95, 96, 97, 98, 99, 100, 101, 102, 103, 104] (by decide +kernel) (by decide +kernel)
set_option maxRecDepth 20000 in
theorem gX8_shade_X8_isPerson : GoodIn wsX8_shade (wsV RX8 130 RX8 yX8_isPerson wsX8_isPerson) := goodIn_app (goodIn_of _ (by decide +kernel)) ggX8_shade_X8_isPerson
set_option maxRecDepth 20000 in
theorem ggX8_shade_X8_finding : GoodIn wsX8_shade wsX8_finding := goodIn_r _ [15, 16, 1, 76, 77, 78, 79, 80, 81, 82, 83, 84, 85, 86, 87, 88, 89, 90, 91, 92, 93, 94, 95, 96, 97, 98, 99, 100, 101, 102, 103, 104] (by decide +kernel) (by decide +kernel)
set_option maxRecDepth 20000 in
theorem gX8_shade_X8_finding : GoodIn wsX8_shade (wsV RX8 90 RX8 yX8_finding wsX8_finding) := goodIn_app (goodIn_of _ (by decide +kernel)) ggX8_shade_X8_finding
set_option maxRecDepth 20000 in
theorem ggX8_shade_X8_findRest : GoodIn wsX8_shade wsX8_findRest := goodIn_r _ [20, 8, 21, 22, 2, 23, 24, 25, 26, 6, 27, 28, 29, 30, 31, 32, 33, 34, 35, 36, 37, 38, 39, 40, 41, 42, 43, 44, 45, 46, 47, 48, 49, 50, 51, 52, 53, 54, 55, 56, 57, 58, 59, 60, 61, 62, 63, 64, 65, 66, 67, 68, 69, 70, 71, 72, 73, 74, 75, 76, 77, 78, 79, 80, 81, 82, 83, 84, 85, 86, 87, 88, 89, 90, 91, 92, 93, 94, 95, 96, 97, 98, 99, 100, 101, 102, 103, 104] (by decide +kernel) (by decide +kernel)
set_option maxRecDepth 20000 in
theorem gX8_shade_X8_findRest : GoodIn wsX8_shade (wsV RX8 179 RX8 yX8_findRest wsX8_findRest) := goodIn_app (goodIn_of _ (by decide +kernel)) ggX8_shade_X8_findRest
theorem dX8_shade_0 : decode cX8_shade 0 = .ok (.aload_n 0, 1) := by decide +kernel
theorem dX8_shade_1 : decode cX8_shade 1 = .ok (.iload_n 1, 1) := by decide +kernel
theorem dX8_shade_2 : decode cX8_shade 2 = .ok (.invokevirtual 130, 3) := by decide +kernel
theorem dX8_shade_5 : decode cX8_shade 5 = .ok (.ifCond .ne 10, 3) := by decide +kernel
theorem dX8_shade_8 : decode cX8_shade 8 = .ok (.aload_n 0, 1) := by decide +kernel
theorem dX8_shade_9 : decode cX8_shade 9 = .ok (.ldc 73, 2) := by decide +kernel
theorem dX8_shade_11 : decode cX8_shade 11 = .ok (.invokevirtual 90, 3) := by decide +kernel
theorem dX8_shade_14 : decode cX8_shade 14 = .ok (.ireturn, 1) := by decide +kernel
theorem dX8_shade_15 : decode cX8_shade 15 = .ok (.aload_n 0, 1) := by decide +kernel
theorem dX8_shade_16 : decode cX8_shade 16 = .ok (.iload_n 1, 1) := by decide +kernel
theorem dX8_shade_17 : decode cX8_shade 17 = .ok (.invokevirtual 179, 3) := by decide +kernel
theorem dX8_shade_20 : decode cX8_shade 20 = .ok (.aload_n 0, 1) := by decide +kernel
theorem dX8_shade_21 : decode cX8_shade 21 = .ok (.getfield 167, 3) := by decide +kernel
theorem dX8_shade_24 : decode cX8_shade 24 = .ok (.ireturn, 1) := by decide +kernel
set_option maxRecDepth 20000 in
theorem ggX8_metByAll_X8_copyRow : GoodIn wsX8_metByAll wsX8_copyRow := goodIn_r _ [6] (by decide +kernel) (by decide +kernel)
set_option maxRecDepth 20000 in
theorem gX8_metByAll_X8_copyRow : GoodIn wsX8_metByAll (va_wsS RX8 74 yX8_copyRow wsX8_copyRow) := goodIn_app (goodIn_of _ (by decide +kernel)) ggX8_metByAll_X8_copyRow
set_option maxRecDepth 20000 in
theorem ggX8_metByAll_X8_hoursGo : GoodIn wsX8_metByAll wsX8_hoursGo := goodIn_r _ [10, 1, 11, 12, 13, 5, 14, 15, 16, 17, 18, 19, 20, 21, 22, 23, 24, 25, 26, 27, 28, 29, 30, 31, 32, 33, 34, 35, 36, 37, 38, 39, 40, 41, 42, 43, 44, 45, 46, 47, 48, 49, 50, 51, 56, 57, 58, 59, 60, 61, 62, 63, 64, 65, 66, 67, 68, 69, 70, 71, 72, 73, 74, 75, 76, 77, 78, 79, 80, 81, 82, 83, 84] (by decide +kernel) (by decide +kernel)
set_option maxRecDepth 20000 in
theorem gX8_metByAll_X8_hoursGo : GoodIn wsX8_metByAll (wsV RX8 160 RX8 yX8_hoursGo wsX8_hoursGo) := goodIn_app (goodIn_of _ (by decide +kernel)) ggX8_metByAll_X8_hoursGo
set_option maxRecDepth 20000 in
theorem ggX8_metByAll_X8_putBack : GoodIn wsX8_metByAll wsX8_putBack := goodIn_r _ [55, 2, 1, 3, 4, 5, 6, 56, 57, 58, 59, 60, 61, 62, 63, 64, 65, 66, 67, 68, 69, 70, 71, 72, 73, 74, 75, 76, 77, 78, 79, 80, 81, 82, 83, 84] (by decide +kernel) (by decide +kernel)
set_option maxRecDepth 20000 in
theorem gX8_metByAll_X8_putBack : GoodIn wsX8_metByAll (wsV RX8 188 RX8 yX8_putBack wsX8_putBack) := goodIn_app (goodIn_of _ (by decide +kernel)) ggX8_metByAll_X8_putBack
theorem dX8_metByAll_0 : decode cX8_metByAll 0 = .ok (.aload_n 0, 1) := by decide +kernel
theorem dX8_metByAll_1 : decode cX8_metByAll 1 = .ok (.getfield 9, 3) := by decide +kernel
theorem dX8_metByAll_4 : decode cX8_metByAll 4 = .ok (.aload_n 0, 1) := by decide +kernel
theorem dX8_metByAll_5 : decode cX8_metByAll 5 = .ok (.getfield 16, 3) := by decide +kernel
