theorem dX8_metByAll_8 : decode cX8_metByAll 8 = .ok (.invokestatic 74, 3) := by decide +kernel
theorem dX8_metByAll_11 : decode cX8_metByAll 11 = .ok (.aload_n 0, 1) := by decide +kernel
theorem dX8_metByAll_12 : decode cX8_metByAll 12 = .ok (.aload_n 0, 1) := by decide +kernel
theorem dX8_metByAll_13 : decode cX8_metByAll 13 = .ok (.bipush 16, 2) := by decide +kernel
theorem dX8_metByAll_15 : decode cX8_metByAll 15 = .ok (.aload_n 0, 1) := by decide +kernel
theorem dX8_metByAll_16 : decode cX8_metByAll 16 = .ok (.getfield 9, 3) := by decide +kernel
theorem dX8_metByAll_19 : decode cX8_metByAll 19 = .ok (.iconst 0, 1) := by decide +kernel
theorem dX8_metByAll_20 : decode cX8_metByAll 20 = .ok (.iaload, 1) := by decide +kernel
theorem dX8_metByAll_21 : decode cX8_metByAll 21 = .ok (.isub, 1) := by decide +kernel
theorem dX8_metByAll_22 : decode cX8_metByAll 22 = .ok (.invokevirtual 160, 3) := by decide +kernel
theorem dX8_metByAll_25 : decode cX8_metByAll 25 = .ok (.aload_n 0, 1) := by decide +kernel
theorem dX8_metByAll_26 : decode cX8_metByAll 26 = .ok (.getfield 16, 3) := by decide +kernel
theorem dX8_metByAll_29 : decode cX8_metByAll 29 = .ok (.iconst 1, 1) := by decide +kernel
theorem dX8_metByAll_30 : decode cX8_metByAll 30 = .ok (.iaload, 1) := by decide +kernel
theorem dX8_metByAll_31 : decode cX8_metByAll 31 = .ok (.isub, 1) := by decide +kernel
theorem dX8_metByAll_32 : decode cX8_metByAll 32 = .ok (.invokevirtual 188, 3) := by decide +kernel
theorem dX8_metByAll_35 : decode cX8_metByAll 35 = .ok (.ireturn, 1) := by decide +kernel
set_option maxRecDepth 20000 in
theorem ggX8_all_X8_metByAll : GoodIn wsX8_all wsX8_metByAll := goodIn_r _ [5, 6, 7, 8, 9, 4, 10, 11, 12, 13, 14, 15, 16, 17, 18, 19, 20, 21, 22, 23, 24, 25, 26, 27, 28, 29, 30, 31, 32, 33, 34, 35, 36, 37, 38, 39, 40, 41, 42, 43, 44, 45, 46, 47, 48, 49, 50, 51, 52, 53, 54, 55, 56, 57, 58, 59, 60, 61, 62, 63, 64, 65, 66, 67, 68, 69, 70, 71, 72, 73, 74, 75, 76, 77, 78, 79, 80, 81, 82, 83, 84, 85, 86, 87, 88] (by decide +kernel) (by decide +kernel)
set_option maxRecDepth 20000 in
theorem gX8_all_X8_metByAll : GoodIn wsX8_all (wsV RX8 191 RX8 yX8_metByAll wsX8_metByAll) := goodIn_app (goodIn_of _ (by decide +kernel)) ggX8_all_X8_metByAll
theorem dX8_all_0 : decode cX8_all 0 = .ok (.aload_n 0, 1) := by decide +kernel
theorem dX8_all_1 : decode cX8_all 1 = .ok (.invokevirtual 191, 3) := by decide +kernel
theorem dX8_all_4 : decode cX8_all 4 = .ok (.ireturn, 1) := by decide +kernel
set_option maxRecDepth 20000 in
theorem ggX8_tan_X8_isPerson : GoodIn wsX8_tan wsX8_isPerson := goodIn_r _ [7, 8, 9, 10, 6, 11, 76, 77, 78, 79, 80, 81, 82, 83, 84, 85, 86, 87, 88, 89, 90, 91, 92, 93, 94, 95, 96, 97, 98, 99, 100, 101, 102, 103, 104] (by decide +kernel) (by decide +kernel)
set_option maxRecDepth 20000 in
theorem gX8_tan_X8_isPerson : GoodIn wsX8_tan (wsV RX8 130 RX8 yX8_isPerson wsX8_isPerson) := goodIn_app (goodIn_of _ (by decide +kernel)) ggX8_tan_X8_isPerson
set_option maxRecDepth 20000 in
theorem ggX8_tan_X8_finding : GoodIn wsX8_tan wsX8_finding := goodIn_r _ [15, 16, 1, 76, 77, 78, 79, 80, 81, 82, 83, 84, 85, 86, 87, 88, 89, 90, 91, 92, 93, 94, 95, 96, 97, 98, 99, 100, 101, 102, 103, 104] (by decide +kernel) (by decide +kernel)
set_option maxRecDepth 20000 in
theorem gX8_tan_X8_finding : GoodIn wsX8_tan (wsV RX8 90 RX8 yX8_finding wsX8_finding) := goodIn_app (goodIn_of _ (by decide +kernel)) ggX8_tan_X8_finding
set_option maxRecDepth 20000 in
theorem ggX8_tan_X8_findRest : GoodIn wsX8_tan wsX8_findRest := goodIn_r _ [20, 8, 21, 22, 23, 2, 24, 25, 26, 6, 27, 28, 29, 30, 31, 32, 33, 34, 35, 36, 37, 38, 39, 40, 41, 42, 43, 44, 45, 46, 47, 48, 49, 50, 51, 52, 53, 54, 55, 56, 57, 58, 59, 60, 61, 62, 63, 64, 65, 66, 67, 68, 69, 70, 71, 72, 73, 74, 75, 76, 77, 78, 79, 80, 81, 82, 83, 84, 85, 86, 87, 88, 89, 90, 91, 92, 93, 94, 95, 96, 97, 98, 99, 100, 101, 102, 103, 104] (by decide +kernel) (by decide +kernel)
set_option maxRecDepth 20000 in
theorem gX8_tan_X8_findRest : GoodIn wsX8_tan (wsV RX8 179 RX8 yX8_findRest wsX8_findRest) := goodIn_app (goodIn_of _ (by decide +kernel)) ggX8_tan_X8_findRest
theorem dX8_tan_0 : decode cX8_tan 0 = .ok (.aload_n 0, 1) := by decide +kernel
theorem dX8_tan_1 : decode cX8_tan 1 = .ok (.iload_n 1, 1) := by decide +kernel
theorem dX8_tan_2 : decode cX8_tan 2 = .ok (.invokevirtual 130, 3) := by decide +kernel
theorem dX8_tan_5 : decode cX8_tan 5 = .ok (.ifCond .ne 10, 3) := by decide +kernel
theorem dX8_tan_8 : decode cX8_tan 8 = .ok (.aload_n 0, 1) := by decide +kernel
theorem dX8_tan_9 : decode cX8_tan 9 = .ok (.ldc 73, 2) := by decide +kernel
theorem dX8_tan_11 : decode cX8_tan 11 = .ok (.invokevirtual 90, 3) := by decide +kernel
theorem dX8_tan_14 : decode cX8_tan 14 = .ok (.ireturn, 1) := by decide +kernel
theorem dX8_tan_15 : decode cX8_tan 15 = .ok (.aload_n 0, 1) := by decide +kernel
theorem dX8_tan_16 : decode cX8_tan 16 = .ok (.iload_n 1, 1) := by decide +kernel
theorem dX8_tan_17 : decode cX8_tan 17 = .ok (.invokevirtual 179, 3) := by decide +kernel
theorem dX8_tan_20 : decode cX8_tan 20 = .ok (.aload_n 0, 1) := by decide +kernel
theorem dX8_tan_21 : decode cX8_tan 21 = .ok (.getfield 170, 3) := by decide +kernel
theorem dX8_tan_24 : decode cX8_tan 24 = .ok (.ireturn, 1) := by decide +kernel
set_option maxRecDepth 20000 in
theorem ggX8_strong_X8_isPerson : GoodIn wsX8_strong wsX8_isPerson := goodIn_r _ [9, 2, 10, 11, 8, 12, 82, 83, 84, 85, 86, 87, 88, 89, 90, 91, 92, 93, 94, 95, 96, 97, 98, 99, 100, 101, 102, 103, 104, 105, 106, 107, 108, 109, 110] (by decide +kernel) (by decide +kernel)
set_option maxRecDepth 20000 in
theorem gX8_strong_X8_isPerson : GoodIn wsX8_strong (wsV RX8 130 RX8 yX8_isPerson wsX8_isPerson) := goodIn_app (goodIn_of _ (by decide +kernel)) ggX8_strong_X8_isPerson
set_option maxRecDepth 20000 in
theorem ggX8_strong_X8_finding : GoodIn wsX8_strong wsX8_finding := goodIn_r _ [16, 17, 1, 82, 83, 84, 85, 86, 87, 88, 89, 90, 91, 92, 93, 94, 95, 96, 97, 98, 99, 100, 101, 102, 103, 104, 105, 106, 107, 108, 109, 110] (by decide +kernel) (by decide +kernel)
set_option maxRecDepth 20000 in
theorem gX8_strong_X8_finding : GoodIn wsX8_strong (wsV RX8 90 RX8 yX8_finding wsX8_finding) := goodIn_app (goodIn_of _ (by decide +kernel)) ggX8_strong_X8_finding
set_option maxRecDepth 20000 in
theorem ggX8_strong_X8_personIs : GoodIn wsX8_strong wsX8_personIs := goodIn_r _ [21, 2, 22, 23, 8, 24, 82, 83, 84, 85, 86, 87, 88, 89, 90, 91, 92, 93, 94, 95, 96, 97, 98, 99, 100, 101, 102, 103, 104, 105, 106, 107, 108, 109, 110] (by decide +kernel) (by decide +kernel)
set_option maxRecDepth 20000 in
theorem gX8_strong_X8_personIs : GoodIn wsX8_strong (wsV RX8 102 RX8 yX8_personIs wsX8_personIs) := goodIn_app (goodIn_of _ (by decide +kernel)) ggX8_strong_X8_personIs
set_option maxRecDepth 20000 in
theorem ggX8_strong_X8_at : GoodIn wsX8_strong wsX8_at := goodIn_r _ [24] (by decide +kernel) (by decide +kernel)
set_option maxRecDepth 20000 in
theorem gX8_strong_X8_at : GoodIn wsX8_strong (va_wsS RX8 82 yX8_at wsX8_at) := goodIn_app (goodIn_of _ (by decide +kernel)) ggX8_strong_X8_at
set_option maxRecDepth 20000 in
theorem ggX8_strong_X8_findRest : GoodIn wsX8_strong wsX8_findRest := goodIn_r _ [28, 2, 29, 3, 30, 31, 32, 33, 34, 8, 35, 36, 37, 38, 39, 40, 41, 42, 43, 18, 19, 20, 21, 22, 23, 24, 44, 45, 46, 47, 48, 49, 50, 51, 52, 53, 54, 55, 56, 57, 58, 59, 60, 61, 62, 63, 64, 65, 66, 67, 68, 69, 70, 71, 72, 73, 74, 75, 76, 82, 83, 84, 85, 86, 87, 88, 89, 90, 91, 92, 93, 94, 95, 96, 97, 98, 99, 100, 101, 102, 103, 104, 105, 106, 107, 108, 109, 110] (by decide +kernel) (by decide +kernel)
set_option maxRecDepth 20000 in
theorem gX8_strong_X8_findRest : GoodIn wsX8_strong (wsV RX8 179 RX8 yX8_findRest wsX8_findRest) := goodIn_app (goodIn_of _ (by decide +kernel)) ggX8_strong_X8_findRest
set_option maxRecDepth 20000 in
theorem ggX8_strong_X8_restHours : GoodIn wsX8_strong wsX8_restHours := goodIn_r _ [80, 81, 2, 82, 83, 84, 85, 86, 87, 88, 89, 90, 91, 92, 93, 94, 95, 96, 97, 98, 99, 100, 101, 102, 103, 104, 105, 106, 107, 108, 109, 110] (by decide +kernel) (by decide +kernel)
set_option maxRecDepth 20000 in
theorem gX8_strong_X8_restHours : GoodIn wsX8_strong (wsV RX8 184 RX8 yX8_restHours wsX8_restHours) := goodIn_app (goodIn_of _ (by decide +kernel)) ggX8_strong_X8_restHours
theorem dX8_strong_0 : decode cX8_strong 0 = .ok (.aload_n 0, 1) := by decide +kernel
theorem dX8_strong_1 : decode cX8_strong 1 = .ok (.iload_n 1, 1) := by decide +kernel
theorem dX8_strong_2 : decode cX8_strong 2 = .ok (.invokevirtual 130, 3) := by decide +kernel
theorem dX8_strong_5 : decode cX8_strong 5 = .ok (.ifCond .ne 10, 3) := by decide +kernel
theorem dX8_strong_8 : decode cX8_strong 8 = .ok (.aload_n 0, 1) := by decide +kernel
theorem dX8_strong_9 : decode cX8_strong 9 = .ok (.ldc 73, 2) := by decide +kernel
theorem dX8_strong_11 : decode cX8_strong 11 = .ok (.invokevirtual 90, 3) := by decide +kernel
theorem dX8_strong_14 : decode cX8_strong 14 = .ok (.ireturn, 1) := by decide +kernel
theorem dX8_strong_15 : decode cX8_strong 15 = .ok (.aload_n 0, 1) := by decide +kernel
theorem dX8_strong_16 : decode cX8_strong 16 = .ok (.iload_n 1, 1) := by decide +kernel
theorem dX8_strong_17 : decode cX8_strong 17 = .ok (.iconst 2, 1) := by decide +kernel
theorem dX8_strong_18 : decode cX8_strong 18 = .ok (.invokevirtual 102, 3) := by decide +kernel
theorem dX8_strong_21 : decode cX8_strong 21 = .ok (.istore_n 2, 1) := by decide +kernel
theorem dX8_strong_22 : decode cX8_strong 22 = .ok (.iconst (-1), 1) := by decide +kernel
theorem dX8_strong_23 : decode cX8_strong 23 = .ok (.istore_n 3, 1) := by decide +kernel
theorem dX8_strong_24 : decode cX8_strong 24 = .ok (.iconst 0, 1) := by decide +kernel
theorem dX8_strong_25 : decode cX8_strong 25 = .ok (.istore 4, 2) := by decide +kernel
theorem dX8_strong_27 : decode cX8_strong 27 = .ok (.iload 4, 2) := by decide +kernel
theorem dX8_strong_29 : decode cX8_strong 29 = .ok (.bipush 9, 2) := by decide +kernel
theorem dX8_strong_31 : decode cX8_strong 31 = .ok (.if_icmp .gt 48, 3) := by decide +kernel
theorem dX8_strong_34 : decode cX8_strong 34 = .ok (.iload_n 3, 1) := by decide +kernel
theorem dX8_strong_35 : decode cX8_strong 35 = .ok (.ifCond .ge 44, 3) := by decide +kernel
theorem dX8_strong_38 : decode cX8_strong 38 = .ok (.aload_n 0, 1) := by decide +kernel
theorem dX8_strong_39 : decode cX8_strong 39 = .ok (.getfield 9, 3) := by decide +kernel
theorem dX8_strong_42 : decode cX8_strong 42 = .ok (.iload_n 1, 1) := by decide +kernel
theorem dX8_strong_43 : decode cX8_strong 43 = .ok (.iconst 2, 1) := by decide +kernel
theorem dX8_strong_44 : decode cX8_strong 44 = .ok (.invokestatic 82, 3) := by decide +kernel
theorem dX8_strong_47 : decode cX8_strong 47 = .ok (.iload 4, 2) := by decide +kernel
theorem dX8_strong_49 : decode cX8_strong 49 = .ok (.iastore, 1) := by decide +kernel
theorem dX8_strong_50 : decode cX8_strong 50 = .ok (.aload_n 0, 1) := by decide +kernel
theorem dX8_strong_51 : decode cX8_strong 51 = .ok (.iload_n 1, 1) := by decide +kernel
theorem dX8_strong_52 : decode cX8_strong 52 = .ok (.invokevirtual 179, 3) := by decide +kernel
theorem dX8_strong_55 : decode cX8_strong 55 = .ok (.aload_n 0, 1) := by decide +kernel
theorem dX8_strong_56 : decode cX8_strong 56 = .ok (.getfield 163, 3) := by decide +kernel
theorem dX8_strong_59 : decode cX8_strong 59 = .ok (.aload_n 0, 1) := by decide +kernel
theorem dX8_strong_60 : decode cX8_strong 60 = .ok (.invokevirtual 184, 3) := by decide +kernel
theorem dX8_strong_63 : decode cX8_strong 63 = .ok (.if_icmp .ne 8, 3) := by decide +kernel
theorem dX8_strong_66 : decode cX8_strong 66 = .ok (.iload 4, 2) := by decide +kernel
theorem dX8_strong_68 : decode cX8_strong 68 = .ok (.goto 4, 3) := by decide +kernel
theorem dX8_strong_71 : decode cX8_strong 71 = .ok (.iconst (-1), 1) := by decide +kernel
theorem dX8_strong_72 : decode cX8_strong 72 = .ok (.istore_n 3, 1) := by decide +kernel
theorem dX8_strong_73 : decode cX8_strong 73 = .ok (.iinc 4 1, 3) := by decide +kernel
theorem dX8_strong_76 : decode cX8_strong 76 = .ok (.goto (-49), 3) := by decide +kernel
theorem dX8_strong_79 : decode cX8_strong 79 = .ok (.aload_n 0, 1) := by decide +kernel
theorem dX8_strong_80 : decode cX8_strong 80 = .ok (.getfield 9, 3) := by decide +kernel
theorem dX8_strong_83 : decode cX8_strong 83 = .ok (.iload_n 1, 1) := by decide +kernel
theorem dX8_strong_84 : decode cX8_strong 84 = .ok (.iconst 2, 1) := by decide +kernel
theorem dX8_strong_85 : decode cX8_strong 85 = .ok (.invokestatic 82, 3) := by decide +kernel
theorem dX8_strong_88 : decode cX8_strong 88 = .ok (.iload_n 2, 1) := by decide +kernel
theorem dX8_strong_89 : decode cX8_strong 89 = .ok (.iastore, 1) := by decide +kernel
theorem dX8_strong_90 : decode cX8_strong 90 = .ok (.iload_n 3, 1) := by decide +kernel
theorem dX8_strong_91 : decode cX8_strong 91 = .ok (.ifCond .ge 12, 3) := by decide +kernel
theorem dX8_strong_94 : decode cX8_strong 94 = .ok (.aload_n 0, 1) := by decide +kernel
theorem dX8_strong_95 : decode cX8_strong 95 = .ok (.ldc 152, 2) := by decide +kernel
theorem dX8_strong_97 : decode cX8_strong 97 = .ok (.invokevirtual 90, 3) := by decide +kernel
theorem dX8_strong_100 : decode cX8_strong 100 = .ok (.goto 4, 3) := by decide +kernel
theorem dX8_strong_103 : decode cX8_strong 103 = .ok (.iload_n 3, 1) := by decide +kernel
theorem dX8_strong_104 : decode cX8_strong 104 = .ok (.ireturn, 1) := by decide +kernel
set_option maxRecDepth 20000 in
theorem ggX8_kindFor_X8_isPerson : GoodIn wsX8_kindFor wsX8_isPerson := goodIn_r _ [12, 2, 13, 14, 11, 15, 76, 77, 78, 79, 80, 81, 82, 83, 84, 85, 86, 87, 88, 89, 90, 91, 92, 93, 94, 95, 96, 97, 98, 99, 100, 101, 102, 103, 104] (by decide +kernel) (by decide +kernel)
set_option maxRecDepth 20000 in
theorem gX8_kindFor_X8_isPerson : GoodIn wsX8_kindFor (wsV RX8 130 RX8 yX8_isPerson wsX8_isPerson) := goodIn_app (goodIn_of _ (by decide +kernel)) ggX8_kindFor_X8_isPerson
set_option maxRecDepth 20000 in
theorem ggX8_kindFor_X8_finding : GoodIn wsX8_kindFor wsX8_finding := goodIn_r _ [19, 20, 1, 76, 77, 78, 79, 80, 81, 82, 83, 84, 85, 86, 87, 88, 89, 90, 91, 92, 93, 94, 95, 96, 97, 98, 99, 100, 101, 102, 103, 104] (by decide +kernel) (by decide +kernel)
set_option maxRecDepth 20000 in
theorem gX8_kindFor_X8_finding : GoodIn wsX8_kindFor (wsV RX8 90 RX8 yX8_finding wsX8_finding) := goodIn_app (goodIn_of _ (by decide +kernel)) ggX8_kindFor_X8_finding
set_option maxRecDepth 20000 in
theorem ggX8_kindFor_X8_personIs : GoodIn wsX8_kindFor wsX8_personIs := goodIn_r _ [24, 2, 25, 26, 11, 27, 76, 77, 78, 79, 80, 81, 82, 83, 84, 85, 86, 87, 88, 89, 90, 91, 92, 93, 94, 95, 96, 97, 98, 99, 100, 101, 102, 103, 104] (by decide +kernel) (by decide +kernel)
set_option maxRecDepth 20000 in
theorem gX8_kindFor_X8_personIs : GoodIn wsX8_kindFor (wsV RX8 102 RX8 yX8_personIs wsX8_personIs) := goodIn_app (goodIn_of _ (by decide +kernel)) ggX8_kindFor_X8_personIs
set_option maxRecDepth 20000 in
theorem ggX8_kindFor_X8_at : GoodIn wsX8_kindFor wsX8_at := goodIn_r _ [27] (by decide +kernel) (by decide +kernel)
set_option maxRecDepth 20000 in
theorem gX8_kindFor_X8_at : GoodIn wsX8_kindFor (va_wsS RX8 82 yX8_at wsX8_at) := goodIn_app (goodIn_of _ (by decide +kernel)) ggX8_kindFor_X8_at
set_option maxRecDepth 20000 in
theorem ggX8_kindFor_X8_findRest : GoodIn wsX8_kindFor wsX8_findRest := goodIn_r _ [31, 2, 32, 33, 34, 35, 3, 36, 37, 11, 38, 39, 40, 41, 42, 43, 44, 45, 46, 21, 22, 23, 24, 25, 26, 27, 47, 48, 49, 50, 51, 52, 53, 54, 55, 56, 57, 58, 59, 6, 60, 4, 5, 7, 61, 62, 63, 64, 65, 66, 67, 68, 69, 70, 71, 72, 73, 74, 75, 76, 77, 78, 79, 80, 81, 82, 83, 84, 85, 86, 87, 88, 89, 90, 91, 92, 93, 94, 95, 96, 97, 98, 99, 100, 101, 102, 103, 104] (by decide +kernel) (by decide +kernel)
set_option maxRecDepth 20000 in
theorem gX8_kindFor_X8_findRest : GoodIn wsX8_kindFor (wsV RX8 179 RX8 yX8_findRest wsX8_findRest) := goodIn_app (goodIn_of _ (by decide +kernel)) ggX8_kindFor_X8_findRest
theorem dX8_kindFor_0 : decode cX8_kindFor 0 = .ok (.aload_n 0, 1) := by decide +kernel
theorem dX8_kindFor_1 : decode cX8_kindFor 1 = .ok (.iload_n 1, 1) := by decide +kernel
theorem dX8_kindFor_2 : decode cX8_kindFor 2 = .ok (.invokevirtual 130, 3) := by decide +kernel
theorem dX8_kindFor_5 : decode cX8_kindFor 5 = .ok (.ifCond .ne 10, 3) := by decide +kernel
theorem dX8_kindFor_8 : decode cX8_kindFor 8 = .ok (.aload_n 0, 1) := by decide +kernel
theorem dX8_kindFor_9 : decode cX8_kindFor 9 = .ok (.ldc 73, 2) := by decide +kernel
theorem dX8_kindFor_11 : decode cX8_kindFor 11 = .ok (.invokevirtual 90, 3) := by decide +kernel
theorem dX8_kindFor_14 : decode cX8_kindFor 14 = .ok (.ireturn, 1) := by decide +kernel
theorem dX8_kindFor_15 : decode cX8_kindFor 15 = .ok (.aload_n 0, 1) := by decide +kernel
theorem dX8_kindFor_16 : decode cX8_kindFor 16 = .ok (.iload_n 1, 1) := by decide +kernel
theorem dX8_kindFor_17 : decode cX8_kindFor 17 = .ok (.iconst 0, 1) := by decide +kernel
theorem dX8_kindFor_18 : decode cX8_kindFor 18 = .ok (.invokevirtual 102, 3) := by decide +kernel
theorem dX8_kindFor_21 : decode cX8_kindFor 21 = .ok (.istore_n 2, 1) := by decide +kernel
theorem dX8_kindFor_22 : decode cX8_kindFor 22 = .ok (.iconst (-1), 1) := by decide +kernel
theorem dX8_kindFor_23 : decode cX8_kindFor 23 = .ok (.istore_n 3, 1) := by decide +kernel
theorem dX8_kindFor_24 : decode cX8_kindFor 24 = .ok (.iconst (-1), 1) := by decide +kernel
theorem dX8_kindFor_25 : decode cX8_kindFor 25 = .ok (.istore 4, 2) := by decide +kernel
theorem dX8_kindFor_27 : decode cX8_kindFor 27 = .ok (.iconst 0, 1) := by decide +kernel
theorem dX8_kindFor_28 : decode cX8_kindFor 28 = .ok (.istore 5, 2) := by decide +kernel
theorem dX8_kindFor_30 : decode cX8_kindFor 30 = .ok (.iload 5, 2) := by decide +kernel
theorem dX8_kindFor_32 : decode cX8_kindFor 32 = .ok (.bipush 6, 2) := by decide +kernel
theorem dX8_kindFor_34 : decode cX8_kindFor 34 = .ok (.if_icmp .gt 53, 3) := by decide +kernel
theorem dX8_kindFor_37 : decode cX8_kindFor 37 = .ok (.aload_n 0, 1) := by decide +kernel
theorem dX8_kindFor_38 : decode cX8_kindFor 38 = .ok (.getfield 9, 3) := by decide +kernel
theorem dX8_kindFor_41 : decode cX8_kindFor 41 = .ok (.iload_n 1, 1) := by decide +kernel
theorem dX8_kindFor_42 : decode cX8_kindFor 42 = .ok (.iconst 0, 1) := by decide +kernel
theorem dX8_kindFor_43 : decode cX8_kindFor 43 = .ok (.invokestatic 82, 3) := by decide +kernel
theorem dX8_kindFor_46 : decode cX8_kindFor 46 = .ok (.iload 5, 2) := by decide +kernel
theorem dX8_kindFor_48 : decode cX8_kindFor 48 = .ok (.iastore, 1) := by decide +kernel
theorem dX8_kindFor_49 : decode cX8_kindFor 49 = .ok (.aload_n 0, 1) := by decide +kernel
theorem dX8_kindFor_50 : decode cX8_kindFor 50 = .ok (.iload_n 1, 1) := by decide +kernel
theorem dX8_kindFor_51 : decode cX8_kindFor 51 = .ok (.invokevirtual 179, 3) := by decide +kernel
theorem dX8_kindFor_54 : decode cX8_kindFor 54 = .ok (.aload_n 0, 1) := by decide +kernel
theorem dX8_kindFor_55 : decode cX8_kindFor 55 = .ok (.getfield 176, 3) := by decide +kernel
theorem dX8_kindFor_58 : decode cX8_kindFor 58 = .ok (.iload 4, 2) := by decide +kernel
theorem dX8_kindFor_60 : decode cX8_kindFor 60 = .ok (.if_icmp .le 8, 3) := by decide +kernel
theorem dX8_kindFor_63 : decode cX8_kindFor 63 = .ok (.iload 5, 2) := by decide +kernel
theorem dX8_kindFor_65 : decode cX8_kindFor 65 = .ok (.goto 4, 3) := by decide +kernel
theorem dX8_kindFor_68 : decode cX8_kindFor 68 = .ok (.iload_n 3, 1) := by decide +kernel
theorem dX8_kindFor_69 : decode cX8_kindFor 69 = .ok (.istore_n 3, 1) := by decide +kernel
theorem dX8_kindFor_70 : decode cX8_kindFor 70 = .ok (.iload 4, 2) := by decide +kernel
theorem dX8_kindFor_72 : decode cX8_kindFor 72 = .ok (.aload_n 0, 1) := by decide +kernel
theorem dX8_kindFor_73 : decode cX8_kindFor 73 = .ok (.getfield 176, 3) := by decide +kernel
theorem dX8_kindFor_76 : decode cX8_kindFor 76 = .ok (.invokestatic 110, 3) := by decide +kernel
theorem dX8_kindFor_79 : decode cX8_kindFor 79 = .ok (.istore 4, 2) := by decide +kernel
theorem dX8_kindFor_81 : decode cX8_kindFor 81 = .ok (.iinc 5 1, 3) := by decide +kernel
theorem dX8_kindFor_84 : decode cX8_kindFor 84 = .ok (.goto (-54), 3) := by decide +kernel
theorem dX8_kindFor_87 : decode cX8_kindFor 87 = .ok (.aload_n 0, 1) := by decide +kernel
theorem dX8_kindFor_88 : decode cX8_kindFor 88 = .ok (.getfield 9, 3) := by decide +kernel
theorem dX8_kindFor_91 : decode cX8_kindFor 91 = .ok (.iload_n 1, 1) := by decide +kernel
theorem dX8_kindFor_92 : decode cX8_kindFor 92 = .ok (.iconst 0, 1) := by decide +kernel
theorem dX8_kindFor_93 : decode cX8_kindFor 93 = .ok (.invokestatic 82, 3) := by decide +kernel
theorem dX8_kindFor_96 : decode cX8_kindFor 96 = .ok (.iload_n 2, 1) := by decide +kernel
theorem dX8_kindFor_97 : decode cX8_kindFor 97 = .ok (.iastore, 1) := by decide +kernel
theorem dX8_kindFor_98 : decode cX8_kindFor 98 = .ok (.iload_n 3, 1) := by decide +kernel
theorem dX8_kindFor_99 : decode cX8_kindFor 99 = .ok (.ireturn, 1) := by decide +kernel
set_option maxRecDepth 20000 in
theorem ggX8_cloud_X8_metByAll : GoodIn wsX8_cloud wsX8_metByAll := goodIn_r _ [10, 1, 11, 12, 13, 9, 14, 15, 16, 17, 18, 19, 20, 21, 22, 2, 3, 4, 5, 23, 24, 25, 26, 27, 28, 29, 30, 31, 32, 33, 34, 35, 36, 37, 38, 39, 40, 41, 42, 43, 44, 45, 46, 47, 48, 49, 50, 51, 52, 53, 54, 55, 56, 57, 58, 59, 60, 61, 62, 63, 64, 65, 66, 67, 68, 69, 70, 71, 72, 73, 74, 75, 76, 77, 78, 79, 80, 81, 82, 83, 84, 85, 86, 87, 88] (by decide +kernel) (by decide +kernel)
set_option maxRecDepth 20000 in
theorem gX8_cloud_X8_metByAll : GoodIn wsX8_cloud (wsV RX8 191 RX8 yX8_metByAll wsX8_metByAll) := goodIn_app (goodIn_of _ (by decide +kernel)) ggX8_cloud_X8_metByAll
theorem dX8_cloud_0 : decode cX8_cloud 0 = .ok (.aload_n 0, 1) := by decide +kernel
theorem dX8_cloud_1 : decode cX8_cloud 1 = .ok (.getfield 9, 3) := by decide +kernel
theorem dX8_cloud_4 : decode cX8_cloud 4 = .ok (.iconst 3, 1) := by decide +kernel
theorem dX8_cloud_5 : decode cX8_cloud 5 = .ok (.iaload, 1) := by decide +kernel
theorem dX8_cloud_6 : decode cX8_cloud 6 = .ok (.istore_n 1, 1) := by decide +kernel
theorem dX8_cloud_7 : decode cX8_cloud 7 = .ok (.iconst (-1), 1) := by decide +kernel
theorem dX8_cloud_8 : decode cX8_cloud 8 = .ok (.istore_n 2, 1) := by decide +kernel
theorem dX8_cloud_9 : decode cX8_cloud 9 = .ok (.aload_n 0, 1) := by decide +kernel
theorem dX8_cloud_10 : decode cX8_cloud 10 = .ok (.invokevirtual 191, 3) := by decide +kernel
theorem dX8_cloud_13 : decode cX8_cloud 13 = .ok (.istore_n 3, 1) := by decide +kernel
theorem dX8_cloud_14 : decode cX8_cloud 14 = .ok (.iconst 0, 1) := by decide +kernel
theorem dX8_cloud_15 : decode cX8_cloud 15 = .ok (.istore 4, 2) := by decide +kernel
theorem dX8_cloud_17 : decode cX8_cloud 17 = .ok (.iload 4, 2) := by decide +kernel
theorem dX8_cloud_19 : decode cX8_cloud 19 = .ok (.bipush 16, 2) := by decide +kernel
theorem dX8_cloud_21 : decode cX8_cloud 21 = .ok (.if_icmp .ge 47, 3) := by decide +kernel
theorem dX8_cloud_24 : decode cX8_cloud 24 = .ok (.aload_n 0, 1) := by decide +kernel
theorem dX8_cloud_25 : decode cX8_cloud 25 = .ok (.getfield 9, 3) := by decide +kernel
theorem dX8_cloud_28 : decode cX8_cloud 28 = .ok (.iconst 3, 1) := by decide +kernel
theorem dX8_cloud_29 : decode cX8_cloud 29 = .ok (.iload_n 1, 1) := by decide +kernel
theorem dX8_cloud_30 : decode cX8_cloud 30 = .ok (.iconst 1, 1) := by decide +kernel
theorem dX8_cloud_31 : decode cX8_cloud 31 = .ok (.iload 4, 2) := by decide +kernel
theorem dX8_cloud_33 : decode cX8_cloud 33 = .ok (.ishl, 1) := by decide +kernel
theorem dX8_cloud_34 : decode cX8_cloud 34 = .ok (.ixor, 1) := by decide +kernel
theorem dX8_cloud_35 : decode cX8_cloud 35 = .ok (.iastore, 1) := by decide +kernel
theorem dX8_cloud_36 : decode cX8_cloud 36 = .ok (.aload_n 0, 1) := by decide +kernel
theorem dX8_cloud_37 : decode cX8_cloud 37 = .ok (.invokevirtual 191, 3) := by decide +kernel
theorem dX8_cloud_40 : decode cX8_cloud 40 = .ok (.istore 5, 2) := by decide +kernel
theorem dX8_cloud_42 : decode cX8_cloud 42 = .ok (.iload 5, 2) := by decide +kernel
theorem dX8_cloud_44 : decode cX8_cloud 44 = .ok (.iload_n 3, 1) := by decide +kernel
theorem dX8_cloud_45 : decode cX8_cloud 45 = .ok (.if_icmp .le 8, 3) := by decide +kernel
theorem dX8_cloud_48 : decode cX8_cloud 48 = .ok (.iload 4, 2) := by decide +kernel
theorem dX8_cloud_50 : decode cX8_cloud 50 = .ok (.goto 4, 3) := by decide +kernel
theorem dX8_cloud_53 : decode cX8_cloud 53 = .ok (.iload_n 2, 1) := by decide +kernel
theorem dX8_cloud_54 : decode cX8_cloud 54 = .ok (.istore_n 2, 1) := by decide +kernel
theorem dX8_cloud_55 : decode cX8_cloud 55 = .ok (.iload_n 3, 1) := by decide +kernel
theorem dX8_cloud_56 : decode cX8_cloud 56 = .ok (.iload 5, 2) := by decide +kernel
theorem dX8_cloud_58 : decode cX8_cloud 58 = .ok (.invokestatic 110, 3) := by decide +kernel
theorem dX8_cloud_61 : decode cX8_cloud 61 = .ok (.istore_n 3, 1) := by decide +kernel
theorem dX8_cloud_62 : decode cX8_cloud 62 = .ok (.iinc 4 1, 3) := by decide +kernel
theorem dX8_cloud_65 : decode cX8_cloud 65 = .ok (.goto (-48), 3) := by decide +kernel
theorem dX8_cloud_68 : decode cX8_cloud 68 = .ok (.aload_n 0, 1) := by decide +kernel
theorem dX8_cloud_69 : decode cX8_cloud 69 = .ok (.getfield 9, 3) := by decide +kernel
theorem dX8_cloud_72 : decode cX8_cloud 72 = .ok (.iconst 3, 1) := by decide +kernel
theorem dX8_cloud_73 : decode cX8_cloud 73 = .ok (.iload_n 1, 1) := by decide +kernel
theorem dX8_cloud_74 : decode cX8_cloud 74 = .ok (.iastore, 1) := by decide +kernel
theorem dX8_cloud_75 : decode cX8_cloud 75 = .ok (.iload_n 2, 1) := by decide +kernel
theorem dX8_cloud_76 : decode cX8_cloud 76 = .ok (.ireturn, 1) := by decide +kernel
set_option maxRecDepth 20000 in
theorem ggX8_mayHave_X8_personIs : GoodIn wsX8_mayHave wsX8_personIs := goodIn_r _ [5, 6, 7, 8, 4, 9, 13, 14, 15, 16, 17, 18, 19, 20, 21, 22, 23, 24, 25, 26, 27, 28, 29, 30, 31, 32, 33, 34, 35, 36, 37, 38, 39, 40, 41] (by decide +kernel) (by decide +kernel)
set_option maxRecDepth 20000 in
theorem gX8_mayHave_X8_personIs : GoodIn wsX8_mayHave (wsV RX8 102 RX8 yX8_personIs wsX8_personIs) := goodIn_app (goodIn_of _ (by decide +kernel)) ggX8_mayHave_X8_personIs
set_option maxRecDepth 20000 in
theorem ggX8_mayHave_X8_has : GoodIn wsX8_mayHave wsX8_has := goodIn_r _ [12] (by decide +kernel) (by decide +kernel)
set_option maxRecDepth 20000 in
theorem gX8_mayHave_X8_has : GoodIn wsX8_mayHave (va_wsS RX8 116 yX8_has wsX8_has) := goodIn_app (goodIn_of _ (by decide +kernel)) ggX8_mayHave_X8_has
theorem dX8_mayHave_0 : decode cX8_mayHave 0 = .ok (.aload_n 0, 1) := by decide +kernel
theorem dX8_mayHave_1 : decode cX8_mayHave 1 = .ok (.iload_n 1, 1) := by decide +kernel
theorem dX8_mayHave_2 : decode cX8_mayHave 2 = .ok (.iconst 3, 1) := by decide +kernel
theorem dX8_mayHave_3 : decode cX8_mayHave 3 = .ok (.invokevirtual 102, 3) := by decide +kernel
theorem dX8_mayHave_6 : decode cX8_mayHave 6 = .ok (.iload_n 3, 1) := by decide +kernel
theorem dX8_mayHave_7 : decode cX8_mayHave 7 = .ok (.invokestatic 116, 3) := by decide +kernel
theorem dX8_mayHave_10 : decode cX8_mayHave 10 = .ok (.istore 5, 2) := by decide +kernel
theorem dX8_mayHave_12 : decode cX8_mayHave 12 = .ok (.aload_n 0, 1) := by decide +kernel
theorem dX8_mayHave_13 : decode cX8_mayHave 13 = .ok (.iload_n 2, 1) := by decide +kernel
theorem dX8_mayHave_14 : decode cX8_mayHave 14 = .ok (.iconst 3, 1) := by decide +kernel
theorem dX8_mayHave_15 : decode cX8_mayHave 15 = .ok (.invokevirtual 102, 3) := by decide +kernel
theorem dX8_mayHave_18 : decode cX8_mayHave 18 = .ok (.iload_n 3, 1) := by decide +kernel
theorem dX8_mayHave_19 : decode cX8_mayHave 19 = .ok (.invokestatic 116, 3) := by decide +kernel
theorem dX8_mayHave_22 : decode cX8_mayHave 22 = .ok (.istore 6, 2) := by decide +kernel
theorem dX8_mayHave_24 : decode cX8_mayHave 24 = .ok (.iload 5, 2) := by decide +kernel
theorem dX8_mayHave_26 : decode cX8_mayHave 26 = .ok (.iload 6, 2) := by decide +kernel
theorem dX8_mayHave_28 : decode cX8_mayHave 28 = .ok (.if_icmp .eq 19, 3) := by decide +kernel
theorem dX8_mayHave_31 : decode cX8_mayHave 31 = .ok (.iload 5, 2) := by decide +kernel
theorem dX8_mayHave_33 : decode cX8_mayHave 33 = .ok (.iload 4, 2) := by decide +kernel
theorem dX8_mayHave_35 : decode cX8_mayHave 35 = .ok (.iconst 1, 1) := by decide +kernel
theorem dX8_mayHave_36 : decode cX8_mayHave 36 = .ok (.if_icmp .ne 7, 3) := by decide +kernel
theorem dX8_mayHave_39 : decode cX8_mayHave 39 = .ok (.iconst 1, 1) := by decide +kernel
theorem dX8_mayHave_40 : decode cX8_mayHave 40 = .ok (.goto 4, 3) := by decide +kernel
theorem dX8_mayHave_43 : decode cX8_mayHave 43 = .ok (.iconst 0, 1) := by decide +kernel
theorem dX8_mayHave_44 : decode cX8_mayHave 44 = .ok (.if_icmp .ne 7, 3) := by decide +kernel
theorem dX8_mayHave_47 : decode cX8_mayHave 47 = .ok (.iconst 1, 1) := by decide +kernel
theorem dX8_mayHave_48 : decode cX8_mayHave 48 = .ok (.goto 4, 3) := by decide +kernel
theorem dX8_mayHave_51 : decode cX8_mayHave 51 = .ok (.iconst 0, 1) := by decide +kernel
theorem dX8_mayHave_52 : decode cX8_mayHave 52 = .ok (.ireturn, 1) := by decide +kernel
theorem dX8_changesWith_0 : decode cX8_changesWith 0 = .ok (.iload_n 2, 1) := by decide +kernel
theorem dX8_changesWith_1 : decode cX8_changesWith 1 = .ok (.ifCond .eq 8, 3) := by decide +kernel
theorem dX8_changesWith_4 : decode cX8_changesWith 4 = .ok (.iload_n 2, 1) := by decide +kernel
theorem dX8_changesWith_5 : decode cX8_changesWith 5 = .ok (.iload_n 3, 1) := by decide +kernel
theorem dX8_changesWith_6 : decode cX8_changesWith 6 = .ok (.if_icmp .ne 7, 3) := by decide +kernel
theorem dX8_changesWith_9 : decode cX8_changesWith 9 = .ok (.iconst 0, 1) := by decide +kernel
theorem dX8_changesWith_10 : decode cX8_changesWith 10 = .ok (.goto 4, 3) := by decide +kernel
theorem dX8_changesWith_13 : decode cX8_changesWith 13 = .ok (.iconst 1, 1) := by decide +kernel
theorem dX8_changesWith_14 : decode cX8_changesWith 14 = .ok (.aload_n 0, 1) := by decide +kernel
theorem dX8_changesWith_15 : decode cX8_changesWith 15 = .ok (.getfield 22, 3) := by decide +kernel
theorem dX8_changesWith_18 : decode cX8_changesWith 18 = .ok (.iconst 3, 1) := by decide +kernel
theorem dX8_changesWith_19 : decode cX8_changesWith 19 = .ok (.iload_n 1, 1) := by decide +kernel
theorem dX8_changesWith_20 : decode cX8_changesWith 20 = .ok (.iconst 1, 1) := by decide +kernel
theorem dX8_changesWith_21 : decode cX8_changesWith 21 = .ok (.iadd, 1) := by decide +kernel
theorem dX8_changesWith_22 : decode cX8_changesWith 22 = .ok (.imul, 1) := by decide +kernel
theorem dX8_changesWith_23 : decode cX8_changesWith 23 = .ok (.iload_n 3, 1) := by decide +kernel
theorem dX8_changesWith_24 : decode cX8_changesWith 24 = .ok (.iadd, 1) := by decide +kernel
theorem dX8_changesWith_25 : decode cX8_changesWith 25 = .ok (.iaload, 1) := by decide +kernel
theorem dX8_changesWith_26 : decode cX8_changesWith 26 = .ok (.iadd, 1) := by decide +kernel
theorem dX8_changesWith_27 : decode cX8_changesWith 27 = .ok (.ireturn, 1) := by decide +kernel
set_option maxRecDepth 20000 in
theorem ggX8_findAgreement_X8_isLit : GoodIn wsX8_findAgreement wsX8_isLit := goodIn_r _ [12, 2, 13, 14, 11, 15, 31, 32, 33, 34, 35, 36, 37, 38, 39, 40, 41, 42, 43, 44, 45, 46, 47, 48, 49, 50, 51, 52, 53, 54, 55, 56, 57, 58, 59] (by decide +kernel) (by decide +kernel)
set_option maxRecDepth 20000 in
theorem gX8_findAgreement_X8_isLit : GoodIn wsX8_findAgreement (wsV RX8 120 RX8 yX8_isLit wsX8_isLit) := goodIn_app (goodIn_of _ (by decide +kernel)) ggX8_findAgreement_X8_isLit
set_option maxRecDepth 20000 in
theorem ggX8_findAgreement_X8_mayHave : GoodIn wsX8_findAgreement wsX8_mayHave := goodIn_r _ [19, 20, 21, 22, 11, 23, 2, 24, 25, 26, 13, 14, 15, 31, 32, 33, 34, 35, 36, 37, 38, 39, 40, 41, 42, 43, 44, 45, 46, 47, 48, 49, 50, 51, 52, 53, 54, 55, 56, 57, 58, 59] (by decide +kernel) (by decide +kernel)
set_option maxRecDepth 20000 in
theorem gX8_findAgreement_X8_mayHave : GoodIn wsX8_findAgreement (wsV RX8 195 RX8 yX8_mayHave wsX8_mayHave) := goodIn_app (goodIn_of _ (by decide +kernel)) ggX8_findAgreement_X8_mayHave
set_option maxRecDepth 20000 in
theorem ggX8_findAgreement_X8_changesWith : GoodIn wsX8_findAgreement wsX8_changesWith := goodIn_r _ [30, 1, 31, 32, 33, 34, 35, 36, 37, 38, 39, 40, 41, 42, 43, 44, 45, 46, 47, 48, 49, 50, 51, 52, 53, 54, 55, 56, 57, 58, 59] (by decide +kernel) (by decide +kernel)
set_option maxRecDepth 20000 in
theorem gX8_findAgreement_X8_changesWith : GoodIn wsX8_findAgreement (wsV RX8 199 RX8 yX8_changesWith wsX8_changesWith) := goodIn_app (goodIn_of _ (by decide +kernel)) ggX8_findAgreement_X8_changesWith
theorem dX8_findAgreement_0 : decode cX8_findAgreement 0 = .ok (.iconst 0, 1) := by decide +kernel
theorem dX8_findAgreement_1 : decode cX8_findAgreement 1 = .ok (.istore_n 3, 1) := by decide +kernel
theorem dX8_findAgreement_2 : decode cX8_findAgreement 2 = .ok (.iload_n 3, 1) := by decide +kernel
theorem dX8_findAgreement_3 : decode cX8_findAgreement 3 = .ok (.iconst 3, 1) := by decide +kernel
theorem dX8_findAgreement_4 : decode cX8_findAgreement 4 = .ok (.if_icmp .ge 19, 3) := by decide +kernel
theorem dX8_findAgreement_7 : decode cX8_findAgreement 7 = .ok (.aload_n 0, 1) := by decide +kernel
theorem dX8_findAgreement_8 : decode cX8_findAgreement 8 = .ok (.getfield 22, 3) := by decide +kernel
theorem dX8_findAgreement_11 : decode cX8_findAgreement 11 = .ok (.bipush 48, 2) := by decide +kernel
theorem dX8_findAgreement_13 : decode cX8_findAgreement 13 = .ok (.iload_n 3, 1) := by decide +kernel
theorem dX8_findAgreement_14 : decode cX8_findAgreement 14 = .ok (.iadd, 1) := by decide +kernel
theorem dX8_findAgreement_15 : decode cX8_findAgreement 15 = .ok (.iconst 0, 1) := by decide +kernel
theorem dX8_findAgreement_16 : decode cX8_findAgreement 16 = .ok (.iastore, 1) := by decide +kernel
theorem dX8_findAgreement_17 : decode cX8_findAgreement 17 = .ok (.iinc 3 1, 3) := by decide +kernel
theorem dX8_findAgreement_20 : decode cX8_findAgreement 20 = .ok (.goto (-18), 3) := by decide +kernel
theorem dX8_findAgreement_23 : decode cX8_findAgreement 23 = .ok (.bipush 15, 2) := by decide +kernel
theorem dX8_findAgreement_25 : decode cX8_findAgreement 25 = .ok (.istore_n 3, 1) := by decide +kernel
theorem dX8_findAgreement_26 : decode cX8_findAgreement 26 = .ok (.iload_n 3, 1) := by decide +kernel
theorem dX8_findAgreement_27 : decode cX8_findAgreement 27 = .ok (.aload_n 0, 1) := by decide +kernel
theorem dX8_findAgreement_28 : decode cX8_findAgreement 28 = .ok (.getfield 9, 3) := by decide +kernel
theorem dX8_findAgreement_31 : decode cX8_findAgreement 31 = .ok (.iconst 0, 1) := by decide +kernel
theorem dX8_findAgreement_32 : decode cX8_findAgreement 32 = .ok (.iaload, 1) := by decide +kernel
theorem dX8_findAgreement_33 : decode cX8_findAgreement 33 = .ok (.if_icmp .lt 121, 3) := by decide +kernel
theorem dX8_findAgreement_36 : decode cX8_findAgreement 36 = .ok (.iconst 0, 1) := by decide +kernel
theorem dX8_findAgreement_37 : decode cX8_findAgreement 37 = .ok (.istore 4, 2) := by decide +kernel
theorem dX8_findAgreement_39 : decode cX8_findAgreement 39 = .ok (.iload 4, 2) := by decide +kernel
theorem dX8_findAgreement_41 : decode cX8_findAgreement 41 = .ok (.iconst 3, 1) := by decide +kernel
theorem dX8_findAgreement_42 : decode cX8_findAgreement 42 = .ok (.if_icmp .ge 106, 3) := by decide +kernel
theorem dX8_findAgreement_45 : decode cX8_findAgreement 45 = .ok (.aload_n 0, 1) := by decide +kernel
theorem dX8_findAgreement_46 : decode cX8_findAgreement 46 = .ok (.iload_n 3, 1) := by decide +kernel
theorem dX8_findAgreement_47 : decode cX8_findAgreement 47 = .ok (.invokevirtual 120, 3) := by decide +kernel
theorem dX8_findAgreement_50 : decode cX8_findAgreement 50 = .ok (.ifCond .eq 8, 3) := by decide +kernel
theorem dX8_findAgreement_53 : decode cX8_findAgreement 53 = .ok (.ldc 194, 2) := by decide +kernel
theorem dX8_findAgreement_55 : decode cX8_findAgreement 55 = .ok (.goto 16, 3) := by decide +kernel
theorem dX8_findAgreement_58 : decode cX8_findAgreement 58 = .ok (.aload_n 0, 1) := by decide +kernel
theorem dX8_findAgreement_59 : decode cX8_findAgreement 59 = .ok (.getfield 22, 3) := by decide +kernel
theorem dX8_findAgreement_62 : decode cX8_findAgreement 62 = .ok (.iconst 3, 1) := by decide +kernel
theorem dX8_findAgreement_63 : decode cX8_findAgreement 63 = .ok (.iload_n 3, 1) := by decide +kernel
theorem dX8_findAgreement_64 : decode cX8_findAgreement 64 = .ok (.iconst 1, 1) := by decide +kernel
theorem dX8_findAgreement_65 : decode cX8_findAgreement 65 = .ok (.iadd, 1) := by decide +kernel
theorem dX8_findAgreement_66 : decode cX8_findAgreement 66 = .ok (.imul, 1) := by decide +kernel
theorem dX8_findAgreement_67 : decode cX8_findAgreement 67 = .ok (.iload 4, 2) := by decide +kernel
theorem dX8_findAgreement_69 : decode cX8_findAgreement 69 = .ok (.iadd, 1) := by decide +kernel
theorem dX8_findAgreement_70 : decode cX8_findAgreement 70 = .ok (.iaload, 1) := by decide +kernel
theorem dX8_findAgreement_71 : decode cX8_findAgreement 71 = .ok (.istore 5, 2) := by decide +kernel
theorem dX8_findAgreement_73 : decode cX8_findAgreement 73 = .ok (.iconst 1, 1) := by decide +kernel
theorem dX8_findAgreement_74 : decode cX8_findAgreement 74 = .ok (.istore 6, 2) := by decide +kernel
theorem dX8_findAgreement_76 : decode cX8_findAgreement 76 = .ok (.iload 6, 2) := by decide +kernel
theorem dX8_findAgreement_78 : decode cX8_findAgreement 78 = .ok (.iconst 3, 1) := by decide +kernel
theorem dX8_findAgreement_79 : decode cX8_findAgreement 79 = .ok (.if_icmp .ge 50, 3) := by decide +kernel
theorem dX8_findAgreement_82 : decode cX8_findAgreement 82 = .ok (.aload_n 0, 1) := by decide +kernel
theorem dX8_findAgreement_83 : decode cX8_findAgreement 83 = .ok (.iload_n 3, 1) := by decide +kernel
theorem dX8_findAgreement_84 : decode cX8_findAgreement 84 = .ok (.invokevirtual 120, 3) := by decide +kernel
theorem dX8_findAgreement_87 : decode cX8_findAgreement 87 = .ok (.ifCond .eq 42, 3) := by decide +kernel
theorem dX8_findAgreement_90 : decode cX8_findAgreement 90 = .ok (.aload_n 0, 1) := by decide +kernel
theorem dX8_findAgreement_91 : decode cX8_findAgreement 91 = .ok (.iload_n 1, 1) := by decide +kernel
theorem dX8_findAgreement_92 : decode cX8_findAgreement 92 = .ok (.iload_n 2, 1) := by decide +kernel
theorem dX8_findAgreement_93 : decode cX8_findAgreement 93 = .ok (.iload_n 3, 1) := by decide +kernel
theorem dX8_findAgreement_94 : decode cX8_findAgreement 94 = .ok (.iload 6, 2) := by decide +kernel
theorem dX8_findAgreement_96 : decode cX8_findAgreement 96 = .ok (.invokevirtual 195, 3) := by decide +kernel
theorem dX8_findAgreement_99 : decode cX8_findAgreement 99 = .ok (.ifCond .eq 20, 3) := by decide +kernel
theorem dX8_findAgreement_102 : decode cX8_findAgreement 102 = .ok (.iload 5, 2) := by decide +kernel
theorem dX8_findAgreement_104 : decode cX8_findAgreement 104 = .ok (.aload_n 0, 1) := by decide +kernel
theorem dX8_findAgreement_105 : decode cX8_findAgreement 105 = .ok (.iload_n 3, 1) := by decide +kernel
theorem dX8_findAgreement_106 : decode cX8_findAgreement 106 = .ok (.iload 4, 2) := by decide +kernel
theorem dX8_findAgreement_108 : decode cX8_findAgreement 108 = .ok (.iload 6, 2) := by decide +kernel
theorem dX8_findAgreement_110 : decode cX8_findAgreement 110 = .ok (.invokevirtual 199, 3) := by decide +kernel
theorem dX8_findAgreement_113 : decode cX8_findAgreement 113 = .ok (.invokestatic 105, 3) := by decide +kernel
theorem dX8_findAgreement_116 : decode cX8_findAgreement 116 = .ok (.goto 5, 3) := by decide +kernel
theorem dX8_findAgreement_119 : decode cX8_findAgreement 119 = .ok (.iload 5, 2) := by decide +kernel
theorem dX8_findAgreement_121 : decode cX8_findAgreement 121 = .ok (.istore 5, 2) := by decide +kernel
theorem dX8_findAgreement_123 : decode cX8_findAgreement 123 = .ok (.iinc 6 1, 3) := by decide +kernel
theorem dX8_findAgreement_126 : decode cX8_findAgreement 126 = .ok (.goto (-50), 3) := by decide +kernel
theorem dX8_findAgreement_129 : decode cX8_findAgreement 129 = .ok (.aload_n 0, 1) := by decide +kernel
theorem dX8_findAgreement_130 : decode cX8_findAgreement 130 = .ok (.getfield 22, 3) := by decide +kernel
theorem dX8_findAgreement_133 : decode cX8_findAgreement 133 = .ok (.iconst 3, 1) := by decide +kernel
theorem dX8_findAgreement_134 : decode cX8_findAgreement 134 = .ok (.iload_n 3, 1) := by decide +kernel
theorem dX8_findAgreement_135 : decode cX8_findAgreement 135 = .ok (.imul, 1) := by decide +kernel
theorem dX8_findAgreement_136 : decode cX8_findAgreement 136 = .ok (.iload 4, 2) := by decide +kernel
theorem dX8_findAgreement_138 : decode cX8_findAgreement 138 = .ok (.iadd, 1) := by decide +kernel
theorem dX8_findAgreement_139 : decode cX8_findAgreement 139 = .ok (.iload 5, 2) := by decide +kernel
theorem dX8_findAgreement_141 : decode cX8_findAgreement 141 = .ok (.iastore, 1) := by decide +kernel
theorem dX8_findAgreement_142 : decode cX8_findAgreement 142 = .ok (.iinc 4 1, 3) := by decide +kernel
theorem dX8_findAgreement_145 : decode cX8_findAgreement 145 = .ok (.goto (-106), 3) := by decide +kernel
theorem dX8_findAgreement_148 : decode cX8_findAgreement 148 = .ok (.iinc 3 (-1), 3) := by decide +kernel
theorem dX8_findAgreement_151 : decode cX8_findAgreement 151 = .ok (.goto (-125), 3) := by decide +kernel
theorem dX8_findAgreement_154 : decode cX8_findAgreement 154 = .ok (.aload_n 0, 1) := by decide +kernel
theorem dX8_findAgreement_155 : decode cX8_findAgreement 155 = .ok (.getfield 22, 3) := by decide +kernel
theorem dX8_findAgreement_158 : decode cX8_findAgreement 158 = .ok (.iconst 3, 1) := by decide +kernel
theorem dX8_findAgreement_159 : decode cX8_findAgreement 159 = .ok (.aload_n 0, 1) := by decide +kernel
theorem dX8_findAgreement_160 : decode cX8_findAgreement 160 = .ok (.getfield 9, 3) := by decide +kernel
theorem dX8_findAgreement_163 : decode cX8_findAgreement 163 = .ok (.iconst 0, 1) := by decide +kernel
theorem dX8_findAgreement_164 : decode cX8_findAgreement 164 = .ok (.iaload, 1) := by decide +kernel
theorem dX8_findAgreement_165 : decode cX8_findAgreement 165 = .ok (.imul, 1) := by decide +kernel
theorem dX8_findAgreement_166 : decode cX8_findAgreement 166 = .ok (.iaload, 1) := by decide +kernel
theorem dX8_findAgreement_167 : decode cX8_findAgreement 167 = .ok (.ireturn, 1) := by decide +kernel
set_option maxRecDepth 20000 in
theorem ggX8_needsIn_X8_personIs : GoodIn wsX8_needsIn wsX8_personIs := goodIn_r _ [5, 6, 7, 8, 4, 9, 13, 14, 15, 16, 17, 18, 19, 20, 21, 22, 23, 24, 25, 26, 27, 28, 29, 30, 31, 32, 33, 34, 35, 36, 37, 38, 39, 40, 41] (by decide +kernel) (by decide +kernel)
set_option maxRecDepth 20000 in
theorem gX8_needsIn_X8_personIs : GoodIn wsX8_needsIn (wsV RX8 102 RX8 yX8_personIs wsX8_personIs) := goodIn_app (goodIn_of _ (by decide +kernel)) ggX8_needsIn_X8_personIs
set_option maxRecDepth 20000 in
theorem ggX8_needsIn_X8_bits : GoodIn wsX8_needsIn wsX8_bits := goodIn_r _ [12] (by decide +kernel) (by decide +kernel)
set_option maxRecDepth 20000 in
theorem gX8_needsIn_X8_bits : GoodIn wsX8_needsIn (va_wsS RX8 173 yX8_bits wsX8_bits) := goodIn_app (goodIn_of _ (by decide +kernel)) ggX8_needsIn_X8_bits
theorem dX8_needsIn_0 : decode cX8_needsIn 0 = .ok (.aload_n 0, 1) := by decide +kernel
theorem dX8_needsIn_1 : decode cX8_needsIn 1 = .ok (.iload_n 1, 1) := by decide +kernel
theorem dX8_needsIn_2 : decode cX8_needsIn 2 = .ok (.iconst 3, 1) := by decide +kernel
theorem dX8_needsIn_3 : decode cX8_needsIn 3 = .ok (.invokevirtual 102, 3) := by decide +kernel
theorem dX8_needsIn_6 : decode cX8_needsIn 6 = .ok (.iload_n 2, 1) := by decide +kernel
theorem dX8_needsIn_7 : decode cX8_needsIn 7 = .ok (.iand, 1) := by decide +kernel
theorem dX8_needsIn_8 : decode cX8_needsIn 8 = .ok (.invokestatic 173, 3) := by decide +kernel
theorem dX8_needsIn_11 : decode cX8_needsIn 11 = .ok (.ireturn, 1) := by decide +kernel
set_option maxRecDepth 20000 in
theorem ggX8_meets_X8_restHours : GoodIn wsX8_meets wsX8_restHours := goodIn_r _ [6, 7, 1, 22, 23, 24, 25, 26, 27, 28, 29, 30, 31, 32, 33, 34, 35, 36, 37, 38, 39, 40, 41, 42, 43, 44, 45, 46, 47, 48, 49, 50] (by decide +kernel) (by decide +kernel)
set_option maxRecDepth 20000 in
theorem gX8_meets_X8_restHours : GoodIn wsX8_meets (wsV RX8 184 RX8 yX8_restHours wsX8_restHours) := goodIn_app (goodIn_of _ (by decide +kernel)) ggX8_meets_X8_restHours
set_option maxRecDepth 20000 in
theorem ggX8_meets_X8_personIs : GoodIn wsX8_meets wsX8_personIs := goodIn_r _ [11, 1, 12, 13, 5, 14, 22, 23, 24, 25, 26, 27, 28, 29, 30, 31, 32, 33, 34, 35, 36, 37, 38, 39, 40, 41, 42, 43, 44, 45, 46, 47, 48, 49, 50] (by decide +kernel) (by decide +kernel)
set_option maxRecDepth 20000 in
theorem gX8_meets_X8_personIs : GoodIn wsX8_meets (wsV RX8 102 RX8 yX8_personIs wsX8_personIs) := goodIn_app (goodIn_of _ (by decide +kernel)) ggX8_meets_X8_personIs
set_option maxRecDepth 20000 in
theorem ggX8_meets_X8_bits : GoodIn wsX8_meets wsX8_bits := goodIn_r _ [17] (by decide +kernel) (by decide +kernel)
set_option maxRecDepth 20000 in
theorem gX8_meets_X8_bits : GoodIn wsX8_meets (va_wsS RX8 173 yX8_bits wsX8_bits) := goodIn_app (goodIn_of _ (by decide +kernel)) ggX8_meets_X8_bits
set_option maxRecDepth 20000 in
theorem ggX8_meets_X8_needsIn : GoodIn wsX8_meets wsX8_needsIn := goodIn_r _ [21, 8, 9, 10, 5, 11, 1, 12, 13, 14, 15, 16, 17, 22, 23, 24, 25, 26, 27, 28, 29, 30, 31, 32, 33, 34, 35, 36, 37, 38, 39, 40, 41, 42, 43, 44, 45, 46, 47, 48, 49, 50] (by decide +kernel) (by decide +kernel)
set_option maxRecDepth 20000 in
theorem gX8_meets_X8_needsIn : GoodIn wsX8_meets (wsV RX8 202 RX8 yX8_needsIn wsX8_needsIn) := goodIn_app (goodIn_of _ (by decide +kernel)) ggX8_meets_X8_needsIn
theorem dX8_meets_0 : decode cX8_meets 0 = .ok (.aload_n 0, 1) := by decide +kernel
theorem dX8_meets_1 : decode cX8_meets 1 = .ok (.invokevirtual 184, 3) := by decide +kernel
theorem dX8_meets_4 : decode cX8_meets 4 = .ok (.aload_n 0, 1) := by decide +kernel
theorem dX8_meets_5 : decode cX8_meets 5 = .ok (.getfield 9, 3) := by decide +kernel
theorem dX8_meets_8 : decode cX8_meets 8 = .ok (.iconst 3, 1) := by decide +kernel
theorem dX8_meets_9 : decode cX8_meets 9 = .ok (.iaload, 1) := by decide +kernel
theorem dX8_meets_10 : decode cX8_meets 10 = .ok (.iand, 1) := by decide +kernel
theorem dX8_meets_11 : decode cX8_meets 11 = .ok (.istore_n 3, 1) := by decide +kernel
theorem dX8_meets_12 : decode cX8_meets 12 = .ok (.aload_n 0, 1) := by decide +kernel
theorem dX8_meets_13 : decode cX8_meets 13 = .ok (.invokevirtual 184, 3) := by decide +kernel
theorem dX8_meets_16 : decode cX8_meets 16 = .ok (.aload_n 0, 1) := by decide +kernel
theorem dX8_meets_17 : decode cX8_meets 17 = .ok (.getfield 9, 3) := by decide +kernel
theorem dX8_meets_20 : decode cX8_meets 20 = .ok (.iconst 3, 1) := by decide +kernel
theorem dX8_meets_21 : decode cX8_meets 21 = .ok (.iaload, 1) := by decide +kernel
theorem dX8_meets_22 : decode cX8_meets 22 = .ok (.iconst (-1), 1) := by decide +kernel
theorem dX8_meets_23 : decode cX8_meets 23 = .ok (.ixor, 1) := by decide +kernel
theorem dX8_meets_24 : decode cX8_meets 24 = .ok (.iand, 1) := by decide +kernel
theorem dX8_meets_25 : decode cX8_meets 25 = .ok (.istore 4, 2) := by decide +kernel
theorem dX8_meets_27 : decode cX8_meets 27 = .ok (.aload_n 0, 1) := by decide +kernel
theorem dX8_meets_28 : decode cX8_meets 28 = .ok (.iload_n 1, 1) := by decide +kernel
theorem dX8_meets_29 : decode cX8_meets 29 = .ok (.iconst 3, 1) := by decide +kernel
theorem dX8_meets_30 : decode cX8_meets 30 = .ok (.invokevirtual 102, 3) := by decide +kernel
theorem dX8_meets_33 : decode cX8_meets 33 = .ok (.aload_n 0, 1) := by decide +kernel
theorem dX8_meets_34 : decode cX8_meets 34 = .ok (.iload_n 2, 1) := by decide +kernel
theorem dX8_meets_35 : decode cX8_meets 35 = .ok (.iconst 3, 1) := by decide +kernel
theorem dX8_meets_36 : decode cX8_meets 36 = .ok (.invokevirtual 102, 3) := by decide +kernel
theorem dX8_meets_39 : decode cX8_meets 39 = .ok (.ior, 1) := by decide +kernel
theorem dX8_meets_40 : decode cX8_meets 40 = .ok (.iload_n 3, 1) := by decide +kernel
theorem dX8_meets_41 : decode cX8_meets 41 = .ok (.iand, 1) := by decide +kernel
theorem dX8_meets_42 : decode cX8_meets 42 = .ok (.invokestatic 173, 3) := by decide +kernel
theorem dX8_meets_45 : decode cX8_meets 45 = .ok (.aload_n 0, 1) := by decide +kernel
theorem dX8_meets_46 : decode cX8_meets 46 = .ok (.iload_n 1, 1) := by decide +kernel
theorem dX8_meets_47 : decode cX8_meets 47 = .ok (.iload 4, 2) := by decide +kernel
theorem dX8_meets_49 : decode cX8_meets 49 = .ok (.invokevirtual 202, 3) := by decide +kernel
theorem dX8_meets_52 : decode cX8_meets 52 = .ok (.iadd, 1) := by decide +kernel
theorem dX8_meets_53 : decode cX8_meets 53 = .ok (.aload_n 0, 1) := by decide +kernel
theorem dX8_meets_54 : decode cX8_meets 54 = .ok (.iload_n 2, 1) := by decide +kernel
theorem dX8_meets_55 : decode cX8_meets 55 = .ok (.iload 4, 2) := by decide +kernel
theorem dX8_meets_57 : decode cX8_meets 57 = .ok (.invokevirtual 202, 3) := by decide +kernel
theorem dX8_meets_60 : decode cX8_meets 60 = .ok (.iadd, 1) := by decide +kernel
theorem dX8_meets_61 : decode cX8_meets 61 = .ok (.ireturn, 1) := by decide +kernel
set_option maxRecDepth 20000 in
theorem ggX8_agree_X8_areTwo : GoodIn wsX8_agree wsX8_areTwo := goodIn_r _ [6, 7, 8, 9, 5, 10, 11, 12, 13, 14, 43, 44, 45, 46, 47, 48, 49, 50, 51, 52, 53, 54, 55, 56, 57, 58, 59, 60, 61, 62, 63, 64, 65, 66, 67, 68, 69, 70, 71] (by decide +kernel) (by decide +kernel)
set_option maxRecDepth 20000 in
theorem gX8_agree_X8_areTwo : GoodIn wsX8_agree (wsV RX8 146 RX8 yX8_areTwo wsX8_areTwo) := goodIn_app (goodIn_of _ (by decide +kernel)) ggX8_agree_X8_areTwo
set_option maxRecDepth 20000 in
theorem ggX8_agree_X8_meets : GoodIn wsX8_agree wsX8_meets := goodIn_r _ [18, 11, 19, 20, 21, 5, 22, 23, 24, 25, 26, 27, 28, 29, 30, 31, 32, 33, 34, 35, 36, 37, 43, 44, 45, 46, 47, 48, 49, 50, 51, 52, 53, 54, 55, 56, 57, 58, 59, 60, 61, 62, 63, 64, 65, 66, 67, 68, 69, 70, 71] (by decide +kernel) (by decide +kernel)
set_option maxRecDepth 20000 in
theorem gX8_agree_X8_meets : GoodIn wsX8_agree (wsV RX8 205 RX8 yX8_meets wsX8_meets) := goodIn_app (goodIn_of _ (by decide +kernel)) ggX8_agree_X8_meets
set_option maxRecDepth 20000 in
theorem ggX8_agree_X8_finding : GoodIn wsX8_agree wsX8_finding := goodIn_r _ [41, 42, 1, 43, 44, 45, 46, 47, 48, 49, 50, 51, 52, 53, 54, 55, 56, 57, 58, 59, 60, 61, 62, 63, 64, 65, 66, 67, 68, 69, 70, 71] (by decide +kernel) (by decide +kernel)
set_option maxRecDepth 20000 in
theorem gX8_agree_X8_finding : GoodIn wsX8_agree (wsV RX8 90 RX8 yX8_finding wsX8_finding) := goodIn_app (goodIn_of _ (by decide +kernel)) ggX8_agree_X8_finding
theorem dX8_agree_0 : decode cX8_agree 0 = .ok (.aload_n 0, 1) := by decide +kernel
theorem dX8_agree_1 : decode cX8_agree 1 = .ok (.iload_n 1, 1) := by decide +kernel
theorem dX8_agree_2 : decode cX8_agree 2 = .ok (.iload_n 2, 1) := by decide +kernel
theorem dX8_agree_3 : decode cX8_agree 3 = .ok (.invokevirtual 146, 3) := by decide +kernel
theorem dX8_agree_6 : decode cX8_agree 6 = .ok (.ifCond .eq 12, 3) := by decide +kernel
theorem dX8_agree_9 : decode cX8_agree 9 = .ok (.aload_n 0, 1) := by decide +kernel
theorem dX8_agree_10 : decode cX8_agree 10 = .ok (.iload_n 1, 1) := by decide +kernel
theorem dX8_agree_11 : decode cX8_agree 11 = .ok (.iload_n 2, 1) := by decide +kernel
theorem dX8_agree_12 : decode cX8_agree 12 = .ok (.invokevirtual 205, 3) := by decide +kernel
theorem dX8_agree_15 : decode cX8_agree 15 = .ok (.goto 9, 3) := by decide +kernel
theorem dX8_agree_18 : decode cX8_agree 18 = .ok (.aload_n 0, 1) := by decide +kernel
theorem dX8_agree_19 : decode cX8_agree 19 = .ok (.ldc 73, 2) := by decide +kernel
theorem dX8_agree_21 : decode cX8_agree 21 = .ok (.invokevirtual 90, 3) := by decide +kernel
theorem dX8_agree_24 : decode cX8_agree 24 = .ok (.ireturn, 1) := by decide +kernel
set_option maxRecDepth 20000 in
theorem ggX8_changes_X8_areTwo : GoodIn wsX8_changes wsX8_areTwo := goodIn_r _ [13, 14, 15, 16, 12, 17, 18, 19, 20, 21, 55, 56, 57, 58, 59, 60, 61, 62, 63, 64, 65, 66, 67, 68, 69, 70, 71, 72, 73, 74, 75, 76, 77, 78, 79, 80, 81, 82, 83] (by decide +kernel) (by decide +kernel)
set_option maxRecDepth 20000 in
theorem gX8_changes_X8_areTwo : GoodIn wsX8_changes (wsV RX8 146 RX8 yX8_areTwo wsX8_areTwo) := goodIn_app (goodIn_of _ (by decide +kernel)) ggX8_changes_X8_areTwo
set_option maxRecDepth 20000 in
theorem ggX8_changes_X8_findAgreement : GoodIn wsX8_changes wsX8_findAgreement := goodIn_r _ [25, 26, 18, 27, 1, 2, 3, 4, 28, 29, 30, 12, 31, 32, 33, 34, 35, 36, 37, 38, 39, 40, 41, 42, 43, 44, 45, 46, 47, 48, 49, 55, 56, 57, 58, 59, 60, 61, 62, 63, 64, 65, 66, 67, 68, 69, 70, 71, 72, 73, 74, 75, 76, 77, 78, 79, 80, 81, 82, 83] (by decide +kernel) (by decide +kernel)
set_option maxRecDepth 20000 in
theorem gX8_changes_X8_findAgreement : GoodIn wsX8_changes (wsV RX8 208 RX8 yX8_findAgreement wsX8_findAgreement) := goodIn_app (goodIn_of _ (by decide +kernel)) ggX8_changes_X8_findAgreement
set_option maxRecDepth 20000 in
theorem ggX8_changes_X8_finding : GoodIn wsX8_changes wsX8_finding := goodIn_r _ [53, 54, 8, 55, 56, 57, 58, 59, 60, 61, 62, 63, 64, 65, 66, 67, 68, 69, 70, 71, 72, 73, 74, 75, 76, 77, 78, 79, 80, 81, 82, 83] (by decide +kernel) (by decide +kernel)
set_option maxRecDepth 20000 in
theorem gX8_changes_X8_finding : GoodIn wsX8_changes (wsV RX8 90 RX8 yX8_finding wsX8_finding) := goodIn_app (goodIn_of _ (by decide +kernel)) ggX8_changes_X8_finding
theorem dX8_changes_0 : decode cX8_changes 0 = .ok (.aload_n 0, 1) := by decide +kernel
theorem dX8_changes_1 : decode cX8_changes 1 = .ok (.iload_n 1, 1) := by decide +kernel
theorem dX8_changes_2 : decode cX8_changes 2 = .ok (.iload_n 2, 1) := by decide +kernel
theorem dX8_changes_3 : decode cX8_changes 3 = .ok (.invokevirtual 146, 3) := by decide +kernel
theorem dX8_changes_6 : decode cX8_changes 6 = .ok (.ifCond .eq 20, 3) := by decide +kernel
theorem dX8_changes_9 : decode cX8_changes 9 = .ok (.aload_n 0, 1) := by decide +kernel
theorem dX8_changes_10 : decode cX8_changes 10 = .ok (.iload_n 1, 1) := by decide +kernel
theorem dX8_changes_11 : decode cX8_changes 11 = .ok (.iload_n 2, 1) := by decide +kernel
theorem dX8_changes_12 : decode cX8_changes 12 = .ok (.invokestatic 105, 3) := by decide +kernel
theorem dX8_changes_15 : decode cX8_changes 15 = .ok (.iload_n 1, 1) := by decide +kernel
theorem dX8_changes_16 : decode cX8_changes 16 = .ok (.iload_n 2, 1) := by decide +kernel
theorem dX8_changes_17 : decode cX8_changes 17 = .ok (.invokestatic 110, 3) := by decide +kernel
theorem dX8_changes_20 : decode cX8_changes 20 = .ok (.invokevirtual 208, 3) := by decide +kernel
theorem dX8_changes_23 : decode cX8_changes 23 = .ok (.goto 9, 3) := by decide +kernel
theorem dX8_changes_26 : decode cX8_changes 26 = .ok (.aload_n 0, 1) := by decide +kernel
theorem dX8_changes_27 : decode cX8_changes 27 = .ok (.ldc 73, 2) := by decide +kernel
theorem dX8_changes_29 : decode cX8_changes 29 = .ok (.invokevirtual 90, 3) := by decide +kernel
theorem dX8_changes_32 : decode cX8_changes 32 = .ok (.ireturn, 1) := by decide +kernel
set_option maxRecDepth 20000 in
theorem ggX8_heldByLess_X8_findAgreement : GoodIn wsX8_heldByLess wsX8_findAgreement := goodIn_r _ [7, 2, 1, 8, 9, 10, 11, 12, 13, 14, 15, 6, 16, 17, 18, 19, 20, 21, 22, 23, 24, 25, 26, 27, 28, 29, 30, 31, 32, 33, 34, 35, 36, 37, 38, 39, 40, 41, 42, 43, 44, 45, 46, 47, 48, 49, 50, 51, 52, 53, 54, 55, 56, 57, 58, 59, 60, 61, 62, 63] (by decide +kernel) (by decide +kernel)
set_option maxRecDepth 20000 in
theorem gX8_heldByLess_X8_findAgreement : GoodIn wsX8_heldByLess (wsV RX8 208 RX8 yX8_findAgreement wsX8_findAgreement) := goodIn_app (goodIn_of _ (by decide +kernel)) ggX8_heldByLess_X8_findAgreement
set_option maxRecDepth 20000 in
theorem ggX8_heldByLess_X8_isLit : GoodIn wsX8_heldByLess wsX8_isLit := goodIn_r _ [16, 1, 17, 18, 6, 19, 35, 36, 37, 38, 39, 40, 41, 42, 43, 44, 45, 46, 47, 48, 49, 50, 51, 52, 53, 54, 55, 56, 57, 58, 59, 60, 61, 62, 63] (by decide +kernel) (by decide +kernel)
set_option maxRecDepth 20000 in
theorem gX8_heldByLess_X8_isLit : GoodIn wsX8_heldByLess (wsV RX8 120 RX8 yX8_isLit wsX8_isLit) := goodIn_app (goodIn_of _ (by decide +kernel)) ggX8_heldByLess_X8_isLit
set_option maxRecDepth 20000 in
theorem ggX8_heldByLess_X8_mayHave : GoodIn wsX8_heldByLess wsX8_mayHave := goodIn_r _ [23, 24, 25, 26, 6, 27, 1, 28, 29, 30, 17, 18, 19, 35, 36, 37, 38, 39, 40, 41, 42, 43, 44, 45, 46, 47, 48, 49, 50, 51, 52, 53, 54, 55, 56, 57, 58, 59, 60, 61, 62, 63] (by decide +kernel) (by decide +kernel)
set_option maxRecDepth 20000 in
theorem gX8_heldByLess_X8_mayHave : GoodIn wsX8_heldByLess (wsV RX8 195 RX8 yX8_mayHave wsX8_mayHave) := goodIn_app (goodIn_of _ (by decide +kernel)) ggX8_heldByLess_X8_mayHave
set_option maxRecDepth 20000 in
theorem ggX8_heldByLess_X8_changesWith : GoodIn wsX8_heldByLess wsX8_changesWith := goodIn_r _ [34, 2, 35, 36, 37, 38, 39, 40, 41, 42, 43, 44, 45, 46, 47, 48, 49, 50, 51, 52, 53, 54, 55, 56, 57, 58, 59, 60, 61, 62, 63] (by decide +kernel) (by decide +kernel)
set_option maxRecDepth 20000 in
theorem gX8_heldByLess_X8_changesWith : GoodIn wsX8_heldByLess (wsV RX8 199 RX8 yX8_changesWith wsX8_changesWith) := goodIn_app (goodIn_of _ (by decide +kernel)) ggX8_heldByLess_X8_changesWith
theorem dX8_heldByLess_0 : decode cX8_heldByLess 0 = .ok (.aload_n 0, 1) := by decide +kernel
theorem dX8_heldByLess_1 : decode cX8_heldByLess 1 = .ok (.iload_n 1, 1) := by decide +kernel
theorem dX8_heldByLess_2 : decode cX8_heldByLess 2 = .ok (.iload_n 2, 1) := by decide +kernel
theorem dX8_heldByLess_3 : decode cX8_heldByLess 3 = .ok (.invokevirtual 208, 3) := by decide +kernel
theorem dX8_heldByLess_6 : decode cX8_heldByLess 6 = .ok (.ifCond .ge 7, 3) := by decide +kernel
theorem dX8_heldByLess_9 : decode cX8_heldByLess 9 = .ok (.iconst (-1), 1) := by decide +kernel
theorem dX8_heldByLess_10 : decode cX8_heldByLess 10 = .ok (.goto 4, 3) := by decide +kernel
theorem dX8_heldByLess_13 : decode cX8_heldByLess 13 = .ok (.iconst 0, 1) := by decide +kernel
theorem dX8_heldByLess_14 : decode cX8_heldByLess 14 = .ok (.istore_n 3, 1) := by decide +kernel
theorem dX8_heldByLess_15 : decode cX8_heldByLess 15 = .ok (.iconst 0, 1) := by decide +kernel
theorem dX8_heldByLess_16 : decode cX8_heldByLess 16 = .ok (.istore 4, 2) := by decide +kernel
theorem dX8_heldByLess_18 : decode cX8_heldByLess 18 = .ok (.aload_n 0, 1) := by decide +kernel
theorem dX8_heldByLess_19 : decode cX8_heldByLess 19 = .ok (.getfield 9, 3) := by decide +kernel
theorem dX8_heldByLess_22 : decode cX8_heldByLess 22 = .ok (.iconst 0, 1) := by decide +kernel
theorem dX8_heldByLess_23 : decode cX8_heldByLess 23 = .ok (.iaload, 1) := by decide +kernel
theorem dX8_heldByLess_24 : decode cX8_heldByLess 24 = .ok (.istore 5, 2) := by decide +kernel
theorem dX8_heldByLess_26 : decode cX8_heldByLess 26 = .ok (.iload 5, 2) := by decide +kernel
theorem dX8_heldByLess_28 : decode cX8_heldByLess 28 = .ok (.bipush 16, 2) := by decide +kernel
theorem dX8_heldByLess_30 : decode cX8_heldByLess 30 = .ok (.if_icmp .ge 89, 3) := by decide +kernel
theorem dX8_heldByLess_33 : decode cX8_heldByLess 33 = .ok (.aload_n 0, 1) := by decide +kernel
theorem dX8_heldByLess_34 : decode cX8_heldByLess 34 = .ok (.iload 5, 2) := by decide +kernel
theorem dX8_heldByLess_36 : decode cX8_heldByLess 36 = .ok (.invokevirtual 120, 3) := by decide +kernel
theorem dX8_heldByLess_39 : decode cX8_heldByLess 39 = .ok (.ifCond .eq 74, 3) := by decide +kernel
theorem dX8_heldByLess_42 : decode cX8_heldByLess 42 = .ok (.aload_n 0, 1) := by decide +kernel
theorem dX8_heldByLess_43 : decode cX8_heldByLess 43 = .ok (.iload_n 1, 1) := by decide +kernel
theorem dX8_heldByLess_44 : decode cX8_heldByLess 44 = .ok (.iload_n 2, 1) := by decide +kernel
theorem dX8_heldByLess_45 : decode cX8_heldByLess 45 = .ok (.iload 5, 2) := by decide +kernel
theorem dX8_heldByLess_47 : decode cX8_heldByLess 47 = .ok (.iconst 1, 1) := by decide +kernel
theorem dX8_heldByLess_48 : decode cX8_heldByLess 48 = .ok (.invokevirtual 195, 3) := by decide +kernel
theorem dX8_heldByLess_51 : decode cX8_heldByLess 51 = .ok (.ifCond .eq 31, 3) := by decide +kernel
theorem dX8_heldByLess_54 : decode cX8_heldByLess 54 = .ok (.aload_n 0, 1) := by decide +kernel
theorem dX8_heldByLess_55 : decode cX8_heldByLess 55 = .ok (.iload 5, 2) := by decide +kernel
theorem dX8_heldByLess_57 : decode cX8_heldByLess 57 = .ok (.iload 4, 2) := by decide +kernel
theorem dX8_heldByLess_59 : decode cX8_heldByLess 59 = .ok (.iconst 1, 1) := by decide +kernel
theorem dX8_heldByLess_60 : decode cX8_heldByLess 60 = .ok (.invokevirtual 199, 3) := by decide +kernel
theorem dX8_heldByLess_63 : decode cX8_heldByLess 63 = .ok (.aload_n 0, 1) := by decide +kernel
theorem dX8_heldByLess_64 : decode cX8_heldByLess 64 = .ok (.getfield 22, 3) := by decide +kernel
theorem dX8_heldByLess_67 : decode cX8_heldByLess 67 = .ok (.iconst 3, 1) := by decide +kernel
theorem dX8_heldByLess_68 : decode cX8_heldByLess 68 = .ok (.iload 5, 2) := by decide +kernel
theorem dX8_heldByLess_70 : decode cX8_heldByLess 70 = .ok (.imul, 1) := by decide +kernel
theorem dX8_heldByLess_71 : decode cX8_heldByLess 71 = .ok (.iload 4, 2) := by decide +kernel
theorem dX8_heldByLess_73 : decode cX8_heldByLess 73 = .ok (.iadd, 1) := by decide +kernel
theorem dX8_heldByLess_74 : decode cX8_heldByLess 74 = .ok (.iaload, 1) := by decide +kernel
theorem dX8_heldByLess_75 : decode cX8_heldByLess 75 = .ok (.if_icmp .ne 7, 3) := by decide +kernel
theorem dX8_heldByLess_78 : decode cX8_heldByLess 78 = .ok (.iconst 1, 1) := by decide +kernel
theorem dX8_heldByLess_79 : decode cX8_heldByLess 79 = .ok (.goto 4, 3) := by decide +kernel
theorem dX8_heldByLess_82 : decode cX8_heldByLess 82 = .ok (.iconst 0, 1) := by decide +kernel
theorem dX8_heldByLess_83 : decode cX8_heldByLess 83 = .ok (.istore 6, 2) := by decide +kernel
theorem dX8_heldByLess_85 : decode cX8_heldByLess 85 = .ok (.iload 6, 2) := by decide +kernel
theorem dX8_heldByLess_87 : decode cX8_heldByLess 87 = .ok (.ifCond .eq 7, 3) := by decide +kernel
theorem dX8_heldByLess_90 : decode cX8_heldByLess 90 = .ok (.iconst 1, 1) := by decide +kernel
theorem dX8_heldByLess_91 : decode cX8_heldByLess 91 = .ok (.goto 4, 3) := by decide +kernel
theorem dX8_heldByLess_94 : decode cX8_heldByLess 94 = .ok (.iconst 2, 1) := by decide +kernel
theorem dX8_heldByLess_95 : decode cX8_heldByLess 95 = .ok (.istore 4, 2) := by decide +kernel
theorem dX8_heldByLess_97 : decode cX8_heldByLess 97 = .ok (.iload_n 3, 1) := by decide +kernel
theorem dX8_heldByLess_98 : decode cX8_heldByLess 98 = .ok (.iload 6, 2) := by decide +kernel
theorem dX8_heldByLess_100 : decode cX8_heldByLess 100 = .ok (.ifCond .eq 10, 3) := by decide +kernel
theorem dX8_heldByLess_103 : decode cX8_heldByLess 103 = .ok (.iconst 1, 1) := by decide +kernel
theorem dX8_heldByLess_104 : decode cX8_heldByLess 104 = .ok (.iload 5, 2) := by decide +kernel
theorem dX8_heldByLess_106 : decode cX8_heldByLess 106 = .ok (.ishl, 1) := by decide +kernel
theorem dX8_heldByLess_107 : decode cX8_heldByLess 107 = .ok (.goto 4, 3) := by decide +kernel
theorem dX8_heldByLess_110 : decode cX8_heldByLess 110 = .ok (.iconst 0, 1) := by decide +kernel
theorem dX8_heldByLess_111 : decode cX8_heldByLess 111 = .ok (.ior, 1) := by decide +kernel
theorem dX8_heldByLess_112 : decode cX8_heldByLess 112 = .ok (.istore_n 3, 1) := by decide +kernel
theorem dX8_heldByLess_113 : decode cX8_heldByLess 113 = .ok (.iinc 5 1, 3) := by decide +kernel
theorem dX8_heldByLess_116 : decode cX8_heldByLess 116 = .ok (.goto (-90), 3) := by decide +kernel
theorem dX8_heldByLess_119 : decode cX8_heldByLess 119 = .ok (.iload_n 3, 1) := by decide +kernel
theorem dX8_heldByLess_120 : decode cX8_heldByLess 120 = .ok (.ireturn, 1) := by decide +kernel
set_option maxRecDepth 20000 in
theorem ggX8_holder_X8_areTwo : GoodIn wsX8_holder wsX8_areTwo := goodIn_r _ [15, 16, 17, 18, 14, 19, 2, 20, 21, 22, 60, 61, 62, 63, 64, 65, 66, 67, 68, 69, 70, 71, 72, 73, 74, 75, 76, 77, 78, 79, 80, 81, 82, 83, 84, 85, 86, 87, 88] (by decide +kernel) (by decide +kernel)
set_option maxRecDepth 20000 in
theorem gX8_holder_X8_areTwo : GoodIn wsX8_holder (wsV RX8 146 RX8 yX8_areTwo wsX8_areTwo) := goodIn_app (goodIn_of _ (by decide +kernel)) ggX8_holder_X8_areTwo
set_option maxRecDepth 20000 in
theorem ggX8_holder_X8_within : GoodIn wsX8_holder wsX8_within := goodIn_r _ [22] (by decide +kernel) (by decide +kernel)
set_option maxRecDepth 20000 in
theorem gX8_holder_X8_within : GoodIn wsX8_holder (va_wsS RX8 78 yX8_within wsX8_within) := goodIn_app (goodIn_of _ (by decide +kernel)) ggX8_holder_X8_within
set_option maxRecDepth 20000 in
theorem ggX8_holder_X8_finding : GoodIn wsX8_holder wsX8_finding := goodIn_r _ [26, 27, 1, 60, 61, 62, 63, 64, 65, 66, 67, 68, 69, 70, 71, 72, 73, 74, 75, 76, 77, 78, 79, 80, 81, 82, 83, 84, 85, 86, 87, 88] (by decide +kernel) (by decide +kernel)
set_option maxRecDepth 20000 in
theorem gX8_holder_X8_finding : GoodIn wsX8_holder (wsV RX8 90 RX8 yX8_finding wsX8_finding) := goodIn_app (goodIn_of _ (by decide +kernel)) ggX8_holder_X8_finding
set_option maxRecDepth 20000 in
theorem ggX8_holder_X8_isLit : GoodIn wsX8_holder wsX8_isLit := goodIn_r _ [31, 2, 32, 33, 14, 34, 60, 61, 62, 63, 64, 65, 66, 67, 68, 69, 70, 71, 72, 73, 74, 75, 76, 77, 78, 79, 80, 81, 82, 83, 84, 85, 86, 87, 88] (by decide +kernel) (by decide +kernel)
set_option maxRecDepth 20000 in
theorem gX8_holder_X8_isLit : GoodIn wsX8_holder (wsV RX8 120 RX8 yX8_isLit wsX8_isLit) := goodIn_app (goodIn_of _ (by decide +kernel)) ggX8_holder_X8_isLit
set_option maxRecDepth 20000 in
theorem ggX8_holder_X8_heldByLess : GoodIn wsX8_holder wsX8_heldByLess := goodIn_r _ [38, 2, 39, 40, 41, 42, 14, 43, 44, 4, 5, 6, 7, 28, 29, 30, 31, 32, 33, 34, 45, 46, 47, 48, 49, 50, 51, 52, 53, 54, 55, 56, 57, 58, 59, 60, 61, 62, 63, 64, 65, 66, 67, 68, 69, 70, 71, 72, 73, 74, 75, 76, 77, 78, 79, 80, 81, 82, 83, 84, 85, 86, 87, 88] (by decide +kernel) (by decide +kernel)
set_option maxRecDepth 20000 in
theorem gX8_holder_X8_heldByLess : GoodIn wsX8_holder (wsV RX8 211 RX8 yX8_heldByLess wsX8_heldByLess) := goodIn_app (goodIn_of _ (by decide +kernel)) ggX8_holder_X8_heldByLess
set_option maxRecDepth 20000 in
theorem ggX8_holder_X8_has : GoodIn wsX8_holder wsX8_has := goodIn_r _ [34] (by decide +kernel) (by decide +kernel)
set_option maxRecDepth 20000 in
theorem gX8_holder_X8_has : GoodIn wsX8_holder (va_wsS RX8 116 yX8_has wsX8_has) := goodIn_app (goodIn_of _ (by decide +kernel)) ggX8_holder_X8_has
theorem dX8_holder_0 : decode cX8_holder 0 = .ok (.aload_n 0, 1) := by decide +kernel
theorem dX8_holder_1 : decode cX8_holder 1 = .ok (.iload_n 1, 1) := by decide +kernel
theorem dX8_holder_2 : decode cX8_holder 2 = .ok (.iload_n 2, 1) := by decide +kernel
theorem dX8_holder_3 : decode cX8_holder 3 = .ok (.invokevirtual 146, 3) := by decide +kernel
theorem dX8_holder_6 : decode cX8_holder 6 = .ok (.ifCond .eq 13, 3) := by decide +kernel
theorem dX8_holder_9 : decode cX8_holder 9 = .ok (.iload_n 3, 1) := by decide +kernel
theorem dX8_holder_10 : decode cX8_holder 10 = .ok (.iconst 0, 1) := by decide +kernel
theorem dX8_holder_11 : decode cX8_holder 11 = .ok (.bipush 15, 2) := by decide +kernel
theorem dX8_holder_13 : decode cX8_holder 13 = .ok (.invokestatic 78, 3) := by decide +kernel
theorem dX8_holder_16 : decode cX8_holder 16 = .ok (.ifCond .ne 10, 3) := by decide +kernel
theorem dX8_holder_19 : decode cX8_holder 19 = .ok (.aload_n 0, 1) := by decide +kernel
theorem dX8_holder_20 : decode cX8_holder 20 = .ok (.ldc 73, 2) := by decide +kernel
theorem dX8_holder_22 : decode cX8_holder 22 = .ok (.invokevirtual 90, 3) := by decide +kernel
theorem dX8_holder_25 : decode cX8_holder 25 = .ok (.ireturn, 1) := by decide +kernel
theorem dX8_holder_26 : decode cX8_holder 26 = .ok (.aload_n 0, 1) := by decide +kernel
theorem dX8_holder_27 : decode cX8_holder 27 = .ok (.iload_n 3, 1) := by decide +kernel
theorem dX8_holder_28 : decode cX8_holder 28 = .ok (.invokevirtual 120, 3) := by decide +kernel
theorem dX8_holder_31 : decode cX8_holder 31 = .ok (.ifCond .eq 13, 3) := by decide +kernel
theorem dX8_holder_34 : decode cX8_holder 34 = .ok (.iload_n 3, 1) := by decide +kernel
theorem dX8_holder_35 : decode cX8_holder 35 = .ok (.aload_n 0, 1) := by decide +kernel
theorem dX8_holder_36 : decode cX8_holder 36 = .ok (.getfield 9, 3) := by decide +kernel
theorem dX8_holder_39 : decode cX8_holder 39 = .ok (.iconst 0, 1) := by decide +kernel
theorem dX8_holder_40 : decode cX8_holder 40 = .ok (.iaload, 1) := by decide +kernel
theorem dX8_holder_41 : decode cX8_holder 41 = .ok (.if_icmp .ge 10, 3) := by decide +kernel
theorem dX8_holder_44 : decode cX8_holder 44 = .ok (.aload_n 0, 1) := by decide +kernel
theorem dX8_holder_45 : decode cX8_holder 45 = .ok (.ldc 152, 2) := by decide +kernel
theorem dX8_holder_47 : decode cX8_holder 47 = .ok (.invokevirtual 90, 3) := by decide +kernel
theorem dX8_holder_50 : decode cX8_holder 50 = .ok (.ireturn, 1) := by decide +kernel
theorem dX8_holder_51 : decode cX8_holder 51 = .ok (.iload_n 1, 1) := by decide +kernel
theorem dX8_holder_52 : decode cX8_holder 52 = .ok (.iload_n 2, 1) := by decide +kernel
theorem dX8_holder_53 : decode cX8_holder 53 = .ok (.invokestatic 105, 3) := by decide +kernel
theorem dX8_holder_56 : decode cX8_holder 56 = .ok (.istore 4, 2) := by decide +kernel
theorem dX8_holder_58 : decode cX8_holder 58 = .ok (.iload_n 1, 1) := by decide +kernel
theorem dX8_holder_59 : decode cX8_holder 59 = .ok (.iload_n 2, 1) := by decide +kernel
theorem dX8_holder_60 : decode cX8_holder 60 = .ok (.invokestatic 110, 3) := by decide +kernel
theorem dX8_holder_63 : decode cX8_holder 63 = .ok (.istore 5, 2) := by decide +kernel
theorem dX8_holder_65 : decode cX8_holder 65 = .ok (.aload_n 0, 1) := by decide +kernel
theorem dX8_holder_66 : decode cX8_holder 66 = .ok (.iload 4, 2) := by decide +kernel
theorem dX8_holder_68 : decode cX8_holder 68 = .ok (.iload 5, 2) := by decide +kernel
theorem dX8_holder_70 : decode cX8_holder 70 = .ok (.invokevirtual 211, 3) := by decide +kernel
theorem dX8_holder_73 : decode cX8_holder 73 = .ok (.iload_n 3, 1) := by decide +kernel
theorem dX8_holder_74 : decode cX8_holder 74 = .ok (.invokestatic 116, 3) := by decide +kernel
theorem dX8_holder_77 : decode cX8_holder 77 = .ok (.ifCond .eq 8, 3) := by decide +kernel
theorem dX8_holder_80 : decode cX8_holder 80 = .ok (.iload 4, 2) := by decide +kernel
theorem dX8_holder_82 : decode cX8_holder 82 = .ok (.goto 5, 3) := by decide +kernel
theorem dX8_holder_85 : decode cX8_holder 85 = .ok (.iload 5, 2) := by decide +kernel
theorem dX8_holder_87 : decode cX8_holder 87 = .ok (.ireturn, 1) := by decide +kernel
set_option maxRecDepth 20000 in
theorem ggX8_gain_X8_areTwo : GoodIn wsX8_gain wsX8_areTwo := goodIn_r _ [8, 9, 10, 11, 7, 12, 2, 13, 14, 15, 93, 94, 95, 96, 97, 98, 99, 100, 101, 102, 103, 104, 105, 106, 107, 108, 109, 110, 111, 112, 113, 114, 115, 116, 117, 118, 119, 120, 121] (by decide +kernel) (by decide +kernel)
set_option maxRecDepth 20000 in
theorem gX8_gain_X8_areTwo : GoodIn wsX8_gain (wsV RX8 146 RX8 yX8_areTwo wsX8_areTwo) := goodIn_app (goodIn_of _ (by decide +kernel)) ggX8_gain_X8_areTwo
set_option maxRecDepth 20000 in
theorem ggX8_gain_X8_finding : GoodIn wsX8_gain wsX8_finding := goodIn_r _ [19, 20, 1, 93, 94, 95, 96, 97, 98, 99, 100, 101, 102, 103, 104, 105, 106, 107, 108, 109, 110, 111, 112, 113, 114, 115, 116, 117, 118, 119, 120, 121] (by decide +kernel) (by decide +kernel)
set_option maxRecDepth 20000 in
theorem gX8_gain_X8_finding : GoodIn wsX8_gain (wsV RX8 90 RX8 yX8_finding wsX8_finding) := goodIn_app (goodIn_of _ (by decide +kernel)) ggX8_gain_X8_finding
set_option maxRecDepth 20000 in
theorem ggX8_gain_X8_personIs : GoodIn wsX8_gain wsX8_personIs := goodIn_r _ [24, 2, 25, 26, 7, 27, 93, 94, 95, 96, 97, 98, 99, 100, 101, 102, 103, 104, 105, 106, 107, 108, 109, 110, 111, 112, 113, 114, 115, 116, 117, 118, 119, 120, 121] (by decide +kernel) (by decide +kernel)
set_option maxRecDepth 20000 in
theorem gX8_gain_X8_personIs : GoodIn wsX8_gain (wsV RX8 102 RX8 yX8_personIs wsX8_personIs) := goodIn_app (goodIn_of _ (by decide +kernel)) ggX8_gain_X8_personIs
set_option maxRecDepth 20000 in
theorem ggX8_gain_X8_at : GoodIn wsX8_gain wsX8_at := goodIn_r _ [27] (by decide +kernel) (by decide +kernel)
set_option maxRecDepth 20000 in
theorem gX8_gain_X8_at : GoodIn wsX8_gain (va_wsS RX8 82 yX8_at wsX8_at) := goodIn_app (goodIn_of _ (by decide +kernel)) ggX8_gain_X8_at
set_option maxRecDepth 20000 in
theorem ggX8_gain_X8_findRest : GoodIn wsX8_gain wsX8_findRest := goodIn_r _ [31, 2, 32, 33, 34, 35, 3, 36, 37, 7, 38, 39, 40, 41, 42, 43, 44, 45, 46, 21, 22, 23, 24, 25, 26, 27, 47, 48, 49, 50, 51, 52, 53, 54, 55, 56, 57, 58, 59, 60, 61, 62, 63, 64, 65, 66, 67, 68, 69, 70, 71, 72, 73, 74, 75, 76, 77, 78, 79, 93, 94, 95, 96, 97, 98, 99, 100, 101, 102, 103, 104, 105, 106, 107, 108, 109, 110, 111, 112, 113, 114, 115, 116, 117, 118, 119, 120, 121] (by decide +kernel) (by decide +kernel)
set_option maxRecDepth 20000 in
theorem gX8_gain_X8_findRest : GoodIn wsX8_gain (wsV RX8 179 RX8 yX8_findRest wsX8_findRest) := goodIn_app (goodIn_of _ (by decide +kernel)) ggX8_gain_X8_findRest
set_option maxRecDepth 20000 in
theorem ggX8_gain_X8_meets : GoodIn wsX8_gain wsX8_meets := goodIn_r _ [83, 2, 84, 85, 86, 7, 87, 88, 21, 22, 23, 24, 25, 26, 27, 77, 78, 79, 89, 90, 91, 92, 93, 94, 95, 96, 97, 98, 99, 100, 101, 102, 103, 104, 105, 106, 107, 108, 109, 110, 111, 112, 113, 114, 115, 116, 117, 118, 119, 120, 121] (by decide +kernel) (by decide +kernel)
set_option maxRecDepth 20000 in
theorem gX8_gain_X8_meets : GoodIn wsX8_gain (wsV RX8 205 RX8 yX8_meets wsX8_meets) := goodIn_app (goodIn_of _ (by decide +kernel)) ggX8_gain_X8_meets
theorem dX8_gain_0 : decode cX8_gain 0 = .ok (.aload_n 0, 1) := by decide +kernel
theorem dX8_gain_1 : decode cX8_gain 1 = .ok (.iload_n 1, 1) := by decide +kernel
theorem dX8_gain_2 : decode cX8_gain 2 = .ok (.iload_n 2, 1) := by decide +kernel
theorem dX8_gain_3 : decode cX8_gain 3 = .ok (.invokevirtual 146, 3) := by decide +kernel
theorem dX8_gain_6 : decode cX8_gain 6 = .ok (.ifCond .ne 10, 3) := by decide +kernel
theorem dX8_gain_9 : decode cX8_gain 9 = .ok (.aload_n 0, 1) := by decide +kernel
theorem dX8_gain_10 : decode cX8_gain 10 = .ok (.ldc 73, 2) := by decide +kernel
theorem dX8_gain_12 : decode cX8_gain 12 = .ok (.invokevirtual 90, 3) := by decide +kernel
theorem dX8_gain_15 : decode cX8_gain 15 = .ok (.ireturn, 1) := by decide +kernel
theorem dX8_gain_16 : decode cX8_gain 16 = .ok (.aload_n 0, 1) := by decide +kernel
theorem dX8_gain_17 : decode cX8_gain 17 = .ok (.iload_n 1, 1) := by decide +kernel
theorem dX8_gain_18 : decode cX8_gain 18 = .ok (.iconst 4, 1) := by decide +kernel
theorem dX8_gain_19 : decode cX8_gain 19 = .ok (.invokevirtual 102, 3) := by decide +kernel
theorem dX8_gain_22 : decode cX8_gain 22 = .ok (.istore_n 3, 1) := by decide +kernel
theorem dX8_gain_23 : decode cX8_gain 23 = .ok (.aload_n 0, 1) := by decide +kernel
theorem dX8_gain_24 : decode cX8_gain 24 = .ok (.iload_n 2, 1) := by decide +kernel
theorem dX8_gain_25 : decode cX8_gain 25 = .ok (.iconst 4, 1) := by decide +kernel
theorem dX8_gain_26 : decode cX8_gain 26 = .ok (.invokevirtual 102, 3) := by decide +kernel
theorem dX8_gain_29 : decode cX8_gain 29 = .ok (.istore 4, 2) := by decide +kernel
theorem dX8_gain_31 : decode cX8_gain 31 = .ok (.aload_n 0, 1) := by decide +kernel
theorem dX8_gain_32 : decode cX8_gain 32 = .ok (.getfield 9, 3) := by decide +kernel
theorem dX8_gain_35 : decode cX8_gain 35 = .ok (.iload_n 1, 1) := by decide +kernel
theorem dX8_gain_36 : decode cX8_gain 36 = .ok (.iconst 4, 1) := by decide +kernel
theorem dX8_gain_37 : decode cX8_gain 37 = .ok (.invokestatic 82, 3) := by decide +kernel
theorem dX8_gain_40 : decode cX8_gain 40 = .ok (.iload_n 2, 1) := by decide +kernel
theorem dX8_gain_41 : decode cX8_gain 41 = .ok (.iastore, 1) := by decide +kernel
theorem dX8_gain_42 : decode cX8_gain 42 = .ok (.aload_n 0, 1) := by decide +kernel
theorem dX8_gain_43 : decode cX8_gain 43 = .ok (.getfield 9, 3) := by decide +kernel
theorem dX8_gain_46 : decode cX8_gain 46 = .ok (.iload_n 2, 1) := by decide +kernel
theorem dX8_gain_47 : decode cX8_gain 47 = .ok (.iconst 4, 1) := by decide +kernel
theorem dX8_gain_48 : decode cX8_gain 48 = .ok (.invokestatic 82, 3) := by decide +kernel
theorem dX8_gain_51 : decode cX8_gain 51 = .ok (.iload_n 1, 1) := by decide +kernel
theorem dX8_gain_52 : decode cX8_gain 52 = .ok (.iastore, 1) := by decide +kernel
theorem dX8_gain_53 : decode cX8_gain 53 = .ok (.aload_n 0, 1) := by decide +kernel
theorem dX8_gain_54 : decode cX8_gain 54 = .ok (.iload_n 1, 1) := by decide +kernel
theorem dX8_gain_55 : decode cX8_gain 55 = .ok (.invokevirtual 179, 3) := by decide +kernel
theorem dX8_gain_58 : decode cX8_gain 58 = .ok (.aload_n 0, 1) := by decide +kernel
theorem dX8_gain_59 : decode cX8_gain 59 = .ok (.getfield 176, 3) := by decide +kernel
theorem dX8_gain_62 : decode cX8_gain 62 = .ok (.istore 5, 2) := by decide +kernel
theorem dX8_gain_64 : decode cX8_gain 64 = .ok (.aload_n 0, 1) := by decide +kernel
theorem dX8_gain_65 : decode cX8_gain 65 = .ok (.iload_n 2, 1) := by decide +kernel
theorem dX8_gain_66 : decode cX8_gain 66 = .ok (.invokevirtual 179, 3) := by decide +kernel
theorem dX8_gain_69 : decode cX8_gain 69 = .ok (.iload 5, 2) := by decide +kernel
theorem dX8_gain_71 : decode cX8_gain 71 = .ok (.aload_n 0, 1) := by decide +kernel
theorem dX8_gain_72 : decode cX8_gain 72 = .ok (.getfield 176, 3) := by decide +kernel
theorem dX8_gain_75 : decode cX8_gain 75 = .ok (.iadd, 1) := by decide +kernel
theorem dX8_gain_76 : decode cX8_gain 76 = .ok (.istore 5, 2) := by decide +kernel
theorem dX8_gain_78 : decode cX8_gain 78 = .ok (.aload_n 0, 1) := by decide +kernel
theorem dX8_gain_79 : decode cX8_gain 79 = .ok (.getfield 9, 3) := by decide +kernel
theorem dX8_gain_82 : decode cX8_gain 82 = .ok (.iload_n 1, 1) := by decide +kernel
theorem dX8_gain_83 : decode cX8_gain 83 = .ok (.iconst 4, 1) := by decide +kernel
theorem dX8_gain_84 : decode cX8_gain 84 = .ok (.invokestatic 82, 3) := by decide +kernel
theorem dX8_gain_87 : decode cX8_gain 87 = .ok (.iload_n 3, 1) := by decide +kernel
theorem dX8_gain_88 : decode cX8_gain 88 = .ok (.iastore, 1) := by decide +kernel
theorem dX8_gain_89 : decode cX8_gain 89 = .ok (.aload_n 0, 1) := by decide +kernel
theorem dX8_gain_90 : decode cX8_gain 90 = .ok (.getfield 9, 3) := by decide +kernel
theorem dX8_gain_93 : decode cX8_gain 93 = .ok (.iload_n 2, 1) := by decide +kernel
theorem dX8_gain_94 : decode cX8_gain 94 = .ok (.iconst 4, 1) := by decide +kernel
theorem dX8_gain_95 : decode cX8_gain 95 = .ok (.invokestatic 82, 3) := by decide +kernel
theorem dX8_gain_98 : decode cX8_gain 98 = .ok (.iload 4, 2) := by decide +kernel
theorem dX8_gain_100 : decode cX8_gain 100 = .ok (.iastore, 1) := by decide +kernel
theorem dX8_gain_101 : decode cX8_gain 101 = .ok (.aload_n 0, 1) := by decide +kernel
theorem dX8_gain_102 : decode cX8_gain 102 = .ok (.iload_n 1, 1) := by decide +kernel
theorem dX8_gain_103 : decode cX8_gain 103 = .ok (.iload_n 2, 1) := by decide +kernel
theorem dX8_gain_104 : decode cX8_gain 104 = .ok (.invokevirtual 205, 3) := by decide +kernel
theorem dX8_gain_107 : decode cX8_gain 107 = .ok (.iload 5, 2) := by decide +kernel
theorem dX8_gain_109 : decode cX8_gain 109 = .ok (.isub, 1) := by decide +kernel
theorem dX8_gain_110 : decode cX8_gain 110 = .ok (.ireturn, 1) := by decide +kernel
set_option maxRecDepth 20000 in
theorem ggX8_lowest_X8_has : GoodIn wsX8_lowest wsX8_has := goodIn_r _ [4] (by decide +kernel) (by decide +kernel)
set_option maxRecDepth 20000 in
theorem gX8_lowest_X8_has : GoodIn wsX8_lowest (va_wsS RX8 116 yX8_has wsX8_has) := goodIn_app (goodIn_of _ (by decide +kernel)) ggX8_lowest_X8_has
theorem dX8_lowest_0 : decode cX8_lowest 0 = .ok (.iconst 0, 1) := by decide +kernel
theorem dX8_lowest_1 : decode cX8_lowest 1 = .ok (.istore_n 1, 1) := by decide +kernel
theorem dX8_lowest_2 : decode cX8_lowest 2 = .ok (.iload_n 0, 1) := by decide +kernel
theorem dX8_lowest_3 : decode cX8_lowest 3 = .ok (.iload_n 1, 1) := by decide +kernel
theorem dX8_lowest_4 : decode cX8_lowest 4 = .ok (.invokestatic 116, 3) := by decide +kernel
theorem dX8_lowest_7 : decode cX8_lowest 7 = .ok (.ifCond .ne 9, 3) := by decide +kernel
theorem dX8_lowest_10 : decode cX8_lowest 10 = .ok (.iinc 1 1, 3) := by decide +kernel
theorem dX8_lowest_13 : decode cX8_lowest 13 = .ok (.goto (-11), 3) := by decide +kernel
theorem dX8_lowest_16 : decode cX8_lowest 16 = .ok (.iload_n 1, 1) := by decide +kernel
theorem dX8_lowest_17 : decode cX8_lowest 17 = .ok (.ireturn, 1) := by decide +kernel
set_option maxRecDepth 20000 in
theorem ggX8_mostWith_X8_lowest : GoodIn wsX8_mostWith wsX8_lowest := goodIn_r _ [5, 6, 7, 4, 8] (by decide +kernel) (by decide +kernel)
set_option maxRecDepth 20000 in
theorem gX8_mostWith_X8_lowest : GoodIn wsX8_mostWith (va_wsS RX8 214 yX8_lowest wsX8_lowest) := goodIn_app (goodIn_of _ (by decide +kernel)) ggX8_mostWith_X8_lowest
set_option maxRecDepth 20000 in
theorem ggX8_mostWith_X8_restHours : GoodIn wsX8_mostWith wsX8_restHours := goodIn_r _ [12, 13, 14, 33, 34, 35, 36, 37, 38, 39, 40, 41, 42, 43, 44, 45, 46, 47, 48, 49, 50, 51, 52, 53, 54, 55, 56, 57, 58, 59, 60, 61] (by decide +kernel) (by decide +kernel)
set_option maxRecDepth 20000 in
theorem gX8_mostWith_X8_restHours : GoodIn wsX8_mostWith (wsV RX8 184 RX8 yX8_restHours wsX8_restHours) := goodIn_app (goodIn_of _ (by decide +kernel)) ggX8_mostWith_X8_restHours
set_option maxRecDepth 20000 in
theorem ggX8_mostWith_X8_needsIn : GoodIn wsX8_mostWith wsX8_needsIn := goodIn_r _ [18, 19, 20, 21, 4, 22, 14, 23, 24, 25, 26, 27, 28, 33, 34, 35, 36, 37, 38, 39, 40, 41, 42, 43, 44, 45, 46, 47, 48, 49, 50, 51, 52, 53, 54, 55, 56, 57, 58, 59, 60, 61] (by decide +kernel) (by decide +kernel)
set_option maxRecDepth 20000 in
theorem gX8_mostWith_X8_needsIn : GoodIn wsX8_mostWith (wsV RX8 202 RX8 yX8_needsIn wsX8_needsIn) := goodIn_app (goodIn_of _ (by decide +kernel)) ggX8_mostWith_X8_needsIn
set_option maxRecDepth 20000 in
theorem ggX8_mostWith_X8_meets : GoodIn wsX8_mostWith wsX8_meets := goodIn_r _ [32, 14, 9, 10, 11, 4, 12, 13, 19, 20, 21, 22, 23, 24, 25, 26, 27, 28, 15, 16, 17, 18, 33, 34, 35, 36, 37, 38, 39, 40, 41, 42, 43, 44, 45, 46, 47, 48, 49, 50, 51, 52, 53, 54, 55, 56, 57, 58, 59, 60, 61] (by decide +kernel) (by decide +kernel)
set_option maxRecDepth 20000 in
theorem gX8_mostWith_X8_meets : GoodIn wsX8_mostWith (wsV RX8 205 RX8 yX8_meets wsX8_meets) := goodIn_app (goodIn_of _ (by decide +kernel)) ggX8_mostWith_X8_meets
theorem dX8_mostWith_0 : decode cX8_mostWith 0 = .ok (.iload_n 1, 1) := by decide +kernel
theorem dX8_mostWith_1 : decode cX8_mostWith 1 = .ok (.invokestatic 214, 3) := by decide +kernel
theorem dX8_mostWith_4 : decode cX8_mostWith 4 = .ok (.istore_n 3, 1) := by decide +kernel
theorem dX8_mostWith_5 : decode cX8_mostWith 5 = .ok (.iload_n 2, 1) := by decide +kernel
theorem dX8_mostWith_6 : decode cX8_mostWith 6 = .ok (.iload_n 3, 1) := by decide +kernel
theorem dX8_mostWith_7 : decode cX8_mostWith 7 = .ok (.if_icmp .ne 28, 3) := by decide +kernel
theorem dX8_mostWith_10 : decode cX8_mostWith 10 = .ok (.aload_n 0, 1) := by decide +kernel
theorem dX8_mostWith_11 : decode cX8_mostWith 11 = .ok (.iload_n 3, 1) := by decide +kernel
theorem dX8_mostWith_12 : decode cX8_mostWith 12 = .ok (.aload_n 0, 1) := by decide +kernel
theorem dX8_mostWith_13 : decode cX8_mostWith 13 = .ok (.invokevirtual 184, 3) := by decide +kernel
theorem dX8_mostWith_16 : decode cX8_mostWith 16 = .ok (.invokevirtual 202, 3) := by decide +kernel
theorem dX8_mostWith_19 : decode cX8_mostWith 19 = .ok (.aload_n 0, 1) := by decide +kernel
theorem dX8_mostWith_20 : decode cX8_mostWith 20 = .ok (.getfield 25, 3) := by decide +kernel
theorem dX8_mostWith_23 : decode cX8_mostWith 23 = .ok (.iload_n 1, 1) := by decide +kernel
theorem dX8_mostWith_24 : decode cX8_mostWith 24 = .ok (.iconst 1, 1) := by decide +kernel
theorem dX8_mostWith_25 : decode cX8_mostWith 25 = .ok (.iload_n 3, 1) := by decide +kernel
theorem dX8_mostWith_26 : decode cX8_mostWith 26 = .ok (.ishl, 1) := by decide +kernel
theorem dX8_mostWith_27 : decode cX8_mostWith 27 = .ok (.iconst (-1), 1) := by decide +kernel
theorem dX8_mostWith_28 : decode cX8_mostWith 28 = .ok (.ixor, 1) := by decide +kernel
theorem dX8_mostWith_29 : decode cX8_mostWith 29 = .ok (.iand, 1) := by decide +kernel
theorem dX8_mostWith_30 : decode cX8_mostWith 30 = .ok (.iaload, 1) := by decide +kernel
theorem dX8_mostWith_31 : decode cX8_mostWith 31 = .ok (.iadd, 1) := by decide +kernel
theorem dX8_mostWith_32 : decode cX8_mostWith 32 = .ok (.goto 28, 3) := by decide +kernel
theorem dX8_mostWith_35 : decode cX8_mostWith 35 = .ok (.aload_n 0, 1) := by decide +kernel
theorem dX8_mostWith_36 : decode cX8_mostWith 36 = .ok (.iload_n 3, 1) := by decide +kernel
theorem dX8_mostWith_37 : decode cX8_mostWith 37 = .ok (.iload_n 2, 1) := by decide +kernel
theorem dX8_mostWith_38 : decode cX8_mostWith 38 = .ok (.invokevirtual 205, 3) := by decide +kernel
theorem dX8_mostWith_41 : decode cX8_mostWith 41 = .ok (.aload_n 0, 1) := by decide +kernel
theorem dX8_mostWith_42 : decode cX8_mostWith 42 = .ok (.getfield 25, 3) := by decide +kernel
theorem dX8_mostWith_45 : decode cX8_mostWith 45 = .ok (.iload_n 1, 1) := by decide +kernel
theorem dX8_mostWith_46 : decode cX8_mostWith 46 = .ok (.iconst 1, 1) := by decide +kernel
theorem dX8_mostWith_47 : decode cX8_mostWith 47 = .ok (.iload_n 3, 1) := by decide +kernel
theorem dX8_mostWith_48 : decode cX8_mostWith 48 = .ok (.ishl, 1) := by decide +kernel
theorem dX8_mostWith_49 : decode cX8_mostWith 49 = .ok (.iconst (-1), 1) := by decide +kernel
theorem dX8_mostWith_50 : decode cX8_mostWith 50 = .ok (.ixor, 1) := by decide +kernel
theorem dX8_mostWith_51 : decode cX8_mostWith 51 = .ok (.iand, 1) := by decide +kernel
theorem dX8_mostWith_52 : decode cX8_mostWith 52 = .ok (.iconst 1, 1) := by decide +kernel
theorem dX8_mostWith_53 : decode cX8_mostWith 53 = .ok (.iload_n 2, 1) := by decide +kernel
theorem dX8_mostWith_54 : decode cX8_mostWith 54 = .ok (.ishl, 1) := by decide +kernel
theorem dX8_mostWith_55 : decode cX8_mostWith 55 = .ok (.iconst (-1), 1) := by decide +kernel
theorem dX8_mostWith_56 : decode cX8_mostWith 56 = .ok (.ixor, 1) := by decide +kernel
theorem dX8_mostWith_57 : decode cX8_mostWith 57 = .ok (.iand, 1) := by decide +kernel
theorem dX8_mostWith_58 : decode cX8_mostWith 58 = .ok (.iaload, 1) := by decide +kernel
theorem dX8_mostWith_59 : decode cX8_mostWith 59 = .ok (.iadd, 1) := by decide +kernel
theorem dX8_mostWith_60 : decode cX8_mostWith 60 = .ok (.ireturn, 1) := by decide +kernel
set_option maxRecDepth 20000 in
theorem ggX8_mayBe_X8_has : GoodIn wsX8_mayBe wsX8_has := goodIn_r _ [4] (by decide +kernel) (by decide +kernel)
set_option maxRecDepth 20000 in
theorem gX8_mayBe_X8_has : GoodIn wsX8_mayBe (va_wsS RX8 116 yX8_has wsX8_has) := goodIn_app (goodIn_of _ (by decide +kernel)) ggX8_mayBe_X8_has
set_option maxRecDepth 20000 in
theorem ggX8_mayBe_X8_lowest : GoodIn wsX8_mayBe wsX8_lowest := goodIn_r _ [7, 1, 2, 3, 4] (by decide +kernel) (by decide +kernel)
set_option maxRecDepth 20000 in
theorem gX8_mayBe_X8_lowest : GoodIn wsX8_mayBe (va_wsS RX8 214 yX8_lowest wsX8_lowest) := goodIn_app (goodIn_of _ (by decide +kernel)) ggX8_mayBe_X8_lowest
set_option maxRecDepth 20000 in
theorem ggX8_mayBe_X8_bits : GoodIn wsX8_mayBe wsX8_bits := goodIn_r _ [10] (by decide +kernel) (by decide +kernel)
set_option maxRecDepth 20000 in
theorem gX8_mayBe_X8_bits : GoodIn wsX8_mayBe (va_wsS RX8 173 yX8_bits wsX8_bits) := goodIn_app (goodIn_of _ (by decide +kernel)) ggX8_mayBe_X8_bits
theorem dX8_mayBe_0 : decode cX8_mayBe 0 = .ok (.iload_n 1, 1) := by decide +kernel
theorem dX8_mayBe_1 : decode cX8_mayBe 1 = .ok (.iload_n 2, 1) := by decide +kernel
theorem dX8_mayBe_2 : decode cX8_mayBe 2 = .ok (.invokestatic 116, 3) := by decide +kernel
theorem dX8_mayBe_5 : decode cX8_mayBe 5 = .ok (.ifCond .eq 25, 3) := by decide +kernel
theorem dX8_mayBe_8 : decode cX8_mayBe 8 = .ok (.iload_n 2, 1) := by decide +kernel
theorem dX8_mayBe_9 : decode cX8_mayBe 9 = .ok (.iload_n 1, 1) := by decide +kernel
theorem dX8_mayBe_10 : decode cX8_mayBe 10 = .ok (.invokestatic 214, 3) := by decide +kernel
theorem dX8_mayBe_13 : decode cX8_mayBe 13 = .ok (.if_icmp .ne 13, 3) := by decide +kernel
theorem dX8_mayBe_16 : decode cX8_mayBe 16 = .ok (.iload_n 1, 1) := by decide +kernel
theorem dX8_mayBe_17 : decode cX8_mayBe 17 = .ok (.invokestatic 173, 3) := by decide +kernel
theorem dX8_mayBe_20 : decode cX8_mayBe 20 = .ok (.iconst 2, 1) := by decide +kernel
theorem dX8_mayBe_21 : decode cX8_mayBe 21 = .ok (.irem, 1) := by decide +kernel
theorem dX8_mayBe_22 : decode cX8_mayBe 22 = .ok (.iconst 1, 1) := by decide +kernel
theorem dX8_mayBe_23 : decode cX8_mayBe 23 = .ok (.if_icmp .ne 7, 3) := by decide +kernel
theorem dX8_mayBe_26 : decode cX8_mayBe 26 = .ok (.iconst 1, 1) := by decide +kernel
theorem dX8_mayBe_27 : decode cX8_mayBe 27 = .ok (.goto 4, 3) := by decide +kernel
theorem dX8_mayBe_30 : decode cX8_mayBe 30 = .ok (.iconst 0, 1) := by decide +kernel
theorem dX8_mayBe_31 : decode cX8_mayBe 31 = .ok (.ireturn, 1) := by decide +kernel
set_option maxRecDepth 20000 in
theorem ggX8_findPairs_X8_mayBe : GoodIn wsX8_findPairs wsX8_mayBe := goodIn_r _ [12, 13, 14, 11, 15, 16, 17, 18, 19, 20, 21] (by decide +kernel) (by decide +kernel)
set_option maxRecDepth 20000 in
theorem gX8_findPairs_X8_mayBe : GoodIn wsX8_findPairs (wsV RX8 217 RX8 yX8_mayBe wsX8_mayBe) := goodIn_app (goodIn_of _ (by decide +kernel)) ggX8_findPairs_X8_mayBe
set_option maxRecDepth 20000 in
theorem ggX8_findPairs_X8_mostWith : GoodIn wsX8_findPairs wsX8_mostWith := goodIn_r _ [25, 1, 16, 17, 11, 18, 13, 14, 15, 26, 27, 28, 29, 30, 3, 31, 32, 33, 34, 35, 36, 37, 38, 39, 40, 41, 19, 20, 21, 42, 43, 44, 45, 46, 47, 48, 49, 50, 51, 52, 53, 54, 55, 56, 57, 58, 59, 60, 61, 62, 63, 64, 65, 66, 67, 68, 69, 70, 71, 72, 73, 74] (by decide +kernel) (by decide +kernel)
set_option maxRecDepth 20000 in
theorem gX8_findPairs_X8_mostWith : GoodIn wsX8_findPairs (wsV RX8 220 RX8 yX8_mostWith wsX8_mostWith) := goodIn_app (goodIn_of _ (by decide +kernel)) ggX8_findPairs_X8_mostWith
set_option maxRecDepth 20000 in
theorem ggX8_findPairs_X8_lowest : GoodIn wsX8_findPairs wsX8_lowest := goodIn_r _ [18, 13, 14, 11, 15] (by decide +kernel) (by decide +kernel)
set_option maxRecDepth 20000 in
theorem gX8_findPairs_X8_lowest : GoodIn wsX8_findPairs (va_wsS RX8 214 yX8_lowest wsX8_lowest) := goodIn_app (goodIn_of _ (by decide +kernel)) ggX8_findPairs_X8_lowest
theorem dX8_findPairs_0 : decode cX8_findPairs 0 = .ok (.aload_n 0, 1) := by decide +kernel
theorem dX8_findPairs_1 : decode cX8_findPairs 1 = .ok (.getfield 25, 3) := by decide +kernel
theorem dX8_findPairs_4 : decode cX8_findPairs 4 = .ok (.iconst 0, 1) := by decide +kernel
theorem dX8_findPairs_5 : decode cX8_findPairs 5 = .ok (.iconst 0, 1) := by decide +kernel
theorem dX8_findPairs_6 : decode cX8_findPairs 6 = .ok (.iastore, 1) := by decide +kernel
theorem dX8_findPairs_7 : decode cX8_findPairs 7 = .ok (.aload_n 0, 1) := by decide +kernel
theorem dX8_findPairs_8 : decode cX8_findPairs 8 = .ok (.getfield 28, 3) := by decide +kernel
theorem dX8_findPairs_11 : decode cX8_findPairs 11 = .ok (.iconst 0, 1) := by decide +kernel
theorem dX8_findPairs_12 : decode cX8_findPairs 12 = .ok (.iconst 1, 1) := by decide +kernel
theorem dX8_findPairs_13 : decode cX8_findPairs 13 = .ok (.iastore, 1) := by decide +kernel
theorem dX8_findPairs_14 : decode cX8_findPairs 14 = .ok (.iconst 1, 1) := by decide +kernel
theorem dX8_findPairs_15 : decode cX8_findPairs 15 = .ok (.istore_n 1, 1) := by decide +kernel
theorem dX8_findPairs_16 : decode cX8_findPairs 16 = .ok (.iload_n 1, 1) := by decide +kernel
theorem dX8_findPairs_17 : decode cX8_findPairs 17 = .ok (.iconst 1, 1) := by decide +kernel
theorem dX8_findPairs_18 : decode cX8_findPairs 18 = .ok (.aload_n 0, 1) := by decide +kernel
theorem dX8_findPairs_19 : decode cX8_findPairs 19 = .ok (.getfield 9, 3) := by decide +kernel
theorem dX8_findPairs_22 : decode cX8_findPairs 22 = .ok (.iconst 4, 1) := by decide +kernel
theorem dX8_findPairs_23 : decode cX8_findPairs 23 = .ok (.iaload, 1) := by decide +kernel
theorem dX8_findPairs_24 : decode cX8_findPairs 24 = .ok (.ishl, 1) := by decide +kernel
theorem dX8_findPairs_25 : decode cX8_findPairs 25 = .ok (.if_icmp .ge 145, 3) := by decide +kernel
theorem dX8_findPairs_28 : decode cX8_findPairs 28 = .ok (.aload_n 0, 1) := by decide +kernel
theorem dX8_findPairs_29 : decode cX8_findPairs 29 = .ok (.getfield 25, 3) := by decide +kernel
theorem dX8_findPairs_32 : decode cX8_findPairs 32 = .ok (.iload_n 1, 1) := by decide +kernel
theorem dX8_findPairs_33 : decode cX8_findPairs 33 = .ok (.iconst (-1), 1) := by decide +kernel
theorem dX8_findPairs_34 : decode cX8_findPairs 34 = .ok (.iastore, 1) := by decide +kernel
theorem dX8_findPairs_35 : decode cX8_findPairs 35 = .ok (.aload_n 0, 1) := by decide +kernel
theorem dX8_findPairs_36 : decode cX8_findPairs 36 = .ok (.getfield 28, 3) := by decide +kernel
theorem dX8_findPairs_39 : decode cX8_findPairs 39 = .ok (.iload_n 1, 1) := by decide +kernel
theorem dX8_findPairs_40 : decode cX8_findPairs 40 = .ok (.iconst 0, 1) := by decide +kernel
theorem dX8_findPairs_41 : decode cX8_findPairs 41 = .ok (.iastore, 1) := by decide +kernel
theorem dX8_findPairs_42 : decode cX8_findPairs 42 = .ok (.iconst 0, 1) := by decide +kernel
theorem dX8_findPairs_43 : decode cX8_findPairs 43 = .ok (.istore_n 2, 1) := by decide +kernel
theorem dX8_findPairs_44 : decode cX8_findPairs 44 = .ok (.iload_n 2, 1) := by decide +kernel
theorem dX8_findPairs_45 : decode cX8_findPairs 45 = .ok (.aload_n 0, 1) := by decide +kernel
theorem dX8_findPairs_46 : decode cX8_findPairs 46 = .ok (.getfield 9, 3) := by decide +kernel
theorem dX8_findPairs_49 : decode cX8_findPairs 49 = .ok (.iconst 4, 1) := by decide +kernel
theorem dX8_findPairs_50 : decode cX8_findPairs 50 = .ok (.iaload, 1) := by decide +kernel
theorem dX8_findPairs_51 : decode cX8_findPairs 51 = .ok (.if_icmp .ge 113, 3) := by decide +kernel
theorem dX8_findPairs_54 : decode cX8_findPairs 54 = .ok (.aload_n 0, 1) := by decide +kernel
theorem dX8_findPairs_55 : decode cX8_findPairs 55 = .ok (.iload_n 1, 1) := by decide +kernel
theorem dX8_findPairs_56 : decode cX8_findPairs 56 = .ok (.iload_n 2, 1) := by decide +kernel
theorem dX8_findPairs_57 : decode cX8_findPairs 57 = .ok (.invokevirtual 217, 3) := by decide +kernel
theorem dX8_findPairs_60 : decode cX8_findPairs 60 = .ok (.ifCond .eq 98, 3) := by decide +kernel
theorem dX8_findPairs_63 : decode cX8_findPairs 63 = .ok (.aload_n 0, 1) := by decide +kernel
theorem dX8_findPairs_64 : decode cX8_findPairs 64 = .ok (.iload_n 1, 1) := by decide +kernel
theorem dX8_findPairs_65 : decode cX8_findPairs 65 = .ok (.iload_n 2, 1) := by decide +kernel
theorem dX8_findPairs_66 : decode cX8_findPairs 66 = .ok (.invokevirtual 220, 3) := by decide +kernel
theorem dX8_findPairs_69 : decode cX8_findPairs 69 = .ok (.istore_n 3, 1) := by decide +kernel
theorem dX8_findPairs_70 : decode cX8_findPairs 70 = .ok (.aload_n 0, 1) := by decide +kernel
theorem dX8_findPairs_71 : decode cX8_findPairs 71 = .ok (.getfield 28, 3) := by decide +kernel
theorem dX8_findPairs_74 : decode cX8_findPairs 74 = .ok (.iload_n 1, 1) := by decide +kernel
theorem dX8_findPairs_75 : decode cX8_findPairs 75 = .ok (.iconst 1, 1) := by decide +kernel
theorem dX8_findPairs_76 : decode cX8_findPairs 76 = .ok (.iload_n 1, 1) := by decide +kernel
theorem dX8_findPairs_77 : decode cX8_findPairs 77 = .ok (.invokestatic 214, 3) := by decide +kernel
theorem dX8_findPairs_80 : decode cX8_findPairs 80 = .ok (.ishl, 1) := by decide +kernel
theorem dX8_findPairs_81 : decode cX8_findPairs 81 = .ok (.iconst (-1), 1) := by decide +kernel
theorem dX8_findPairs_82 : decode cX8_findPairs 82 = .ok (.ixor, 1) := by decide +kernel
theorem dX8_findPairs_83 : decode cX8_findPairs 83 = .ok (.iand, 1) := by decide +kernel
theorem dX8_findPairs_84 : decode cX8_findPairs 84 = .ok (.iconst 1, 1) := by decide +kernel
theorem dX8_findPairs_85 : decode cX8_findPairs 85 = .ok (.iload_n 2, 1) := by decide +kernel
theorem dX8_findPairs_86 : decode cX8_findPairs 86 = .ok (.ishl, 1) := by decide +kernel
theorem dX8_findPairs_87 : decode cX8_findPairs 87 = .ok (.iconst (-1), 1) := by decide +kernel
theorem dX8_findPairs_88 : decode cX8_findPairs 88 = .ok (.ixor, 1) := by decide +kernel
theorem dX8_findPairs_89 : decode cX8_findPairs 89 = .ok (.iand, 1) := by decide +kernel
theorem dX8_findPairs_90 : decode cX8_findPairs 90 = .ok (.iaload, 1) := by decide +kernel
theorem dX8_findPairs_91 : decode cX8_findPairs 91 = .ok (.istore 4, 2) := by decide +kernel
theorem dX8_findPairs_93 : decode cX8_findPairs 93 = .ok (.aload_n 0, 1) := by decide +kernel
theorem dX8_findPairs_94 : decode cX8_findPairs 94 = .ok (.getfield 28, 3) := by decide +kernel
theorem dX8_findPairs_97 : decode cX8_findPairs 97 = .ok (.iload_n 1, 1) := by decide +kernel
theorem dX8_findPairs_98 : decode cX8_findPairs 98 = .ok (.iload_n 3, 1) := by decide +kernel
theorem dX8_findPairs_99 : decode cX8_findPairs 99 = .ok (.aload_n 0, 1) := by decide +kernel
theorem dX8_findPairs_100 : decode cX8_findPairs 100 = .ok (.getfield 25, 3) := by decide +kernel
theorem dX8_findPairs_103 : decode cX8_findPairs 103 = .ok (.iload_n 1, 1) := by decide +kernel
theorem dX8_findPairs_104 : decode cX8_findPairs 104 = .ok (.iaload, 1) := by decide +kernel
theorem dX8_findPairs_105 : decode cX8_findPairs 105 = .ok (.if_icmp .le 8, 3) := by decide +kernel
theorem dX8_findPairs_108 : decode cX8_findPairs 108 = .ok (.iload 4, 2) := by decide +kernel
theorem dX8_findPairs_110 : decode cX8_findPairs 110 = .ok (.goto 31, 3) := by decide +kernel
theorem dX8_findPairs_113 : decode cX8_findPairs 113 = .ok (.iload_n 3, 1) := by decide +kernel
theorem dX8_findPairs_114 : decode cX8_findPairs 114 = .ok (.aload_n 0, 1) := by decide +kernel
theorem dX8_findPairs_115 : decode cX8_findPairs 115 = .ok (.getfield 25, 3) := by decide +kernel
theorem dX8_findPairs_118 : decode cX8_findPairs 118 = .ok (.iload_n 1, 1) := by decide +kernel
theorem dX8_findPairs_119 : decode cX8_findPairs 119 = .ok (.iaload, 1) := by decide +kernel
theorem dX8_findPairs_120 : decode cX8_findPairs 120 = .ok (.if_icmp .ne 15, 3) := by decide +kernel
theorem dX8_findPairs_123 : decode cX8_findPairs 123 = .ok (.aload_n 0, 1) := by decide +kernel
theorem dX8_findPairs_124 : decode cX8_findPairs 124 = .ok (.getfield 28, 3) := by decide +kernel
theorem dX8_findPairs_127 : decode cX8_findPairs 127 = .ok (.iload_n 1, 1) := by decide +kernel
theorem dX8_findPairs_128 : decode cX8_findPairs 128 = .ok (.iaload, 1) := by decide +kernel
theorem dX8_findPairs_129 : decode cX8_findPairs 129 = .ok (.iload 4, 2) := by decide +kernel
theorem dX8_findPairs_131 : decode cX8_findPairs 131 = .ok (.iadd, 1) := by decide +kernel
theorem dX8_findPairs_132 : decode cX8_findPairs 132 = .ok (.goto 9, 3) := by decide +kernel
theorem dX8_findPairs_135 : decode cX8_findPairs 135 = .ok (.aload_n 0, 1) := by decide +kernel
theorem dX8_findPairs_136 : decode cX8_findPairs 136 = .ok (.getfield 28, 3) := by decide +kernel
theorem dX8_findPairs_139 : decode cX8_findPairs 139 = .ok (.iload_n 1, 1) := by decide +kernel
theorem dX8_findPairs_140 : decode cX8_findPairs 140 = .ok (.iaload, 1) := by decide +kernel
theorem dX8_findPairs_141 : decode cX8_findPairs 141 = .ok (.iastore, 1) := by decide +kernel
theorem dX8_findPairs_142 : decode cX8_findPairs 142 = .ok (.aload_n 0, 1) := by decide +kernel
theorem dX8_findPairs_143 : decode cX8_findPairs 143 = .ok (.getfield 25, 3) := by decide +kernel
theorem dX8_findPairs_146 : decode cX8_findPairs 146 = .ok (.iload_n 1, 1) := by decide +kernel
theorem dX8_findPairs_147 : decode cX8_findPairs 147 = .ok (.aload_n 0, 1) := by decide +kernel
theorem dX8_findPairs_148 : decode cX8_findPairs 148 = .ok (.getfield 25, 3) := by decide +kernel
theorem dX8_findPairs_151 : decode cX8_findPairs 151 = .ok (.iload_n 1, 1) := by decide +kernel
theorem dX8_findPairs_152 : decode cX8_findPairs 152 = .ok (.iaload, 1) := by decide +kernel
theorem dX8_findPairs_153 : decode cX8_findPairs 153 = .ok (.iload_n 3, 1) := by decide +kernel
theorem dX8_findPairs_154 : decode cX8_findPairs 154 = .ok (.invokestatic 110, 3) := by decide +kernel
theorem dX8_findPairs_157 : decode cX8_findPairs 157 = .ok (.iastore, 1) := by decide +kernel
theorem dX8_findPairs_158 : decode cX8_findPairs 158 = .ok (.iinc 2 1, 3) := by decide +kernel
theorem dX8_findPairs_161 : decode cX8_findPairs 161 = .ok (.goto (-117), 3) := by decide +kernel
theorem dX8_findPairs_164 : decode cX8_findPairs 164 = .ok (.iinc 1 1, 3) := by decide +kernel
theorem dX8_findPairs_167 : decode cX8_findPairs 167 = .ok (.goto (-151), 3) := by decide +kernel
theorem dX8_findPairs_170 : decode cX8_findPairs 170 = .ok (.aload_n 0, 1) := by decide +kernel
theorem dX8_findPairs_171 : decode cX8_findPairs 171 = .ok (.getfield 25, 3) := by decide +kernel
theorem dX8_findPairs_174 : decode cX8_findPairs 174 = .ok (.iconst 1, 1) := by decide +kernel
theorem dX8_findPairs_175 : decode cX8_findPairs 175 = .ok (.aload_n 0, 1) := by decide +kernel
theorem dX8_findPairs_176 : decode cX8_findPairs 176 = .ok (.getfield 9, 3) := by decide +kernel
theorem dX8_findPairs_179 : decode cX8_findPairs 179 = .ok (.iconst 4, 1) := by decide +kernel
theorem dX8_findPairs_180 : decode cX8_findPairs 180 = .ok (.iaload, 1) := by decide +kernel
theorem dX8_findPairs_181 : decode cX8_findPairs 181 = .ok (.ishl, 1) := by decide +kernel
theorem dX8_findPairs_182 : decode cX8_findPairs 182 = .ok (.iconst 1, 1) := by decide +kernel
theorem dX8_findPairs_183 : decode cX8_findPairs 183 = .ok (.isub, 1) := by decide +kernel
theorem dX8_findPairs_184 : decode cX8_findPairs 184 = .ok (.iaload, 1) := by decide +kernel
theorem dX8_findPairs_185 : decode cX8_findPairs 185 = .ok (.ireturn, 1) := by decide +kernel
set_option maxRecDepth 20000 in
theorem ggX8_pairs_X8_findPairs : GoodIn wsX8_pairs wsX8_findPairs := goodIn_r _ [5, 6, 7, 8, 9, 10, 11, 12, 13, 14, 15, 4, 16, 17, 18, 19, 20, 21, 22, 23, 24, 25, 26, 27, 28, 29, 30, 31, 32, 33, 34, 35, 36, 37, 38, 39, 40, 41, 42, 43, 44, 45, 46, 47, 48, 49, 50, 51, 52, 53, 54, 55, 56, 57, 58, 59, 60, 61, 62, 63, 64, 65, 66, 67, 68, 69, 70, 71, 72, 73, 74, 75, 76, 77, 78] (by decide +kernel) (by decide +kernel)
set_option maxRecDepth 20000 in
theorem gX8_pairs_X8_findPairs : GoodIn wsX8_pairs (wsV RX8 223 RX8 yX8_findPairs wsX8_findPairs) := goodIn_app (goodIn_of _ (by decide +kernel)) ggX8_pairs_X8_findPairs
theorem dX8_pairs_0 : decode cX8_pairs 0 = .ok (.aload_n 0, 1) := by decide +kernel
theorem dX8_pairs_1 : decode cX8_pairs 1 = .ok (.invokevirtual 223, 3) := by decide +kernel
theorem dX8_pairs_4 : decode cX8_pairs 4 = .ok (.ireturn, 1) := by decide +kernel
set_option maxRecDepth 20000 in
theorem ggX8_mate_X8_isPerson : GoodIn wsX8_mate wsX8_isPerson := goodIn_r _ [8, 2, 9, 10, 7, 11, 63, 64, 65, 66, 67, 68, 69, 70, 71, 72, 73, 74, 75, 76, 77, 78, 79, 80, 81, 82, 83, 84, 85, 86, 87, 88, 89, 90, 91] (by decide +kernel) (by decide +kernel)
set_option maxRecDepth 20000 in
theorem gX8_mate_X8_isPerson : GoodIn wsX8_mate (wsV RX8 130 RX8 yX8_isPerson wsX8_isPerson) := goodIn_app (goodIn_of _ (by decide +kernel)) ggX8_mate_X8_isPerson
set_option maxRecDepth 20000 in
theorem ggX8_mate_X8_finding : GoodIn wsX8_mate wsX8_finding := goodIn_r _ [15, 16, 1, 63, 64, 65, 66, 67, 68, 69, 70, 71, 72, 73, 74, 75, 76, 77, 78, 79, 80, 81, 82, 83, 84, 85, 86, 87, 88, 89, 90, 91] (by decide +kernel) (by decide +kernel)
set_option maxRecDepth 20000 in
theorem gX8_mate_X8_finding : GoodIn wsX8_mate (wsV RX8 90 RX8 yX8_finding wsX8_finding) := goodIn_app (goodIn_of _ (by decide +kernel)) ggX8_mate_X8_finding
set_option maxRecDepth 20000 in
theorem ggX8_mate_X8_findPairs : GoodIn wsX8_mate wsX8_findPairs := goodIn_r _ [20, 3, 21, 2, 22, 23, 24, 25, 26, 27, 28, 7, 29, 30, 31, 32, 33, 34, 35, 36, 37, 38, 39, 40, 41, 42, 43, 44, 45, 46, 47, 48, 49, 50, 51, 52, 53, 54, 55, 56, 57, 58, 59, 60, 61, 62, 63, 64, 65, 66, 67, 68, 69, 70, 71, 72, 73, 74, 75, 76, 77, 78, 79, 80, 81, 82, 83, 84, 85, 86, 87, 88, 89, 90, 91] (by decide +kernel) (by decide +kernel)
set_option maxRecDepth 20000 in
theorem gX8_mate_X8_findPairs : GoodIn wsX8_mate (wsV RX8 223 RX8 yX8_findPairs wsX8_findPairs) := goodIn_app (goodIn_of _ (by decide +kernel)) ggX8_mate_X8_findPairs
set_option maxRecDepth 20000 in
theorem ggX8_mate_X8_lowest : GoodIn wsX8_mate wsX8_lowest := goodIn_r _ [35, 30, 31, 7, 32] (by decide +kernel) (by decide +kernel)
set_option maxRecDepth 20000 in
theorem gX8_mate_X8_lowest : GoodIn wsX8_mate (va_wsS RX8 214 yX8_lowest wsX8_lowest) := goodIn_app (goodIn_of _ (by decide +kernel)) ggX8_mate_X8_lowest
set_option maxRecDepth 20000 in
theorem ggX8_mate_X8_mayBe : GoodIn wsX8_mate wsX8_mayBe := goodIn_r _ [29, 30, 31, 7, 32, 33, 34, 35, 36, 37, 38] (by decide +kernel) (by decide +kernel)
set_option maxRecDepth 20000 in
theorem gX8_mate_X8_mayBe : GoodIn wsX8_mate (wsV RX8 217 RX8 yX8_mayBe wsX8_mayBe) := goodIn_app (goodIn_of _ (by decide +kernel)) ggX8_mate_X8_mayBe
set_option maxRecDepth 20000 in
theorem ggX8_mate_X8_mostWith : GoodIn wsX8_mate wsX8_mostWith := goodIn_r _ [42, 3, 33, 34, 7, 35, 30, 31, 32, 43, 44, 45, 46, 47, 2, 48, 49, 50, 51, 52, 53, 54, 55, 56, 57, 58, 36, 37, 38, 59, 60, 61, 62, 63, 64, 65, 66, 67, 68, 69, 70, 71, 72, 73, 74, 75, 76, 77, 78, 79, 80, 81, 82, 83, 84, 85, 86, 87, 88, 89, 90, 91] (by decide +kernel) (by decide +kernel)
set_option maxRecDepth 20000 in
theorem gX8_mate_X8_mostWith : GoodIn wsX8_mate (wsV RX8 220 RX8 yX8_mostWith wsX8_mostWith) := goodIn_app (goodIn_of _ (by decide +kernel)) ggX8_mate_X8_mostWith
theorem dX8_mate_0 : decode cX8_mate 0 = .ok (.aload_n 0, 1) := by decide +kernel
theorem dX8_mate_1 : decode cX8_mate 1 = .ok (.iload_n 1, 1) := by decide +kernel
theorem dX8_mate_2 : decode cX8_mate 2 = .ok (.invokevirtual 130, 3) := by decide +kernel
theorem dX8_mate_5 : decode cX8_mate 5 = .ok (.ifCond .ne 10, 3) := by decide +kernel
theorem dX8_mate_8 : decode cX8_mate 8 = .ok (.aload_n 0, 1) := by decide +kernel
theorem dX8_mate_9 : decode cX8_mate 9 = .ok (.ldc 73, 2) := by decide +kernel
theorem dX8_mate_11 : decode cX8_mate 11 = .ok (.invokevirtual 90, 3) := by decide +kernel
theorem dX8_mate_14 : decode cX8_mate 14 = .ok (.ireturn, 1) := by decide +kernel
theorem dX8_mate_15 : decode cX8_mate 15 = .ok (.aload_n 0, 1) := by decide +kernel
theorem dX8_mate_16 : decode cX8_mate 16 = .ok (.invokevirtual 223, 3) := by decide +kernel
theorem dX8_mate_19 : decode cX8_mate 19 = .ok (.ifCond .ge 7, 3) := by decide +kernel
theorem dX8_mate_22 : decode cX8_mate 22 = .ok (.iconst 0, 1) := by decide +kernel
theorem dX8_mate_23 : decode cX8_mate 23 = .ok (.goto 13, 3) := by decide +kernel
theorem dX8_mate_26 : decode cX8_mate 26 = .ok (.iconst 1, 1) := by decide +kernel
theorem dX8_mate_27 : decode cX8_mate 27 = .ok (.aload_n 0, 1) := by decide +kernel
theorem dX8_mate_28 : decode cX8_mate 28 = .ok (.getfield 9, 3) := by decide +kernel
theorem dX8_mate_31 : decode cX8_mate 31 = .ok (.iconst 4, 1) := by decide +kernel
theorem dX8_mate_32 : decode cX8_mate 32 = .ok (.iaload, 1) := by decide +kernel
theorem dX8_mate_33 : decode cX8_mate 33 = .ok (.ishl, 1) := by decide +kernel
theorem dX8_mate_34 : decode cX8_mate 34 = .ok (.iconst 1, 1) := by decide +kernel
theorem dX8_mate_35 : decode cX8_mate 35 = .ok (.isub, 1) := by decide +kernel
theorem dX8_mate_36 : decode cX8_mate 36 = .ok (.istore_n 2, 1) := by decide +kernel
theorem dX8_mate_37 : decode cX8_mate 37 = .ok (.bipush (-2), 2) := by decide +kernel
theorem dX8_mate_39 : decode cX8_mate 39 = .ok (.istore_n 3, 1) := by decide +kernel
theorem dX8_mate_40 : decode cX8_mate 40 = .ok (.iload_n 3, 1) := by decide +kernel
theorem dX8_mate_41 : decode cX8_mate 41 = .ok (.bipush (-2), 2) := by decide +kernel
theorem dX8_mate_43 : decode cX8_mate 43 = .ok (.if_icmp .ne 100, 3) := by decide +kernel
theorem dX8_mate_46 : decode cX8_mate 46 = .ok (.iload_n 2, 1) := by decide +kernel
theorem dX8_mate_47 : decode cX8_mate 47 = .ok (.invokestatic 214, 3) := by decide +kernel
theorem dX8_mate_50 : decode cX8_mate 50 = .ok (.istore 4, 2) := by decide +kernel
theorem dX8_mate_52 : decode cX8_mate 52 = .ok (.iload 4, 2) := by decide +kernel
theorem dX8_mate_54 : decode cX8_mate 54 = .ok (.istore 5, 2) := by decide +kernel
theorem dX8_mate_56 : decode cX8_mate 56 = .ok (.aload_n 0, 1) := by decide +kernel
theorem dX8_mate_57 : decode cX8_mate 57 = .ok (.iload_n 2, 1) := by decide +kernel
theorem dX8_mate_58 : decode cX8_mate 58 = .ok (.iload 5, 2) := by decide +kernel
theorem dX8_mate_60 : decode cX8_mate 60 = .ok (.invokevirtual 217, 3) := by decide +kernel
theorem dX8_mate_63 : decode cX8_mate 63 = .ok (.ifCond .eq 19, 3) := by decide +kernel
theorem dX8_mate_66 : decode cX8_mate 66 = .ok (.aload_n 0, 1) := by decide +kernel
theorem dX8_mate_67 : decode cX8_mate 67 = .ok (.iload_n 2, 1) := by decide +kernel
theorem dX8_mate_68 : decode cX8_mate 68 = .ok (.iload 5, 2) := by decide +kernel
theorem dX8_mate_70 : decode cX8_mate 70 = .ok (.invokevirtual 220, 3) := by decide +kernel
theorem dX8_mate_73 : decode cX8_mate 73 = .ok (.aload_n 0, 1) := by decide +kernel
theorem dX8_mate_74 : decode cX8_mate 74 = .ok (.getfield 25, 3) := by decide +kernel
theorem dX8_mate_77 : decode cX8_mate 77 = .ok (.iload_n 2, 1) := by decide +kernel
theorem dX8_mate_78 : decode cX8_mate 78 = .ok (.iaload, 1) := by decide +kernel
theorem dX8_mate_79 : decode cX8_mate 79 = .ok (.if_icmp .eq 9, 3) := by decide +kernel
theorem dX8_mate_82 : decode cX8_mate 82 = .ok (.iinc 5 1, 3) := by decide +kernel
theorem dX8_mate_85 : decode cX8_mate 85 = .ok (.goto (-29), 3) := by decide +kernel
theorem dX8_mate_88 : decode cX8_mate 88 = .ok (.iload 4, 2) := by decide +kernel
theorem dX8_mate_90 : decode cX8_mate 90 = .ok (.iload_n 1, 1) := by decide +kernel
theorem dX8_mate_91 : decode cX8_mate 91 = .ok (.if_icmp .ne 19, 3) := by decide +kernel
theorem dX8_mate_94 : decode cX8_mate 94 = .ok (.iload 5, 2) := by decide +kernel
theorem dX8_mate_96 : decode cX8_mate 96 = .ok (.iload 4, 2) := by decide +kernel
theorem dX8_mate_98 : decode cX8_mate 98 = .ok (.if_icmp .ne 7, 3) := by decide +kernel
theorem dX8_mate_101 : decode cX8_mate 101 = .ok (.iconst (-1), 1) := by decide +kernel
theorem dX8_mate_102 : decode cX8_mate 102 = .ok (.goto 21, 3) := by decide +kernel
theorem dX8_mate_105 : decode cX8_mate 105 = .ok (.iload 5, 2) := by decide +kernel
theorem dX8_mate_107 : decode cX8_mate 107 = .ok (.goto 16, 3) := by decide +kernel
theorem dX8_mate_110 : decode cX8_mate 110 = .ok (.iload 5, 2) := by decide +kernel
theorem dX8_mate_112 : decode cX8_mate 112 = .ok (.iload_n 1, 1) := by decide +kernel
theorem dX8_mate_113 : decode cX8_mate 113 = .ok (.if_icmp .ne 8, 3) := by decide +kernel
theorem dX8_mate_116 : decode cX8_mate 116 = .ok (.iload 4, 2) := by decide +kernel
theorem dX8_mate_118 : decode cX8_mate 118 = .ok (.goto 5, 3) := by decide +kernel
theorem dX8_mate_121 : decode cX8_mate 121 = .ok (.bipush (-2), 2) := by decide +kernel
theorem dX8_mate_123 : decode cX8_mate 123 = .ok (.istore_n 3, 1) := by decide +kernel
theorem dX8_mate_124 : decode cX8_mate 124 = .ok (.iload_n 2, 1) := by decide +kernel
theorem dX8_mate_125 : decode cX8_mate 125 = .ok (.iconst 1, 1) := by decide +kernel
theorem dX8_mate_126 : decode cX8_mate 126 = .ok (.iload 4, 2) := by decide +kernel
theorem dX8_mate_128 : decode cX8_mate 128 = .ok (.ishl, 1) := by decide +kernel
theorem dX8_mate_129 : decode cX8_mate 129 = .ok (.iconst (-1), 1) := by decide +kernel
theorem dX8_mate_130 : decode cX8_mate 130 = .ok (.ixor, 1) := by decide +kernel
theorem dX8_mate_131 : decode cX8_mate 131 = .ok (.iconst 1, 1) := by decide +kernel
theorem dX8_mate_132 : decode cX8_mate 132 = .ok (.iload 5, 2) := by decide +kernel
theorem dX8_mate_134 : decode cX8_mate 134 = .ok (.ishl, 1) := by decide +kernel
theorem dX8_mate_135 : decode cX8_mate 135 = .ok (.iconst (-1), 1) := by decide +kernel
theorem dX8_mate_136 : decode cX8_mate 136 = .ok (.ixor, 1) := by decide +kernel
theorem dX8_mate_137 : decode cX8_mate 137 = .ok (.iand, 1) := by decide +kernel
theorem dX8_mate_138 : decode cX8_mate 138 = .ok (.iand, 1) := by decide +kernel
theorem dX8_mate_139 : decode cX8_mate 139 = .ok (.istore_n 2, 1) := by decide +kernel
theorem dX8_mate_140 : decode cX8_mate 140 = .ok (.goto (-100), 3) := by decide +kernel
theorem dX8_mate_143 : decode cX8_mate 143 = .ok (.iload_n 3, 1) := by decide +kernel
theorem dX8_mate_144 : decode cX8_mate 144 = .ok (.ireturn, 1) := by decide +kernel
set_option maxRecDepth 20000 in
theorem ggX8_ways_X8_findPairs : GoodIn wsX8_ways wsX8_findPairs := goodIn_r _ [7, 8, 1, 2, 9, 10, 11, 12, 13, 14, 15, 6, 16, 17, 18, 19, 20, 21, 22, 23, 24, 25, 26, 27, 28, 29, 30, 31, 32, 33, 34, 35, 36, 37, 38, 39, 40, 41, 42, 43, 44, 45, 46, 47, 48, 49, 50, 51, 52, 53, 54, 55, 56, 57, 58, 59, 60, 61, 62, 63, 64, 65, 66, 67, 68, 69, 70, 71, 72, 73, 74, 75, 76, 77, 78] (by decide +kernel) (by decide +kernel)
set_option maxRecDepth 20000 in
theorem gX8_ways_X8_findPairs : GoodIn wsX8_ways (wsV RX8 223 RX8 yX8_findPairs wsX8_findPairs) := goodIn_app (goodIn_of _ (by decide +kernel)) ggX8_ways_X8_findPairs
theorem dX8_ways_0 : decode cX8_ways 0 = .ok (.aload_n 0, 1) := by decide +kernel
theorem dX8_ways_1 : decode cX8_ways 1 = .ok (.invokevirtual 223, 3) := by decide +kernel
theorem dX8_ways_4 : decode cX8_ways 4 = .ok (.ifCond .ge 7, 3) := by decide +kernel
theorem dX8_ways_7 : decode cX8_ways 7 = .ok (.iconst 0, 1) := by decide +kernel
theorem dX8_ways_8 : decode cX8_ways 8 = .ok (.goto 18, 3) := by decide +kernel
theorem dX8_ways_11 : decode cX8_ways 11 = .ok (.aload_n 0, 1) := by decide +kernel
theorem dX8_ways_12 : decode cX8_ways 12 = .ok (.getfield 28, 3) := by decide +kernel
theorem dX8_ways_15 : decode cX8_ways 15 = .ok (.iconst 1, 1) := by decide +kernel
theorem dX8_ways_16 : decode cX8_ways 16 = .ok (.aload_n 0, 1) := by decide +kernel
theorem dX8_ways_17 : decode cX8_ways 17 = .ok (.getfield 9, 3) := by decide +kernel
theorem dX8_ways_20 : decode cX8_ways 20 = .ok (.iconst 4, 1) := by decide +kernel
theorem dX8_ways_21 : decode cX8_ways 21 = .ok (.iaload, 1) := by decide +kernel
theorem dX8_ways_22 : decode cX8_ways 22 = .ok (.ishl, 1) := by decide +kernel
theorem dX8_ways_23 : decode cX8_ways 23 = .ok (.iconst 1, 1) := by decide +kernel
theorem dX8_ways_24 : decode cX8_ways 24 = .ok (.isub, 1) := by decide +kernel
theorem dX8_ways_25 : decode cX8_ways 25 = .ok (.iaload, 1) := by decide +kernel
theorem dX8_ways_26 : decode cX8_ways 26 = .ok (.ireturn, 1) := by decide +kernel
set_option maxRecDepth 20000 in
theorem ggX8_wouldBreak_X8_heldByLess : GoodIn wsX8_wouldBreak wsX8_heldByLess := goodIn_r _ [7, 1, 8, 9, 10, 11, 6, 12, 13, 14, 15, 16, 17, 18, 19, 20, 21, 22, 23, 24, 25, 26, 27, 28, 29, 30, 31, 32, 33, 34, 35, 36, 37, 38, 39, 90, 91, 92, 93, 94, 95, 96, 97, 98, 99, 100, 101, 102, 103, 104, 105, 106, 107, 108, 109, 110, 111, 112, 113, 114, 115, 116, 117, 118] (by decide +kernel) (by decide +kernel)
set_option maxRecDepth 20000 in
theorem gX8_wouldBreak_X8_heldByLess : GoodIn wsX8_wouldBreak (wsV RX8 211 RX8 yX8_heldByLess wsX8_heldByLess) := goodIn_app (goodIn_of _ (by decide +kernel)) ggX8_wouldBreak_X8_heldByLess
set_option maxRecDepth 20000 in
theorem ggX8_wouldBreak_X8_restHours : GoodIn wsX8_wouldBreak wsX8_restHours := goodIn_r _ [43, 44, 1, 90, 91, 92, 93, 94, 95, 96, 97, 98, 99, 100, 101, 102, 103, 104, 105, 106, 107, 108, 109, 110, 111, 112, 113, 114, 115, 116, 117, 118] (by decide +kernel) (by decide +kernel)
set_option maxRecDepth 20000 in
theorem gX8_wouldBreak_X8_restHours : GoodIn wsX8_wouldBreak (wsV RX8 184 RX8 yX8_restHours wsX8_restHours) := goodIn_app (goodIn_of _ (by decide +kernel)) ggX8_wouldBreak_X8_restHours
set_option maxRecDepth 20000 in
theorem ggX8_wouldBreak_X8_findRest : GoodIn wsX8_wouldBreak wsX8_findRest := goodIn_r _ [48, 1, 49, 50, 51, 52, 2, 53, 54, 6, 55, 56, 57, 58, 59, 60, 61, 62, 63, 29, 30, 31, 32, 33, 34, 35, 18, 19, 20, 21, 22, 23, 24, 64, 65, 66, 67, 14, 15, 16, 17, 68, 69, 70, 71, 72, 73, 74, 75, 76, 77, 78, 79, 80, 81, 82, 83, 84, 85, 90, 91, 92, 93, 94, 95, 96, 97, 98, 99, 100, 101, 102, 103, 104, 105, 106, 107, 108, 109, 110, 111, 112, 113, 114, 115, 116, 117, 118] (by decide +kernel) (by decide +kernel)
set_option maxRecDepth 20000 in
theorem gX8_wouldBreak_X8_findRest : GoodIn wsX8_wouldBreak (wsV RX8 179 RX8 yX8_findRest wsX8_findRest) := goodIn_app (goodIn_of _ (by decide +kernel)) ggX8_wouldBreak_X8_findRest
set_option maxRecDepth 20000 in
theorem ggX8_wouldBreak_X8_needsIn : GoodIn wsX8_wouldBreak wsX8_needsIn := goodIn_r _ [89, 29, 30, 31, 6, 32, 1, 33, 34, 35, 83, 84, 85, 90, 91, 92, 93, 94, 95, 96, 97, 98, 99, 100, 101, 102, 103, 104, 105, 106, 107, 108, 109, 110, 111, 112, 113, 114, 115, 116, 117, 118] (by decide +kernel) (by decide +kernel)
set_option maxRecDepth 20000 in
theorem gX8_wouldBreak_X8_needsIn : GoodIn wsX8_wouldBreak (wsV RX8 202 RX8 yX8_needsIn wsX8_needsIn) := goodIn_app (goodIn_of _ (by decide +kernel)) ggX8_wouldBreak_X8_needsIn
theorem dX8_wouldBreak_0 : decode cX8_wouldBreak 0 = .ok (.aload_n 0, 1) := by decide +kernel
theorem dX8_wouldBreak_1 : decode cX8_wouldBreak 1 = .ok (.iload_n 1, 1) := by decide +kernel
theorem dX8_wouldBreak_2 : decode cX8_wouldBreak 2 = .ok (.iload_n 2, 1) := by decide +kernel
theorem dX8_wouldBreak_3 : decode cX8_wouldBreak 3 = .ok (.invokevirtual 211, 3) := by decide +kernel
theorem dX8_wouldBreak_6 : decode cX8_wouldBreak 6 = .ok (.istore_n 3, 1) := by decide +kernel
theorem dX8_wouldBreak_7 : decode cX8_wouldBreak 7 = .ok (.aload_n 0, 1) := by decide +kernel
theorem dX8_wouldBreak_8 : decode cX8_wouldBreak 8 = .ok (.invokevirtual 184, 3) := by decide +kernel
theorem dX8_wouldBreak_11 : decode cX8_wouldBreak 11 = .ok (.aload_n 0, 1) := by decide +kernel
theorem dX8_wouldBreak_12 : decode cX8_wouldBreak 12 = .ok (.getfield 9, 3) := by decide +kernel
theorem dX8_wouldBreak_15 : decode cX8_wouldBreak 15 = .ok (.iconst 3, 1) := by decide +kernel
theorem dX8_wouldBreak_16 : decode cX8_wouldBreak 16 = .ok (.iaload, 1) := by decide +kernel
theorem dX8_wouldBreak_17 : decode cX8_wouldBreak 17 = .ok (.iand, 1) := by decide +kernel
theorem dX8_wouldBreak_18 : decode cX8_wouldBreak 18 = .ok (.istore 4, 2) := by decide +kernel
theorem dX8_wouldBreak_20 : decode cX8_wouldBreak 20 = .ok (.aload_n 0, 1) := by decide +kernel
theorem dX8_wouldBreak_21 : decode cX8_wouldBreak 21 = .ok (.invokevirtual 184, 3) := by decide +kernel
theorem dX8_wouldBreak_24 : decode cX8_wouldBreak 24 = .ok (.aload_n 0, 1) := by decide +kernel
theorem dX8_wouldBreak_25 : decode cX8_wouldBreak 25 = .ok (.getfield 9, 3) := by decide +kernel
theorem dX8_wouldBreak_28 : decode cX8_wouldBreak 28 = .ok (.iconst 3, 1) := by decide +kernel
theorem dX8_wouldBreak_29 : decode cX8_wouldBreak 29 = .ok (.iaload, 1) := by decide +kernel
theorem dX8_wouldBreak_30 : decode cX8_wouldBreak 30 = .ok (.iconst (-1), 1) := by decide +kernel
theorem dX8_wouldBreak_31 : decode cX8_wouldBreak 31 = .ok (.ixor, 1) := by decide +kernel
theorem dX8_wouldBreak_32 : decode cX8_wouldBreak 32 = .ok (.iand, 1) := by decide +kernel
theorem dX8_wouldBreak_33 : decode cX8_wouldBreak 33 = .ok (.istore 5, 2) := by decide +kernel
theorem dX8_wouldBreak_35 : decode cX8_wouldBreak 35 = .ok (.aload_n 0, 1) := by decide +kernel
theorem dX8_wouldBreak_36 : decode cX8_wouldBreak 36 = .ok (.iload_n 1, 1) := by decide +kernel
theorem dX8_wouldBreak_37 : decode cX8_wouldBreak 37 = .ok (.invokevirtual 179, 3) := by decide +kernel
theorem dX8_wouldBreak_40 : decode cX8_wouldBreak 40 = .ok (.aload_n 0, 1) := by decide +kernel
theorem dX8_wouldBreak_41 : decode cX8_wouldBreak 41 = .ok (.iload_n 1, 1) := by decide +kernel
theorem dX8_wouldBreak_42 : decode cX8_wouldBreak 42 = .ok (.iload_n 3, 1) := by decide +kernel
theorem dX8_wouldBreak_43 : decode cX8_wouldBreak 43 = .ok (.iload 5, 2) := by decide +kernel
theorem dX8_wouldBreak_45 : decode cX8_wouldBreak 45 = .ok (.ior, 1) := by decide +kernel
theorem dX8_wouldBreak_46 : decode cX8_wouldBreak 46 = .ok (.invokevirtual 202, 3) := by decide +kernel
theorem dX8_wouldBreak_49 : decode cX8_wouldBreak 49 = .ok (.aload_n 0, 1) := by decide +kernel
theorem dX8_wouldBreak_50 : decode cX8_wouldBreak 50 = .ok (.getfield 176, 3) := by decide +kernel
theorem dX8_wouldBreak_53 : decode cX8_wouldBreak 53 = .ok (.if_icmp .le 7, 3) := by decide +kernel
theorem dX8_wouldBreak_56 : decode cX8_wouldBreak 56 = .ok (.iconst 1, 1) := by decide +kernel
theorem dX8_wouldBreak_57 : decode cX8_wouldBreak 57 = .ok (.goto 4, 3) := by decide +kernel
theorem dX8_wouldBreak_60 : decode cX8_wouldBreak 60 = .ok (.iconst 0, 1) := by decide +kernel
theorem dX8_wouldBreak_61 : decode cX8_wouldBreak 61 = .ok (.istore 6, 2) := by decide +kernel
theorem dX8_wouldBreak_63 : decode cX8_wouldBreak 63 = .ok (.aload_n 0, 1) := by decide +kernel
theorem dX8_wouldBreak_64 : decode cX8_wouldBreak 64 = .ok (.iload_n 2, 1) := by decide +kernel
theorem dX8_wouldBreak_65 : decode cX8_wouldBreak 65 = .ok (.invokevirtual 179, 3) := by decide +kernel
theorem dX8_wouldBreak_68 : decode cX8_wouldBreak 68 = .ok (.iload 6, 2) := by decide +kernel
theorem dX8_wouldBreak_70 : decode cX8_wouldBreak 70 = .ok (.ifCond .eq 28, 3) := by decide +kernel
theorem dX8_wouldBreak_73 : decode cX8_wouldBreak 73 = .ok (.aload_n 0, 1) := by decide +kernel
theorem dX8_wouldBreak_74 : decode cX8_wouldBreak 74 = .ok (.iload_n 2, 1) := by decide +kernel
theorem dX8_wouldBreak_75 : decode cX8_wouldBreak 75 = .ok (.iload 4, 2) := by decide +kernel
theorem dX8_wouldBreak_77 : decode cX8_wouldBreak 77 = .ok (.iload_n 3, 1) := by decide +kernel
theorem dX8_wouldBreak_78 : decode cX8_wouldBreak 78 = .ok (.iconst (-1), 1) := by decide +kernel
theorem dX8_wouldBreak_79 : decode cX8_wouldBreak 79 = .ok (.ixor, 1) := by decide +kernel
theorem dX8_wouldBreak_80 : decode cX8_wouldBreak 80 = .ok (.iand, 1) := by decide +kernel
theorem dX8_wouldBreak_81 : decode cX8_wouldBreak 81 = .ok (.iload 5, 2) := by decide +kernel
theorem dX8_wouldBreak_83 : decode cX8_wouldBreak 83 = .ok (.ior, 1) := by decide +kernel
theorem dX8_wouldBreak_84 : decode cX8_wouldBreak 84 = .ok (.invokevirtual 202, 3) := by decide +kernel
theorem dX8_wouldBreak_87 : decode cX8_wouldBreak 87 = .ok (.aload_n 0, 1) := by decide +kernel
theorem dX8_wouldBreak_88 : decode cX8_wouldBreak 88 = .ok (.getfield 176, 3) := by decide +kernel
theorem dX8_wouldBreak_91 : decode cX8_wouldBreak 91 = .ok (.if_icmp .le 7, 3) := by decide +kernel
theorem dX8_wouldBreak_94 : decode cX8_wouldBreak 94 = .ok (.iconst 1, 1) := by decide +kernel
theorem dX8_wouldBreak_95 : decode cX8_wouldBreak 95 = .ok (.goto 4, 3) := by decide +kernel
theorem dX8_wouldBreak_98 : decode cX8_wouldBreak 98 = .ok (.iconst 0, 1) := by decide +kernel
theorem dX8_wouldBreak_99 : decode cX8_wouldBreak 99 = .ok (.ireturn, 1) := by decide +kernel
set_option maxRecDepth 20000 in
theorem ggX8_broken_X8_personIs : GoodIn wsX8_broken wsX8_personIs := goodIn_r _ [7, 1, 8, 9, 6, 10, 101, 102, 103, 104, 105, 106, 107, 108, 109, 110, 111, 112, 113, 114, 115, 116, 117, 118, 119, 120, 121, 122, 123, 124, 125, 126, 127, 128, 129] (by decide +kernel) (by decide +kernel)
set_option maxRecDepth 20000 in
theorem gX8_broken_X8_personIs : GoodIn wsX8_broken (wsV RX8 102 RX8 yX8_personIs wsX8_personIs) := goodIn_app (goodIn_of _ (by decide +kernel)) ggX8_broken_X8_personIs
set_option maxRecDepth 20000 in
theorem ggX8_broken_X8_wouldBreak : GoodIn wsX8_broken wsX8_wouldBreak := goodIn_r _ [14, 1, 15, 16, 17, 18, 6, 19, 20, 21, 22, 23, 24, 25, 26, 27, 28, 29, 30, 31, 32, 33, 34, 35, 36, 37, 38, 39, 40, 3, 4, 5, 7, 8, 9, 10, 41, 42, 43, 44, 45, 46, 47, 48, 49, 50, 51, 52, 53, 54, 55, 56, 57, 58, 59, 60, 61, 62, 63, 64, 65, 66, 67, 68, 69, 70, 71, 72, 73, 74, 75, 76, 77, 78, 79, 80, 81, 82, 83, 84, 85, 86, 87, 88, 89, 90, 91, 92, 93, 94, 101, 102, 103, 104, 105, 106, 107, 108, 109, 110, 111, 112, 113, 114, 115, 116, 117, 118, 119, 120, 121, 122, 123, 124, 125, 126, 127, 128, 129] (by decide +kernel) (by decide +kernel)
set_option maxRecDepth 20000 in
theorem gX8_broken_X8_wouldBreak : GoodIn wsX8_broken (wsV RX8 226 RX8 yX8_wouldBreak wsX8_wouldBreak) := goodIn_app (goodIn_of _ (by decide +kernel)) ggX8_broken_X8_wouldBreak
set_option maxRecDepth 20000 in
theorem ggX8_broken_X8_finding : GoodIn wsX8_broken wsX8_finding := goodIn_r _ [98, 99, 100, 101, 102, 103, 104, 105, 106, 107, 108, 109, 110, 111, 112, 113, 114, 115, 116, 117, 118, 119, 120, 121, 122, 123, 124, 125, 126, 127, 128, 129] (by decide +kernel) (by decide +kernel)
set_option maxRecDepth 20000 in
theorem gX8_broken_X8_finding : GoodIn wsX8_broken (wsV RX8 90 RX8 yX8_finding wsX8_finding) := goodIn_app (goodIn_of _ (by decide +kernel)) ggX8_broken_X8_finding
theorem dX8_broken_0 : decode cX8_broken 0 = .ok (.iconst (-1), 1) := by decide +kernel
theorem dX8_broken_1 : decode cX8_broken 1 = .ok (.istore_n 1, 1) := by decide +kernel
theorem dX8_broken_2 : decode cX8_broken 2 = .ok (.iconst 0, 1) := by decide +kernel
theorem dX8_broken_3 : decode cX8_broken 3 = .ok (.istore_n 2, 1) := by decide +kernel
theorem dX8_broken_4 : decode cX8_broken 4 = .ok (.iload_n 2, 1) := by decide +kernel
theorem dX8_broken_5 : decode cX8_broken 5 = .ok (.aload_n 0, 1) := by decide +kernel
theorem dX8_broken_6 : decode cX8_broken 6 = .ok (.getfield 9, 3) := by decide +kernel
theorem dX8_broken_9 : decode cX8_broken 9 = .ok (.iconst 4, 1) := by decide +kernel
theorem dX8_broken_10 : decode cX8_broken 10 = .ok (.iaload, 1) := by decide +kernel
theorem dX8_broken_11 : decode cX8_broken 11 = .ok (.if_icmp .ge 63, 3) := by decide +kernel
theorem dX8_broken_14 : decode cX8_broken 14 = .ok (.iload_n 2, 1) := by decide +kernel
theorem dX8_broken_15 : decode cX8_broken 15 = .ok (.iconst 1, 1) := by decide +kernel
theorem dX8_broken_16 : decode cX8_broken 16 = .ok (.iadd, 1) := by decide +kernel
theorem dX8_broken_17 : decode cX8_broken 17 = .ok (.istore_n 3, 1) := by decide +kernel
theorem dX8_broken_18 : decode cX8_broken 18 = .ok (.iload_n 3, 1) := by decide +kernel
theorem dX8_broken_19 : decode cX8_broken 19 = .ok (.aload_n 0, 1) := by decide +kernel
theorem dX8_broken_20 : decode cX8_broken 20 = .ok (.getfield 9, 3) := by decide +kernel
theorem dX8_broken_23 : decode cX8_broken 23 = .ok (.iconst 4, 1) := by decide +kernel
theorem dX8_broken_24 : decode cX8_broken 24 = .ok (.iaload, 1) := by decide +kernel
theorem dX8_broken_25 : decode cX8_broken 25 = .ok (.if_icmp .ge 43, 3) := by decide +kernel
theorem dX8_broken_28 : decode cX8_broken 28 = .ok (.iload_n 1, 1) := by decide +kernel
theorem dX8_broken_29 : decode cX8_broken 29 = .ok (.ifCond .ge 39, 3) := by decide +kernel
theorem dX8_broken_32 : decode cX8_broken 32 = .ok (.aload_n 0, 1) := by decide +kernel
theorem dX8_broken_33 : decode cX8_broken 33 = .ok (.iload_n 2, 1) := by decide +kernel
theorem dX8_broken_34 : decode cX8_broken 34 = .ok (.iconst 4, 1) := by decide +kernel
theorem dX8_broken_35 : decode cX8_broken 35 = .ok (.invokevirtual 102, 3) := by decide +kernel
theorem dX8_broken_38 : decode cX8_broken 38 = .ok (.iload_n 3, 1) := by decide +kernel
theorem dX8_broken_39 : decode cX8_broken 39 = .ok (.if_icmp .eq 21, 3) := by decide +kernel
theorem dX8_broken_42 : decode cX8_broken 42 = .ok (.aload_n 0, 1) := by decide +kernel
theorem dX8_broken_43 : decode cX8_broken 43 = .ok (.iload_n 2, 1) := by decide +kernel
theorem dX8_broken_44 : decode cX8_broken 44 = .ok (.iload_n 3, 1) := by decide +kernel
theorem dX8_broken_45 : decode cX8_broken 45 = .ok (.invokevirtual 226, 3) := by decide +kernel
theorem dX8_broken_48 : decode cX8_broken 48 = .ok (.ifCond .eq 12, 3) := by decide +kernel
theorem dX8_broken_51 : decode cX8_broken 51 = .ok (.bipush 10, 2) := by decide +kernel
theorem dX8_broken_53 : decode cX8_broken 53 = .ok (.iload_n 2, 1) := by decide +kernel
theorem dX8_broken_54 : decode cX8_broken 54 = .ok (.imul, 1) := by decide +kernel
theorem dX8_broken_55 : decode cX8_broken 55 = .ok (.iload_n 3, 1) := by decide +kernel
theorem dX8_broken_56 : decode cX8_broken 56 = .ok (.iadd, 1) := by decide +kernel
theorem dX8_broken_57 : decode cX8_broken 57 = .ok (.goto 4, 3) := by decide +kernel
theorem dX8_broken_60 : decode cX8_broken 60 = .ok (.iconst (-1), 1) := by decide +kernel
theorem dX8_broken_61 : decode cX8_broken 61 = .ok (.istore_n 1, 1) := by decide +kernel
theorem dX8_broken_62 : decode cX8_broken 62 = .ok (.iinc 3 1, 3) := by decide +kernel
theorem dX8_broken_65 : decode cX8_broken 65 = .ok (.goto (-47), 3) := by decide +kernel
theorem dX8_broken_68 : decode cX8_broken 68 = .ok (.iinc 2 1, 3) := by decide +kernel
theorem dX8_broken_71 : decode cX8_broken 71 = .ok (.goto (-67), 3) := by decide +kernel
theorem dX8_broken_74 : decode cX8_broken 74 = .ok (.iload_n 1, 1) := by decide +kernel
theorem dX8_broken_75 : decode cX8_broken 75 = .ok (.ifCond .ge 12, 3) := by decide +kernel
theorem dX8_broken_78 : decode cX8_broken 78 = .ok (.aload_n 0, 1) := by decide +kernel
theorem dX8_broken_79 : decode cX8_broken 79 = .ok (.ldc 152, 2) := by decide +kernel
theorem dX8_broken_81 : decode cX8_broken 81 = .ok (.invokevirtual 90, 3) := by decide +kernel
theorem dX8_broken_84 : decode cX8_broken 84 = .ok (.goto 4, 3) := by decide +kernel
theorem dX8_broken_87 : decode cX8_broken 87 = .ok (.iload_n 1, 1) := by decide +kernel
theorem dX8_broken_88 : decode cX8_broken 88 = .ok (.ireturn, 1) := by decide +kernel
set_option maxRecDepth 20000 in
theorem ggX8_isSeen_X8_copyRow : GoodIn wsX8_isSeen wsX8_copyRow := goodIn_r _ [8] (by decide +kernel) (by decide +kernel)
set_option maxRecDepth 20000 in
theorem gX8_isSeen_X8_copyRow : GoodIn wsX8_isSeen (va_wsS RX8 74 yX8_copyRow wsX8_copyRow) := goodIn_app (goodIn_of _ (by decide +kernel)) ggX8_isSeen_X8_copyRow
set_option maxRecDepth 20000 in
theorem ggX8_isSeen_X8_isOver : GoodIn wsX8_isSeen wsX8_isOver := goodIn_r _ [12, 1, 54, 55, 56, 57, 58, 59, 60, 61, 62, 63, 64, 65, 66, 67, 68, 69, 70, 71, 72, 73, 74, 75, 76, 77, 78, 79, 80, 81, 82] (by decide +kernel) (by decide +kernel)
set_option maxRecDepth 20000 in
theorem gX8_isSeen_X8_isOver : GoodIn wsX8_isSeen (wsV RX8 133 RX8 yX8_isOver wsX8_isOver) := goodIn_app (goodIn_of _ (by decide +kernel)) ggX8_isSeen_X8_isOver
set_option maxRecDepth 20000 in
theorem ggX8_isSeen_X8_whoHave : GoodIn wsX8_isSeen wsX8_whoHave := goodIn_r _ [16, 1, 17, 18, 19, 7, 20, 21, 22, 23, 24, 25, 26, 27, 28, 29, 30, 31, 32, 33, 34, 35, 36, 37, 38, 39, 40, 41, 42, 43, 44, 45, 46, 47, 48, 49, 54, 55, 56, 57, 58, 59, 60, 61, 62, 63, 64, 65, 66, 67, 68, 69, 70, 71, 72, 73, 74, 75, 76, 77, 78, 79, 80, 81, 82] (by decide +kernel) (by decide +kernel)
set_option maxRecDepth 20000 in
theorem gX8_isSeen_X8_whoHave : GoodIn wsX8_isSeen (wsV RX8 153 RX8 yX8_whoHave wsX8_whoHave) := goodIn_app (goodIn_of _ (by decide +kernel)) ggX8_isSeen_X8_whoHave
set_option maxRecDepth 20000 in
theorem ggX8_isSeen_X8_hour : GoodIn wsX8_isSeen wsX8_hour := goodIn_r _ [53, 1, 43, 44, 41, 45, 39, 40, 42, 13, 14, 15, 7, 16, 17, 18, 19, 20, 21, 22, 23, 24, 25, 26, 27, 28, 29, 30, 31, 32, 33, 34, 35, 36, 37, 38, 46, 47, 48, 49, 54, 55, 56, 57, 58, 59, 60, 61, 62, 63, 64, 65, 66, 67, 68, 69, 70, 71, 72, 73, 74, 75, 76, 77, 78, 79, 80, 81, 82] (by decide +kernel) (by decide +kernel)
set_option maxRecDepth 20000 in
theorem gX8_isSeen_X8_hour : GoodIn wsX8_isSeen (wsV RX8 156 RX8 yX8_hour wsX8_hour) := goodIn_app (goodIn_of _ (by decide +kernel)) ggX8_isSeen_X8_hour
theorem dX8_isSeen_0 : decode cX8_isSeen 0 = .ok (.aload_n 0, 1) := by decide +kernel
theorem dX8_isSeen_1 : decode cX8_isSeen 1 = .ok (.getfield 9, 3) := by decide +kernel
theorem dX8_isSeen_4 : decode cX8_isSeen 4 = .ok (.aload_n 0, 1) := by decide +kernel
theorem dX8_isSeen_5 : decode cX8_isSeen 5 = .ok (.getfield 16, 3) := by decide +kernel
theorem dX8_isSeen_8 : decode cX8_isSeen 8 = .ok (.invokestatic 74, 3) := by decide +kernel
theorem dX8_isSeen_11 : decode cX8_isSeen 11 = .ok (.iconst 1, 1) := by decide +kernel
theorem dX8_isSeen_12 : decode cX8_isSeen 12 = .ok (.istore_n 2, 1) := by decide +kernel
theorem dX8_isSeen_13 : decode cX8_isSeen 13 = .ok (.iconst 0, 1) := by decide +kernel
theorem dX8_isSeen_14 : decode cX8_isSeen 14 = .ok (.istore_n 3, 1) := by decide +kernel
theorem dX8_isSeen_15 : decode cX8_isSeen 15 = .ok (.iload_n 3, 1) := by decide +kernel
theorem dX8_isSeen_16 : decode cX8_isSeen 16 = .ok (.aload_n 0, 1) := by decide +kernel
theorem dX8_isSeen_17 : decode cX8_isSeen 17 = .ok (.getfield 63, 3) := by decide +kernel
theorem dX8_isSeen_20 : decode cX8_isSeen 20 = .ok (.iload_n 1, 1) := by decide +kernel
theorem dX8_isSeen_21 : decode cX8_isSeen 21 = .ok (.iaload, 1) := by decide +kernel
theorem dX8_isSeen_22 : decode cX8_isSeen 22 = .ok (.if_icmp .ge 54, 3) := by decide +kernel
theorem dX8_isSeen_25 : decode cX8_isSeen 25 = .ok (.iload_n 2, 1) := by decide +kernel
theorem dX8_isSeen_26 : decode cX8_isSeen 26 = .ok (.ifCond .eq 50, 3) := by decide +kernel
theorem dX8_isSeen_29 : decode cX8_isSeen 29 = .ok (.aload_n 0, 1) := by decide +kernel
theorem dX8_isSeen_30 : decode cX8_isSeen 30 = .ok (.invokevirtual 133, 3) := by decide +kernel
theorem dX8_isSeen_33 : decode cX8_isSeen 33 = .ok (.ifCond .ne 43, 3) := by decide +kernel
theorem dX8_isSeen_36 : decode cX8_isSeen 36 = .ok (.aload_n 0, 1) := by decide +kernel
theorem dX8_isSeen_37 : decode cX8_isSeen 37 = .ok (.getfield 66, 3) := by decide +kernel
theorem dX8_isSeen_40 : decode cX8_isSeen 40 = .ok (.bipush 40, 2) := by decide +kernel
theorem dX8_isSeen_42 : decode cX8_isSeen 42 = .ok (.iload_n 1, 1) := by decide +kernel
theorem dX8_isSeen_43 : decode cX8_isSeen 43 = .ok (.imul, 1) := by decide +kernel
theorem dX8_isSeen_44 : decode cX8_isSeen 44 = .ok (.iload_n 3, 1) := by decide +kernel
theorem dX8_isSeen_45 : decode cX8_isSeen 45 = .ok (.iadd, 1) := by decide +kernel
theorem dX8_isSeen_46 : decode cX8_isSeen 46 = .ok (.iaload, 1) := by decide +kernel
theorem dX8_isSeen_47 : decode cX8_isSeen 47 = .ok (.aload_n 0, 1) := by decide +kernel
theorem dX8_isSeen_48 : decode cX8_isSeen 48 = .ok (.aload_n 0, 1) := by decide +kernel
theorem dX8_isSeen_49 : decode cX8_isSeen 49 = .ok (.getfield 9, 3) := by decide +kernel
theorem dX8_isSeen_52 : decode cX8_isSeen 52 = .ok (.iconst 0, 1) := by decide +kernel
theorem dX8_isSeen_53 : decode cX8_isSeen 53 = .ok (.iaload, 1) := by decide +kernel
theorem dX8_isSeen_54 : decode cX8_isSeen 54 = .ok (.invokevirtual 153, 3) := by decide +kernel
theorem dX8_isSeen_57 : decode cX8_isSeen 57 = .ok (.if_icmp .ne 7, 3) := by decide +kernel
theorem dX8_isSeen_60 : decode cX8_isSeen 60 = .ok (.iconst 1, 1) := by decide +kernel
theorem dX8_isSeen_61 : decode cX8_isSeen 61 = .ok (.goto 4, 3) := by decide +kernel
theorem dX8_isSeen_64 : decode cX8_isSeen 64 = .ok (.iconst 0, 1) := by decide +kernel
theorem dX8_isSeen_65 : decode cX8_isSeen 65 = .ok (.istore_n 2, 1) := by decide +kernel
theorem dX8_isSeen_66 : decode cX8_isSeen 66 = .ok (.aload_n 0, 1) := by decide +kernel
theorem dX8_isSeen_67 : decode cX8_isSeen 67 = .ok (.invokevirtual 156, 3) := by decide +kernel
theorem dX8_isSeen_70 : decode cX8_isSeen 70 = .ok (.iinc 3 1, 3) := by decide +kernel
theorem dX8_isSeen_73 : decode cX8_isSeen 73 = .ok (.goto (-58), 3) := by decide +kernel
theorem dX8_isSeen_76 : decode cX8_isSeen 76 = .ok (.aload_n 0, 1) := by decide +kernel
theorem dX8_isSeen_77 : decode cX8_isSeen 77 = .ok (.getfield 16, 3) := by decide +kernel
theorem dX8_isSeen_80 : decode cX8_isSeen 80 = .ok (.aload_n 0, 1) := by decide +kernel
theorem dX8_isSeen_81 : decode cX8_isSeen 81 = .ok (.getfield 9, 3) := by decide +kernel
theorem dX8_isSeen_84 : decode cX8_isSeen 84 = .ok (.invokestatic 74, 3) := by decide +kernel
theorem dX8_isSeen_87 : decode cX8_isSeen 87 = .ok (.iload_n 2, 1) := by decide +kernel
theorem dX8_isSeen_88 : decode cX8_isSeen 88 = .ok (.ireturn, 1) := by decide +kernel
set_option maxRecDepth 20000 in
theorem ggX8_seenWays_X8_isSeen : GoodIn wsX8_seenWays wsX8_isSeen := goodIn_r _ [7, 2, 8, 9, 10, 11, 12, 6, 13, 14, 15, 16, 17, 18, 19, 20, 21, 22, 23, 24, 25, 26, 27, 28, 29, 30, 31, 32, 33, 34, 35, 36, 37, 38, 39, 40, 41, 42, 43, 44, 45, 46, 47, 48, 49, 50, 51, 52, 53, 54, 55, 56, 57, 58, 72, 73, 74, 75, 76, 77, 78, 79, 80, 81, 82, 83, 84, 85, 86, 87, 88, 89, 90, 91, 92, 93, 94, 95, 96, 97, 98, 99, 100] (by decide +kernel) (by decide +kernel)
set_option maxRecDepth 20000 in
theorem gX8_seenWays_X8_isSeen : GoodIn wsX8_seenWays (wsV RX8 229 RX8 yX8_isSeen wsX8_isSeen) := goodIn_app (goodIn_of _ (by decide +kernel)) ggX8_seenWays_X8_isSeen
set_option maxRecDepth 20000 in
theorem ggX8_seenWays_X8_personIs : GoodIn wsX8_seenWays wsX8_personIs := goodIn_r _ [29, 2, 30, 31, 6, 32, 72, 73, 74, 75, 76, 77, 78, 79, 80, 81, 82, 83, 84, 85, 86, 87, 88, 89, 90, 91, 92, 93, 94, 95, 96, 97, 98, 99, 100] (by decide +kernel) (by decide +kernel)
set_option maxRecDepth 20000 in
theorem gX8_seenWays_X8_personIs : GoodIn wsX8_seenWays (wsV RX8 102 RX8 yX8_personIs wsX8_personIs) := goodIn_app (goodIn_of _ (by decide +kernel)) ggX8_seenWays_X8_personIs
set_option maxRecDepth 20000 in
theorem ggX8_seenWays_X8_lowest : GoodIn wsX8_seenWays wsX8_lowest := goodIn_r _ [61, 37, 38, 6, 39] (by decide +kernel) (by decide +kernel)
set_option maxRecDepth 20000 in
theorem gX8_seenWays_X8_lowest : GoodIn wsX8_seenWays (va_wsS RX8 214 yX8_lowest wsX8_lowest) := goodIn_app (goodIn_of _ (by decide +kernel)) ggX8_seenWays_X8_lowest
set_option maxRecDepth 20000 in
theorem ggX8_seenWays_X8_mayBe : GoodIn wsX8_seenWays wsX8_mayBe := goodIn_r _ [65, 37, 38, 6, 39, 59, 60, 61, 66, 67, 68] (by decide +kernel) (by decide +kernel)
set_option maxRecDepth 20000 in
theorem gX8_seenWays_X8_mayBe : GoodIn wsX8_seenWays (wsV RX8 217 RX8 yX8_mayBe wsX8_mayBe) := goodIn_app (goodIn_of _ (by decide +kernel)) ggX8_seenWays_X8_mayBe
set_option maxRecDepth 20000 in
theorem ggX8_seenWays_X8_at : GoodIn wsX8_seenWays wsX8_at := goodIn_r _ [32] (by decide +kernel) (by decide +kernel)
set_option maxRecDepth 20000 in
theorem gX8_seenWays_X8_at : GoodIn wsX8_seenWays (va_wsS RX8 82 yX8_at wsX8_at) := goodIn_app (goodIn_of _ (by decide +kernel)) ggX8_seenWays_X8_at
set_option maxRecDepth 20000 in
theorem ggX8_seenWays_X8_seenWays : GoodIn wsX8_seenWays wsX8_seenWays := goodIn_r _ [0, 1, 2, 3, 4, 5, 6, 7, 8, 9, 10, 11, 12, 13, 14, 15, 16, 17, 18, 19, 20, 21, 22, 23, 24, 25, 26, 27, 28, 29, 30, 31, 32, 33, 34, 35, 36, 37, 38, 39, 40, 41, 42, 43, 44, 45, 46, 47, 48, 49, 50, 51, 52, 53, 54, 55, 56, 57, 58, 59, 60, 61, 62, 63, 64, 65, 66, 67, 68, 69, 70, 71, 72, 73, 74, 75, 76, 77, 78, 79, 80, 81, 82, 83, 84, 85, 86, 87, 88, 89, 90, 91, 92, 93, 94, 95, 96, 97, 98, 99, 100] (by decide +kernel) (by decide +kernel)
set_option maxRecDepth 20000 in
theorem gX8_seenWays_X8_seenWays : GoodIn wsX8_seenWays (wsV RX8 235 RX8 yX8_seenWays wsX8_seenWays) := goodIn_app (goodIn_of _ (by decide +kernel)) ggX8_seenWays_X8_seenWays
theorem dX8_seenWays_0 : decode cX8_seenWays 0 = .ok (.iload_n 2, 1) := by decide +kernel
theorem dX8_seenWays_1 : decode cX8_seenWays 1 = .ok (.ifCond .ne 72, 3) := by decide +kernel
theorem dX8_seenWays_4 : decode cX8_seenWays 4 = .ok (.aload_n 0, 1) := by decide +kernel
theorem dX8_seenWays_5 : decode cX8_seenWays 5 = .ok (.iload_n 1, 1) := by decide +kernel
theorem dX8_seenWays_6 : decode cX8_seenWays 6 = .ok (.invokevirtual 229, 3) := by decide +kernel
theorem dX8_seenWays_9 : decode cX8_seenWays 9 = .ok (.istore 4, 2) := by decide +kernel
theorem dX8_seenWays_11 : decode cX8_seenWays 11 = .ok (.iload_n 3, 1) := by decide +kernel
theorem dX8_seenWays_12 : decode cX8_seenWays 12 = .ok (.ifCond .ge 7, 3) := by decide +kernel
theorem dX8_seenWays_15 : decode cX8_seenWays 15 = .ok (.iconst (-1), 1) := by decide +kernel
theorem dX8_seenWays_16 : decode cX8_seenWays 16 = .ok (.goto 9, 3) := by decide +kernel
theorem dX8_seenWays_19 : decode cX8_seenWays 19 = .ok (.aload_n 0, 1) := by decide +kernel
theorem dX8_seenWays_20 : decode cX8_seenWays 20 = .ok (.iload_n 3, 1) := by decide +kernel
theorem dX8_seenWays_21 : decode cX8_seenWays 21 = .ok (.iconst 4, 1) := by decide +kernel
theorem dX8_seenWays_22 : decode cX8_seenWays 22 = .ok (.invokevirtual 102, 3) := by decide +kernel
theorem dX8_seenWays_25 : decode cX8_seenWays 25 = .ok (.istore 5, 2) := by decide +kernel
theorem dX8_seenWays_27 : decode cX8_seenWays 27 = .ok (.aload_n 0, 1) := by decide +kernel
theorem dX8_seenWays_28 : decode cX8_seenWays 28 = .ok (.dup, 1) := by decide +kernel
theorem dX8_seenWays_29 : decode cX8_seenWays 29 = .ok (.getfield 232, 3) := by decide +kernel
theorem dX8_seenWays_32 : decode cX8_seenWays 32 = .ok (.iload 4, 2) := by decide +kernel
theorem dX8_seenWays_34 : decode cX8_seenWays 34 = .ok (.ifCond .eq 23, 3) := by decide +kernel
theorem dX8_seenWays_37 : decode cX8_seenWays 37 = .ok (.iload_n 3, 1) := by decide +kernel
theorem dX8_seenWays_38 : decode cX8_seenWays 38 = .ok (.ifCond .lt 19, 3) := by decide +kernel
theorem dX8_seenWays_41 : decode cX8_seenWays 41 = .ok (.iconst 1, 1) := by decide +kernel
theorem dX8_seenWays_42 : decode cX8_seenWays 42 = .ok (.iload 5, 2) := by decide +kernel
theorem dX8_seenWays_44 : decode cX8_seenWays 44 = .ok (.ifCond .ge 7, 3) := by decide +kernel
theorem dX8_seenWays_47 : decode cX8_seenWays 47 = .ok (.iload_n 3, 1) := by decide +kernel
theorem dX8_seenWays_48 : decode cX8_seenWays 48 = .ok (.goto 5, 3) := by decide +kernel
theorem dX8_seenWays_51 : decode cX8_seenWays 51 = .ok (.iload 5, 2) := by decide +kernel
theorem dX8_seenWays_53 : decode cX8_seenWays 53 = .ok (.ishl, 1) := by decide +kernel
theorem dX8_seenWays_54 : decode cX8_seenWays 54 = .ok (.goto 4, 3) := by decide +kernel
theorem dX8_seenWays_57 : decode cX8_seenWays 57 = .ok (.iconst 0, 1) := by decide +kernel
theorem dX8_seenWays_58 : decode cX8_seenWays 58 = .ok (.ior, 1) := by decide +kernel
theorem dX8_seenWays_59 : decode cX8_seenWays 59 = .ok (.putfield 232, 3) := by decide +kernel
theorem dX8_seenWays_62 : decode cX8_seenWays 62 = .ok (.iload 4, 2) := by decide +kernel
theorem dX8_seenWays_64 : decode cX8_seenWays 64 = .ok (.ifCond .eq 7, 3) := by decide +kernel
theorem dX8_seenWays_67 : decode cX8_seenWays 67 = .ok (.iconst 1, 1) := by decide +kernel
theorem dX8_seenWays_68 : decode cX8_seenWays 68 = .ok (.goto 4, 3) := by decide +kernel
theorem dX8_seenWays_71 : decode cX8_seenWays 71 = .ok (.iconst 0, 1) := by decide +kernel
theorem dX8_seenWays_72 : decode cX8_seenWays 72 = .ok (.ireturn, 1) := by decide +kernel
theorem dX8_seenWays_73 : decode cX8_seenWays 73 = .ok (.iload_n 2, 1) := by decide +kernel
theorem dX8_seenWays_74 : decode cX8_seenWays 74 = .ok (.invokestatic 214, 3) := by decide +kernel
theorem dX8_seenWays_77 : decode cX8_seenWays 77 = .ok (.istore 4, 2) := by decide +kernel
theorem dX8_seenWays_79 : decode cX8_seenWays 79 = .ok (.iconst 0, 1) := by decide +kernel
theorem dX8_seenWays_80 : decode cX8_seenWays 80 = .ok (.istore 5, 2) := by decide +kernel
theorem dX8_seenWays_82 : decode cX8_seenWays 82 = .ok (.iconst 0, 1) := by decide +kernel
theorem dX8_seenWays_83 : decode cX8_seenWays 83 = .ok (.istore 6, 2) := by decide +kernel
theorem dX8_seenWays_85 : decode cX8_seenWays 85 = .ok (.iload 6, 2) := by decide +kernel
theorem dX8_seenWays_87 : decode cX8_seenWays 87 = .ok (.aload_n 0, 1) := by decide +kernel
theorem dX8_seenWays_88 : decode cX8_seenWays 88 = .ok (.getfield 9, 3) := by decide +kernel
theorem dX8_seenWays_91 : decode cX8_seenWays 91 = .ok (.iconst 4, 1) := by decide +kernel
theorem dX8_seenWays_92 : decode cX8_seenWays 92 = .ok (.iaload, 1) := by decide +kernel
theorem dX8_seenWays_93 : decode cX8_seenWays 93 = .ok (.if_icmp .ge 93, 3) := by decide +kernel
theorem dX8_seenWays_96 : decode cX8_seenWays 96 = .ok (.aload_n 0, 1) := by decide +kernel
theorem dX8_seenWays_97 : decode cX8_seenWays 97 = .ok (.iload_n 2, 1) := by decide +kernel
theorem dX8_seenWays_98 : decode cX8_seenWays 98 = .ok (.iload 6, 2) := by decide +kernel
theorem dX8_seenWays_100 : decode cX8_seenWays 100 = .ok (.invokevirtual 217, 3) := by decide +kernel
theorem dX8_seenWays_103 : decode cX8_seenWays 103 = .ok (.ifCond .eq 77, 3) := by decide +kernel
theorem dX8_seenWays_106 : decode cX8_seenWays 106 = .ok (.aload_n 0, 1) := by decide +kernel
theorem dX8_seenWays_107 : decode cX8_seenWays 107 = .ok (.getfield 9, 3) := by decide +kernel
theorem dX8_seenWays_110 : decode cX8_seenWays 110 = .ok (.iload 4, 2) := by decide +kernel
theorem dX8_seenWays_112 : decode cX8_seenWays 112 = .ok (.iconst 4, 1) := by decide +kernel
theorem dX8_seenWays_113 : decode cX8_seenWays 113 = .ok (.invokestatic 82, 3) := by decide +kernel
theorem dX8_seenWays_116 : decode cX8_seenWays 116 = .ok (.iload 6, 2) := by decide +kernel
theorem dX8_seenWays_118 : decode cX8_seenWays 118 = .ok (.iload 4, 2) := by decide +kernel
theorem dX8_seenWays_120 : decode cX8_seenWays 120 = .ok (.if_icmp .ne 7, 3) := by decide +kernel
theorem dX8_seenWays_123 : decode cX8_seenWays 123 = .ok (.iconst (-1), 1) := by decide +kernel
theorem dX8_seenWays_124 : decode cX8_seenWays 124 = .ok (.goto 5, 3) := by decide +kernel
theorem dX8_seenWays_127 : decode cX8_seenWays 127 = .ok (.iload 6, 2) := by decide +kernel
theorem dX8_seenWays_129 : decode cX8_seenWays 129 = .ok (.iastore, 1) := by decide +kernel
theorem dX8_seenWays_130 : decode cX8_seenWays 130 = .ok (.aload_n 0, 1) := by decide +kernel
theorem dX8_seenWays_131 : decode cX8_seenWays 131 = .ok (.getfield 9, 3) := by decide +kernel
theorem dX8_seenWays_134 : decode cX8_seenWays 134 = .ok (.iload 6, 2) := by decide +kernel
theorem dX8_seenWays_136 : decode cX8_seenWays 136 = .ok (.iconst 4, 1) := by decide +kernel
theorem dX8_seenWays_137 : decode cX8_seenWays 137 = .ok (.invokestatic 82, 3) := by decide +kernel
theorem dX8_seenWays_140 : decode cX8_seenWays 140 = .ok (.iload 6, 2) := by decide +kernel
theorem dX8_seenWays_142 : decode cX8_seenWays 142 = .ok (.iload 4, 2) := by decide +kernel
theorem dX8_seenWays_144 : decode cX8_seenWays 144 = .ok (.if_icmp .ne 7, 3) := by decide +kernel
theorem dX8_seenWays_147 : decode cX8_seenWays 147 = .ok (.iconst (-1), 1) := by decide +kernel
theorem dX8_seenWays_148 : decode cX8_seenWays 148 = .ok (.goto 5, 3) := by decide +kernel
theorem dX8_seenWays_151 : decode cX8_seenWays 151 = .ok (.iload 4, 2) := by decide +kernel
theorem dX8_seenWays_153 : decode cX8_seenWays 153 = .ok (.iastore, 1) := by decide +kernel
theorem dX8_seenWays_154 : decode cX8_seenWays 154 = .ok (.iload 5, 2) := by decide +kernel
theorem dX8_seenWays_156 : decode cX8_seenWays 156 = .ok (.aload_n 0, 1) := by decide +kernel
theorem dX8_seenWays_157 : decode cX8_seenWays 157 = .ok (.iload_n 1, 1) := by decide +kernel
theorem dX8_seenWays_158 : decode cX8_seenWays 158 = .ok (.iload_n 2, 1) := by decide +kernel
theorem dX8_seenWays_159 : decode cX8_seenWays 159 = .ok (.iconst 1, 1) := by decide +kernel
theorem dX8_seenWays_160 : decode cX8_seenWays 160 = .ok (.iload 4, 2) := by decide +kernel
theorem dX8_seenWays_162 : decode cX8_seenWays 162 = .ok (.ishl, 1) := by decide +kernel
theorem dX8_seenWays_163 : decode cX8_seenWays 163 = .ok (.iconst (-1), 1) := by decide +kernel
theorem dX8_seenWays_164 : decode cX8_seenWays 164 = .ok (.ixor, 1) := by decide +kernel
theorem dX8_seenWays_165 : decode cX8_seenWays 165 = .ok (.iand, 1) := by decide +kernel
theorem dX8_seenWays_166 : decode cX8_seenWays 166 = .ok (.iconst 1, 1) := by decide +kernel
theorem dX8_seenWays_167 : decode cX8_seenWays 167 = .ok (.iload 6, 2) := by decide +kernel
theorem dX8_seenWays_169 : decode cX8_seenWays 169 = .ok (.ishl, 1) := by decide +kernel
theorem dX8_seenWays_170 : decode cX8_seenWays 170 = .ok (.iconst (-1), 1) := by decide +kernel
theorem dX8_seenWays_171 : decode cX8_seenWays 171 = .ok (.ixor, 1) := by decide +kernel
theorem dX8_seenWays_172 : decode cX8_seenWays 172 = .ok (.iand, 1) := by decide +kernel
theorem dX8_seenWays_173 : decode cX8_seenWays 173 = .ok (.iload_n 3, 1) := by decide +kernel
theorem dX8_seenWays_174 : decode cX8_seenWays 174 = .ok (.invokevirtual 235, 3) := by decide +kernel
theorem dX8_seenWays_177 : decode cX8_seenWays 177 = .ok (.iadd, 1) := by decide +kernel
theorem dX8_seenWays_178 : decode cX8_seenWays 178 = .ok (.istore 5, 2) := by decide +kernel
theorem dX8_seenWays_180 : decode cX8_seenWays 180 = .ok (.iinc 6 1, 3) := by decide +kernel
theorem dX8_seenWays_183 : decode cX8_seenWays 183 = .ok (.goto (-98), 3) := by decide +kernel
theorem dX8_seenWays_186 : decode cX8_seenWays 186 = .ok (.iload 5, 2) := by decide +kernel
theorem dX8_seenWays_188 : decode cX8_seenWays 188 = .ok (.ireturn, 1) := by decide +kernel
set_option maxRecDepth 20000 in
theorem ggX8_findSeen_X8_personIs : GoodIn wsX8_findSeen wsX8_personIs := goodIn_r _ [8, 2, 9, 10, 7, 11, 74, 75, 76, 77, 78, 79, 80, 81, 82, 83, 84, 85, 86, 87, 88, 89, 90, 91, 92, 93, 94, 95, 96, 97, 98, 99, 100, 101, 102] (by decide +kernel) (by decide +kernel)
set_option maxRecDepth 20000 in
theorem gX8_findSeen_X8_personIs : GoodIn wsX8_findSeen (wsV RX8 102 RX8 yX8_personIs wsX8_personIs) := goodIn_app (goodIn_of _ (by decide +kernel)) ggX8_findSeen_X8_personIs
set_option maxRecDepth 20000 in
theorem ggX8_findSeen_X8_seenWays : GoodIn wsX8_findSeen wsX8_seenWays := goodIn_r _ [15, 1, 2, 16, 17, 18, 7, 19, 20, 21, 22, 23, 24, 25, 26, 27, 28, 29, 30, 31, 32, 33, 34, 35, 36, 37, 4, 5, 6, 8, 9, 10, 11, 38, 39, 40, 41, 42, 43, 44, 45, 46, 47, 48, 49, 50, 51, 52, 53, 54, 55, 56, 57, 58, 59, 60, 61, 62, 63, 64, 65, 66, 67, 68, 69, 70, 71, 72, 73, 12, 13, 14, 74, 75, 76, 77, 78, 79, 80, 81, 82, 83, 84, 85, 86, 87, 88, 89, 90, 91, 92, 93, 94, 95, 96, 97, 98, 99, 100, 101, 102] (by decide +kernel) (by decide +kernel)
set_option maxRecDepth 20000 in
theorem gX8_findSeen_X8_seenWays : GoodIn wsX8_findSeen (wsV RX8 235 RX8 yX8_seenWays wsX8_seenWays) := goodIn_app (goodIn_of _ (by decide +kernel)) ggX8_findSeen_X8_seenWays
set_option maxRecDepth 20000 in
theorem ggX8_findSeen_X8_at : GoodIn wsX8_findSeen wsX8_at := goodIn_r _ [11] (by decide +kernel) (by decide +kernel)
set_option maxRecDepth 20000 in
theorem gX8_findSeen_X8_at : GoodIn wsX8_findSeen (va_wsS RX8 82 yX8_at wsX8_at) := goodIn_app (goodIn_of _ (by decide +kernel)) ggX8_findSeen_X8_at
theorem dX8_findSeen_0 : decode cX8_findSeen 0 = .ok (.aload_n 0, 1) := by decide +kernel
theorem dX8_findSeen_1 : decode cX8_findSeen 1 = .ok (.iconst 0, 1) := by decide +kernel
theorem dX8_findSeen_2 : decode cX8_findSeen 2 = .ok (.putfield 232, 3) := by decide +kernel
theorem dX8_findSeen_5 : decode cX8_findSeen 5 = .ok (.iconst 0, 1) := by decide +kernel
theorem dX8_findSeen_6 : decode cX8_findSeen 6 = .ok (.istore_n 3, 1) := by decide +kernel
theorem dX8_findSeen_7 : decode cX8_findSeen 7 = .ok (.iload_n 3, 1) := by decide +kernel
theorem dX8_findSeen_8 : decode cX8_findSeen 8 = .ok (.aload_n 0, 1) := by decide +kernel
theorem dX8_findSeen_9 : decode cX8_findSeen 9 = .ok (.getfield 9, 3) := by decide +kernel
theorem dX8_findSeen_12 : decode cX8_findSeen 12 = .ok (.iconst 4, 1) := by decide +kernel
theorem dX8_findSeen_13 : decode cX8_findSeen 13 = .ok (.iaload, 1) := by decide +kernel
theorem dX8_findSeen_14 : decode cX8_findSeen 14 = .ok (.if_icmp .ge 21, 3) := by decide +kernel
theorem dX8_findSeen_17 : decode cX8_findSeen 17 = .ok (.aload_n 0, 1) := by decide +kernel
theorem dX8_findSeen_18 : decode cX8_findSeen 18 = .ok (.getfield 31, 3) := by decide +kernel
theorem dX8_findSeen_21 : decode cX8_findSeen 21 = .ok (.iload_n 3, 1) := by decide +kernel
theorem dX8_findSeen_22 : decode cX8_findSeen 22 = .ok (.aload_n 0, 1) := by decide +kernel
theorem dX8_findSeen_23 : decode cX8_findSeen 23 = .ok (.iload_n 3, 1) := by decide +kernel
theorem dX8_findSeen_24 : decode cX8_findSeen 24 = .ok (.iconst 4, 1) := by decide +kernel
theorem dX8_findSeen_25 : decode cX8_findSeen 25 = .ok (.invokevirtual 102, 3) := by decide +kernel
theorem dX8_findSeen_28 : decode cX8_findSeen 28 = .ok (.iastore, 1) := by decide +kernel
theorem dX8_findSeen_29 : decode cX8_findSeen 29 = .ok (.iinc 3 1, 3) := by decide +kernel
theorem dX8_findSeen_32 : decode cX8_findSeen 32 = .ok (.goto (-25), 3) := by decide +kernel
theorem dX8_findSeen_35 : decode cX8_findSeen 35 = .ok (.aload_n 0, 1) := by decide +kernel
theorem dX8_findSeen_36 : decode cX8_findSeen 36 = .ok (.iload_n 1, 1) := by decide +kernel
theorem dX8_findSeen_37 : decode cX8_findSeen 37 = .ok (.iconst 1, 1) := by decide +kernel
theorem dX8_findSeen_38 : decode cX8_findSeen 38 = .ok (.aload_n 0, 1) := by decide +kernel
theorem dX8_findSeen_39 : decode cX8_findSeen 39 = .ok (.getfield 9, 3) := by decide +kernel
theorem dX8_findSeen_42 : decode cX8_findSeen 42 = .ok (.iconst 4, 1) := by decide +kernel
theorem dX8_findSeen_43 : decode cX8_findSeen 43 = .ok (.iaload, 1) := by decide +kernel
theorem dX8_findSeen_44 : decode cX8_findSeen 44 = .ok (.ishl, 1) := by decide +kernel
theorem dX8_findSeen_45 : decode cX8_findSeen 45 = .ok (.iconst 1, 1) := by decide +kernel
theorem dX8_findSeen_46 : decode cX8_findSeen 46 = .ok (.isub, 1) := by decide +kernel
theorem dX8_findSeen_47 : decode cX8_findSeen 47 = .ok (.iload_n 2, 1) := by decide +kernel
theorem dX8_findSeen_48 : decode cX8_findSeen 48 = .ok (.invokevirtual 235, 3) := by decide +kernel
theorem dX8_findSeen_51 : decode cX8_findSeen 51 = .ok (.istore_n 3, 1) := by decide +kernel
theorem dX8_findSeen_52 : decode cX8_findSeen 52 = .ok (.iconst 0, 1) := by decide +kernel
theorem dX8_findSeen_53 : decode cX8_findSeen 53 = .ok (.istore 4, 2) := by decide +kernel
theorem dX8_findSeen_55 : decode cX8_findSeen 55 = .ok (.iload 4, 2) := by decide +kernel
theorem dX8_findSeen_57 : decode cX8_findSeen 57 = .ok (.aload_n 0, 1) := by decide +kernel
theorem dX8_findSeen_58 : decode cX8_findSeen 58 = .ok (.getfield 9, 3) := by decide +kernel
theorem dX8_findSeen_61 : decode cX8_findSeen 61 = .ok (.iconst 4, 1) := by decide +kernel
theorem dX8_findSeen_62 : decode cX8_findSeen 62 = .ok (.iaload, 1) := by decide +kernel
theorem dX8_findSeen_63 : decode cX8_findSeen 63 = .ok (.if_icmp .ge 27, 3) := by decide +kernel
theorem dX8_findSeen_66 : decode cX8_findSeen 66 = .ok (.aload_n 0, 1) := by decide +kernel
theorem dX8_findSeen_67 : decode cX8_findSeen 67 = .ok (.getfield 9, 3) := by decide +kernel
theorem dX8_findSeen_70 : decode cX8_findSeen 70 = .ok (.iload 4, 2) := by decide +kernel
theorem dX8_findSeen_72 : decode cX8_findSeen 72 = .ok (.iconst 4, 1) := by decide +kernel
theorem dX8_findSeen_73 : decode cX8_findSeen 73 = .ok (.invokestatic 82, 3) := by decide +kernel
theorem dX8_findSeen_76 : decode cX8_findSeen 76 = .ok (.aload_n 0, 1) := by decide +kernel
theorem dX8_findSeen_77 : decode cX8_findSeen 77 = .ok (.getfield 31, 3) := by decide +kernel
theorem dX8_findSeen_80 : decode cX8_findSeen 80 = .ok (.iload 4, 2) := by decide +kernel
theorem dX8_findSeen_82 : decode cX8_findSeen 82 = .ok (.iaload, 1) := by decide +kernel
theorem dX8_findSeen_83 : decode cX8_findSeen 83 = .ok (.iastore, 1) := by decide +kernel
theorem dX8_findSeen_84 : decode cX8_findSeen 84 = .ok (.iinc 4 1, 3) := by decide +kernel
theorem dX8_findSeen_87 : decode cX8_findSeen 87 = .ok (.goto (-32), 3) := by decide +kernel
theorem dX8_findSeen_90 : decode cX8_findSeen 90 = .ok (.iload_n 3, 1) := by decide +kernel
theorem dX8_findSeen_91 : decode cX8_findSeen 91 = .ok (.ireturn, 1) := by decide +kernel
set_option maxRecDepth 20000 in
theorem ggX8_fits_X8_isSheet : GoodIn wsX8_fits wsX8_isSheet := goodIn_r _ [7, 8, 9, 6, 10] (by decide +kernel) (by decide +kernel)
set_option maxRecDepth 20000 in
theorem gX8_fits_X8_isSheet : GoodIn wsX8_fits (va_wsS RX8 238 yX8_isSheet wsX8_isSheet) := goodIn_app (goodIn_of _ (by decide +kernel)) ggX8_fits_X8_isSheet
set_option maxRecDepth 20000 in
theorem ggX8_fits_X8_finding : GoodIn wsX8_fits wsX8_finding := goodIn_r _ [14, 15, 1, 92, 93, 94, 95, 96, 97, 98, 99, 100, 101, 102, 103, 104, 105, 106, 107, 108, 109, 110, 111, 112, 113, 114, 115, 116, 117, 118, 119, 120] (by decide +kernel) (by decide +kernel)
set_option maxRecDepth 20000 in
theorem gX8_fits_X8_finding : GoodIn wsX8_fits (wsV RX8 90 RX8 yX8_finding wsX8_finding) := goodIn_app (goodIn_of _ (by decide +kernel)) ggX8_fits_X8_finding
set_option maxRecDepth 20000 in
theorem ggX8_fits_X8_findSeen : GoodIn wsX8_fits wsX8_findSeen := goodIn_r _ [19, 20, 21, 22, 23, 24, 25, 6, 26, 27, 28, 29, 30, 31, 32, 33, 34, 35, 36, 37, 38, 39, 40, 41, 42, 43, 44, 45, 46, 47, 48, 49, 50, 51, 52, 53, 54, 55, 56, 57, 58, 59, 60, 61, 62, 63, 64, 65, 66, 67, 68, 69, 70, 71, 72, 73, 74, 75, 76, 77, 78, 79, 80, 81, 82, 83, 84, 85, 86, 87, 88, 89, 90, 91, 92, 93, 94, 95, 96, 97, 98, 99, 100, 101, 102, 103, 104, 105, 106, 107, 108, 109, 110, 111, 112, 113, 114, 115, 116, 117, 118, 119, 120] (by decide +kernel) (by decide +kernel)
set_option maxRecDepth 20000 in
theorem gX8_fits_X8_findSeen : GoodIn wsX8_fits (wsV RX8 242 RX8 yX8_findSeen wsX8_findSeen) := goodIn_app (goodIn_of _ (by decide +kernel)) ggX8_fits_X8_findSeen
theorem dX8_fits_0 : decode cX8_fits 0 = .ok (.iload_n 1, 1) := by decide +kernel
theorem dX8_fits_1 : decode cX8_fits 1 = .ok (.invokestatic 238, 3) := by decide +kernel
theorem dX8_fits_4 : decode cX8_fits 4 = .ok (.ifCond .ne 10, 3) := by decide +kernel
theorem dX8_fits_7 : decode cX8_fits 7 = .ok (.aload_n 0, 1) := by decide +kernel
theorem dX8_fits_8 : decode cX8_fits 8 = .ok (.ldc 73, 2) := by decide +kernel
theorem dX8_fits_10 : decode cX8_fits 10 = .ok (.invokevirtual 90, 3) := by decide +kernel
theorem dX8_fits_13 : decode cX8_fits 13 = .ok (.ireturn, 1) := by decide +kernel
theorem dX8_fits_14 : decode cX8_fits 14 = .ok (.aload_n 0, 1) := by decide +kernel
theorem dX8_fits_15 : decode cX8_fits 15 = .ok (.getfield 60, 3) := by decide +kernel
theorem dX8_fits_18 : decode cX8_fits 18 = .ok (.iload_n 1, 1) := by decide +kernel
theorem dX8_fits_19 : decode cX8_fits 19 = .ok (.iaload, 1) := by decide +kernel
theorem dX8_fits_20 : decode cX8_fits 20 = .ok (.ifCond .ne 12, 3) := by decide +kernel
theorem dX8_fits_23 : decode cX8_fits 23 = .ok (.aload_n 0, 1) := by decide +kernel
theorem dX8_fits_24 : decode cX8_fits 24 = .ok (.ldc 241, 2) := by decide +kernel
theorem dX8_fits_26 : decode cX8_fits 26 = .ok (.invokevirtual 90, 3) := by decide +kernel
theorem dX8_fits_29 : decode cX8_fits 29 = .ok (.goto 9, 3) := by decide +kernel
theorem dX8_fits_32 : decode cX8_fits 32 = .ok (.aload_n 0, 1) := by decide +kernel
theorem dX8_fits_33 : decode cX8_fits 33 = .ok (.iload_n 1, 1) := by decide +kernel
theorem dX8_fits_34 : decode cX8_fits 34 = .ok (.iconst (-1), 1) := by decide +kernel
theorem dX8_fits_35 : decode cX8_fits 35 = .ok (.invokevirtual 242, 3) := by decide +kernel
theorem dX8_fits_38 : decode cX8_fits 38 = .ok (.ireturn, 1) := by decide +kernel
set_option maxRecDepth 20000 in
theorem ggX8_may_X8_isSheet : GoodIn wsX8_may wsX8_isSheet := goodIn_r _ [8, 9, 10, 7, 11] (by decide +kernel) (by decide +kernel)
set_option maxRecDepth 20000 in
theorem gX8_may_X8_isSheet : GoodIn wsX8_may (va_wsS RX8 238 yX8_isSheet wsX8_isSheet) := goodIn_app (goodIn_of _ (by decide +kernel)) ggX8_may_X8_isSheet
set_option maxRecDepth 20000 in
theorem ggX8_may_X8_finding : GoodIn wsX8_may wsX8_finding := goodIn_r _ [15, 16, 1, 96, 97, 98, 99, 100, 101, 102, 103, 104, 105, 106, 107, 108, 109, 110, 111, 112, 113, 114, 115, 116, 117, 118, 119, 120, 121, 122, 123, 124] (by decide +kernel) (by decide +kernel)
set_option maxRecDepth 20000 in
theorem gX8_may_X8_finding : GoodIn wsX8_may (wsV RX8 90 RX8 yX8_finding wsX8_finding) := goodIn_app (goodIn_of _ (by decide +kernel)) ggX8_may_X8_finding
set_option maxRecDepth 20000 in
theorem ggX8_may_X8_isPerson : GoodIn wsX8_may wsX8_isPerson := goodIn_r _ [20, 21, 9, 10, 7, 11, 96, 97, 98, 99, 100, 101, 102, 103, 104, 105, 106, 107, 108, 109, 110, 111, 112, 113, 114, 115, 116, 117, 118, 119, 120, 121, 122, 123, 124] (by decide +kernel) (by decide +kernel)
set_option maxRecDepth 20000 in
theorem gX8_may_X8_isPerson : GoodIn wsX8_may (wsV RX8 130 RX8 yX8_isPerson wsX8_isPerson) := goodIn_app (goodIn_of _ (by decide +kernel)) ggX8_may_X8_isPerson
set_option maxRecDepth 20000 in
theorem ggX8_may_X8_findSeen : GoodIn wsX8_may wsX8_findSeen := goodIn_r _ [25, 4, 21, 26, 27, 28, 29, 7, 30, 31, 32, 33, 34, 35, 36, 37, 38, 39, 40, 41, 42, 43, 44, 45, 46, 47, 48, 49, 50, 51, 52, 53, 54, 55, 56, 57, 58, 59, 60, 61, 62, 63, 64, 65, 66, 67, 68, 69, 70, 71, 72, 73, 74, 75, 76, 77, 78, 79, 80, 81, 82, 83, 84, 85, 86, 87, 88, 89, 90, 91, 92, 93, 94, 95, 96, 97, 98, 99, 100, 101, 102, 103, 104, 105, 106, 107, 108, 109, 110, 111, 112, 113, 114, 115, 116, 117, 118, 119, 120, 121, 122, 123, 124] (by decide +kernel) (by decide +kernel)
set_option maxRecDepth 20000 in
theorem gX8_may_X8_findSeen : GoodIn wsX8_may (wsV RX8 242 RX8 yX8_findSeen wsX8_findSeen) := goodIn_app (goodIn_of _ (by decide +kernel)) ggX8_may_X8_findSeen
theorem dX8_may_0 : decode cX8_may 0 = .ok (.iload_n 1, 1) := by decide +kernel
theorem dX8_may_1 : decode cX8_may 1 = .ok (.invokestatic 238, 3) := by decide +kernel
theorem dX8_may_4 : decode cX8_may 4 = .ok (.ifCond .ne 10, 3) := by decide +kernel
theorem dX8_may_7 : decode cX8_may 7 = .ok (.aload_n 0, 1) := by decide +kernel
theorem dX8_may_8 : decode cX8_may 8 = .ok (.ldc 73, 2) := by decide +kernel
theorem dX8_may_10 : decode cX8_may 10 = .ok (.invokevirtual 90, 3) := by decide +kernel
theorem dX8_may_13 : decode cX8_may 13 = .ok (.ireturn, 1) := by decide +kernel
theorem dX8_may_14 : decode cX8_may 14 = .ok (.aload_n 0, 1) := by decide +kernel
theorem dX8_may_15 : decode cX8_may 15 = .ok (.getfield 60, 3) := by decide +kernel
theorem dX8_may_18 : decode cX8_may 18 = .ok (.iload_n 1, 1) := by decide +kernel
theorem dX8_may_19 : decode cX8_may 19 = .ok (.iaload, 1) := by decide +kernel
theorem dX8_may_20 : decode cX8_may 20 = .ok (.ifCond .ne 10, 3) := by decide +kernel
theorem dX8_may_23 : decode cX8_may 23 = .ok (.aload_n 0, 1) := by decide +kernel
theorem dX8_may_24 : decode cX8_may 24 = .ok (.ldc 241, 2) := by decide +kernel
theorem dX8_may_26 : decode cX8_may 26 = .ok (.invokevirtual 90, 3) := by decide +kernel
theorem dX8_may_29 : decode cX8_may 29 = .ok (.ireturn, 1) := by decide +kernel
theorem dX8_may_30 : decode cX8_may 30 = .ok (.aload_n 0, 1) := by decide +kernel
theorem dX8_may_31 : decode cX8_may 31 = .ok (.iload_n 2, 1) := by decide +kernel
theorem dX8_may_32 : decode cX8_may 32 = .ok (.invokevirtual 130, 3) := by decide +kernel
theorem dX8_may_35 : decode cX8_may 35 = .ok (.ifCond .ne 10, 3) := by decide +kernel
theorem dX8_may_38 : decode cX8_may 38 = .ok (.aload_n 0, 1) := by decide +kernel
theorem dX8_may_39 : decode cX8_may 39 = .ok (.ldc 73, 2) := by decide +kernel
theorem dX8_may_41 : decode cX8_may 41 = .ok (.invokevirtual 90, 3) := by decide +kernel
theorem dX8_may_44 : decode cX8_may 44 = .ok (.ireturn, 1) := by decide +kernel
theorem dX8_may_45 : decode cX8_may 45 = .ok (.aload_n 0, 1) := by decide +kernel
theorem dX8_may_46 : decode cX8_may 46 = .ok (.iload_n 1, 1) := by decide +kernel
theorem dX8_may_47 : decode cX8_may 47 = .ok (.iload_n 2, 1) := by decide +kernel
theorem dX8_may_48 : decode cX8_may 48 = .ok (.invokevirtual 242, 3) := by decide +kernel
theorem dX8_may_51 : decode cX8_may 51 = .ok (.ifCond .ne 7, 3) := by decide +kernel
theorem dX8_may_54 : decode cX8_may 54 = .ok (.iconst 0, 1) := by decide +kernel
theorem dX8_may_55 : decode cX8_may 55 = .ok (.goto 7, 3) := by decide +kernel
theorem dX8_may_58 : decode cX8_may 58 = .ok (.aload_n 0, 1) := by decide +kernel
theorem dX8_may_59 : decode cX8_may 59 = .ok (.getfield 232, 3) := by decide +kernel
theorem dX8_may_62 : decode cX8_may 62 = .ok (.ireturn, 1) := by decide +kernel
set_option maxRecDepth 20000 in
theorem ggX8_mightOf_X8_personIs : GoodIn wsX8_mightOf wsX8_personIs := goodIn_r _ [5, 6, 7, 8, 4, 9, 17, 18, 19, 20, 21, 22, 23, 24, 25, 26, 27, 28, 29, 30, 31, 32, 33, 34, 35, 36, 37, 38, 39, 40, 41, 42, 43, 44, 45] (by decide +kernel) (by decide +kernel)
set_option maxRecDepth 20000 in
theorem gX8_mightOf_X8_personIs : GoodIn wsX8_mightOf (wsV RX8 102 RX8 yX8_personIs wsX8_personIs) := goodIn_app (goodIn_of _ (by decide +kernel)) ggX8_mightOf_X8_personIs
set_option maxRecDepth 20000 in
theorem ggX8_mightOf_X8_isLit : GoodIn wsX8_mightOf wsX8_isLit := goodIn_r _ [13, 6, 14, 15, 4, 16, 17, 18, 19, 20, 21, 22, 23, 24, 25, 26, 27, 28, 29, 30, 31, 32, 33, 34, 35, 36, 37, 38, 39, 40, 41, 42, 43, 44, 45] (by decide +kernel) (by decide +kernel)
set_option maxRecDepth 20000 in
theorem gX8_mightOf_X8_isLit : GoodIn wsX8_mightOf (wsV RX8 120 RX8 yX8_isLit wsX8_isLit) := goodIn_app (goodIn_of _ (by decide +kernel)) ggX8_mightOf_X8_isLit
theorem dX8_mightOf_0 : decode cX8_mightOf 0 = .ok (.aload_n 0, 1) := by decide +kernel
theorem dX8_mightOf_1 : decode cX8_mightOf 1 = .ok (.iload_n 1, 1) := by decide +kernel
theorem dX8_mightOf_2 : decode cX8_mightOf 2 = .ok (.iconst 2, 1) := by decide +kernel
theorem dX8_mightOf_3 : decode cX8_mightOf 3 = .ok (.invokevirtual 102, 3) := by decide +kernel
theorem dX8_mightOf_6 : decode cX8_mightOf 6 = .ok (.aload_n 0, 1) := by decide +kernel
theorem dX8_mightOf_7 : decode cX8_mightOf 7 = .ok (.bipush 8, 2) := by decide +kernel
theorem dX8_mightOf_9 : decode cX8_mightOf 9 = .ok (.invokevirtual 120, 3) := by decide +kernel
theorem dX8_mightOf_12 : decode cX8_mightOf 12 = .ok (.ifCond .eq 12, 3) := by decide +kernel
theorem dX8_mightOf_15 : decode cX8_mightOf 15 = .ok (.iload_n 2, 1) := by decide +kernel
theorem dX8_mightOf_16 : decode cX8_mightOf 16 = .ok (.iload_n 1, 1) := by decide +kernel
theorem dX8_mightOf_17 : decode cX8_mightOf 17 = .ok (.if_icmp .ne 7, 3) := by decide +kernel
theorem dX8_mightOf_20 : decode cX8_mightOf 20 = .ok (.iconst 3, 1) := by decide +kernel
theorem dX8_mightOf_21 : decode cX8_mightOf 21 = .ok (.goto 4, 3) := by decide +kernel
theorem dX8_mightOf_24 : decode cX8_mightOf 24 = .ok (.iconst 0, 1) := by decide +kernel
theorem dX8_mightOf_25 : decode cX8_mightOf 25 = .ok (.iadd, 1) := by decide +kernel
theorem dX8_mightOf_26 : decode cX8_mightOf 26 = .ok (.ireturn, 1) := by decide +kernel
set_option maxRecDepth 20000 in
theorem ggX8_duel_X8_areTwo : GoodIn wsX8_duel wsX8_areTwo := goodIn_r _ [13, 14, 15, 16, 12, 17, 18, 19, 20, 21, 53, 54, 55, 56, 57, 58, 59, 60, 61, 62, 63, 64, 65, 66, 67, 68, 69, 70, 71, 72, 73, 74, 75, 76, 77, 78, 79, 80, 81] (by decide +kernel) (by decide +kernel)
set_option maxRecDepth 20000 in
theorem gX8_duel_X8_areTwo : GoodIn wsX8_duel (wsV RX8 146 RX8 yX8_areTwo wsX8_areTwo) := goodIn_app (goodIn_of _ (by decide +kernel)) ggX8_duel_X8_areTwo
set_option maxRecDepth 20000 in
theorem ggX8_duel_X8_finding : GoodIn wsX8_duel wsX8_finding := goodIn_r _ [25, 26, 1, 53, 54, 55, 56, 57, 58, 59, 60, 61, 62, 63, 64, 65, 66, 67, 68, 69, 70, 71, 72, 73, 74, 75, 76, 77, 78, 79, 80, 81] (by decide +kernel) (by decide +kernel)
set_option maxRecDepth 20000 in
theorem gX8_duel_X8_finding : GoodIn wsX8_duel (wsV RX8 90 RX8 yX8_finding wsX8_finding) := goodIn_app (goodIn_of _ (by decide +kernel)) ggX8_duel_X8_finding
set_option maxRecDepth 20000 in
theorem ggX8_duel_X8_firstOf : GoodIn wsX8_duel wsX8_firstOf := goodIn_r _ [30, 2, 3, 4, 5, 6, 7, 8, 31, 32, 33, 12, 34, 35, 36, 37, 38, 18, 39, 40, 41, 53, 54, 55, 56, 57, 58, 59, 60, 61, 62, 63, 64, 65, 66, 67, 68, 69, 70, 71, 72, 73, 74, 75, 76, 77, 78, 79, 80, 81] (by decide +kernel) (by decide +kernel)
set_option maxRecDepth 20000 in
theorem gX8_duel_X8_firstOf : GoodIn wsX8_duel (wsV RX8 123 RX8 yX8_firstOf wsX8_firstOf) := goodIn_app (goodIn_of _ (by decide +kernel)) ggX8_duel_X8_firstOf
set_option maxRecDepth 20000 in
theorem ggX8_duel_X8_mightOf : GoodIn wsX8_duel wsX8_mightOf := goodIn_r _ [45, 35, 36, 37, 12, 38, 18, 39, 40, 41, 46, 47, 48, 49, 50, 51, 52, 53, 54, 55, 56, 57, 58, 59, 60, 61, 62, 63, 64, 65, 66, 67, 68, 69, 70, 71, 72, 73, 74, 75, 76, 77, 78, 79, 80, 81] (by decide +kernel) (by decide +kernel)
set_option maxRecDepth 20000 in
theorem gX8_duel_X8_mightOf : GoodIn wsX8_duel (wsV RX8 245 RX8 yX8_mightOf wsX8_mightOf) := goodIn_app (goodIn_of _ (by decide +kernel)) ggX8_duel_X8_mightOf
theorem dX8_duel_0 : decode cX8_duel 0 = .ok (.aload_n 0, 1) := by decide +kernel
theorem dX8_duel_1 : decode cX8_duel 1 = .ok (.iload_n 1, 1) := by decide +kernel
theorem dX8_duel_2 : decode cX8_duel 2 = .ok (.iload_n 2, 1) := by decide +kernel
theorem dX8_duel_3 : decode cX8_duel 3 = .ok (.invokevirtual 146, 3) := by decide +kernel
theorem dX8_duel_6 : decode cX8_duel 6 = .ok (.ifCond .ne 10, 3) := by decide +kernel
theorem dX8_duel_9 : decode cX8_duel 9 = .ok (.aload_n 0, 1) := by decide +kernel
theorem dX8_duel_10 : decode cX8_duel 10 = .ok (.ldc 73, 2) := by decide +kernel
theorem dX8_duel_12 : decode cX8_duel 12 = .ok (.invokevirtual 90, 3) := by decide +kernel
theorem dX8_duel_15 : decode cX8_duel 15 = .ok (.ireturn, 1) := by decide +kernel
theorem dX8_duel_16 : decode cX8_duel 16 = .ok (.aload_n 0, 1) := by decide +kernel
theorem dX8_duel_17 : decode cX8_duel 17 = .ok (.iload_n 1, 1) := by decide +kernel
theorem dX8_duel_18 : decode cX8_duel 18 = .ok (.iload_n 2, 1) := by decide +kernel
theorem dX8_duel_19 : decode cX8_duel 19 = .ok (.bipush 8, 2) := by decide +kernel
theorem dX8_duel_21 : decode cX8_duel 21 = .ok (.invokevirtual 123, 3) := by decide +kernel
theorem dX8_duel_24 : decode cX8_duel 24 = .ok (.istore_n 3, 1) := by decide +kernel
theorem dX8_duel_25 : decode cX8_duel 25 = .ok (.iload_n 1, 1) := by decide +kernel
theorem dX8_duel_26 : decode cX8_duel 26 = .ok (.iload_n 2, 1) := by decide +kernel
theorem dX8_duel_27 : decode cX8_duel 27 = .ok (.invokestatic 105, 3) := by decide +kernel
theorem dX8_duel_30 : decode cX8_duel 30 = .ok (.istore 4, 2) := by decide +kernel
theorem dX8_duel_32 : decode cX8_duel 32 = .ok (.iload_n 1, 1) := by decide +kernel
theorem dX8_duel_33 : decode cX8_duel 33 = .ok (.iload_n 2, 1) := by decide +kernel
theorem dX8_duel_34 : decode cX8_duel 34 = .ok (.invokestatic 110, 3) := by decide +kernel
theorem dX8_duel_37 : decode cX8_duel 37 = .ok (.istore 5, 2) := by decide +kernel
theorem dX8_duel_39 : decode cX8_duel 39 = .ok (.aload_n 0, 1) := by decide +kernel
theorem dX8_duel_40 : decode cX8_duel 40 = .ok (.iload 5, 2) := by decide +kernel
theorem dX8_duel_42 : decode cX8_duel 42 = .ok (.iload_n 3, 1) := by decide +kernel
theorem dX8_duel_43 : decode cX8_duel 43 = .ok (.invokevirtual 245, 3) := by decide +kernel
theorem dX8_duel_46 : decode cX8_duel 46 = .ok (.aload_n 0, 1) := by decide +kernel
theorem dX8_duel_47 : decode cX8_duel 47 = .ok (.iload 4, 2) := by decide +kernel
theorem dX8_duel_49 : decode cX8_duel 49 = .ok (.iload_n 3, 1) := by decide +kernel
theorem dX8_duel_50 : decode cX8_duel 50 = .ok (.invokevirtual 245, 3) := by decide +kernel
theorem dX8_duel_53 : decode cX8_duel 53 = .ok (.if_icmp .le 8, 3) := by decide +kernel
theorem dX8_duel_56 : decode cX8_duel 56 = .ok (.iload 5, 2) := by decide +kernel
theorem dX8_duel_58 : decode cX8_duel 58 = .ok (.goto 5, 3) := by decide +kernel
theorem dX8_duel_61 : decode cX8_duel 61 = .ok (.iload 4, 2) := by decide +kernel
theorem dX8_duel_63 : decode cX8_duel 63 = .ok (.ireturn, 1) := by decide +kernel
theorem dX8_common_0 : decode cX8_common 0 = .ok (.iload_n 0, 1) := by decide +kernel
theorem dX8_common_1 : decode cX8_common 1 = .ok (.istore_n 2, 1) := by decide +kernel
theorem dX8_common_2 : decode cX8_common 2 = .ok (.iload_n 1, 1) := by decide +kernel
theorem dX8_common_3 : decode cX8_common 3 = .ok (.istore_n 3, 1) := by decide +kernel
theorem dX8_common_4 : decode cX8_common 4 = .ok (.iload_n 3, 1) := by decide +kernel
theorem dX8_common_5 : decode cX8_common 5 = .ok (.ifCond .eq 16, 3) := by decide +kernel
theorem dX8_common_8 : decode cX8_common 8 = .ok (.iload_n 2, 1) := by decide +kernel
theorem dX8_common_9 : decode cX8_common 9 = .ok (.iload_n 3, 1) := by decide +kernel
theorem dX8_common_10 : decode cX8_common 10 = .ok (.irem, 1) := by decide +kernel
theorem dX8_common_11 : decode cX8_common 11 = .ok (.istore 4, 2) := by decide +kernel
theorem dX8_common_13 : decode cX8_common 13 = .ok (.iload_n 3, 1) := by decide +kernel
theorem dX8_common_14 : decode cX8_common 14 = .ok (.istore_n 2, 1) := by decide +kernel
theorem dX8_common_15 : decode cX8_common 15 = .ok (.iload 4, 2) := by decide +kernel
theorem dX8_common_17 : decode cX8_common 17 = .ok (.istore_n 3, 1) := by decide +kernel
theorem dX8_common_18 : decode cX8_common 18 = .ok (.goto (-14), 3) := by decide +kernel
theorem dX8_common_21 : decode cX8_common 21 = .ok (.iload_n 2, 1) := by decide +kernel
theorem dX8_common_22 : decode cX8_common 22 = .ok (.ireturn, 1) := by decide +kernel
set_option maxRecDepth 20000 in
theorem ggX8_lanterns_X8_within : GoodIn wsX8_lanterns wsX8_within := goodIn_r _ [5] (by decide +kernel) (by decide +kernel)
set_option maxRecDepth 20000 in
theorem gX8_lanterns_X8_within : GoodIn wsX8_lanterns (va_wsS RX8 78 yX8_within wsX8_within) := goodIn_app (goodIn_of _ (by decide +kernel)) ggX8_lanterns_X8_within
set_option maxRecDepth 20000 in
theorem ggX8_lanterns_X8_finding : GoodIn wsX8_lanterns wsX8_finding := goodIn_r _ [9, 10, 1, 14, 15, 16, 17, 18, 19, 20, 21, 22, 23, 24, 25, 26, 27, 28, 29, 30, 31, 32, 33, 34, 35, 36, 37, 38, 39, 40, 41, 42] (by decide +kernel) (by decide +kernel)
set_option maxRecDepth 20000 in
theorem gX8_lanterns_X8_finding : GoodIn wsX8_lanterns (wsV RX8 90 RX8 yX8_finding wsX8_finding) := goodIn_app (goodIn_of _ (by decide +kernel)) ggX8_lanterns_X8_finding
set_option maxRecDepth 20000 in
theorem ggX8_lanterns_X8_common : GoodIn wsX8_lanterns wsX8_common := goodIn_r _ [13] (by decide +kernel) (by decide +kernel)
set_option maxRecDepth 20000 in
theorem gX8_lanterns_X8_common : GoodIn wsX8_lanterns (va_wsS RX8 248 yX8_common wsX8_common) := goodIn_app (goodIn_of _ (by decide +kernel)) ggX8_lanterns_X8_common
theorem dX8_lanterns_0 : decode cX8_lanterns 0 = .ok (.iload_n 1, 1) := by decide +kernel
theorem dX8_lanterns_1 : decode cX8_lanterns 1 = .ok (.iconst 0, 1) := by decide +kernel
theorem dX8_lanterns_2 : decode cX8_lanterns 2 = .ok (.bipush 15, 2) := by decide +kernel
theorem dX8_lanterns_4 : decode cX8_lanterns 4 = .ok (.invokestatic 78, 3) := by decide +kernel
theorem dX8_lanterns_7 : decode cX8_lanterns 7 = .ok (.ifCond .eq 22, 3) := by decide +kernel
theorem dX8_lanterns_10 : decode cX8_lanterns 10 = .ok (.iload_n 2, 1) := by decide +kernel
theorem dX8_lanterns_11 : decode cX8_lanterns 11 = .ok (.iconst 0, 1) := by decide +kernel
theorem dX8_lanterns_12 : decode cX8_lanterns 12 = .ok (.bipush 10, 2) := by decide +kernel
theorem dX8_lanterns_14 : decode cX8_lanterns 14 = .ok (.invokestatic 78, 3) := by decide +kernel
theorem dX8_lanterns_17 : decode cX8_lanterns 17 = .ok (.ifCond .eq 12, 3) := by decide +kernel
theorem dX8_lanterns_20 : decode cX8_lanterns 20 = .ok (.iload_n 3, 1) := by decide +kernel
theorem dX8_lanterns_21 : decode cX8_lanterns 21 = .ok (.iconst 0, 1) := by decide +kernel
theorem dX8_lanterns_22 : decode cX8_lanterns 22 = .ok (.iconst 1, 1) := by decide +kernel
theorem dX8_lanterns_23 : decode cX8_lanterns 23 = .ok (.invokestatic 78, 3) := by decide +kernel
theorem dX8_lanterns_26 : decode cX8_lanterns 26 = .ok (.ifCond .ne 11, 3) := by decide +kernel
theorem dX8_lanterns_29 : decode cX8_lanterns 29 = .ok (.aload_n 0, 1) := by decide +kernel
theorem dX8_lanterns_30 : decode cX8_lanterns 30 = .ok (.ldc 73, 2) := by decide +kernel
theorem dX8_lanterns_32 : decode cX8_lanterns 32 = .ok (.invokevirtual 90, 3) := by decide +kernel
theorem dX8_lanterns_35 : decode cX8_lanterns 35 = .ok (.i2l, 1) := by decide +kernel
theorem dX8_lanterns_36 : decode cX8_lanterns 36 = .ok (.lreturn, 1) := by decide +kernel
theorem dX8_lanterns_37 : decode cX8_lanterns 37 = .ok (.bipush 10, 2) := by decide +kernel
theorem dX8_lanterns_39 : decode cX8_lanterns 39 = .ok (.iload_n 2, 1) := by decide +kernel
theorem dX8_lanterns_40 : decode cX8_lanterns 40 = .ok (.isub, 1) := by decide +kernel
theorem dX8_lanterns_41 : decode cX8_lanterns 41 = .ok (.bipush 10, 2) := by decide +kernel
theorem dX8_lanterns_43 : decode cX8_lanterns 43 = .ok (.invokestatic 248, 3) := by decide +kernel
theorem dX8_lanterns_46 : decode cX8_lanterns 46 = .ok (.istore 4, 2) := by decide +kernel
theorem dX8_lanterns_48 : decode cX8_lanterns 48 = .ok (.lconst 1, 1) := by decide +kernel
theorem dX8_lanterns_49 : decode cX8_lanterns 49 = .ok (.lstore 5, 2) := by decide +kernel
theorem dX8_lanterns_51 : decode cX8_lanterns 51 = .ok (.lconst 1, 1) := by decide +kernel
theorem dX8_lanterns_52 : decode cX8_lanterns 52 = .ok (.lstore 7, 2) := by decide +kernel
theorem dX8_lanterns_54 : decode cX8_lanterns 54 = .ok (.iconst 0, 1) := by decide +kernel
theorem dX8_lanterns_55 : decode cX8_lanterns 55 = .ok (.istore 9, 2) := by decide +kernel
theorem dX8_lanterns_57 : decode cX8_lanterns 57 = .ok (.iload 9, 2) := by decide +kernel
theorem dX8_lanterns_59 : decode cX8_lanterns 59 = .ok (.iload_n 1, 1) := by decide +kernel
theorem dX8_lanterns_60 : decode cX8_lanterns 60 = .ok (.if_icmp .ge 33, 3) := by decide +kernel
theorem dX8_lanterns_63 : decode cX8_lanterns 63 = .ok (.lload 5, 2) := by decide +kernel
theorem dX8_lanterns_65 : decode cX8_lanterns 65 = .ok (.bipush 10, 2) := by decide +kernel
theorem dX8_lanterns_67 : decode cX8_lanterns 67 = .ok (.iload_n 2, 1) := by decide +kernel
theorem dX8_lanterns_68 : decode cX8_lanterns 68 = .ok (.isub, 1) := by decide +kernel
theorem dX8_lanterns_69 : decode cX8_lanterns 69 = .ok (.iload 4, 2) := by decide +kernel
theorem dX8_lanterns_71 : decode cX8_lanterns 71 = .ok (.idiv, 1) := by decide +kernel
theorem dX8_lanterns_72 : decode cX8_lanterns 72 = .ok (.i2l, 1) := by decide +kernel
theorem dX8_lanterns_73 : decode cX8_lanterns 73 = .ok (.lmul, 1) := by decide +kernel
theorem dX8_lanterns_74 : decode cX8_lanterns 74 = .ok (.lstore 5, 2) := by decide +kernel
theorem dX8_lanterns_76 : decode cX8_lanterns 76 = .ok (.lload 7, 2) := by decide +kernel
theorem dX8_lanterns_78 : decode cX8_lanterns 78 = .ok (.bipush 10, 2) := by decide +kernel
theorem dX8_lanterns_80 : decode cX8_lanterns 80 = .ok (.iload 4, 2) := by decide +kernel
theorem dX8_lanterns_82 : decode cX8_lanterns 82 = .ok (.idiv, 1) := by decide +kernel
theorem dX8_lanterns_83 : decode cX8_lanterns 83 = .ok (.i2l, 1) := by decide +kernel
theorem dX8_lanterns_84 : decode cX8_lanterns 84 = .ok (.lmul, 1) := by decide +kernel
theorem dX8_lanterns_85 : decode cX8_lanterns 85 = .ok (.lstore 7, 2) := by decide +kernel
theorem dX8_lanterns_87 : decode cX8_lanterns 87 = .ok (.iinc 9 1, 3) := by decide +kernel
theorem dX8_lanterns_90 : decode cX8_lanterns 90 = .ok (.goto (-33), 3) := by decide +kernel
theorem dX8_lanterns_93 : decode cX8_lanterns 93 = .ok (.iload_n 3, 1) := by decide +kernel
theorem dX8_lanterns_94 : decode cX8_lanterns 94 = .ok (.ifCond .ne 8, 3) := by decide +kernel
theorem dX8_lanterns_97 : decode cX8_lanterns 97 = .ok (.lload 5, 2) := by decide +kernel
theorem dX8_lanterns_99 : decode cX8_lanterns 99 = .ok (.goto 5, 3) := by decide +kernel
theorem dX8_lanterns_102 : decode cX8_lanterns 102 = .ok (.lload 7, 2) := by decide +kernel
theorem dX8_lanterns_104 : decode cX8_lanterns 104 = .ok (.lreturn, 1) := by decide +kernel
theorem dX8_drawn_0 : decode cX8_drawn 0 = .ok (.aload_n 0, 1) := by decide +kernel
theorem dX8_drawn_1 : decode cX8_drawn 1 = .ok (.getfield 9, 3) := by decide +kernel
theorem dX8_drawn_4 : decode cX8_drawn 4 = .ok (.iconst 5, 1) := by decide +kernel
theorem dX8_drawn_5 : decode cX8_drawn 5 = .ok (.aload_n 0, 1) := by decide +kernel
theorem dX8_drawn_6 : decode cX8_drawn 6 = .ok (.getfield 9, 3) := by decide +kernel
theorem dX8_drawn_9 : decode cX8_drawn 9 = .ok (.iconst 5, 1) := by decide +kernel
theorem dX8_drawn_10 : decode cX8_drawn 10 = .ok (.iaload, 1) := by decide +kernel
theorem dX8_drawn_11 : decode cX8_drawn 11 = .ok (.ldc 251, 2) := by decide +kernel
theorem dX8_drawn_13 : decode cX8_drawn 13 = .ok (.imul, 1) := by decide +kernel
theorem dX8_drawn_14 : decode cX8_drawn 14 = .ok (.sipush 12345, 3) := by decide +kernel
theorem dX8_drawn_17 : decode cX8_drawn 17 = .ok (.iadd, 1) := by decide +kernel
theorem dX8_drawn_18 : decode cX8_drawn 18 = .ok (.iastore, 1) := by decide +kernel
theorem dX8_drawn_19 : decode cX8_drawn 19 = .ok (.aload_n 0, 1) := by decide +kernel
theorem dX8_drawn_20 : decode cX8_drawn 20 = .ok (.getfield 9, 3) := by decide +kernel
theorem dX8_drawn_23 : decode cX8_drawn 23 = .ok (.iconst 5, 1) := by decide +kernel
theorem dX8_drawn_24 : decode cX8_drawn 24 = .ok (.iaload, 1) := by decide +kernel
theorem dX8_drawn_25 : decode cX8_drawn 25 = .ok (.bipush 8, 2) := by decide +kernel
theorem dX8_drawn_27 : decode cX8_drawn 27 = .ok (.iushr, 1) := by decide +kernel
theorem dX8_drawn_28 : decode cX8_drawn 28 = .ok (.ireturn, 1) := by decide +kernel
set_option maxRecDepth 20000 in
theorem ggX8_days_X8_within : GoodIn wsX8_days wsX8_within := goodIn_r _ [9] (by decide +kernel) (by decide +kernel)
set_option maxRecDepth 20000 in
theorem gX8_days_X8_within : GoodIn wsX8_days (va_wsS RX8 78 yX8_within wsX8_within) := goodIn_app (goodIn_of _ (by decide +kernel)) ggX8_days_X8_within
set_option maxRecDepth 20000 in
theorem ggX8_days_X8_finding : GoodIn wsX8_days wsX8_finding := goodIn_r _ [13, 14, 1, 65, 66, 67, 68, 69, 70, 71, 72, 73, 74, 75, 76, 77, 78, 79, 80, 81, 82, 83, 84, 85, 86, 87, 88, 89, 90, 91, 92, 93] (by decide +kernel) (by decide +kernel)
set_option maxRecDepth 20000 in
theorem gX8_days_X8_finding : GoodIn wsX8_days (wsV RX8 90 RX8 yX8_finding wsX8_finding) := goodIn_app (goodIn_of _ (by decide +kernel)) ggX8_days_X8_finding
set_option maxRecDepth 20000 in
theorem ggX8_days_X8_drawn : GoodIn wsX8_days wsX8_drawn := goodIn_r _ [18, 2, 19, 65, 66, 67, 68, 69, 70, 71, 72, 73, 74, 75, 76, 77, 78, 79, 80, 81, 82, 83, 84, 85, 86, 87, 88, 89, 90, 91, 92, 93] (by decide +kernel) (by decide +kernel)
set_option maxRecDepth 20000 in
theorem gX8_days_X8_drawn : GoodIn wsX8_days (wsV RX8 253 RX8 yX8_drawn wsX8_drawn) := goodIn_app (goodIn_of _ (by decide +kernel)) ggX8_days_X8_drawn
set_option maxRecDepth 20000 in
theorem ggX8_days_X8_hoursGo : GoodIn wsX8_days wsX8_hoursGo := goodIn_r _ [23, 2, 24, 25, 26, 8, 27, 28, 29, 30, 31, 32, 33, 34, 35, 36, 37, 38, 39, 40, 41, 42, 43, 44, 45, 46, 47, 48, 49, 50, 51, 52, 53, 54, 55, 56, 57, 58, 59, 60, 61, 62, 63, 64, 65, 66, 67, 68, 69, 70, 71, 72, 73, 74, 75, 76, 77, 78, 79, 80, 81, 82, 83, 84, 85, 86, 87, 88, 89, 90, 91, 92, 93] (by decide +kernel) (by decide +kernel)
set_option maxRecDepth 20000 in
theorem gX8_days_X8_hoursGo : GoodIn wsX8_days (wsV RX8 160 RX8 yX8_hoursGo wsX8_hoursGo) := goodIn_app (goodIn_of _ (by decide +kernel)) ggX8_days_X8_hoursGo
theorem dX8_days_0 : decode cX8_days 0 = .ok (.iload_n 1, 1) := by decide +kernel
theorem dX8_days_1 : decode cX8_days 1 = .ok (.iconst 1, 1) := by decide +kernel
theorem dX8_days_2 : decode cX8_days 2 = .ok (.bipush 20, 2) := by decide +kernel
theorem dX8_days_4 : decode cX8_days 4 = .ok (.invokestatic 78, 3) := by decide +kernel
theorem dX8_days_7 : decode cX8_days 7 = .ok (.ifCond .ne 10, 3) := by decide +kernel
theorem dX8_days_10 : decode cX8_days 10 = .ok (.aload_n 0, 1) := by decide +kernel
theorem dX8_days_11 : decode cX8_days 11 = .ok (.ldc 73, 2) := by decide +kernel
theorem dX8_days_13 : decode cX8_days 13 = .ok (.invokevirtual 90, 3) := by decide +kernel
theorem dX8_days_16 : decode cX8_days 16 = .ok (.ireturn, 1) := by decide +kernel
theorem dX8_days_17 : decode cX8_days 17 = .ok (.aload_n 0, 1) := by decide +kernel
theorem dX8_days_18 : decode cX8_days 18 = .ok (.getfield 9, 3) := by decide +kernel
theorem dX8_days_21 : decode cX8_days 21 = .ok (.iconst 1, 1) := by decide +kernel
theorem dX8_days_22 : decode cX8_days 22 = .ok (.iaload, 1) := by decide +kernel
theorem dX8_days_23 : decode cX8_days 23 = .ok (.ldc 252, 2) := by decide +kernel
theorem dX8_days_25 : decode cX8_days 25 = .ok (.if_icmp .gt 14, 3) := by decide +kernel
theorem dX8_days_28 : decode cX8_days 28 = .ok (.aload_n 0, 1) := by decide +kernel
theorem dX8_days_29 : decode cX8_days 29 = .ok (.getfield 9, 3) := by decide +kernel
theorem dX8_days_32 : decode cX8_days 32 = .ok (.iconst 2, 1) := by decide +kernel
theorem dX8_days_33 : decode cX8_days 33 = .ok (.iaload, 1) := by decide +kernel
theorem dX8_days_34 : decode cX8_days 34 = .ok (.ldc 252, 2) := by decide +kernel
theorem dX8_days_36 : decode cX8_days 36 = .ok (.if_icmp .le 10, 3) := by decide +kernel
theorem dX8_days_39 : decode cX8_days 39 = .ok (.aload_n 0, 1) := by decide +kernel
theorem dX8_days_40 : decode cX8_days 40 = .ok (.ldc 159, 2) := by decide +kernel
theorem dX8_days_42 : decode cX8_days 42 = .ok (.invokevirtual 90, 3) := by decide +kernel
theorem dX8_days_45 : decode cX8_days 45 = .ok (.ireturn, 1) := by decide +kernel
theorem dX8_days_46 : decode cX8_days 46 = .ok (.iconst 0, 1) := by decide +kernel
theorem dX8_days_47 : decode cX8_days 47 = .ok (.istore_n 2, 1) := by decide +kernel
theorem dX8_days_48 : decode cX8_days 48 = .ok (.iconst 0, 1) := by decide +kernel
theorem dX8_days_49 : decode cX8_days 49 = .ok (.istore_n 3, 1) := by decide +kernel
theorem dX8_days_50 : decode cX8_days 50 = .ok (.iload_n 3, 1) := by decide +kernel
theorem dX8_days_51 : decode cX8_days 51 = .ok (.iload_n 1, 1) := by decide +kernel
theorem dX8_days_52 : decode cX8_days 52 = .ok (.if_icmp .ge 36, 3) := by decide +kernel
theorem dX8_days_55 : decode cX8_days 55 = .ok (.aload_n 0, 1) := by decide +kernel
theorem dX8_days_56 : decode cX8_days 56 = .ok (.getfield 9, 3) := by decide +kernel
theorem dX8_days_59 : decode cX8_days 59 = .ok (.iconst 3, 1) := by decide +kernel
theorem dX8_days_60 : decode cX8_days 60 = .ok (.aload_n 0, 1) := by decide +kernel
theorem dX8_days_61 : decode cX8_days 61 = .ok (.invokevirtual 253, 3) := by decide +kernel
theorem dX8_days_64 : decode cX8_days 64 = .ok (.ldc 72, 2) := by decide +kernel
theorem dX8_days_66 : decode cX8_days 66 = .ok (.iand, 1) := by decide +kernel
theorem dX8_days_67 : decode cX8_days 67 = .ok (.iastore, 1) := by decide +kernel
theorem dX8_days_68 : decode cX8_days 68 = .ok (.aload_n 0, 1) := by decide +kernel
theorem dX8_days_69 : decode cX8_days 69 = .ok (.getfield 9, 3) := by decide +kernel
theorem dX8_days_72 : decode cX8_days 72 = .ok (.iconst 0, 1) := by decide +kernel
theorem dX8_days_73 : decode cX8_days 73 = .ok (.iconst 0, 1) := by decide +kernel
theorem dX8_days_74 : decode cX8_days 74 = .ok (.iastore, 1) := by decide +kernel
theorem dX8_days_75 : decode cX8_days 75 = .ok (.aload_n 0, 1) := by decide +kernel
theorem dX8_days_76 : decode cX8_days 76 = .ok (.bipush 16, 2) := by decide +kernel
theorem dX8_days_78 : decode cX8_days 78 = .ok (.invokevirtual 160, 3) := by decide +kernel
theorem dX8_days_81 : decode cX8_days 81 = .ok (.istore_n 2, 1) := by decide +kernel
theorem dX8_days_82 : decode cX8_days 82 = .ok (.iinc 3 1, 3) := by decide +kernel
theorem dX8_days_85 : decode cX8_days 85 = .ok (.goto (-35), 3) := by decide +kernel
theorem dX8_days_88 : decode cX8_days 88 = .ok (.iload_n 2, 1) := by decide +kernel
theorem dX8_days_89 : decode cX8_days 89 = .ok (.ireturn, 1) := by decide +kernel
set_option maxRecDepth 20000 in
theorem ggX8_seed_X8_become : GoodIn wsX8_seed wsX8_become := goodIn_r _ [5, 6, 7, 8, 9, 10, 11, 12, 13, 14, 15, 16, 17, 18, 19, 20, 21, 22, 23, 24, 25, 26, 27, 28, 29, 30, 31, 32, 33, 34, 35] (by decide +kernel) (by decide +kernel)
set_option maxRecDepth 20000 in
theorem gX8_seed_X8_become : GoodIn wsX8_seed (wsV RX8 140 RX8 yX8_become wsX8_become) := goodIn_app (goodIn_of _ (by decide +kernel)) ggX8_seed_X8_become
theorem dX8_seed_0 : decode cX8_seed 0 = .ok (.aload_n 0, 1) := by decide +kernel
theorem dX8_seed_1 : decode cX8_seed 1 = .ok (.iconst 5, 1) := by decide +kernel
theorem dX8_seed_2 : decode cX8_seed 2 = .ok (.iload_n 1, 1) := by decide +kernel
theorem dX8_seed_3 : decode cX8_seed 3 = .ok (.invokevirtual 140, 3) := by decide +kernel
theorem dX8_seed_6 : decode cX8_seed 6 = .ok (.ireturn, 1) := by decide +kernel
set_option maxRecDepth 20000 in
theorem ggX8_feed_X8_within : GoodIn wsX8_feed wsX8_within := goodIn_r _ [8] (by decide +kernel) (by decide +kernel)
set_option maxRecDepth 20000 in
theorem gX8_feed_X8_within : GoodIn wsX8_feed (va_wsS RX8 78 yX8_within wsX8_within) := goodIn_app (goodIn_of _ (by decide +kernel)) ggX8_feed_X8_within
set_option maxRecDepth 20000 in
theorem ggX8_feed_X8_finding : GoodIn wsX8_feed wsX8_finding := goodIn_r _ [12, 13, 1, 14, 15, 16, 17, 18, 19, 20, 21, 22, 23, 24, 25, 26, 27, 28, 29, 30, 31, 32, 33, 34, 35, 36, 37, 38, 39, 40, 41, 42] (by decide +kernel) (by decide +kernel)
set_option maxRecDepth 20000 in
theorem gX8_feed_X8_finding : GoodIn wsX8_feed (wsV RX8 90 RX8 yX8_finding wsX8_finding) := goodIn_app (goodIn_of _ (by decide +kernel)) ggX8_feed_X8_finding
theorem dX8_feed_0 : decode cX8_feed 0 = .ok (.iload_n 2, 1) := by decide +kernel
theorem dX8_feed_1 : decode cX8_feed 1 = .ok (.iconst 1, 1) := by decide +kernel
theorem dX8_feed_2 : decode cX8_feed 2 = .ok (.iconst 4, 1) := by decide +kernel
theorem dX8_feed_3 : decode cX8_feed 3 = .ok (.invokestatic 78, 3) := by decide +kernel
theorem dX8_feed_6 : decode cX8_feed 6 = .ok (.ifCond .ne 10, 3) := by decide +kernel
theorem dX8_feed_9 : decode cX8_feed 9 = .ok (.aload_n 0, 1) := by decide +kernel
theorem dX8_feed_10 : decode cX8_feed 10 = .ok (.ldc 73, 2) := by decide +kernel
theorem dX8_feed_12 : decode cX8_feed 12 = .ok (.invokevirtual 90, 3) := by decide +kernel
theorem dX8_feed_15 : decode cX8_feed 15 = .ok (.ireturn, 1) := by decide +kernel
theorem dX8_feed_16 : decode cX8_feed 16 = .ok (.aload_n 0, 1) := by decide +kernel
theorem dX8_feed_17 : decode cX8_feed 17 = .ok (.getfield 256, 3) := by decide +kernel
theorem dX8_feed_20 : decode cX8_feed 20 = .ok (.iload_n 2, 1) := by decide +kernel
theorem dX8_feed_21 : decode cX8_feed 21 = .ok (.iadd, 1) := by decide +kernel
theorem dX8_feed_22 : decode cX8_feed 22 = .ok (.bipush 120, 2) := by decide +kernel
theorem dX8_feed_24 : decode cX8_feed 24 = .ok (.if_icmp .le 10, 3) := by decide +kernel
theorem dX8_feed_27 : decode cX8_feed 27 = .ok (.aload_n 0, 1) := by decide +kernel
theorem dX8_feed_28 : decode cX8_feed 28 = .ok (.ldc 94, 2) := by decide +kernel
theorem dX8_feed_30 : decode cX8_feed 30 = .ok (.invokevirtual 90, 3) := by decide +kernel
theorem dX8_feed_33 : decode cX8_feed 33 = .ok (.ireturn, 1) := by decide +kernel
theorem dX8_feed_34 : decode cX8_feed 34 = .ok (.iload_n 2, 1) := by decide +kernel
theorem dX8_feed_35 : decode cX8_feed 35 = .ok (.iconst 1, 1) := by decide +kernel
theorem dX8_feed_36 : decode cX8_feed 36 = .ok (.isub, 1) := by decide +kernel
theorem dX8_feed_37 : decode cX8_feed 37 = .ok (.istore_n 3, 1) := by decide +kernel
theorem dX8_feed_38 : decode cX8_feed 38 = .ok (.iload_n 3, 1) := by decide +kernel
theorem dX8_feed_39 : decode cX8_feed 39 = .ok (.ifCond .lt 38, 3) := by decide +kernel
theorem dX8_feed_42 : decode cX8_feed 42 = .ok (.aload_n 0, 1) := by decide +kernel
theorem dX8_feed_43 : decode cX8_feed 43 = .ok (.getfield 34, 3) := by decide +kernel
theorem dX8_feed_46 : decode cX8_feed 46 = .ok (.aload_n 0, 1) := by decide +kernel
theorem dX8_feed_47 : decode cX8_feed 47 = .ok (.getfield 256, 3) := by decide +kernel
theorem dX8_feed_50 : decode cX8_feed 50 = .ok (.iload_n 1, 1) := by decide +kernel
theorem dX8_feed_51 : decode cX8_feed 51 = .ok (.bipush 8, 2) := by decide +kernel
theorem dX8_feed_53 : decode cX8_feed 53 = .ok (.iload_n 3, 1) := by decide +kernel
theorem dX8_feed_54 : decode cX8_feed 54 = .ok (.imul, 1) := by decide +kernel
theorem dX8_feed_55 : decode cX8_feed 55 = .ok (.ishr, 1) := by decide +kernel
theorem dX8_feed_56 : decode cX8_feed 56 = .ok (.sipush 255, 3) := by decide +kernel
theorem dX8_feed_59 : decode cX8_feed 59 = .ok (.iand, 1) := by decide +kernel
theorem dX8_feed_60 : decode cX8_feed 60 = .ok (.iastore, 1) := by decide +kernel
theorem dX8_feed_61 : decode cX8_feed 61 = .ok (.aload_n 0, 1) := by decide +kernel
theorem dX8_feed_62 : decode cX8_feed 62 = .ok (.dup, 1) := by decide +kernel
theorem dX8_feed_63 : decode cX8_feed 63 = .ok (.getfield 256, 3) := by decide +kernel
theorem dX8_feed_66 : decode cX8_feed 66 = .ok (.iconst 1, 1) := by decide +kernel
theorem dX8_feed_67 : decode cX8_feed 67 = .ok (.iadd, 1) := by decide +kernel
theorem dX8_feed_68 : decode cX8_feed 68 = .ok (.putfield 256, 3) := by decide +kernel
theorem dX8_feed_71 : decode cX8_feed 71 = .ok (.iinc 3 (-1), 3) := by decide +kernel
theorem dX8_feed_74 : decode cX8_feed 74 = .ok (.goto (-36), 3) := by decide +kernel
theorem dX8_feed_77 : decode cX8_feed 77 = .ok (.aload_n 0, 1) := by decide +kernel
theorem dX8_feed_78 : decode cX8_feed 78 = .ok (.getfield 256, 3) := by decide +kernel
theorem dX8_feed_81 : decode cX8_feed 81 = .ok (.ireturn, 1) := by decide +kernel
theorem dX8_wipe_0 : decode cX8_wipe 0 = .ok (.aload_n 0, 1) := by decide +kernel
theorem dX8_wipe_1 : decode cX8_wipe 1 = .ok (.getfield 256, 3) := by decide +kernel
theorem dX8_wipe_4 : decode cX8_wipe 4 = .ok (.istore_n 1, 1) := by decide +kernel
theorem dX8_wipe_5 : decode cX8_wipe 5 = .ok (.aload_n 0, 1) := by decide +kernel
theorem dX8_wipe_6 : decode cX8_wipe 6 = .ok (.iconst 0, 1) := by decide +kernel
theorem dX8_wipe_7 : decode cX8_wipe 7 = .ok (.putfield 256, 3) := by decide +kernel
theorem dX8_wipe_10 : decode cX8_wipe 10 = .ok (.iload_n 1, 1) := by decide +kernel
theorem dX8_wipe_11 : decode cX8_wipe 11 = .ok (.ireturn, 1) := by decide +kernel
theorem dX8_byteAt_0 : decode cX8_byteAt 0 = .ok (.iload_n 1, 1) := by decide +kernel
theorem dX8_byteAt_1 : decode cX8_byteAt 1 = .ok (.aload_n 0, 1) := by decide +kernel
theorem dX8_byteAt_2 : decode cX8_byteAt 2 = .ok (.getfield 256, 3) := by decide +kernel
theorem dX8_byteAt_5 : decode cX8_byteAt 5 = .ok (.if_icmp .ge 12, 3) := by decide +kernel
theorem dX8_byteAt_8 : decode cX8_byteAt 8 = .ok (.aload_n 0, 1) := by decide +kernel
theorem dX8_byteAt_9 : decode cX8_byteAt 9 = .ok (.getfield 34, 3) := by decide +kernel
theorem dX8_byteAt_12 : decode cX8_byteAt 12 = .ok (.iload_n 1, 1) := by decide +kernel
theorem dX8_byteAt_13 : decode cX8_byteAt 13 = .ok (.iaload, 1) := by decide +kernel
theorem dX8_byteAt_14 : decode cX8_byteAt 14 = .ok (.goto 4, 3) := by decide +kernel
theorem dX8_byteAt_17 : decode cX8_byteAt 17 = .ok (.iconst (-1), 1) := by decide +kernel
theorem dX8_byteAt_18 : decode cX8_byteAt 18 = .ok (.ireturn, 1) := by decide +kernel
set_option maxRecDepth 20000 in
theorem ggX8_next_X8_byteAt : GoodIn wsX8_next wsX8_byteAt := goodIn_r _ [14, 15, 16, 20, 21, 22, 23, 24, 25, 26, 27, 28, 29, 30, 31, 32, 33, 34, 35, 36, 37, 38, 39, 40, 41, 42, 43, 44, 45, 46, 47, 48] (by decide +kernel) (by decide +kernel)
set_option maxRecDepth 20000 in
theorem gX8_next_X8_byteAt : GoodIn wsX8_next (wsV RX8 265 RX8 yX8_byteAt wsX8_byteAt) := goodIn_app (goodIn_of _ (by decide +kernel)) ggX8_next_X8_byteAt
set_option maxRecDepth 20000 in
theorem ggX8_next_X8_within : GoodIn wsX8_next wsX8_within := goodIn_r _ [19] (by decide +kernel) (by decide +kernel)
set_option maxRecDepth 20000 in
theorem gX8_next_X8_within : GoodIn wsX8_next (va_wsS RX8 78 yX8_within wsX8_within) := goodIn_app (goodIn_of _ (by decide +kernel)) ggX8_next_X8_within
theorem dX8_next_0 : decode cX8_next 0 = .ok (.aload_n 0, 1) := by decide +kernel
theorem dX8_next_1 : decode cX8_next 1 = .ok (.aload_n 0, 1) := by decide +kernel
theorem dX8_next_2 : decode cX8_next 2 = .ok (.getfield 259, 3) := by decide +kernel
theorem dX8_next_5 : decode cX8_next 5 = .ok (.putfield 262, 3) := by decide +kernel
theorem dX8_next_8 : decode cX8_next 8 = .ok (.aload_n 0, 1) := by decide +kernel
theorem dX8_next_9 : decode cX8_next 9 = .ok (.aload_n 0, 1) := by decide +kernel
theorem dX8_next_10 : decode cX8_next 10 = .ok (.getfield 262, 3) := by decide +kernel
theorem dX8_next_13 : decode cX8_next 13 = .ok (.invokevirtual 265, 3) := by decide +kernel
theorem dX8_next_16 : decode cX8_next 16 = .ok (.bipush 32, 2) := by decide +kernel
theorem dX8_next_18 : decode cX8_next 18 = .ok (.if_icmp .ne 16, 3) := by decide +kernel
theorem dX8_next_21 : decode cX8_next 21 = .ok (.aload_n 0, 1) := by decide +kernel
theorem dX8_next_22 : decode cX8_next 22 = .ok (.dup, 1) := by decide +kernel
theorem dX8_next_23 : decode cX8_next 23 = .ok (.getfield 262, 3) := by decide +kernel
theorem dX8_next_26 : decode cX8_next 26 = .ok (.iconst 1, 1) := by decide +kernel
theorem dX8_next_27 : decode cX8_next 27 = .ok (.iadd, 1) := by decide +kernel
theorem dX8_next_28 : decode cX8_next 28 = .ok (.putfield 262, 3) := by decide +kernel
theorem dX8_next_31 : decode cX8_next 31 = .ok (.goto (-23), 3) := by decide +kernel
theorem dX8_next_34 : decode cX8_next 34 = .ok (.aload_n 0, 1) := by decide +kernel
theorem dX8_next_35 : decode cX8_next 35 = .ok (.aload_n 0, 1) := by decide +kernel
theorem dX8_next_36 : decode cX8_next 36 = .ok (.getfield 262, 3) := by decide +kernel
theorem dX8_next_39 : decode cX8_next 39 = .ok (.invokevirtual 265, 3) := by decide +kernel
theorem dX8_next_42 : decode cX8_next 42 = .ok (.istore_n 1, 1) := by decide +kernel
theorem dX8_next_43 : decode cX8_next 43 = .ok (.aload_n 0, 1) := by decide +kernel
theorem dX8_next_44 : decode cX8_next 44 = .ok (.aload_n 0, 1) := by decide +kernel
theorem dX8_next_45 : decode cX8_next 45 = .ok (.getfield 262, 3) := by decide +kernel
theorem dX8_next_48 : decode cX8_next 48 = .ok (.putfield 259, 3) := by decide +kernel
theorem dX8_next_51 : decode cX8_next 51 = .ok (.aload_n 0, 1) := by decide +kernel
theorem dX8_next_52 : decode cX8_next 52 = .ok (.iconst 0, 1) := by decide +kernel
theorem dX8_next_53 : decode cX8_next 53 = .ok (.putfield 268, 3) := by decide +kernel
theorem dX8_next_56 : decode cX8_next 56 = .ok (.iload_n 1, 1) := by decide +kernel
theorem dX8_next_57 : decode cX8_next 57 = .ok (.ifCond .ge 11, 3) := by decide +kernel
theorem dX8_next_60 : decode cX8_next 60 = .ok (.aload_n 0, 1) := by decide +kernel
theorem dX8_next_61 : decode cX8_next 61 = .ok (.iconst 0, 1) := by decide +kernel
theorem dX8_next_62 : decode cX8_next 62 = .ok (.putfield 271, 3) := by decide +kernel
theorem dX8_next_65 : decode cX8_next 65 = .ok (.goto 141, 3) := by decide +kernel
theorem dX8_next_68 : decode cX8_next 68 = .ok (.iload_n 1, 1) := by decide +kernel
theorem dX8_next_69 : decode cX8_next 69 = .ok (.bipush 97, 2) := by decide +kernel
theorem dX8_next_71 : decode cX8_next 71 = .ok (.bipush 122, 2) := by decide +kernel
theorem dX8_next_73 : decode cX8_next 73 = .ok (.invokestatic 78, 3) := by decide +kernel
theorem dX8_next_76 : decode cX8_next 76 = .ok (.ifCond .eq 39, 3) := by decide +kernel
theorem dX8_next_79 : decode cX8_next 79 = .ok (.aload_n 0, 1) := by decide +kernel
theorem dX8_next_80 : decode cX8_next 80 = .ok (.iconst 1, 1) := by decide +kernel
theorem dX8_next_81 : decode cX8_next 81 = .ok (.putfield 271, 3) := by decide +kernel
theorem dX8_next_84 : decode cX8_next 84 = .ok (.aload_n 0, 1) := by decide +kernel
theorem dX8_next_85 : decode cX8_next 85 = .ok (.aload_n 0, 1) := by decide +kernel
theorem dX8_next_86 : decode cX8_next 86 = .ok (.getfield 259, 3) := by decide +kernel
theorem dX8_next_89 : decode cX8_next 89 = .ok (.invokevirtual 265, 3) := by decide +kernel
theorem dX8_next_92 : decode cX8_next 92 = .ok (.bipush 97, 2) := by decide +kernel
theorem dX8_next_94 : decode cX8_next 94 = .ok (.bipush 122, 2) := by decide +kernel
theorem dX8_next_96 : decode cX8_next 96 = .ok (.invokestatic 78, 3) := by decide +kernel
theorem dX8_next_99 : decode cX8_next 99 = .ok (.ifCond .eq 107, 3) := by decide +kernel
theorem dX8_next_102 : decode cX8_next 102 = .ok (.aload_n 0, 1) := by decide +kernel
theorem dX8_next_103 : decode cX8_next 103 = .ok (.dup, 1) := by decide +kernel
theorem dX8_next_104 : decode cX8_next 104 = .ok (.getfield 259, 3) := by decide +kernel
theorem dX8_next_107 : decode cX8_next 107 = .ok (.iconst 1, 1) := by decide +kernel
theorem dX8_next_108 : decode cX8_next 108 = .ok (.iadd, 1) := by decide +kernel
theorem dX8_next_109 : decode cX8_next 109 = .ok (.putfield 259, 3) := by decide +kernel
theorem dX8_next_112 : decode cX8_next 112 = .ok (.goto (-28), 3) := by decide +kernel
theorem dX8_next_115 : decode cX8_next 115 = .ok (.iload_n 1, 1) := by decide +kernel
theorem dX8_next_116 : decode cX8_next 116 = .ok (.bipush 48, 2) := by decide +kernel
theorem dX8_next_118 : decode cX8_next 118 = .ok (.bipush 57, 2) := by decide +kernel
theorem dX8_next_120 : decode cX8_next 120 = .ok (.invokestatic 78, 3) := by decide +kernel
theorem dX8_next_123 : decode cX8_next 123 = .ok (.ifCond .eq 68, 3) := by decide +kernel
theorem dX8_next_126 : decode cX8_next 126 = .ok (.aload_n 0, 1) := by decide +kernel
theorem dX8_next_127 : decode cX8_next 127 = .ok (.iconst 2, 1) := by decide +kernel
theorem dX8_next_128 : decode cX8_next 128 = .ok (.putfield 271, 3) := by decide +kernel
theorem dX8_next_131 : decode cX8_next 131 = .ok (.aload_n 0, 1) := by decide +kernel
theorem dX8_next_132 : decode cX8_next 132 = .ok (.aload_n 0, 1) := by decide +kernel
theorem dX8_next_133 : decode cX8_next 133 = .ok (.getfield 259, 3) := by decide +kernel
theorem dX8_next_136 : decode cX8_next 136 = .ok (.invokevirtual 265, 3) := by decide +kernel
theorem dX8_next_139 : decode cX8_next 139 = .ok (.bipush 48, 2) := by decide +kernel
theorem dX8_next_141 : decode cX8_next 141 = .ok (.bipush 57, 2) := by decide +kernel
theorem dX8_next_143 : decode cX8_next 143 = .ok (.invokestatic 78, 3) := by decide +kernel
theorem dX8_next_146 : decode cX8_next 146 = .ok (.ifCond .eq 60, 3) := by decide +kernel
theorem dX8_next_149 : decode cX8_next 149 = .ok (.aload_n 0, 1) := by decide +kernel
theorem dX8_next_150 : decode cX8_next 150 = .ok (.ldc_w 274, 3) := by decide +kernel
theorem dX8_next_153 : decode cX8_next 153 = .ok (.bipush 10, 2) := by decide +kernel
theorem dX8_next_155 : decode cX8_next 155 = .ok (.aload_n 0, 1) := by decide +kernel
theorem dX8_next_156 : decode cX8_next 156 = .ok (.getfield 268, 3) := by decide +kernel
theorem dX8_next_159 : decode cX8_next 159 = .ok (.imul, 1) := by decide +kernel
theorem dX8_next_160 : decode cX8_next 160 = .ok (.aload_n 0, 1) := by decide +kernel
theorem dX8_next_161 : decode cX8_next 161 = .ok (.aload_n 0, 1) := by decide +kernel
theorem dX8_next_162 : decode cX8_next 162 = .ok (.getfield 259, 3) := by decide +kernel
theorem dX8_next_165 : decode cX8_next 165 = .ok (.invokevirtual 265, 3) := by decide +kernel
theorem dX8_next_168 : decode cX8_next 168 = .ok (.iadd, 1) := by decide +kernel
theorem dX8_next_169 : decode cX8_next 169 = .ok (.bipush 48, 2) := by decide +kernel
theorem dX8_next_171 : decode cX8_next 171 = .ok (.isub, 1) := by decide +kernel
theorem dX8_next_172 : decode cX8_next 172 = .ok (.invokestatic 105, 3) := by decide +kernel
theorem dX8_next_175 : decode cX8_next 175 = .ok (.putfield 268, 3) := by decide +kernel
theorem dX8_next_178 : decode cX8_next 178 = .ok (.aload_n 0, 1) := by decide +kernel
theorem dX8_next_179 : decode cX8_next 179 = .ok (.dup, 1) := by decide +kernel
theorem dX8_next_180 : decode cX8_next 180 = .ok (.getfield 259, 3) := by decide +kernel
theorem dX8_next_183 : decode cX8_next 183 = .ok (.iconst 1, 1) := by decide +kernel
theorem dX8_next_184 : decode cX8_next 184 = .ok (.iadd, 1) := by decide +kernel
theorem dX8_next_185 : decode cX8_next 185 = .ok (.putfield 259, 3) := by decide +kernel
theorem dX8_next_188 : decode cX8_next 188 = .ok (.goto (-57), 3) := by decide +kernel
theorem dX8_next_191 : decode cX8_next 191 = .ok (.aload_n 0, 1) := by decide +kernel
theorem dX8_next_192 : decode cX8_next 192 = .ok (.iconst 3, 1) := by decide +kernel
theorem dX8_next_193 : decode cX8_next 193 = .ok (.putfield 271, 3) := by decide +kernel
theorem dX8_next_196 : decode cX8_next 196 = .ok (.aload_n 0, 1) := by decide +kernel
theorem dX8_next_197 : decode cX8_next 197 = .ok (.dup, 1) := by decide +kernel
theorem dX8_next_198 : decode cX8_next 198 = .ok (.getfield 259, 3) := by decide +kernel
theorem dX8_next_201 : decode cX8_next 201 = .ok (.iconst 1, 1) := by decide +kernel
theorem dX8_next_202 : decode cX8_next 202 = .ok (.iadd, 1) := by decide +kernel
theorem dX8_next_203 : decode cX8_next 203 = .ok (.putfield 259, 3) := by decide +kernel
theorem dX8_next_206 : decode cX8_next 206 = .ok (.return_, 1) := by decide +kernel
set_option maxRecDepth 20000 in
theorem ggX8_isWord_J0_length_8abf5 : GoodIn wsX8_isWord wsJ0_length_8abf5 := goodIn_r _ [9, 10, 11, 12, 13, 8, 14, 15, 16] (by decide +kernel) (by decide +kernel)
set_option maxRecDepth 20000 in
theorem gX8_isWord_J0_length_8abf5 : GoodIn wsX8_isWord (wsV RX8 275 RJ0 yJ0_length_8abf5 wsJ0_length_8abf5) := goodIn_app (goodIn_of _ (by decide +kernel)) ggX8_isWord_J0_length_8abf5
set_option maxRecDepth 20000 in
theorem ggX8_isWord_J0_charAt_5068e : GoodIn wsX8_isWord wsJ0_charAt_5068e := goodIn_r _ [20, 10, 21, 22, 23, 8, 24, 15, 16, 25, 26, 27, 28, 29, 30, 31, 32, 33, 34, 35, 36, 37, 38, 39, 40, 41, 42, 43, 44, 45, 46, 47, 48, 49, 50, 51, 52, 53] (by decide +kernel) (by decide +kernel)
set_option maxRecDepth 20000 in
theorem gX8_isWord_J0_charAt_5068e : GoodIn wsX8_isWord (wsV RX8 278 RJ0 yJ0_charAt_5068e wsJ0_charAt_5068e) := goodIn_app (goodIn_of _ (by decide +kernel)) ggX8_isWord_J0_charAt_5068e
theorem dX8_isWord_0 : decode cX8_isWord 0 = .ok (.aload_n 0, 1) := by decide +kernel
theorem dX8_isWord_1 : decode cX8_isWord 1 = .ok (.getfield 271, 3) := by decide +kernel
theorem dX8_isWord_4 : decode cX8_isWord 4 = .ok (.iconst 1, 1) := by decide +kernel
theorem dX8_isWord_5 : decode cX8_isWord 5 = .ok (.if_icmp .ne 23, 3) := by decide +kernel
theorem dX8_isWord_8 : decode cX8_isWord 8 = .ok (.aload_n 0, 1) := by decide +kernel
theorem dX8_isWord_9 : decode cX8_isWord 9 = .ok (.getfield 259, 3) := by decide +kernel
theorem dX8_isWord_12 : decode cX8_isWord 12 = .ok (.aload_n 0, 1) := by decide +kernel
theorem dX8_isWord_13 : decode cX8_isWord 13 = .ok (.getfield 262, 3) := by decide +kernel
theorem dX8_isWord_16 : decode cX8_isWord 16 = .ok (.isub, 1) := by decide +kernel
theorem dX8_isWord_17 : decode cX8_isWord 17 = .ok (.aload_n 1, 1) := by decide +kernel
theorem dX8_isWord_18 : decode cX8_isWord 18 = .ok (.invokevirtual 275, 3) := by decide +kernel
theorem dX8_isWord_21 : decode cX8_isWord 21 = .ok (.if_icmp .ne 7, 3) := by decide +kernel
theorem dX8_isWord_24 : decode cX8_isWord 24 = .ok (.iconst 1, 1) := by decide +kernel
theorem dX8_isWord_25 : decode cX8_isWord 25 = .ok (.goto 4, 3) := by decide +kernel
theorem dX8_isWord_28 : decode cX8_isWord 28 = .ok (.iconst 0, 1) := by decide +kernel
theorem dX8_isWord_29 : decode cX8_isWord 29 = .ok (.istore_n 2, 1) := by decide +kernel
theorem dX8_isWord_30 : decode cX8_isWord 30 = .ok (.iconst 0, 1) := by decide +kernel
theorem dX8_isWord_31 : decode cX8_isWord 31 = .ok (.istore_n 3, 1) := by decide +kernel
theorem dX8_isWord_32 : decode cX8_isWord 32 = .ok (.iload_n 3, 1) := by decide +kernel
theorem dX8_isWord_33 : decode cX8_isWord 33 = .ok (.aload_n 1, 1) := by decide +kernel
theorem dX8_isWord_34 : decode cX8_isWord 34 = .ok (.invokevirtual 275, 3) := by decide +kernel
theorem dX8_isWord_37 : decode cX8_isWord 37 = .ok (.if_icmp .ge 38, 3) := by decide +kernel
theorem dX8_isWord_40 : decode cX8_isWord 40 = .ok (.iload_n 2, 1) := by decide +kernel
theorem dX8_isWord_41 : decode cX8_isWord 41 = .ok (.ifCond .eq 34, 3) := by decide +kernel
theorem dX8_isWord_44 : decode cX8_isWord 44 = .ok (.aload_n 0, 1) := by decide +kernel
theorem dX8_isWord_45 : decode cX8_isWord 45 = .ok (.getfield 34, 3) := by decide +kernel
theorem dX8_isWord_48 : decode cX8_isWord 48 = .ok (.aload_n 0, 1) := by decide +kernel
theorem dX8_isWord_49 : decode cX8_isWord 49 = .ok (.getfield 262, 3) := by decide +kernel
theorem dX8_isWord_52 : decode cX8_isWord 52 = .ok (.iload_n 3, 1) := by decide +kernel
theorem dX8_isWord_53 : decode cX8_isWord 53 = .ok (.iadd, 1) := by decide +kernel
theorem dX8_isWord_54 : decode cX8_isWord 54 = .ok (.iaload, 1) := by decide +kernel
theorem dX8_isWord_55 : decode cX8_isWord 55 = .ok (.aload_n 1, 1) := by decide +kernel
theorem dX8_isWord_56 : decode cX8_isWord 56 = .ok (.iload_n 3, 1) := by decide +kernel
theorem dX8_isWord_57 : decode cX8_isWord 57 = .ok (.invokevirtual 278, 3) := by decide +kernel
theorem dX8_isWord_60 : decode cX8_isWord 60 = .ok (.if_icmp .ne 7, 3) := by decide +kernel
theorem dX8_isWord_63 : decode cX8_isWord 63 = .ok (.iconst 1, 1) := by decide +kernel
theorem dX8_isWord_64 : decode cX8_isWord 64 = .ok (.goto 4, 3) := by decide +kernel
theorem dX8_isWord_67 : decode cX8_isWord 67 = .ok (.iconst 0, 1) := by decide +kernel
theorem dX8_isWord_68 : decode cX8_isWord 68 = .ok (.istore_n 2, 1) := by decide +kernel
theorem dX8_isWord_69 : decode cX8_isWord 69 = .ok (.iinc 3 1, 3) := by decide +kernel
theorem dX8_isWord_72 : decode cX8_isWord 72 = .ok (.goto (-40), 3) := by decide +kernel
theorem dX8_isWord_75 : decode cX8_isWord 75 = .ok (.iload_n 2, 1) := by decide +kernel
theorem dX8_isWord_76 : decode cX8_isWord 76 = .ok (.ireturn, 1) := by decide +kernel
set_option maxRecDepth 20000 in
theorem ggX8_must_X8_next : GoodIn wsX8_must wsX8_next := goodIn_r _ [6, 7, 8, 9, 10, 11, 12, 13, 14, 15, 16, 17, 18, 5, 19, 20, 21, 22, 23, 24, 25, 26, 27, 28, 29, 30, 31, 32, 33, 34, 35, 36, 37, 38, 39, 40, 41, 42, 43, 44, 45, 46, 47, 48, 49, 50, 51, 52, 53] (by decide +kernel) (by decide +kernel)
set_option maxRecDepth 20000 in
theorem gX8_must_X8_next : GoodIn wsX8_must (wsV RX8 286 RX8 yX8_next wsX8_next) := goodIn_app (goodIn_of _ (by decide +kernel)) ggX8_must_X8_next
theorem dX8_must_0 : decode cX8_must 0 = .ok (.aload_n 0, 1) := by decide +kernel
theorem dX8_must_1 : decode cX8_must 1 = .ok (.aload_n 0, 1) := by decide +kernel
theorem dX8_must_2 : decode cX8_must 2 = .ok (.getfield 282, 3) := by decide +kernel
theorem dX8_must_5 : decode cX8_must 5 = .ok (.ifCond .ne 7, 3) := by decide +kernel
theorem dX8_must_8 : decode cX8_must 8 = .ok (.iload_n 1, 1) := by decide +kernel
theorem dX8_must_9 : decode cX8_must 9 = .ok (.ifCond .ne 7, 3) := by decide +kernel
theorem dX8_must_12 : decode cX8_must 12 = .ok (.iconst 1, 1) := by decide +kernel
theorem dX8_must_13 : decode cX8_must 13 = .ok (.goto 4, 3) := by decide +kernel
theorem dX8_must_16 : decode cX8_must 16 = .ok (.iconst 0, 1) := by decide +kernel
theorem dX8_must_17 : decode cX8_must 17 = .ok (.putfield 282, 3) := by decide +kernel
theorem dX8_must_20 : decode cX8_must 20 = .ok (.aload_n 0, 1) := by decide +kernel
theorem dX8_must_21 : decode cX8_must 21 = .ok (.getfield 282, 3) := by decide +kernel
theorem dX8_must_24 : decode cX8_must 24 = .ok (.ifCond .ne 7, 3) := by decide +kernel
theorem dX8_must_27 : decode cX8_must 27 = .ok (.aload_n 0, 1) := by decide +kernel
theorem dX8_must_28 : decode cX8_must 28 = .ok (.invokevirtual 286, 3) := by decide +kernel
theorem dX8_must_31 : decode cX8_must 31 = .ok (.return_, 1) := by decide +kernel
set_option maxRecDepth 20000 in
theorem ggX8_number_X8_within : GoodIn wsX8_number wsX8_within := goodIn_r _ [6] (by decide +kernel) (by decide +kernel)
set_option maxRecDepth 20000 in
theorem gX8_number_X8_within : GoodIn wsX8_number (va_wsS RX8 78 yX8_within wsX8_within) := goodIn_app (goodIn_of _ (by decide +kernel)) ggX8_number_X8_within
set_option maxRecDepth 20000 in
theorem ggX8_number_X8_must : GoodIn wsX8_number wsX8_must := goodIn_r _ [10, 11, 12, 13, 14, 5, 15, 16, 17, 1, 2, 18, 19, 20, 21, 22, 23, 24, 25, 26, 27, 28, 3, 4, 6, 29, 30, 31, 32, 33, 34, 35, 36, 37, 38, 39, 40, 41, 42, 43, 44, 45, 46, 47, 48, 49, 50, 51, 52, 53, 54, 55, 56, 57] (by decide +kernel) (by decide +kernel)
set_option maxRecDepth 20000 in
theorem gX8_number_X8_must : GoodIn wsX8_number (wsV RX8 289 RX8 yX8_must wsX8_must) := goodIn_app (goodIn_of _ (by decide +kernel)) ggX8_number_X8_must
theorem dX8_number_0 : decode cX8_number 0 = .ok (.aload_n 0, 1) := by decide +kernel
theorem dX8_number_1 : decode cX8_number 1 = .ok (.getfield 268, 3) := by decide +kernel
theorem dX8_number_4 : decode cX8_number 4 = .ok (.istore_n 3, 1) := by decide +kernel
theorem dX8_number_5 : decode cX8_number 5 = .ok (.aload_n 0, 1) := by decide +kernel
theorem dX8_number_6 : decode cX8_number 6 = .ok (.aload_n 0, 1) := by decide +kernel
theorem dX8_number_7 : decode cX8_number 7 = .ok (.getfield 271, 3) := by decide +kernel
theorem dX8_number_10 : decode cX8_number 10 = .ok (.iconst 2, 1) := by decide +kernel
theorem dX8_number_11 : decode cX8_number 11 = .ok (.if_icmp .ne 16, 3) := by decide +kernel
theorem dX8_number_14 : decode cX8_number 14 = .ok (.iload_n 3, 1) := by decide +kernel
theorem dX8_number_15 : decode cX8_number 15 = .ok (.iload_n 1, 1) := by decide +kernel
theorem dX8_number_16 : decode cX8_number 16 = .ok (.iload_n 2, 1) := by decide +kernel
theorem dX8_number_17 : decode cX8_number 17 = .ok (.invokestatic 78, 3) := by decide +kernel
theorem dX8_number_20 : decode cX8_number 20 = .ok (.ifCond .eq 7, 3) := by decide +kernel
theorem dX8_number_23 : decode cX8_number 23 = .ok (.iconst 1, 1) := by decide +kernel
theorem dX8_number_24 : decode cX8_number 24 = .ok (.goto 4, 3) := by decide +kernel
theorem dX8_number_27 : decode cX8_number 27 = .ok (.iconst 0, 1) := by decide +kernel
theorem dX8_number_28 : decode cX8_number 28 = .ok (.invokevirtual 289, 3) := by decide +kernel
theorem dX8_number_31 : decode cX8_number 31 = .ok (.iload_n 3, 1) := by decide +kernel
theorem dX8_number_32 : decode cX8_number 32 = .ok (.ireturn, 1) := by decide +kernel
theorem dX8_item_0 : decode cX8_item 0 = .ok (.iconst 4, 1) := by decide +kernel
theorem dX8_item_1 : decode cX8_item 1 = .ok (.aload_n 0, 1) := by decide +kernel
theorem dX8_item_2 : decode cX8_item 2 = .ok (.getfield 293, 3) := by decide +kernel
theorem dX8_item_5 : decode cX8_item 5 = .ok (.imul, 1) := by decide +kernel
theorem dX8_item_6 : decode cX8_item 6 = .ok (.istore 5, 2) := by decide +kernel
theorem dX8_item_8 : decode cX8_item 8 = .ok (.aload_n 0, 1) := by decide +kernel
theorem dX8_item_9 : decode cX8_item 9 = .ok (.getfield 57, 3) := by decide +kernel
theorem dX8_item_12 : decode cX8_item 12 = .ok (.iload 5, 2) := by decide +kernel
theorem dX8_item_14 : decode cX8_item 14 = .ok (.iload_n 1, 1) := by decide +kernel
theorem dX8_item_15 : decode cX8_item 15 = .ok (.iastore, 1) := by decide +kernel
theorem dX8_item_16 : decode cX8_item 16 = .ok (.aload_n 0, 1) := by decide +kernel
theorem dX8_item_17 : decode cX8_item 17 = .ok (.getfield 57, 3) := by decide +kernel
theorem dX8_item_20 : decode cX8_item 20 = .ok (.iload 5, 2) := by decide +kernel
theorem dX8_item_22 : decode cX8_item 22 = .ok (.iconst 1, 1) := by decide +kernel
theorem dX8_item_23 : decode cX8_item 23 = .ok (.iadd, 1) := by decide +kernel
theorem dX8_item_24 : decode cX8_item 24 = .ok (.iload_n 2, 1) := by decide +kernel
theorem dX8_item_25 : decode cX8_item 25 = .ok (.iastore, 1) := by decide +kernel
theorem dX8_item_26 : decode cX8_item 26 = .ok (.aload_n 0, 1) := by decide +kernel
theorem dX8_item_27 : decode cX8_item 27 = .ok (.getfield 57, 3) := by decide +kernel
theorem dX8_item_30 : decode cX8_item 30 = .ok (.iload 5, 2) := by decide +kernel
theorem dX8_item_32 : decode cX8_item 32 = .ok (.iconst 2, 1) := by decide +kernel
theorem dX8_item_33 : decode cX8_item 33 = .ok (.iadd, 1) := by decide +kernel
theorem dX8_item_34 : decode cX8_item 34 = .ok (.iload_n 3, 1) := by decide +kernel
theorem dX8_item_35 : decode cX8_item 35 = .ok (.iastore, 1) := by decide +kernel
theorem dX8_item_36 : decode cX8_item 36 = .ok (.aload_n 0, 1) := by decide +kernel
theorem dX8_item_37 : decode cX8_item 37 = .ok (.getfield 57, 3) := by decide +kernel
theorem dX8_item_40 : decode cX8_item 40 = .ok (.iload 5, 2) := by decide +kernel
theorem dX8_item_42 : decode cX8_item 42 = .ok (.iconst 3, 1) := by decide +kernel
theorem dX8_item_43 : decode cX8_item 43 = .ok (.iadd, 1) := by decide +kernel
theorem dX8_item_44 : decode cX8_item 44 = .ok (.iload 4, 2) := by decide +kernel
theorem dX8_item_46 : decode cX8_item 46 = .ok (.iastore, 1) := by decide +kernel
theorem dX8_item_47 : decode cX8_item 47 = .ok (.aload_n 0, 1) := by decide +kernel
theorem dX8_item_48 : decode cX8_item 48 = .ok (.dup, 1) := by decide +kernel
theorem dX8_item_49 : decode cX8_item 49 = .ok (.getfield 293, 3) := by decide +kernel
theorem dX8_item_52 : decode cX8_item 52 = .ok (.iconst 1, 1) := by decide +kernel
theorem dX8_item_53 : decode cX8_item 53 = .ok (.iadd, 1) := by decide +kernel
theorem dX8_item_54 : decode cX8_item 54 = .ok (.putfield 293, 3) := by decide +kernel
theorem dX8_item_57 : decode cX8_item 57 = .ok (.return_, 1) := by decide +kernel
set_option maxRecDepth 20000 in
theorem ggX8_kindTold_X8_isWord : GoodIn wsX8_kindTold wsX8_isWord := goodIn_r _ [6, 7, 8, 9, 10, 11, 12, 13, 14, 15, 16, 17, 18, 19, 20, 21, 22, 23, 24, 25, 26, 27, 28, 29, 30, 31, 32, 33, 34, 35, 36, 37, 38, 39, 40, 41, 42, 43, 44, 45, 46, 47, 48, 49, 50, 51, 52, 53, 54, 55, 56, 57, 58, 59, 60, 61, 62, 63, 64, 65, 66, 67, 68, 69, 70, 71, 72, 73, 74, 75, 76, 77, 78, 79, 80, 81, 82, 83, 84, 85, 86, 87, 88] (by decide +kernel) (by decide +kernel)
set_option maxRecDepth 20000 in
theorem gX8_kindTold_X8_isWord : GoodIn wsX8_kindTold (wsV RX8 296 RX8 yX8_isWord wsX8_isWord) := goodIn_app (goodIn_of _ (by decide +kernel)) ggX8_kindTold_X8_isWord
theorem dX8_kindTold_0 : decode cX8_kindTold 0 = .ok (.iconst (-1), 1) := by decide +kernel
theorem dX8_kindTold_1 : decode cX8_kindTold 1 = .ok (.istore_n 1, 1) := by decide +kernel
theorem dX8_kindTold_2 : decode cX8_kindTold 2 = .ok (.iconst 0, 1) := by decide +kernel
theorem dX8_kindTold_3 : decode cX8_kindTold 3 = .ok (.istore_n 2, 1) := by decide +kernel
theorem dX8_kindTold_4 : decode cX8_kindTold 4 = .ok (.iload_n 2, 1) := by decide +kernel
theorem dX8_kindTold_5 : decode cX8_kindTold 5 = .ok (.aload_n 0, 1) := by decide +kernel
theorem dX8_kindTold_6 : decode cX8_kindTold 6 = .ok (.getfield 53, 3) := by decide +kernel
theorem dX8_kindTold_9 : decode cX8_kindTold 9 = .ok (.arraylength, 1) := by decide +kernel
theorem dX8_kindTold_10 : decode cX8_kindTold 10 = .ok (.if_icmp .ge 28, 3) := by decide +kernel
theorem dX8_kindTold_13 : decode cX8_kindTold 13 = .ok (.aload_n 0, 1) := by decide +kernel
theorem dX8_kindTold_14 : decode cX8_kindTold 14 = .ok (.aload_n 0, 1) := by decide +kernel
theorem dX8_kindTold_15 : decode cX8_kindTold 15 = .ok (.getfield 53, 3) := by decide +kernel
theorem dX8_kindTold_18 : decode cX8_kindTold 18 = .ok (.iload_n 2, 1) := by decide +kernel
theorem dX8_kindTold_19 : decode cX8_kindTold 19 = .ok (.aaload, 1) := by decide +kernel
theorem dX8_kindTold_20 : decode cX8_kindTold 20 = .ok (.invokevirtual 296, 3) := by decide +kernel
theorem dX8_kindTold_23 : decode cX8_kindTold 23 = .ok (.ifCond .eq 7, 3) := by decide +kernel
theorem dX8_kindTold_26 : decode cX8_kindTold 26 = .ok (.iload_n 2, 1) := by decide +kernel
theorem dX8_kindTold_27 : decode cX8_kindTold 27 = .ok (.goto 4, 3) := by decide +kernel
theorem dX8_kindTold_30 : decode cX8_kindTold 30 = .ok (.iload_n 1, 1) := by decide +kernel
theorem dX8_kindTold_31 : decode cX8_kindTold 31 = .ok (.istore_n 1, 1) := by decide +kernel
theorem dX8_kindTold_32 : decode cX8_kindTold 32 = .ok (.iinc 2 1, 3) := by decide +kernel
theorem dX8_kindTold_35 : decode cX8_kindTold 35 = .ok (.goto (-31), 3) := by decide +kernel
theorem dX8_kindTold_38 : decode cX8_kindTold 38 = .ok (.iload_n 1, 1) := by decide +kernel
theorem dX8_kindTold_39 : decode cX8_kindTold 39 = .ok (.ireturn, 1) := by decide +kernel
set_option maxRecDepth 20000 in
theorem ggX8_isNext_X8_isWord : GoodIn wsX8_isNext wsX8_isWord := goodIn_r _ [6, 7, 8, 9, 10, 11, 12, 13, 14, 15, 16, 17, 18, 19, 20, 21, 22, 23, 24, 25, 26, 27, 28, 29, 30, 31, 32, 33, 34, 35, 36, 37, 38, 39, 40, 41, 42, 43, 44, 45, 46, 47, 48, 49, 50, 51, 52, 53, 54, 55, 56, 57, 58, 59, 82, 83, 84, 85, 86, 87, 88, 89, 90, 91, 92, 93, 94, 95, 96, 97, 98, 99, 100, 101, 102, 103, 104, 105, 106, 107, 108, 109, 110] (by decide +kernel) (by decide +kernel)
set_option maxRecDepth 20000 in
theorem gX8_isNext_X8_isWord : GoodIn wsX8_isNext (wsV RX8 296 RX8 yX8_isWord wsX8_isWord) := goodIn_app (goodIn_of _ (by decide +kernel)) ggX8_isNext_X8_isWord
set_option maxRecDepth 20000 in
theorem ggX8_isNext_X8_must : GoodIn wsX8_isNext wsX8_must := goodIn_r _ [63, 1, 64, 65, 66, 5, 67, 8, 9, 68, 7, 69, 70, 71, 72, 73, 74, 75, 76, 77, 78, 10, 79, 80, 81, 82, 83, 84, 85, 86, 87, 88, 89, 90, 91, 92, 93, 94, 95, 96, 97, 98, 99, 100, 101, 102, 103, 104, 105, 106, 107, 108, 109, 110] (by decide +kernel) (by decide +kernel)
set_option maxRecDepth 20000 in
theorem gX8_isNext_X8_must : GoodIn wsX8_isNext (wsV RX8 289 RX8 yX8_must wsX8_must) := goodIn_app (goodIn_of _ (by decide +kernel)) ggX8_isNext_X8_must
theorem dX8_isNext_0 : decode cX8_isNext 0 = .ok (.aload_n 0, 1) := by decide +kernel
theorem dX8_isNext_1 : decode cX8_isNext 1 = .ok (.getfield 282, 3) := by decide +kernel
theorem dX8_isNext_4 : decode cX8_isNext 4 = .ok (.ifCond .ne 15, 3) := by decide +kernel
theorem dX8_isNext_7 : decode cX8_isNext 7 = .ok (.aload_n 0, 1) := by decide +kernel
theorem dX8_isNext_8 : decode cX8_isNext 8 = .ok (.aload_n 1, 1) := by decide +kernel
theorem dX8_isNext_9 : decode cX8_isNext 9 = .ok (.invokevirtual 296, 3) := by decide +kernel
theorem dX8_isNext_12 : decode cX8_isNext 12 = .ok (.ifCond .eq 7, 3) := by decide +kernel
theorem dX8_isNext_15 : decode cX8_isNext 15 = .ok (.iconst 1, 1) := by decide +kernel
theorem dX8_isNext_16 : decode cX8_isNext 16 = .ok (.goto 4, 3) := by decide +kernel
theorem dX8_isNext_19 : decode cX8_isNext 19 = .ok (.iconst 0, 1) := by decide +kernel
theorem dX8_isNext_20 : decode cX8_isNext 20 = .ok (.istore_n 2, 1) := by decide +kernel
theorem dX8_isNext_21 : decode cX8_isNext 21 = .ok (.iload_n 2, 1) := by decide +kernel
theorem dX8_isNext_22 : decode cX8_isNext 22 = .ok (.ifCond .eq 8, 3) := by decide +kernel
theorem dX8_isNext_25 : decode cX8_isNext 25 = .ok (.aload_n 0, 1) := by decide +kernel
theorem dX8_isNext_26 : decode cX8_isNext 26 = .ok (.iconst 1, 1) := by decide +kernel
theorem dX8_isNext_27 : decode cX8_isNext 27 = .ok (.invokevirtual 289, 3) := by decide +kernel
theorem dX8_isNext_30 : decode cX8_isNext 30 = .ok (.iload_n 2, 1) := by decide +kernel
theorem dX8_isNext_31 : decode cX8_isNext 31 = .ok (.ireturn, 1) := by decide +kernel
set_option maxRecDepth 20000 in
theorem ggX8_another_X8_number : GoodIn wsX8_another wsX8_number := goodIn_r _ [8, 9, 10, 11, 12, 7, 13, 14, 15, 16, 17, 2, 18, 19, 20, 21, 22, 1, 23, 24, 25, 26, 27, 28, 29, 30, 31, 32, 33, 34, 35, 36, 37, 38, 39, 40, 41, 42, 43, 44, 45, 46, 47, 48, 49, 50, 51, 52, 53, 54, 55, 56, 57, 58, 59, 60, 61, 62] (by decide +kernel) (by decide +kernel)
set_option maxRecDepth 20000 in
theorem gX8_another_X8_number : GoodIn wsX8_another (wsV RX8 303 RX8 yX8_number wsX8_number) := goodIn_app (goodIn_of _ (by decide +kernel)) ggX8_another_X8_number
theorem dX8_another_0 : decode cX8_another 0 = .ok (.aload_n 0, 1) := by decide +kernel
theorem dX8_another_1 : decode cX8_another 1 = .ok (.getfield 262, 3) := by decide +kernel
theorem dX8_another_4 : decode cX8_another 4 = .ok (.istore_n 2, 1) := by decide +kernel
theorem dX8_another_5 : decode cX8_another 5 = .ok (.aload_n 0, 1) := by decide +kernel
theorem dX8_another_6 : decode cX8_another 6 = .ok (.getfield 282, 3) := by decide +kernel
theorem dX8_another_9 : decode cX8_another 9 = .ok (.istore_n 3, 1) := by decide +kernel
theorem dX8_another_10 : decode cX8_another 10 = .ok (.aload_n 0, 1) := by decide +kernel
theorem dX8_another_11 : decode cX8_another 11 = .ok (.iconst 0, 1) := by decide +kernel
theorem dX8_another_12 : decode cX8_another 12 = .ok (.aload_n 0, 1) := by decide +kernel
theorem dX8_another_13 : decode cX8_another 13 = .ok (.getfield 300, 3) := by decide +kernel
theorem dX8_another_16 : decode cX8_another 16 = .ok (.iconst 1, 1) := by decide +kernel
theorem dX8_another_17 : decode cX8_another 17 = .ok (.isub, 1) := by decide +kernel
theorem dX8_another_18 : decode cX8_another 18 = .ok (.invokevirtual 303, 3) := by decide +kernel
theorem dX8_another_21 : decode cX8_another 21 = .ok (.istore 4, 2) := by decide +kernel
theorem dX8_another_23 : decode cX8_another 23 = .ok (.iload_n 3, 1) := by decide +kernel
theorem dX8_another_24 : decode cX8_another 24 = .ok (.ifCond .ne 26, 3) := by decide +kernel
theorem dX8_another_27 : decode cX8_another 27 = .ok (.aload_n 0, 1) := by decide +kernel
theorem dX8_another_28 : decode cX8_another 28 = .ok (.getfield 282, 3) := by decide +kernel
theorem dX8_another_31 : decode cX8_another 31 = .ok (.ifCond .ne 19, 3) := by decide +kernel
theorem dX8_another_34 : decode cX8_another 34 = .ok (.iload 4, 2) := by decide +kernel
theorem dX8_another_36 : decode cX8_another 36 = .ok (.iload_n 1, 1) := by decide +kernel
theorem dX8_another_37 : decode cX8_another 37 = .ok (.if_icmp .ne 13, 3) := by decide +kernel
theorem dX8_another_40 : decode cX8_another 40 = .ok (.aload_n 0, 1) := by decide +kernel
theorem dX8_another_41 : decode cX8_another 41 = .ok (.iconst 1, 1) := by decide +kernel
theorem dX8_another_42 : decode cX8_another 42 = .ok (.putfield 282, 3) := by decide +kernel
theorem dX8_another_45 : decode cX8_another 45 = .ok (.aload_n 0, 1) := by decide +kernel
theorem dX8_another_46 : decode cX8_another 46 = .ok (.iload_n 2, 1) := by decide +kernel
theorem dX8_another_47 : decode cX8_another 47 = .ok (.putfield 262, 3) := by decide +kernel
theorem dX8_another_50 : decode cX8_another 50 = .ok (.iload 4, 2) := by decide +kernel
theorem dX8_another_52 : decode cX8_another 52 = .ok (.ireturn, 1) := by decide +kernel
set_option maxRecDepth 20000 in
theorem ggX8_readItem_X8_kindTold : GoodIn wsX8_readItem wsX8_kindTold := goodIn_r _ [7, 8, 9, 10, 11, 6, 12, 13, 14, 15, 16, 17, 18, 19, 20, 21, 22, 23, 24, 25, 26, 27, 28, 29, 30, 31, 32, 33, 34, 35, 36, 37, 38, 39, 40, 41, 42, 43, 44, 45, 46, 47, 48, 49, 50, 51, 52, 53, 54, 55, 56, 57, 58, 59, 60, 61, 62, 63, 64, 65, 107, 108, 109, 110, 111, 112, 113, 114, 115, 116, 117, 118, 119, 120, 121, 122, 123, 124, 125, 126, 127, 128, 129, 130, 131, 132, 133, 134, 135] (by decide +kernel) (by decide +kernel)
set_option maxRecDepth 20000 in
theorem gX8_readItem_X8_kindTold : GoodIn wsX8_readItem (wsV RX8 306 RX8 yX8_kindTold wsX8_kindTold) := goodIn_app (goodIn_of _ (by decide +kernel)) ggX8_readItem_X8_kindTold
set_option maxRecDepth 20000 in
theorem ggX8_readItem_X8_must : GoodIn wsX8_readItem wsX8_must := goodIn_r _ [69, 70, 71, 72, 73, 6, 74, 14, 15, 75, 13, 76, 77, 78, 79, 80, 81, 82, 83, 84, 85, 16, 86, 87, 88, 107, 108, 109, 110, 111, 112, 113, 114, 115, 116, 117, 118, 119, 120, 121, 122, 123, 124, 125, 126, 127, 128, 129, 130, 131, 132, 133, 134, 135] (by decide +kernel) (by decide +kernel)
set_option maxRecDepth 20000 in
theorem gX8_readItem_X8_must : GoodIn wsX8_readItem (wsV RX8 289 RX8 yX8_must wsX8_must) := goodIn_app (goodIn_of _ (by decide +kernel)) ggX8_readItem_X8_must
set_option maxRecDepth 20000 in
theorem ggX8_readItem_X8_isNext : GoodIn wsX8_readItem wsX8_isNext := goodIn_r _ [92, 70, 9, 10, 11, 6, 12, 13, 14, 15, 16, 17, 18, 19, 20, 21, 22, 23, 24, 25, 26, 27, 28, 29, 30, 31, 32, 33, 34, 35, 36, 37, 38, 39, 40, 41, 42, 43, 44, 45, 46, 47, 48, 49, 50, 51, 52, 53, 54, 55, 56, 57, 58, 59, 60, 61, 62, 63, 64, 65, 66, 67, 68, 69, 71, 72, 73, 74, 75, 76, 77, 78, 79, 80, 81, 82, 83, 84, 85, 86, 87, 88, 107, 108, 109, 110, 111, 112, 113, 114, 115, 116, 117, 118, 119, 120, 121, 122, 123, 124, 125, 126, 127, 128, 129, 130, 131, 132, 133, 134, 135] (by decide +kernel) (by decide +kernel)
set_option maxRecDepth 20000 in
theorem gX8_readItem_X8_isNext : GoodIn wsX8_readItem (wsV RX8 311 RX8 yX8_isNext wsX8_isNext) := goodIn_app (goodIn_of _ (by decide +kernel)) ggX8_readItem_X8_isNext
set_option maxRecDepth 20000 in
theorem ggX8_readItem_X8_number : GoodIn wsX8_readItem wsX8_number := goodIn_r _ [96, 75, 13, 86, 87, 6, 88, 66, 67, 68, 69, 70, 71, 72, 73, 74, 14, 15, 76, 77, 78, 79, 80, 81, 82, 83, 84, 85, 16, 107, 108, 109, 110, 111, 112, 113, 114, 115, 116, 117, 118, 119, 120, 121, 122, 123, 124, 125, 126, 127, 128, 129, 130, 131, 132, 133, 134, 135] (by decide +kernel) (by decide +kernel)
set_option maxRecDepth 20000 in
theorem gX8_readItem_X8_number : GoodIn wsX8_readItem (wsV RX8 303 RX8 yX8_number wsX8_number) := goodIn_app (goodIn_of _ (by decide +kernel)) ggX8_readItem_X8_number
set_option maxRecDepth 20000 in
theorem ggX8_readItem_X8_item : GoodIn wsX8_readItem wsX8_item := goodIn_r _ [100, 101, 102, 107, 108, 109, 110, 111, 112, 113, 114, 115, 116, 117, 118, 119, 120, 121, 122, 123, 124, 125, 126, 127, 128, 129, 130, 131, 132, 133, 134, 135] (by decide +kernel) (by decide +kernel)
set_option maxRecDepth 20000 in
theorem gX8_readItem_X8_item : GoodIn wsX8_readItem (wsV RX8 318 RX8 yX8_item wsX8_item) := goodIn_app (goodIn_of _ (by decide +kernel)) ggX8_readItem_X8_item
set_option maxRecDepth 20000 in
theorem ggX8_readItem_X8_another : GoodIn wsX8_readItem wsX8_another := goodIn_r _ [106, 15, 70, 1, 93, 94, 95, 6, 96, 75, 13, 86, 87, 88, 66, 67, 68, 69, 71, 72, 73, 74, 14, 76, 77, 78, 79, 80, 81, 82, 83, 84, 85, 16, 107, 108, 109, 110, 111, 112, 113, 114, 115, 116, 117, 118, 119, 120, 121, 122, 123, 124, 125, 126, 127, 128, 129, 130, 131, 132, 133, 134, 135] (by decide +kernel) (by decide +kernel)
set_option maxRecDepth 20000 in
theorem gX8_readItem_X8_another : GoodIn wsX8_readItem (wsV RX8 324 RX8 yX8_another wsX8_another) := goodIn_app (goodIn_of _ (by decide +kernel)) ggX8_readItem_X8_another
set_option maxRecDepth 20000 in
theorem ggX8_readItem_X8_isWord : GoodIn wsX8_readItem wsX8_isWord := goodIn_r _ [12, 13, 14, 15, 16, 17, 18, 19, 20, 21, 22, 23, 24, 25, 26, 27, 28, 29, 30, 31, 32, 33, 34, 35, 36, 37, 38, 39, 40, 41, 42, 43, 44, 45, 46, 47, 48, 49, 50, 51, 52, 53, 54, 55, 56, 57, 58, 59, 60, 61, 62, 63, 64, 65, 107, 108, 109, 110, 111, 112, 113, 114, 115, 116, 117, 118, 119, 120, 121, 122, 123, 124, 125, 126, 127, 128, 129, 130, 131, 132, 133, 134, 135] (by decide +kernel) (by decide +kernel)
set_option maxRecDepth 20000 in
theorem gX8_readItem_X8_isWord : GoodIn wsX8_readItem (wsV RX8 296 RX8 yX8_isWord wsX8_isWord) := goodIn_app (goodIn_of _ (by decide +kernel)) ggX8_readItem_X8_isWord
theorem dX8_readItem_0 : decode cX8_readItem 0 = .ok (.aload_n 0, 1) := by decide +kernel
theorem dX8_readItem_1 : decode cX8_readItem 1 = .ok (.invokevirtual 306, 3) := by decide +kernel
theorem dX8_readItem_4 : decode cX8_readItem 4 = .ok (.istore_n 1, 1) := by decide +kernel
theorem dX8_readItem_5 : decode cX8_readItem 5 = .ok (.iload_n 1, 1) := by decide +kernel
theorem dX8_readItem_6 : decode cX8_readItem 6 = .ok (.ifCond .lt 106, 3) := by decide +kernel
theorem dX8_readItem_9 : decode cX8_readItem 9 = .ok (.aload_n 0, 1) := by decide +kernel
theorem dX8_readItem_10 : decode cX8_readItem 10 = .ok (.aload_n 0, 1) := by decide +kernel
theorem dX8_readItem_11 : decode cX8_readItem 11 = .ok (.getfield 300, 3) := by decide +kernel
theorem dX8_readItem_14 : decode cX8_readItem 14 = .ok (.bipush 8, 2) := by decide +kernel
theorem dX8_readItem_16 : decode cX8_readItem 16 = .ok (.if_icmp .ge 7, 3) := by decide +kernel
theorem dX8_readItem_19 : decode cX8_readItem 19 = .ok (.iconst 1, 1) := by decide +kernel
theorem dX8_readItem_20 : decode cX8_readItem 20 = .ok (.goto 4, 3) := by decide +kernel
theorem dX8_readItem_23 : decode cX8_readItem 23 = .ok (.iconst 0, 1) := by decide +kernel
theorem dX8_readItem_24 : decode cX8_readItem 24 = .ok (.invokevirtual 289, 3) := by decide +kernel
theorem dX8_readItem_27 : decode cX8_readItem 27 = .ok (.aload_n 0, 1) := by decide +kernel
theorem dX8_readItem_28 : decode cX8_readItem 28 = .ok (.dup, 1) := by decide +kernel
theorem dX8_readItem_29 : decode cX8_readItem 29 = .ok (.getfield 300, 3) := by decide +kernel
theorem dX8_readItem_32 : decode cX8_readItem 32 = .ok (.iconst 1, 1) := by decide +kernel
theorem dX8_readItem_33 : decode cX8_readItem 33 = .ok (.iadd, 1) := by decide +kernel
theorem dX8_readItem_34 : decode cX8_readItem 34 = .ok (.putfield 300, 3) := by decide +kernel
theorem dX8_readItem_37 : decode cX8_readItem 37 = .ok (.aload_n 0, 1) := by decide +kernel
theorem dX8_readItem_38 : decode cX8_readItem 38 = .ok (.ldc_w 309, 3) := by decide +kernel
theorem dX8_readItem_41 : decode cX8_readItem 41 = .ok (.invokevirtual 311, 3) := by decide +kernel
theorem dX8_readItem_44 : decode cX8_readItem 44 = .ok (.ifCond .eq 13, 3) := by decide +kernel
theorem dX8_readItem_47 : decode cX8_readItem 47 = .ok (.aload_n 0, 1) := by decide +kernel
theorem dX8_readItem_48 : decode cX8_readItem 48 = .ok (.iconst 0, 1) := by decide +kernel
theorem dX8_readItem_49 : decode cX8_readItem 49 = .ok (.bipush 99, 2) := by decide +kernel
theorem dX8_readItem_51 : decode cX8_readItem 51 = .ok (.invokevirtual 303, 3) := by decide +kernel
theorem dX8_readItem_54 : decode cX8_readItem 54 = .ok (.goto 4, 3) := by decide +kernel
theorem dX8_readItem_57 : decode cX8_readItem 57 = .ok (.iconst 0, 1) := by decide +kernel
theorem dX8_readItem_58 : decode cX8_readItem 58 = .ok (.istore_n 2, 1) := by decide +kernel
theorem dX8_readItem_59 : decode cX8_readItem 59 = .ok (.aload_n 0, 1) := by decide +kernel
theorem dX8_readItem_60 : decode cX8_readItem 60 = .ok (.ldc_w 314, 3) := by decide +kernel
theorem dX8_readItem_63 : decode cX8_readItem 63 = .ok (.invokevirtual 311, 3) := by decide +kernel
theorem dX8_readItem_66 : decode cX8_readItem 66 = .ok (.ifCond .eq 13, 3) := by decide +kernel
theorem dX8_readItem_69 : decode cX8_readItem 69 = .ok (.aload_n 0, 1) := by decide +kernel
theorem dX8_readItem_70 : decode cX8_readItem 70 = .ok (.iconst 0, 1) := by decide +kernel
theorem dX8_readItem_71 : decode cX8_readItem 71 = .ok (.bipush 9, 2) := by decide +kernel
theorem dX8_readItem_73 : decode cX8_readItem 73 = .ok (.invokevirtual 303, 3) := by decide +kernel
theorem dX8_readItem_76 : decode cX8_readItem 76 = .ok (.goto 4, 3) := by decide +kernel
theorem dX8_readItem_79 : decode cX8_readItem 79 = .ok (.iconst 3, 1) := by decide +kernel
theorem dX8_readItem_80 : decode cX8_readItem 80 = .ok (.istore_n 3, 1) := by decide +kernel
theorem dX8_readItem_81 : decode cX8_readItem 81 = .ok (.aload_n 0, 1) := by decide +kernel
theorem dX8_readItem_82 : decode cX8_readItem 82 = .ok (.iload_n 1, 1) := by decide +kernel
theorem dX8_readItem_83 : decode cX8_readItem 83 = .ok (.iload_n 2, 1) := by decide +kernel
theorem dX8_readItem_84 : decode cX8_readItem 84 = .ok (.iload_n 3, 1) := by decide +kernel
theorem dX8_readItem_85 : decode cX8_readItem 85 = .ok (.aload_n 0, 1) := by decide +kernel
theorem dX8_readItem_86 : decode cX8_readItem 86 = .ok (.ldc_w 316, 3) := by decide +kernel
theorem dX8_readItem_89 : decode cX8_readItem 89 = .ok (.invokevirtual 311, 3) := by decide +kernel
theorem dX8_readItem_92 : decode cX8_readItem 92 = .ok (.ifCond .eq 13, 3) := by decide +kernel
theorem dX8_readItem_95 : decode cX8_readItem 95 = .ok (.aload_n 0, 1) := by decide +kernel
theorem dX8_readItem_96 : decode cX8_readItem 96 = .ok (.iconst 0, 1) := by decide +kernel
theorem dX8_readItem_97 : decode cX8_readItem 97 = .ok (.ldc 72, 2) := by decide +kernel
theorem dX8_readItem_99 : decode cX8_readItem 99 = .ok (.invokevirtual 303, 3) := by decide +kernel
theorem dX8_readItem_102 : decode cX8_readItem 102 = .ok (.goto 4, 3) := by decide +kernel
theorem dX8_readItem_105 : decode cX8_readItem 105 = .ok (.iconst 0, 1) := by decide +kernel
theorem dX8_readItem_106 : decode cX8_readItem 106 = .ok (.invokevirtual 318, 3) := by decide +kernel
theorem dX8_readItem_109 : decode cX8_readItem 109 = .ok (.goto 89, 3) := by decide +kernel
theorem dX8_readItem_112 : decode cX8_readItem 112 = .ok (.aload_n 0, 1) := by decide +kernel
theorem dX8_readItem_113 : decode cX8_readItem 113 = .ok (.ldc_w 322, 3) := by decide +kernel
theorem dX8_readItem_116 : decode cX8_readItem 116 = .ok (.invokevirtual 311, 3) := by decide +kernel
theorem dX8_readItem_119 : decode cX8_readItem 119 = .ok (.ifCond .eq 25, 3) := by decide +kernel
theorem dX8_readItem_122 : decode cX8_readItem 122 = .ok (.aload_n 0, 1) := by decide +kernel
theorem dX8_readItem_123 : decode cX8_readItem 123 = .ok (.iconst (-1), 1) := by decide +kernel
theorem dX8_readItem_124 : decode cX8_readItem 124 = .ok (.invokevirtual 324, 3) := by decide +kernel
theorem dX8_readItem_127 : decode cX8_readItem 127 = .ok (.istore_n 2, 1) := by decide +kernel
theorem dX8_readItem_128 : decode cX8_readItem 128 = .ok (.aload_n 0, 1) := by decide +kernel
theorem dX8_readItem_129 : decode cX8_readItem 129 = .ok (.bipush 10, 2) := by decide +kernel
theorem dX8_readItem_131 : decode cX8_readItem 131 = .ok (.iload_n 2, 1) := by decide +kernel
theorem dX8_readItem_132 : decode cX8_readItem 132 = .ok (.aload_n 0, 1) := by decide +kernel
theorem dX8_readItem_133 : decode cX8_readItem 133 = .ok (.iload_n 2, 1) := by decide +kernel
theorem dX8_readItem_134 : decode cX8_readItem 134 = .ok (.invokevirtual 324, 3) := by decide +kernel
theorem dX8_readItem_137 : decode cX8_readItem 137 = .ok (.iconst 0, 1) := by decide +kernel
theorem dX8_readItem_138 : decode cX8_readItem 138 = .ok (.invokevirtual 318, 3) := by decide +kernel
theorem dX8_readItem_141 : decode cX8_readItem 141 = .ok (.goto 57, 3) := by decide +kernel
theorem dX8_readItem_144 : decode cX8_readItem 144 = .ok (.aload_n 0, 1) := by decide +kernel
theorem dX8_readItem_145 : decode cX8_readItem 145 = .ok (.ldc_w 327, 3) := by decide +kernel
theorem dX8_readItem_148 : decode cX8_readItem 148 = .ok (.invokevirtual 311, 3) := by decide +kernel
theorem dX8_readItem_151 : decode cX8_readItem 151 = .ok (.ifCond .eq 21, 3) := by decide +kernel
theorem dX8_readItem_154 : decode cX8_readItem 154 = .ok (.aload_n 0, 1) := by decide +kernel
theorem dX8_readItem_155 : decode cX8_readItem 155 = .ok (.bipush 11, 2) := by decide +kernel
theorem dX8_readItem_157 : decode cX8_readItem 157 = .ok (.aload_n 0, 1) := by decide +kernel
theorem dX8_readItem_158 : decode cX8_readItem 158 = .ok (.iconst 0, 1) := by decide +kernel
theorem dX8_readItem_159 : decode cX8_readItem 159 = .ok (.ldc 72, 2) := by decide +kernel
theorem dX8_readItem_161 : decode cX8_readItem 161 = .ok (.invokevirtual 303, 3) := by decide +kernel
theorem dX8_readItem_164 : decode cX8_readItem 164 = .ok (.iconst 0, 1) := by decide +kernel
theorem dX8_readItem_165 : decode cX8_readItem 165 = .ok (.iconst 0, 1) := by decide +kernel
theorem dX8_readItem_166 : decode cX8_readItem 166 = .ok (.invokevirtual 318, 3) := by decide +kernel
theorem dX8_readItem_169 : decode cX8_readItem 169 = .ok (.goto 29, 3) := by decide +kernel
theorem dX8_readItem_172 : decode cX8_readItem 172 = .ok (.aload_n 0, 1) := by decide +kernel
theorem dX8_readItem_173 : decode cX8_readItem 173 = .ok (.aload_n 0, 1) := by decide +kernel
theorem dX8_readItem_174 : decode cX8_readItem 174 = .ok (.ldc_w 329, 3) := by decide +kernel
theorem dX8_readItem_177 : decode cX8_readItem 177 = .ok (.invokevirtual 296, 3) := by decide +kernel
theorem dX8_readItem_180 : decode cX8_readItem 180 = .ok (.invokevirtual 289, 3) := by decide +kernel
theorem dX8_readItem_183 : decode cX8_readItem 183 = .ok (.aload_n 0, 1) := by decide +kernel
theorem dX8_readItem_184 : decode cX8_readItem 184 = .ok (.bipush 12, 2) := by decide +kernel
theorem dX8_readItem_186 : decode cX8_readItem 186 = .ok (.aload_n 0, 1) := by decide +kernel
theorem dX8_readItem_187 : decode cX8_readItem 187 = .ok (.iconst 0, 1) := by decide +kernel
theorem dX8_readItem_188 : decode cX8_readItem 188 = .ok (.bipush 16, 2) := by decide +kernel
theorem dX8_readItem_190 : decode cX8_readItem 190 = .ok (.invokevirtual 303, 3) := by decide +kernel
theorem dX8_readItem_193 : decode cX8_readItem 193 = .ok (.iconst 0, 1) := by decide +kernel
theorem dX8_readItem_194 : decode cX8_readItem 194 = .ok (.iconst 0, 1) := by decide +kernel
theorem dX8_readItem_195 : decode cX8_readItem 195 = .ok (.invokevirtual 318, 3) := by decide +kernel
theorem dX8_readItem_198 : decode cX8_readItem 198 = .ok (.return_, 1) := by decide +kernel
set_option maxRecDepth 20000 in
theorem ggX8_isSo_X8_areMates : GoodIn wsX8_isSo wsX8_areMates := goodIn_r _ [6, 7, 8, 9, 10, 5, 11, 12, 13, 14, 15, 16, 17, 18, 19, 20, 21, 22, 27, 28, 29, 30, 31, 32, 33, 34, 35, 36, 37, 38, 39, 40, 41, 42, 43, 44, 45, 46, 47, 48, 49, 50, 51, 52, 53, 54, 55] (by decide +kernel) (by decide +kernel)
set_option maxRecDepth 20000 in
theorem gX8_isSo_X8_areMates : GoodIn wsX8_isSo (wsV RX8 149 RX8 yX8_areMates wsX8_areMates) := goodIn_app (goodIn_of _ (by decide +kernel)) ggX8_isSo_X8_areMates
set_option maxRecDepth 20000 in
theorem ggX8_isSo_X8_become : GoodIn wsX8_isSo wsX8_become := goodIn_r _ [22, 7, 27, 28, 29, 30, 31, 32, 33, 34, 35, 36, 37, 38, 39, 40, 41, 42, 43, 44, 45, 46, 47, 48, 49, 50, 51, 52, 53, 54, 55] (by decide +kernel) (by decide +kernel)
set_option maxRecDepth 20000 in
theorem gX8_isSo_X8_become : GoodIn wsX8_isSo (wsV RX8 140 RX8 yX8_become wsX8_become) := goodIn_app (goodIn_of _ (by decide +kernel)) ggX8_isSo_X8_become
set_option maxRecDepth 20000 in
theorem ggX8_isSo_X8_comes : GoodIn wsX8_isSo wsX8_comes := goodIn_r _ [26, 7, 12, 13, 5, 14, 27, 28, 29, 30, 31, 32, 33, 34, 35, 36, 37, 38, 39, 40, 41, 42, 43, 44, 45, 46, 47, 48, 49, 50, 51, 52, 53, 54, 55] (by decide +kernel) (by decide +kernel)
set_option maxRecDepth 20000 in
theorem gX8_isSo_X8_comes : GoodIn wsX8_isSo (wsV RX8 95 RX8 yX8_comes wsX8_comes) := goodIn_app (goodIn_of _ (by decide +kernel)) ggX8_isSo_X8_comes
theorem dX8_isSo_0 : decode cX8_isSo 0 = .ok (.aload_n 0, 1) := by decide +kernel
theorem dX8_isSo_1 : decode cX8_isSo 1 = .ok (.getfield 57, 3) := by decide +kernel
theorem dX8_isSo_4 : decode cX8_isSo 4 = .ok (.iload_n 1, 1) := by decide +kernel
theorem dX8_isSo_5 : decode cX8_isSo 5 = .ok (.iconst 1, 1) := by decide +kernel
theorem dX8_isSo_6 : decode cX8_isSo 6 = .ok (.iadd, 1) := by decide +kernel
theorem dX8_isSo_7 : decode cX8_isSo 7 = .ok (.iaload, 1) := by decide +kernel
theorem dX8_isSo_8 : decode cX8_isSo 8 = .ok (.istore_n 2, 1) := by decide +kernel
theorem dX8_isSo_9 : decode cX8_isSo 9 = .ok (.aload_n 0, 1) := by decide +kernel
theorem dX8_isSo_10 : decode cX8_isSo 10 = .ok (.getfield 57, 3) := by decide +kernel
theorem dX8_isSo_13 : decode cX8_isSo 13 = .ok (.iload_n 1, 1) := by decide +kernel
theorem dX8_isSo_14 : decode cX8_isSo 14 = .ok (.iconst 2, 1) := by decide +kernel
theorem dX8_isSo_15 : decode cX8_isSo 15 = .ok (.iadd, 1) := by decide +kernel
theorem dX8_isSo_16 : decode cX8_isSo 16 = .ok (.iaload, 1) := by decide +kernel
theorem dX8_isSo_17 : decode cX8_isSo 17 = .ok (.istore_n 3, 1) := by decide +kernel
theorem dX8_isSo_18 : decode cX8_isSo 18 = .ok (.aload_n 0, 1) := by decide +kernel
theorem dX8_isSo_19 : decode cX8_isSo 19 = .ok (.getfield 57, 3) := by decide +kernel
theorem dX8_isSo_22 : decode cX8_isSo 22 = .ok (.iload_n 1, 1) := by decide +kernel
theorem dX8_isSo_23 : decode cX8_isSo 23 = .ok (.iaload, 1) := by decide +kernel
theorem dX8_isSo_24 : decode cX8_isSo 24 = .ok (.tableswitch 49 10 12 #[28, 35, 42], 28) := by decide +kernel
theorem dX8_isSo_52 : decode cX8_isSo 52 = .ok (.aload_n 0, 1) := by decide +kernel
theorem dX8_isSo_53 : decode cX8_isSo 53 = .ok (.iload_n 2, 1) := by decide +kernel
theorem dX8_isSo_54 : decode cX8_isSo 54 = .ok (.iload_n 3, 1) := by decide +kernel
theorem dX8_isSo_55 : decode cX8_isSo 55 = .ok (.invokevirtual 149, 3) := by decide +kernel
theorem dX8_isSo_58 : decode cX8_isSo 58 = .ok (.ireturn, 1) := by decide +kernel
theorem dX8_isSo_59 : decode cX8_isSo 59 = .ok (.aload_n 0, 1) := by decide +kernel
theorem dX8_isSo_60 : decode cX8_isSo 60 = .ok (.iconst 3, 1) := by decide +kernel
theorem dX8_isSo_61 : decode cX8_isSo 61 = .ok (.iload_n 2, 1) := by decide +kernel
theorem dX8_isSo_62 : decode cX8_isSo 62 = .ok (.invokevirtual 140, 3) := by decide +kernel
theorem dX8_isSo_65 : decode cX8_isSo 65 = .ok (.ireturn, 1) := by decide +kernel
theorem dX8_isSo_66 : decode cX8_isSo 66 = .ok (.aload_n 0, 1) := by decide +kernel
theorem dX8_isSo_67 : decode cX8_isSo 67 = .ok (.iconst 0, 1) := by decide +kernel
theorem dX8_isSo_68 : decode cX8_isSo 68 = .ok (.iload_n 2, 1) := by decide +kernel
theorem dX8_isSo_69 : decode cX8_isSo 69 = .ok (.invokevirtual 140, 3) := by decide +kernel
theorem dX8_isSo_72 : decode cX8_isSo 72 = .ok (.ireturn, 1) := by decide +kernel
theorem dX8_isSo_73 : decode cX8_isSo 73 = .ok (.aload_n 0, 1) := by decide +kernel
theorem dX8_isSo_74 : decode cX8_isSo 74 = .ok (.aload_n 0, 1) := by decide +kernel
theorem dX8_isSo_75 : decode cX8_isSo 75 = .ok (.getfield 57, 3) := by decide +kernel
theorem dX8_isSo_78 : decode cX8_isSo 78 = .ok (.iload_n 1, 1) := by decide +kernel
theorem dX8_isSo_79 : decode cX8_isSo 79 = .ok (.iaload, 1) := by decide +kernel
theorem dX8_isSo_80 : decode cX8_isSo 80 = .ok (.iload_n 2, 1) := by decide +kernel
theorem dX8_isSo_81 : decode cX8_isSo 81 = .ok (.iload_n 3, 1) := by decide +kernel
theorem dX8_isSo_82 : decode cX8_isSo 82 = .ok (.aload_n 0, 1) := by decide +kernel
theorem dX8_isSo_83 : decode cX8_isSo 83 = .ok (.getfield 57, 3) := by decide +kernel
theorem dX8_isSo_86 : decode cX8_isSo 86 = .ok (.iload_n 1, 1) := by decide +kernel
theorem dX8_isSo_87 : decode cX8_isSo 87 = .ok (.iconst 3, 1) := by decide +kernel
theorem dX8_isSo_88 : decode cX8_isSo 88 = .ok (.iadd, 1) := by decide +kernel
theorem dX8_isSo_89 : decode cX8_isSo 89 = .ok (.iaload, 1) := by decide +kernel
theorem dX8_isSo_90 : decode cX8_isSo 90 = .ok (.invokevirtual 95, 3) := by decide +kernel
theorem dX8_isSo_93 : decode cX8_isSo 93 = .ok (.ireturn, 1) := by decide +kernel
set_option maxRecDepth 20000 in
theorem ggX8_text_X8_next : GoodIn wsX8_text wsX8_next := goodIn_r _ [14, 1, 8, 15, 6, 16, 17, 18, 19, 20, 21, 22, 23, 13, 24, 9, 7, 25, 26, 27, 139, 140, 141, 142, 143, 144, 145, 146, 147, 148, 149, 150, 151, 152, 153, 154, 155, 156, 157, 158, 159, 160, 161, 162, 163, 164, 165, 166, 167] (by decide +kernel) (by decide +kernel)
set_option maxRecDepth 20000 in
theorem gX8_text_X8_next : GoodIn wsX8_text (wsV RX8 286 RX8 yX8_next wsX8_next) := goodIn_app (goodIn_of _ (by decide +kernel)) ggX8_text_X8_next
set_option maxRecDepth 20000 in
theorem ggX8_text_X8_readItem : GoodIn wsX8_text wsX8_readItem := goodIn_r _ [31, 5, 32, 33, 34, 35, 13, 36, 37, 38, 39, 40, 41, 6, 1, 8, 7, 42, 43, 44, 45, 46, 47, 48, 49, 50, 51, 52, 53, 54, 55, 56, 57, 58, 59, 60, 61, 62, 63, 64, 65, 66, 67, 68, 69, 70, 71, 72, 73, 74, 75, 76, 77, 78, 79, 80, 81, 82, 83, 84, 85, 86, 87, 88, 89, 90, 91, 92, 93, 94, 2, 10, 11, 12, 14, 15, 16, 17, 18, 19, 20, 21, 22, 23, 24, 9, 25, 26, 27, 95, 96, 97, 98, 99, 100, 101, 102, 103, 104, 105, 106, 3, 107, 108, 109, 110, 111, 139, 140, 141, 142, 143, 144, 145, 146, 147, 148, 149, 150, 151, 152, 153, 154, 155, 156, 157, 158, 159, 160, 161, 162, 163, 164, 165, 166, 167] (by decide +kernel) (by decide +kernel)
set_option maxRecDepth 20000 in
theorem gX8_text_X8_readItem : GoodIn wsX8_text (wsV RX8 330 RX8 yX8_readItem wsX8_readItem) := goodIn_app (goodIn_of _ (by decide +kernel)) ggX8_text_X8_readItem
set_option maxRecDepth 20000 in
theorem ggX8_text_X8_must : GoodIn wsX8_text wsX8_must := goodIn_r _ [94, 2, 10, 11, 12, 13, 14, 1, 8, 15, 6, 16, 17, 18, 19, 20, 21, 22, 23, 24, 9, 7, 25, 26, 27, 139, 140, 141, 142, 143, 144, 145, 146, 147, 148, 149, 150, 151, 152, 153, 154, 155, 156, 157, 158, 159, 160, 161, 162, 163, 164, 165, 166, 167] (by decide +kernel) (by decide +kernel)
set_option maxRecDepth 20000 in
theorem gX8_text_X8_must : GoodIn wsX8_text (wsV RX8 289 RX8 yX8_must wsX8_must) := goodIn_app (goodIn_of _ (by decide +kernel)) ggX8_text_X8_must
set_option maxRecDepth 20000 in
theorem ggX8_text_X8_isSo : GoodIn wsX8_text wsX8_isSo := goodIn_r _ [115, 107, 116, 117, 118, 13, 119, 4, 120, 121, 122, 123, 124, 125, 126, 127, 128, 129, 130, 131, 132, 133, 134, 135, 136, 137, 138, 139, 140, 141, 142, 143, 144, 145, 146, 147, 148, 149, 150, 151, 152, 153, 154, 155, 156, 157, 158, 159, 160, 161, 162, 163, 164, 165, 166, 167] (by decide +kernel) (by decide +kernel)
set_option maxRecDepth 20000 in
theorem gX8_text_X8_isSo : GoodIn wsX8_text (wsV RX8 333 RX8 yX8_isSo wsX8_isSo) := goodIn_app (goodIn_of _ (by decide +kernel)) ggX8_text_X8_isSo
theorem dX8_text_0 : decode cX8_text 0 = .ok (.aload_n 0, 1) := by decide +kernel
theorem dX8_text_1 : decode cX8_text 1 = .ok (.iconst 0, 1) := by decide +kernel
theorem dX8_text_2 : decode cX8_text 2 = .ok (.putfield 259, 3) := by decide +kernel
theorem dX8_text_5 : decode cX8_text 5 = .ok (.aload_n 0, 1) := by decide +kernel
theorem dX8_text_6 : decode cX8_text 6 = .ok (.iconst 0, 1) := by decide +kernel
theorem dX8_text_7 : decode cX8_text 7 = .ok (.putfield 282, 3) := by decide +kernel
theorem dX8_text_10 : decode cX8_text 10 = .ok (.aload_n 0, 1) := by decide +kernel
theorem dX8_text_11 : decode cX8_text 11 = .ok (.iconst 0, 1) := by decide +kernel
theorem dX8_text_12 : decode cX8_text 12 = .ok (.putfield 293, 3) := by decide +kernel
theorem dX8_text_15 : decode cX8_text 15 = .ok (.aload_n 0, 1) := by decide +kernel
theorem dX8_text_16 : decode cX8_text 16 = .ok (.aload_n 0, 1) := by decide +kernel
theorem dX8_text_17 : decode cX8_text 17 = .ok (.getfield 9, 3) := by decide +kernel
theorem dX8_text_20 : decode cX8_text 20 = .ok (.iconst 4, 1) := by decide +kernel
theorem dX8_text_21 : decode cX8_text 21 = .ok (.iaload, 1) := by decide +kernel
theorem dX8_text_22 : decode cX8_text 22 = .ok (.putfield 300, 3) := by decide +kernel
theorem dX8_text_25 : decode cX8_text 25 = .ok (.aload_n 0, 1) := by decide +kernel
theorem dX8_text_26 : decode cX8_text 26 = .ok (.invokevirtual 286, 3) := by decide +kernel
theorem dX8_text_29 : decode cX8_text 29 = .ok (.aload_n 0, 1) := by decide +kernel
theorem dX8_text_30 : decode cX8_text 30 = .ok (.invokevirtual 330, 3) := by decide +kernel
theorem dX8_text_33 : decode cX8_text 33 = .ok (.aload_n 0, 1) := by decide +kernel
theorem dX8_text_34 : decode cX8_text 34 = .ok (.getfield 282, 3) := by decide +kernel
theorem dX8_text_37 : decode cX8_text 37 = .ok (.ifCond .ne 37, 3) := by decide +kernel
theorem dX8_text_40 : decode cX8_text 40 = .ok (.aload_n 0, 1) := by decide +kernel
theorem dX8_text_41 : decode cX8_text 41 = .ok (.getfield 271, 3) := by decide +kernel
theorem dX8_text_44 : decode cX8_text 44 = .ok (.iconst 3, 1) := by decide +kernel
theorem dX8_text_45 : decode cX8_text 45 = .ok (.if_icmp .ne 29, 3) := by decide +kernel
theorem dX8_text_48 : decode cX8_text 48 = .ok (.aload_n 0, 1) := by decide +kernel
theorem dX8_text_49 : decode cX8_text 49 = .ok (.getfield 34, 3) := by decide +kernel
theorem dX8_text_52 : decode cX8_text 52 = .ok (.aload_n 0, 1) := by decide +kernel
theorem dX8_text_53 : decode cX8_text 53 = .ok (.getfield 262, 3) := by decide +kernel
theorem dX8_text_56 : decode cX8_text 56 = .ok (.iaload, 1) := by decide +kernel
theorem dX8_text_57 : decode cX8_text 57 = .ok (.bipush 59, 2) := by decide +kernel
theorem dX8_text_59 : decode cX8_text 59 = .ok (.if_icmp .ne 15, 3) := by decide +kernel
theorem dX8_text_62 : decode cX8_text 62 = .ok (.aload_n 0, 1) := by decide +kernel
theorem dX8_text_63 : decode cX8_text 63 = .ok (.iconst 1, 1) := by decide +kernel
theorem dX8_text_64 : decode cX8_text 64 = .ok (.invokevirtual 289, 3) := by decide +kernel
theorem dX8_text_67 : decode cX8_text 67 = .ok (.aload_n 0, 1) := by decide +kernel
theorem dX8_text_68 : decode cX8_text 68 = .ok (.invokevirtual 330, 3) := by decide +kernel
theorem dX8_text_71 : decode cX8_text 71 = .ok (.goto (-38), 3) := by decide +kernel
theorem dX8_text_74 : decode cX8_text 74 = .ok (.aload_n 0, 1) := by decide +kernel
theorem dX8_text_75 : decode cX8_text 75 = .ok (.aload_n 0, 1) := by decide +kernel
theorem dX8_text_76 : decode cX8_text 76 = .ok (.getfield 271, 3) := by decide +kernel
theorem dX8_text_79 : decode cX8_text 79 = .ok (.ifCond .ne 7, 3) := by decide +kernel
theorem dX8_text_82 : decode cX8_text 82 = .ok (.iconst 1, 1) := by decide +kernel
theorem dX8_text_83 : decode cX8_text 83 = .ok (.goto 4, 3) := by decide +kernel
theorem dX8_text_86 : decode cX8_text 86 = .ok (.iconst 0, 1) := by decide +kernel
theorem dX8_text_87 : decode cX8_text 87 = .ok (.invokevirtual 289, 3) := by decide +kernel
theorem dX8_text_90 : decode cX8_text 90 = .ok (.aload_n 0, 1) := by decide +kernel
theorem dX8_text_91 : decode cX8_text 91 = .ok (.iconst 0, 1) := by decide +kernel
theorem dX8_text_92 : decode cX8_text 92 = .ok (.putfield 256, 3) := by decide +kernel
theorem dX8_text_95 : decode cX8_text 95 = .ok (.aload_n 0, 1) := by decide +kernel
theorem dX8_text_96 : decode cX8_text 96 = .ok (.getfield 282, 3) := by decide +kernel
theorem dX8_text_99 : decode cX8_text 99 = .ok (.ifCond .eq 10, 3) := by decide +kernel
theorem dX8_text_102 : decode cX8_text 102 = .ok (.iconst (-1), 1) := by decide +kernel
theorem dX8_text_103 : decode cX8_text 103 = .ok (.aload_n 0, 1) := by decide +kernel
theorem dX8_text_104 : decode cX8_text 104 = .ok (.getfield 262, 3) := by decide +kernel
theorem dX8_text_107 : decode cX8_text 107 = .ok (.isub, 1) := by decide +kernel
theorem dX8_text_108 : decode cX8_text 108 = .ok (.ireturn, 1) := by decide +kernel
theorem dX8_text_109 : decode cX8_text 109 = .ok (.iconst 0, 1) := by decide +kernel
theorem dX8_text_110 : decode cX8_text 110 = .ok (.istore_n 1, 1) := by decide +kernel
theorem dX8_text_111 : decode cX8_text 111 = .ok (.iconst 0, 1) := by decide +kernel
theorem dX8_text_112 : decode cX8_text 112 = .ok (.istore_n 2, 1) := by decide +kernel
theorem dX8_text_113 : decode cX8_text 113 = .ok (.iload_n 2, 1) := by decide +kernel
theorem dX8_text_114 : decode cX8_text 114 = .ok (.aload_n 0, 1) := by decide +kernel
theorem dX8_text_115 : decode cX8_text 115 = .ok (.getfield 293, 3) := by decide +kernel
theorem dX8_text_118 : decode cX8_text 118 = .ok (.if_icmp .ge 27, 3) := by decide +kernel
theorem dX8_text_121 : decode cX8_text 121 = .ok (.iload_n 1, 1) := by decide +kernel
theorem dX8_text_122 : decode cX8_text 122 = .ok (.aload_n 0, 1) := by decide +kernel
theorem dX8_text_123 : decode cX8_text 123 = .ok (.iconst 4, 1) := by decide +kernel
theorem dX8_text_124 : decode cX8_text 124 = .ok (.iload_n 2, 1) := by decide +kernel
theorem dX8_text_125 : decode cX8_text 125 = .ok (.imul, 1) := by decide +kernel
theorem dX8_text_126 : decode cX8_text 126 = .ok (.invokevirtual 333, 3) := by decide +kernel
theorem dX8_text_129 : decode cX8_text 129 = .ok (.ifCond .ge 7, 3) := by decide +kernel
theorem dX8_text_132 : decode cX8_text 132 = .ok (.iconst 0, 1) := by decide +kernel
theorem dX8_text_133 : decode cX8_text 133 = .ok (.goto 4, 3) := by decide +kernel
theorem dX8_text_136 : decode cX8_text 136 = .ok (.iconst 1, 1) := by decide +kernel
theorem dX8_text_137 : decode cX8_text 137 = .ok (.iadd, 1) := by decide +kernel
theorem dX8_text_138 : decode cX8_text 138 = .ok (.istore_n 1, 1) := by decide +kernel
theorem dX8_text_139 : decode cX8_text 139 = .ok (.iinc 2 1, 3) := by decide +kernel
theorem dX8_text_142 : decode cX8_text 142 = .ok (.goto (-29), 3) := by decide +kernel
theorem dX8_text_145 : decode cX8_text 145 = .ok (.iload_n 1, 1) := by decide +kernel
theorem dX8_text_146 : decode cX8_text 146 = .ok (.ireturn, 1) := by decide +kernel
set_option maxRecDepth 20000 in
theorem ggX8_isSpot_X8_within : GoodIn wsX8_isSpot wsX8_within := goodIn_r _ [4] (by decide +kernel) (by decide +kernel)
set_option maxRecDepth 20000 in
theorem gX8_isSpot_X8_within : GoodIn wsX8_isSpot (va_wsS RX8 78 yX8_within wsX8_within) := goodIn_app (goodIn_of _ (by decide +kernel)) ggX8_isSpot_X8_within
theorem dX8_isSpot_0 : decode cX8_isSpot 0 = .ok (.iload_n 0, 1) := by decide +kernel
theorem dX8_isSpot_1 : decode cX8_isSpot 1 = .ok (.iconst 0, 1) := by decide +kernel
theorem dX8_isSpot_2 : decode cX8_isSpot 2 = .ok (.bipush 9, 2) := by decide +kernel
theorem dX8_isSpot_4 : decode cX8_isSpot 4 = .ok (.invokestatic 78, 3) := by decide +kernel
theorem dX8_isSpot_7 : decode cX8_isSpot 7 = .ok (.ireturn, 1) := by decide +kernel
set_option maxRecDepth 20000 in
theorem ggX8_hold_X8_isSpot : GoodIn wsX8_hold wsX8_isSpot := goodIn_r _ [6, 7, 8, 5, 9] (by decide +kernel) (by decide +kernel)
set_option maxRecDepth 20000 in
theorem gX8_hold_X8_isSpot : GoodIn wsX8_hold (va_wsS RX8 336 yX8_isSpot wsX8_isSpot) := goodIn_app (goodIn_of _ (by decide +kernel)) ggX8_hold_X8_isSpot
set_option maxRecDepth 20000 in
theorem ggX8_hold_X8_isPerson : GoodIn wsX8_hold wsX8_isPerson := goodIn_r _ [13, 2, 7, 8, 5, 9, 19, 20, 21, 22, 23, 24, 25, 26, 27, 28, 29, 30, 31, 32, 33, 34, 35, 36, 37, 38, 39, 40, 41, 42, 43, 44, 45, 46, 47] (by decide +kernel) (by decide +kernel)
set_option maxRecDepth 20000 in
theorem gX8_hold_X8_isPerson : GoodIn wsX8_hold (wsV RX8 130 RX8 yX8_isPerson wsX8_isPerson) := goodIn_app (goodIn_of _ (by decide +kernel)) ggX8_hold_X8_isPerson
set_option maxRecDepth 20000 in
theorem ggX8_hold_X8_finding : GoodIn wsX8_hold wsX8_finding := goodIn_r _ [17, 18, 1, 19, 20, 21, 22, 23, 24, 25, 26, 27, 28, 29, 30, 31, 32, 33, 34, 35, 36, 37, 38, 39, 40, 41, 42, 43, 44, 45, 46, 47] (by decide +kernel) (by decide +kernel)
set_option maxRecDepth 20000 in
theorem gX8_hold_X8_finding : GoodIn wsX8_hold (wsV RX8 90 RX8 yX8_finding wsX8_finding) := goodIn_app (goodIn_of _ (by decide +kernel)) ggX8_hold_X8_finding
theorem dX8_hold_0 : decode cX8_hold 0 = .ok (.iload_n 1, 1) := by decide +kernel
theorem dX8_hold_1 : decode cX8_hold 1 = .ok (.invokestatic 336, 3) := by decide +kernel
theorem dX8_hold_4 : decode cX8_hold 4 = .ok (.ifCond .eq 16, 3) := by decide +kernel
theorem dX8_hold_7 : decode cX8_hold 7 = .ok (.iload_n 2, 1) := by decide +kernel
theorem dX8_hold_8 : decode cX8_hold 8 = .ok (.iconst (-1), 1) := by decide +kernel
theorem dX8_hold_9 : decode cX8_hold 9 = .ok (.if_icmp .eq 18, 3) := by decide +kernel
theorem dX8_hold_12 : decode cX8_hold 12 = .ok (.aload_n 0, 1) := by decide +kernel
theorem dX8_hold_13 : decode cX8_hold 13 = .ok (.iload_n 2, 1) := by decide +kernel
theorem dX8_hold_14 : decode cX8_hold 14 = .ok (.invokevirtual 130, 3) := by decide +kernel
theorem dX8_hold_17 : decode cX8_hold 17 = .ok (.ifCond .ne 10, 3) := by decide +kernel
theorem dX8_hold_20 : decode cX8_hold 20 = .ok (.aload_n 0, 1) := by decide +kernel
theorem dX8_hold_21 : decode cX8_hold 21 = .ok (.ldc 73, 2) := by decide +kernel
theorem dX8_hold_23 : decode cX8_hold 23 = .ok (.invokevirtual 90, 3) := by decide +kernel
theorem dX8_hold_26 : decode cX8_hold 26 = .ok (.ireturn, 1) := by decide +kernel
theorem dX8_hold_27 : decode cX8_hold 27 = .ok (.aload_n 0, 1) := by decide +kernel
theorem dX8_hold_28 : decode cX8_hold 28 = .ok (.getfield 9, 3) := by decide +kernel
theorem dX8_hold_31 : decode cX8_hold 31 = .ok (.bipush 6, 2) := by decide +kernel
theorem dX8_hold_33 : decode cX8_hold 33 = .ok (.iload_n 1, 1) := by decide +kernel
theorem dX8_hold_34 : decode cX8_hold 34 = .ok (.iadd, 1) := by decide +kernel
theorem dX8_hold_35 : decode cX8_hold 35 = .ok (.iload_n 2, 1) := by decide +kernel
theorem dX8_hold_36 : decode cX8_hold 36 = .ok (.iastore, 1) := by decide +kernel
theorem dX8_hold_37 : decode cX8_hold 37 = .ok (.iconst 1, 1) := by decide +kernel
theorem dX8_hold_38 : decode cX8_hold 38 = .ok (.ireturn, 1) := by decide +kernel
set_option maxRecDepth 20000 in
theorem ggX8_as_X8_isSpot : GoodIn wsX8_as wsX8_isSpot := goodIn_r _ [8, 9, 10, 7, 11] (by decide +kernel) (by decide +kernel)
set_option maxRecDepth 20000 in
theorem gX8_as_X8_isSpot : GoodIn wsX8_as (va_wsS RX8 336 yX8_isSpot wsX8_isSpot) := goodIn_app (goodIn_of _ (by decide +kernel)) ggX8_as_X8_isSpot
set_option maxRecDepth 20000 in
theorem ggX8_as_X8_isKind : GoodIn wsX8_as wsX8_isKind := goodIn_r _ [14, 9, 10, 7, 11] (by decide +kernel) (by decide +kernel)
set_option maxRecDepth 20000 in
theorem gX8_as_X8_isKind : GoodIn wsX8_as (va_wsS RX8 86 yX8_isKind wsX8_isKind) := goodIn_app (goodIn_of _ (by decide +kernel)) ggX8_as_X8_isKind
set_option maxRecDepth 20000 in
theorem ggX8_as_X8_finding : GoodIn wsX8_as wsX8_finding := goodIn_r _ [18, 19, 1, 33, 34, 35, 36, 37, 38, 39, 40, 41, 42, 43, 44, 45, 46, 47, 48, 49, 50, 51, 52, 53, 54, 55, 56, 57, 58, 59, 60, 61] (by decide +kernel) (by decide +kernel)
set_option maxRecDepth 20000 in
theorem gX8_as_X8_finding : GoodIn wsX8_as (wsV RX8 90 RX8 yX8_finding wsX8_finding) := goodIn_app (goodIn_of _ (by decide +kernel)) ggX8_as_X8_finding
set_option maxRecDepth 20000 in
theorem ggX8_as_X8_personIs : GoodIn wsX8_as wsX8_personIs := goodIn_r _ [23, 2, 24, 25, 7, 26, 33, 34, 35, 36, 37, 38, 39, 40, 41, 42, 43, 44, 45, 46, 47, 48, 49, 50, 51, 52, 53, 54, 55, 56, 57, 58, 59, 60, 61] (by decide +kernel) (by decide +kernel)
set_option maxRecDepth 20000 in
theorem gX8_as_X8_personIs : GoodIn wsX8_as (wsV RX8 102 RX8 yX8_personIs wsX8_personIs) := goodIn_app (goodIn_of _ (by decide +kernel)) ggX8_as_X8_personIs
set_option maxRecDepth 20000 in
theorem ggX8_as_X8_isUnder : GoodIn wsX8_as wsX8_isUnder := goodIn_r _ [29, 30, 31, 7, 32] (by decide +kernel) (by decide +kernel)
set_option maxRecDepth 20000 in
theorem gX8_as_X8_isUnder : GoodIn wsX8_as (va_wsS RX8 339 yX8_isUnder wsX8_isUnder) := goodIn_app (goodIn_of _ (by decide +kernel)) ggX8_as_X8_isUnder
theorem dX8_as_0 : decode cX8_as 0 = .ok (.iload_n 1, 1) := by decide +kernel
theorem dX8_as_1 : decode cX8_as 1 = .ok (.invokestatic 336, 3) := by decide +kernel
theorem dX8_as_4 : decode cX8_as 4 = .ok (.ifCond .eq 10, 3) := by decide +kernel
theorem dX8_as_7 : decode cX8_as 7 = .ok (.iload_n 2, 1) := by decide +kernel
theorem dX8_as_8 : decode cX8_as 8 = .ok (.invokestatic 86, 3) := by decide +kernel
theorem dX8_as_11 : decode cX8_as 11 = .ok (.ifCond .ne 10, 3) := by decide +kernel
theorem dX8_as_14 : decode cX8_as 14 = .ok (.aload_n 0, 1) := by decide +kernel
theorem dX8_as_15 : decode cX8_as 15 = .ok (.ldc 73, 2) := by decide +kernel
theorem dX8_as_17 : decode cX8_as 17 = .ok (.invokevirtual 90, 3) := by decide +kernel
theorem dX8_as_20 : decode cX8_as 20 = .ok (.ireturn, 1) := by decide +kernel
theorem dX8_as_21 : decode cX8_as 21 = .ok (.aload_n 0, 1) := by decide +kernel
theorem dX8_as_22 : decode cX8_as 22 = .ok (.getfield 9, 3) := by decide +kernel
theorem dX8_as_25 : decode cX8_as 25 = .ok (.bipush 6, 2) := by decide +kernel
theorem dX8_as_27 : decode cX8_as 27 = .ok (.iload_n 1, 1) := by decide +kernel
theorem dX8_as_28 : decode cX8_as 28 = .ok (.iadd, 1) := by decide +kernel
theorem dX8_as_29 : decode cX8_as 29 = .ok (.iaload, 1) := by decide +kernel
theorem dX8_as_30 : decode cX8_as 30 = .ok (.istore_n 3, 1) := by decide +kernel
theorem dX8_as_31 : decode cX8_as 31 = .ok (.iload_n 3, 1) := by decide +kernel
theorem dX8_as_32 : decode cX8_as 32 = .ok (.ifCond .ge 10, 3) := by decide +kernel
theorem dX8_as_35 : decode cX8_as 35 = .ok (.aload_n 0, 1) := by decide +kernel
theorem dX8_as_36 : decode cX8_as 36 = .ok (.ldc 241, 2) := by decide +kernel
theorem dX8_as_38 : decode cX8_as 38 = .ok (.invokevirtual 90, 3) := by decide +kernel
theorem dX8_as_41 : decode cX8_as 41 = .ok (.ireturn, 1) := by decide +kernel
theorem dX8_as_42 : decode cX8_as 42 = .ok (.aload_n 0, 1) := by decide +kernel
theorem dX8_as_43 : decode cX8_as 43 = .ok (.iload_n 3, 1) := by decide +kernel
theorem dX8_as_44 : decode cX8_as 44 = .ok (.iconst 0, 1) := by decide +kernel
theorem dX8_as_45 : decode cX8_as 45 = .ok (.invokevirtual 102, 3) := by decide +kernel
theorem dX8_as_48 : decode cX8_as 48 = .ok (.iload_n 2, 1) := by decide +kernel
theorem dX8_as_49 : decode cX8_as 49 = .ok (.invokestatic 339, 3) := by decide +kernel
theorem dX8_as_52 : decode cX8_as 52 = .ok (.ifCond .eq 7, 3) := by decide +kernel
theorem dX8_as_55 : decode cX8_as 55 = .ok (.iload_n 3, 1) := by decide +kernel
theorem dX8_as_56 : decode cX8_as 56 = .ok (.goto 10, 3) := by decide +kernel
theorem dX8_as_59 : decode cX8_as 59 = .ok (.aload_n 0, 1) := by decide +kernel
theorem dX8_as_60 : decode cX8_as 60 = .ok (.ldc_w 342, 3) := by decide +kernel
theorem dX8_as_63 : decode cX8_as 63 = .ok (.invokevirtual 90, 3) := by decide +kernel
theorem dX8_as_66 : decode cX8_as 66 = .ok (.ireturn, 1) := by decide +kernel
set_option maxRecDepth 20000 in
theorem ggX8_isSheet_X8_within : GoodIn wsX8_isSheet wsX8_within := goodIn_r _ [4] (by decide +kernel) (by decide +kernel)
set_option maxRecDepth 20000 in
theorem gX8_isSheet_X8_within : GoodIn wsX8_isSheet (va_wsS RX8 78 yX8_within wsX8_within) := goodIn_app (goodIn_of _ (by decide +kernel)) ggX8_isSheet_X8_within
theorem dX8_isSheet_0 : decode cX8_isSheet 0 = .ok (.iload_n 0, 1) := by decide +kernel
theorem dX8_isSheet_1 : decode cX8_isSheet 1 = .ok (.iconst 0, 1) := by decide +kernel
theorem dX8_isSheet_2 : decode cX8_isSheet 2 = .ok (.iconst 3, 1) := by decide +kernel
theorem dX8_isSheet_3 : decode cX8_isSheet 3 = .ok (.invokestatic 78, 3) := by decide +kernel
theorem dX8_isSheet_6 : decode cX8_isSheet 6 = .ok (.ireturn, 1) := by decide +kernel
theorem dX8_cutTo_0 : decode cX8_cutTo 0 = .ok (.iload_n 1, 1) := by decide +kernel
theorem dX8_cutTo_1 : decode cX8_cutTo 1 = .ok (.bipush 8, 2) := by decide +kernel
theorem dX8_cutTo_3 : decode cX8_cutTo 3 = .ok (.if_icmp .ne 8, 3) := by decide +kernel
theorem dX8_cutTo_6 : decode cX8_cutTo 6 = .ok (.iload_n 0, 1) := by decide +kernel
theorem dX8_cutTo_7 : decode cX8_cutTo 7 = .ok (.i2b, 1) := by decide +kernel
theorem dX8_cutTo_8 : decode cX8_cutTo 8 = .ok (.goto 15, 3) := by decide +kernel
theorem dX8_cutTo_11 : decode cX8_cutTo 11 = .ok (.iload_n 1, 1) := by decide +kernel
theorem dX8_cutTo_12 : decode cX8_cutTo 12 = .ok (.bipush 16, 2) := by decide +kernel
theorem dX8_cutTo_14 : decode cX8_cutTo 14 = .ok (.if_icmp .ne 8, 3) := by decide +kernel
theorem dX8_cutTo_17 : decode cX8_cutTo 17 = .ok (.iload_n 0, 1) := by decide +kernel
theorem dX8_cutTo_18 : decode cX8_cutTo 18 = .ok (.i2s, 1) := by decide +kernel
theorem dX8_cutTo_19 : decode cX8_cutTo 19 = .ok (.goto 4, 3) := by decide +kernel
theorem dX8_cutTo_22 : decode cX8_cutTo 22 = .ok (.iload_n 0, 1) := by decide +kernel
theorem dX8_cutTo_23 : decode cX8_cutTo 23 = .ok (.ireturn, 1) := by decide +kernel
set_option maxRecDepth 20000 in
theorem ggX8_sheet_X8_isSheet : GoodIn wsX8_sheet wsX8_isSheet := goodIn_r _ [9, 10, 11, 8, 12] (by decide +kernel) (by decide +kernel)
set_option maxRecDepth 20000 in
theorem gX8_sheet_X8_isSheet : GoodIn wsX8_sheet (va_wsS RX8 238 yX8_isSheet wsX8_isSheet) := goodIn_app (goodIn_of _ (by decide +kernel)) ggX8_sheet_X8_isSheet
set_option maxRecDepth 20000 in
theorem ggX8_sheet_X8_finding : GoodIn wsX8_sheet wsX8_finding := goodIn_r _ [16, 17, 1, 18, 19, 20, 21, 22, 23, 24, 25, 26, 27, 28, 29, 30, 31, 32, 33, 34, 35, 36, 37, 38, 39, 40, 41, 42, 43, 44, 45, 46] (by decide +kernel) (by decide +kernel)
set_option maxRecDepth 20000 in
theorem gX8_sheet_X8_finding : GoodIn wsX8_sheet (wsV RX8 90 RX8 yX8_finding wsX8_finding) := goodIn_app (goodIn_of _ (by decide +kernel)) ggX8_sheet_X8_finding
theorem dX8_sheet_0 : decode cX8_sheet 0 = .ok (.iload_n 1, 1) := by decide +kernel
theorem dX8_sheet_1 : decode cX8_sheet 1 = .ok (.invokestatic 238, 3) := by decide +kernel
theorem dX8_sheet_4 : decode cX8_sheet 4 = .ok (.ifCond .eq 25, 3) := by decide +kernel
theorem dX8_sheet_7 : decode cX8_sheet 7 = .ok (.iload_n 2, 1) := by decide +kernel
theorem dX8_sheet_8 : decode cX8_sheet 8 = .ok (.ifCond .eq 28, 3) := by decide +kernel
theorem dX8_sheet_11 : decode cX8_sheet 11 = .ok (.iload_n 2, 1) := by decide +kernel
theorem dX8_sheet_12 : decode cX8_sheet 12 = .ok (.bipush 8, 2) := by decide +kernel
theorem dX8_sheet_14 : decode cX8_sheet 14 = .ok (.if_icmp .eq 22, 3) := by decide +kernel
theorem dX8_sheet_17 : decode cX8_sheet 17 = .ok (.iload_n 2, 1) := by decide +kernel
theorem dX8_sheet_18 : decode cX8_sheet 18 = .ok (.bipush 16, 2) := by decide +kernel
theorem dX8_sheet_20 : decode cX8_sheet 20 = .ok (.if_icmp .eq 16, 3) := by decide +kernel
theorem dX8_sheet_23 : decode cX8_sheet 23 = .ok (.iload_n 2, 1) := by decide +kernel
theorem dX8_sheet_24 : decode cX8_sheet 24 = .ok (.bipush 32, 2) := by decide +kernel
theorem dX8_sheet_26 : decode cX8_sheet 26 = .ok (.if_icmp .eq 10, 3) := by decide +kernel
theorem dX8_sheet_29 : decode cX8_sheet 29 = .ok (.aload_n 0, 1) := by decide +kernel
theorem dX8_sheet_30 : decode cX8_sheet 30 = .ok (.ldc 73, 2) := by decide +kernel
theorem dX8_sheet_32 : decode cX8_sheet 32 = .ok (.invokevirtual 90, 3) := by decide +kernel
theorem dX8_sheet_35 : decode cX8_sheet 35 = .ok (.ireturn, 1) := by decide +kernel
theorem dX8_sheet_36 : decode cX8_sheet 36 = .ok (.iload_n 3, 1) := by decide +kernel
theorem dX8_sheet_37 : decode cX8_sheet 37 = .ok (.ifCond .ge 11, 3) := by decide +kernel
theorem dX8_sheet_40 : decode cX8_sheet 40 = .ok (.aload_n 0, 1) := by decide +kernel
theorem dX8_sheet_41 : decode cX8_sheet 41 = .ok (.ldc_w 343, 3) := by decide +kernel
theorem dX8_sheet_44 : decode cX8_sheet 44 = .ok (.invokevirtual 90, 3) := by decide +kernel
theorem dX8_sheet_47 : decode cX8_sheet 47 = .ok (.ireturn, 1) := by decide +kernel
theorem dX8_sheet_48 : decode cX8_sheet 48 = .ok (.iload_n 3, 1) := by decide +kernel
theorem dX8_sheet_49 : decode cX8_sheet 49 = .ok (.bipush 40, 2) := by decide +kernel
theorem dX8_sheet_51 : decode cX8_sheet 51 = .ok (.if_icmp .le 10, 3) := by decide +kernel
theorem dX8_sheet_54 : decode cX8_sheet 54 = .ok (.aload_n 0, 1) := by decide +kernel
theorem dX8_sheet_55 : decode cX8_sheet 55 = .ok (.ldc 73, 2) := by decide +kernel
theorem dX8_sheet_57 : decode cX8_sheet 57 = .ok (.invokevirtual 90, 3) := by decide +kernel
theorem dX8_sheet_60 : decode cX8_sheet 60 = .ok (.ireturn, 1) := by decide +kernel
theorem dX8_sheet_61 : decode cX8_sheet 61 = .ok (.aload_n 0, 1) := by decide +kernel
theorem dX8_sheet_62 : decode cX8_sheet 62 = .ok (.getfield 60, 3) := by decide +kernel
theorem dX8_sheet_65 : decode cX8_sheet 65 = .ok (.iload_n 1, 1) := by decide +kernel
theorem dX8_sheet_66 : decode cX8_sheet 66 = .ok (.iload_n 2, 1) := by decide +kernel
theorem dX8_sheet_67 : decode cX8_sheet 67 = .ok (.iastore, 1) := by decide +kernel
theorem dX8_sheet_68 : decode cX8_sheet 68 = .ok (.aload_n 0, 1) := by decide +kernel
theorem dX8_sheet_69 : decode cX8_sheet 69 = .ok (.getfield 63, 3) := by decide +kernel
theorem dX8_sheet_72 : decode cX8_sheet 72 = .ok (.iload_n 1, 1) := by decide +kernel
theorem dX8_sheet_73 : decode cX8_sheet 73 = .ok (.iload_n 2, 1) := by decide +kernel
theorem dX8_sheet_74 : decode cX8_sheet 74 = .ok (.ifCond .ne 7, 3) := by decide +kernel
theorem dX8_sheet_77 : decode cX8_sheet 77 = .ok (.iconst 0, 1) := by decide +kernel
theorem dX8_sheet_78 : decode cX8_sheet 78 = .ok (.goto 4, 3) := by decide +kernel
theorem dX8_sheet_81 : decode cX8_sheet 81 = .ok (.iload_n 3, 1) := by decide +kernel
theorem dX8_sheet_82 : decode cX8_sheet 82 = .ok (.iastore, 1) := by decide +kernel
theorem dX8_sheet_83 : decode cX8_sheet 83 = .ok (.iconst 0, 1) := by decide +kernel
theorem dX8_sheet_84 : decode cX8_sheet 84 = .ok (.istore 4, 2) := by decide +kernel
theorem dX8_sheet_86 : decode cX8_sheet 86 = .ok (.iload 4, 2) := by decide +kernel
theorem dX8_sheet_88 : decode cX8_sheet 88 = .ok (.bipush 40, 2) := by decide +kernel
theorem dX8_sheet_90 : decode cX8_sheet 90 = .ok (.if_icmp .ge 22, 3) := by decide +kernel
theorem dX8_sheet_93 : decode cX8_sheet 93 = .ok (.aload_n 0, 1) := by decide +kernel
theorem dX8_sheet_94 : decode cX8_sheet 94 = .ok (.getfield 66, 3) := by decide +kernel
theorem dX8_sheet_97 : decode cX8_sheet 97 = .ok (.bipush 40, 2) := by decide +kernel
theorem dX8_sheet_99 : decode cX8_sheet 99 = .ok (.iload_n 1, 1) := by decide +kernel
theorem dX8_sheet_100 : decode cX8_sheet 100 = .ok (.imul, 1) := by decide +kernel
theorem dX8_sheet_101 : decode cX8_sheet 101 = .ok (.iload 4, 2) := by decide +kernel
theorem dX8_sheet_103 : decode cX8_sheet 103 = .ok (.iadd, 1) := by decide +kernel
theorem dX8_sheet_104 : decode cX8_sheet 104 = .ok (.iconst 0, 1) := by decide +kernel
theorem dX8_sheet_105 : decode cX8_sheet 105 = .ok (.iastore, 1) := by decide +kernel
theorem dX8_sheet_106 : decode cX8_sheet 106 = .ok (.iinc 4 1, 3) := by decide +kernel
theorem dX8_sheet_109 : decode cX8_sheet 109 = .ok (.goto (-23), 3) := by decide +kernel
theorem dX8_sheet_112 : decode cX8_sheet 112 = .ok (.aload_n 0, 1) := by decide +kernel
theorem dX8_sheet_113 : decode cX8_sheet 113 = .ok (.getfield 63, 3) := by decide +kernel
theorem dX8_sheet_116 : decode cX8_sheet 116 = .ok (.iload_n 1, 1) := by decide +kernel
theorem dX8_sheet_117 : decode cX8_sheet 117 = .ok (.iaload, 1) := by decide +kernel
theorem dX8_sheet_118 : decode cX8_sheet 118 = .ok (.ireturn, 1) := by decide +kernel
set_option maxRecDepth 20000 in
theorem ggX8_write_X8_isSheet : GoodIn wsX8_write wsX8_isSheet := goodIn_r _ [9, 10, 11, 8, 12] (by decide +kernel) (by decide +kernel)
set_option maxRecDepth 20000 in
theorem gX8_write_X8_isSheet : GoodIn wsX8_write (va_wsS RX8 238 yX8_isSheet wsX8_isSheet) := goodIn_app (goodIn_of _ (by decide +kernel)) ggX8_write_X8_isSheet
set_option maxRecDepth 20000 in
theorem ggX8_write_X8_finding : GoodIn wsX8_write wsX8_finding := goodIn_r _ [16, 17, 1, 21, 22, 23, 24, 25, 26, 27, 28, 29, 30, 31, 32, 33, 34, 35, 36, 37, 38, 39, 40, 41, 42, 43, 44, 45, 46, 47, 48, 49] (by decide +kernel) (by decide +kernel)
set_option maxRecDepth 20000 in
theorem gX8_write_X8_finding : GoodIn wsX8_write (wsV RX8 90 RX8 yX8_finding wsX8_finding) := goodIn_app (goodIn_of _ (by decide +kernel)) ggX8_write_X8_finding
set_option maxRecDepth 20000 in
theorem ggX8_write_X8_within : GoodIn wsX8_write wsX8_within := goodIn_r _ [12] (by decide +kernel) (by decide +kernel)
set_option maxRecDepth 20000 in
theorem gX8_write_X8_within : GoodIn wsX8_write (va_wsS RX8 78 yX8_within wsX8_within) := goodIn_app (goodIn_of _ (by decide +kernel)) ggX8_write_X8_within
set_option maxRecDepth 20000 in
theorem ggX8_write_X8_cutTo : GoodIn wsX8_write wsX8_cutTo := goodIn_r _ [20] (by decide +kernel) (by decide +kernel)
set_option maxRecDepth 20000 in
theorem gX8_write_X8_cutTo : GoodIn wsX8_write (va_wsS RX8 344 yX8_cutTo wsX8_cutTo) := goodIn_app (goodIn_of _ (by decide +kernel)) ggX8_write_X8_cutTo
theorem dX8_write_0 : decode cX8_write 0 = .ok (.iload_n 1, 1) := by decide +kernel
theorem dX8_write_1 : decode cX8_write 1 = .ok (.invokestatic 238, 3) := by decide +kernel
theorem dX8_write_4 : decode cX8_write 4 = .ok (.ifCond .ne 10, 3) := by decide +kernel
theorem dX8_write_7 : decode cX8_write 7 = .ok (.aload_n 0, 1) := by decide +kernel
theorem dX8_write_8 : decode cX8_write 8 = .ok (.ldc 73, 2) := by decide +kernel
theorem dX8_write_10 : decode cX8_write 10 = .ok (.invokevirtual 90, 3) := by decide +kernel
theorem dX8_write_13 : decode cX8_write 13 = .ok (.ireturn, 1) := by decide +kernel
theorem dX8_write_14 : decode cX8_write 14 = .ok (.aload_n 0, 1) := by decide +kernel
theorem dX8_write_15 : decode cX8_write 15 = .ok (.getfield 60, 3) := by decide +kernel
theorem dX8_write_18 : decode cX8_write 18 = .ok (.iload_n 1, 1) := by decide +kernel
theorem dX8_write_19 : decode cX8_write 19 = .ok (.iaload, 1) := by decide +kernel
theorem dX8_write_20 : decode cX8_write 20 = .ok (.ifCond .ne 10, 3) := by decide +kernel
theorem dX8_write_23 : decode cX8_write 23 = .ok (.aload_n 0, 1) := by decide +kernel
theorem dX8_write_24 : decode cX8_write 24 = .ok (.ldc 241, 2) := by decide +kernel
theorem dX8_write_26 : decode cX8_write 26 = .ok (.invokevirtual 90, 3) := by decide +kernel
theorem dX8_write_29 : decode cX8_write 29 = .ok (.ireturn, 1) := by decide +kernel
theorem dX8_write_30 : decode cX8_write 30 = .ok (.iload_n 2, 1) := by decide +kernel
theorem dX8_write_31 : decode cX8_write 31 = .ok (.iconst 0, 1) := by decide +kernel
theorem dX8_write_32 : decode cX8_write 32 = .ok (.aload_n 0, 1) := by decide +kernel
theorem dX8_write_33 : decode cX8_write 33 = .ok (.getfield 63, 3) := by decide +kernel
theorem dX8_write_36 : decode cX8_write 36 = .ok (.iload_n 1, 1) := by decide +kernel
theorem dX8_write_37 : decode cX8_write 37 = .ok (.iaload, 1) := by decide +kernel
theorem dX8_write_38 : decode cX8_write 38 = .ok (.iconst 1, 1) := by decide +kernel
theorem dX8_write_39 : decode cX8_write 39 = .ok (.isub, 1) := by decide +kernel
theorem dX8_write_40 : decode cX8_write 40 = .ok (.invokestatic 78, 3) := by decide +kernel
theorem dX8_write_43 : decode cX8_write 43 = .ok (.ifCond .ne 10, 3) := by decide +kernel
theorem dX8_write_46 : decode cX8_write 46 = .ok (.aload_n 0, 1) := by decide +kernel
theorem dX8_write_47 : decode cX8_write 47 = .ok (.ldc 73, 2) := by decide +kernel
theorem dX8_write_49 : decode cX8_write 49 = .ok (.invokevirtual 90, 3) := by decide +kernel
theorem dX8_write_52 : decode cX8_write 52 = .ok (.ireturn, 1) := by decide +kernel
theorem dX8_write_53 : decode cX8_write 53 = .ok (.aload_n 0, 1) := by decide +kernel
theorem dX8_write_54 : decode cX8_write 54 = .ok (.getfield 66, 3) := by decide +kernel
theorem dX8_write_57 : decode cX8_write 57 = .ok (.bipush 40, 2) := by decide +kernel
theorem dX8_write_59 : decode cX8_write 59 = .ok (.iload_n 1, 1) := by decide +kernel
theorem dX8_write_60 : decode cX8_write 60 = .ok (.imul, 1) := by decide +kernel
theorem dX8_write_61 : decode cX8_write 61 = .ok (.iload_n 2, 1) := by decide +kernel
theorem dX8_write_62 : decode cX8_write 62 = .ok (.iadd, 1) := by decide +kernel
theorem dX8_write_63 : decode cX8_write 63 = .ok (.iload_n 3, 1) := by decide +kernel
theorem dX8_write_64 : decode cX8_write 64 = .ok (.aload_n 0, 1) := by decide +kernel
theorem dX8_write_65 : decode cX8_write 65 = .ok (.getfield 60, 3) := by decide +kernel
theorem dX8_write_68 : decode cX8_write 68 = .ok (.iload_n 1, 1) := by decide +kernel
theorem dX8_write_69 : decode cX8_write 69 = .ok (.iaload, 1) := by decide +kernel
theorem dX8_write_70 : decode cX8_write 70 = .ok (.invokestatic 344, 3) := by decide +kernel
theorem dX8_write_73 : decode cX8_write 73 = .ok (.iastore, 1) := by decide +kernel
theorem dX8_write_74 : decode cX8_write 74 = .ok (.iconst 1, 1) := by decide +kernel
theorem dX8_write_75 : decode cX8_write 75 = .ok (.ireturn, 1) := by decide +kernel
set_option maxRecDepth 20000 in
theorem ggX8_copy_X8_isSheet : GoodIn wsX8_copy wsX8_isSheet := goodIn_r _ [11, 12, 13, 10, 14] (by decide +kernel) (by decide +kernel)
set_option maxRecDepth 20000 in
theorem gX8_copy_X8_isSheet : GoodIn wsX8_copy (va_wsS RX8 238 yX8_isSheet wsX8_isSheet) := goodIn_app (goodIn_of _ (by decide +kernel)) ggX8_copy_X8_isSheet
set_option maxRecDepth 20000 in
theorem ggX8_copy_X8_finding : GoodIn wsX8_copy wsX8_finding := goodIn_r _ [18, 19, 1, 20, 21, 22, 23, 24, 25, 26, 27, 28, 29, 30, 31, 32, 33, 34, 35, 36, 37, 38, 39, 40, 41, 42, 43, 44, 45, 46, 47, 48] (by decide +kernel) (by decide +kernel)
set_option maxRecDepth 20000 in
theorem gX8_copy_X8_finding : GoodIn wsX8_copy (wsV RX8 90 RX8 yX8_finding wsX8_finding) := goodIn_app (goodIn_of _ (by decide +kernel)) ggX8_copy_X8_finding
theorem dX8_copy_0 : decode cX8_copy 0 = .ok (.iload_n 1, 1) := by decide +kernel
theorem dX8_copy_1 : decode cX8_copy 1 = .ok (.invokestatic 238, 3) := by decide +kernel
theorem dX8_copy_4 : decode cX8_copy 4 = .ok (.ifCond .eq 10, 3) := by decide +kernel
theorem dX8_copy_7 : decode cX8_copy 7 = .ok (.iload_n 3, 1) := by decide +kernel
theorem dX8_copy_8 : decode cX8_copy 8 = .ok (.invokestatic 238, 3) := by decide +kernel
theorem dX8_copy_11 : decode cX8_copy 11 = .ok (.ifCond .ne 10, 3) := by decide +kernel
theorem dX8_copy_14 : decode cX8_copy 14 = .ok (.aload_n 0, 1) := by decide +kernel
theorem dX8_copy_15 : decode cX8_copy 15 = .ok (.ldc 73, 2) := by decide +kernel
theorem dX8_copy_17 : decode cX8_copy 17 = .ok (.invokevirtual 90, 3) := by decide +kernel
theorem dX8_copy_20 : decode cX8_copy 20 = .ok (.ireturn, 1) := by decide +kernel
theorem dX8_copy_21 : decode cX8_copy 21 = .ok (.aload_n 0, 1) := by decide +kernel
theorem dX8_copy_22 : decode cX8_copy 22 = .ok (.getfield 60, 3) := by decide +kernel
theorem dX8_copy_25 : decode cX8_copy 25 = .ok (.iload_n 1, 1) := by decide +kernel
theorem dX8_copy_26 : decode cX8_copy 26 = .ok (.iaload, 1) := by decide +kernel
theorem dX8_copy_27 : decode cX8_copy 27 = .ok (.ifCond .eq 12, 3) := by decide +kernel
theorem dX8_copy_30 : decode cX8_copy 30 = .ok (.aload_n 0, 1) := by decide +kernel
theorem dX8_copy_31 : decode cX8_copy 31 = .ok (.getfield 60, 3) := by decide +kernel
theorem dX8_copy_34 : decode cX8_copy 34 = .ok (.iload_n 3, 1) := by decide +kernel
theorem dX8_copy_35 : decode cX8_copy 35 = .ok (.iaload, 1) := by decide +kernel
theorem dX8_copy_36 : decode cX8_copy 36 = .ok (.ifCond .ne 10, 3) := by decide +kernel
theorem dX8_copy_39 : decode cX8_copy 39 = .ok (.aload_n 0, 1) := by decide +kernel
theorem dX8_copy_40 : decode cX8_copy 40 = .ok (.ldc 241, 2) := by decide +kernel
theorem dX8_copy_42 : decode cX8_copy 42 = .ok (.invokevirtual 90, 3) := by decide +kernel
theorem dX8_copy_45 : decode cX8_copy 45 = .ok (.ireturn, 1) := by decide +kernel
theorem dX8_copy_46 : decode cX8_copy 46 = .ok (.aload_n 0, 1) := by decide +kernel
theorem dX8_copy_47 : decode cX8_copy 47 = .ok (.getfield 60, 3) := by decide +kernel
theorem dX8_copy_50 : decode cX8_copy 50 = .ok (.iload_n 1, 1) := by decide +kernel
theorem dX8_copy_51 : decode cX8_copy 51 = .ok (.iaload, 1) := by decide +kernel
theorem dX8_copy_52 : decode cX8_copy 52 = .ok (.aload_n 0, 1) := by decide +kernel
theorem dX8_copy_53 : decode cX8_copy 53 = .ok (.getfield 60, 3) := by decide +kernel
theorem dX8_copy_56 : decode cX8_copy 56 = .ok (.iload_n 3, 1) := by decide +kernel
theorem dX8_copy_57 : decode cX8_copy 57 = .ok (.iaload, 1) := by decide +kernel
theorem dX8_copy_58 : decode cX8_copy 58 = .ok (.if_icmp .eq 11, 3) := by decide +kernel
theorem dX8_copy_61 : decode cX8_copy 61 = .ok (.aload_n 0, 1) := by decide +kernel
theorem dX8_copy_62 : decode cX8_copy 62 = .ok (.ldc_w 342, 3) := by decide +kernel
theorem dX8_copy_65 : decode cX8_copy 65 = .ok (.invokevirtual 90, 3) := by decide +kernel
theorem dX8_copy_68 : decode cX8_copy 68 = .ok (.ireturn, 1) := by decide +kernel
theorem dX8_copy_69 : decode cX8_copy 69 = .ok (.iload_n 2, 1) := by decide +kernel
theorem dX8_copy_70 : decode cX8_copy 70 = .ok (.ifCond .lt 48, 3) := by decide +kernel
theorem dX8_copy_73 : decode cX8_copy 73 = .ok (.iload 4, 2) := by decide +kernel
theorem dX8_copy_75 : decode cX8_copy 75 = .ok (.ifCond .lt 43, 3) := by decide +kernel
theorem dX8_copy_78 : decode cX8_copy 78 = .ok (.iload 5, 2) := by decide +kernel
theorem dX8_copy_80 : decode cX8_copy 80 = .ok (.ifCond .lt 38, 3) := by decide +kernel
theorem dX8_copy_83 : decode cX8_copy 83 = .ok (.iload_n 2, 1) := by decide +kernel
theorem dX8_copy_84 : decode cX8_copy 84 = .ok (.i2l, 1) := by decide +kernel
theorem dX8_copy_85 : decode cX8_copy 85 = .ok (.iload 5, 2) := by decide +kernel
theorem dX8_copy_87 : decode cX8_copy 87 = .ok (.i2l, 1) := by decide +kernel
theorem dX8_copy_88 : decode cX8_copy 88 = .ok (.ladd, 1) := by decide +kernel
theorem dX8_copy_89 : decode cX8_copy 89 = .ok (.aload_n 0, 1) := by decide +kernel
theorem dX8_copy_90 : decode cX8_copy 90 = .ok (.getfield 63, 3) := by decide +kernel
theorem dX8_copy_93 : decode cX8_copy 93 = .ok (.iload_n 1, 1) := by decide +kernel
theorem dX8_copy_94 : decode cX8_copy 94 = .ok (.iaload, 1) := by decide +kernel
theorem dX8_copy_95 : decode cX8_copy 95 = .ok (.i2l, 1) := by decide +kernel
theorem dX8_copy_96 : decode cX8_copy 96 = .ok (.lcmp, 1) := by decide +kernel
theorem dX8_copy_97 : decode cX8_copy 97 = .ok (.ifCond .gt 21, 3) := by decide +kernel
theorem dX8_copy_100 : decode cX8_copy 100 = .ok (.iload 4, 2) := by decide +kernel
theorem dX8_copy_102 : decode cX8_copy 102 = .ok (.i2l, 1) := by decide +kernel
theorem dX8_copy_103 : decode cX8_copy 103 = .ok (.iload 5, 2) := by decide +kernel
theorem dX8_copy_105 : decode cX8_copy 105 = .ok (.i2l, 1) := by decide +kernel
theorem dX8_copy_106 : decode cX8_copy 106 = .ok (.ladd, 1) := by decide +kernel
theorem dX8_copy_107 : decode cX8_copy 107 = .ok (.aload_n 0, 1) := by decide +kernel
theorem dX8_copy_108 : decode cX8_copy 108 = .ok (.getfield 63, 3) := by decide +kernel
theorem dX8_copy_111 : decode cX8_copy 111 = .ok (.iload_n 3, 1) := by decide +kernel
theorem dX8_copy_112 : decode cX8_copy 112 = .ok (.iaload, 1) := by decide +kernel
theorem dX8_copy_113 : decode cX8_copy 113 = .ok (.i2l, 1) := by decide +kernel
theorem dX8_copy_114 : decode cX8_copy 114 = .ok (.lcmp, 1) := by decide +kernel
theorem dX8_copy_115 : decode cX8_copy 115 = .ok (.ifCond .le 10, 3) := by decide +kernel
theorem dX8_copy_118 : decode cX8_copy 118 = .ok (.aload_n 0, 1) := by decide +kernel
theorem dX8_copy_119 : decode cX8_copy 119 = .ok (.ldc 73, 2) := by decide +kernel
theorem dX8_copy_121 : decode cX8_copy 121 = .ok (.invokevirtual 90, 3) := by decide +kernel
theorem dX8_copy_124 : decode cX8_copy 124 = .ok (.ireturn, 1) := by decide +kernel
theorem dX8_copy_125 : decode cX8_copy 125 = .ok (.iconst 0, 1) := by decide +kernel
theorem dX8_copy_126 : decode cX8_copy 126 = .ok (.istore 6, 2) := by decide +kernel
theorem dX8_copy_128 : decode cX8_copy 128 = .ok (.iload 6, 2) := by decide +kernel
theorem dX8_copy_130 : decode cX8_copy 130 = .ok (.iload 5, 2) := by decide +kernel
theorem dX8_copy_132 : decode cX8_copy 132 = .ok (.if_icmp .ge 30, 3) := by decide +kernel
theorem dX8_copy_135 : decode cX8_copy 135 = .ok (.aload_n 0, 1) := by decide +kernel
theorem dX8_copy_136 : decode cX8_copy 136 = .ok (.getfield 69, 3) := by decide +kernel
theorem dX8_copy_139 : decode cX8_copy 139 = .ok (.iload 6, 2) := by decide +kernel
theorem dX8_copy_141 : decode cX8_copy 141 = .ok (.aload_n 0, 1) := by decide +kernel
theorem dX8_copy_142 : decode cX8_copy 142 = .ok (.getfield 66, 3) := by decide +kernel
theorem dX8_copy_145 : decode cX8_copy 145 = .ok (.bipush 40, 2) := by decide +kernel
theorem dX8_copy_147 : decode cX8_copy 147 = .ok (.iload_n 1, 1) := by decide +kernel
theorem dX8_copy_148 : decode cX8_copy 148 = .ok (.imul, 1) := by decide +kernel
theorem dX8_copy_149 : decode cX8_copy 149 = .ok (.iload_n 2, 1) := by decide +kernel
theorem dX8_copy_150 : decode cX8_copy 150 = .ok (.iadd, 1) := by decide +kernel
theorem dX8_copy_151 : decode cX8_copy 151 = .ok (.iload 6, 2) := by decide +kernel
theorem dX8_copy_153 : decode cX8_copy 153 = .ok (.iadd, 1) := by decide +kernel
theorem dX8_copy_154 : decode cX8_copy 154 = .ok (.iaload, 1) := by decide +kernel
theorem dX8_copy_155 : decode cX8_copy 155 = .ok (.iastore, 1) := by decide +kernel
theorem dX8_copy_156 : decode cX8_copy 156 = .ok (.iinc 6 1, 3) := by decide +kernel
theorem dX8_copy_159 : decode cX8_copy 159 = .ok (.goto (-31), 3) := by decide +kernel
theorem dX8_copy_162 : decode cX8_copy 162 = .ok (.iconst 0, 1) := by decide +kernel
theorem dX8_copy_163 : decode cX8_copy 163 = .ok (.istore 6, 2) := by decide +kernel
theorem dX8_copy_165 : decode cX8_copy 165 = .ok (.iload 6, 2) := by decide +kernel
theorem dX8_copy_167 : decode cX8_copy 167 = .ok (.iload 5, 2) := by decide +kernel
theorem dX8_copy_169 : decode cX8_copy 169 = .ok (.if_icmp .ge 31, 3) := by decide +kernel
theorem dX8_copy_172 : decode cX8_copy 172 = .ok (.aload_n 0, 1) := by decide +kernel
theorem dX8_copy_173 : decode cX8_copy 173 = .ok (.getfield 66, 3) := by decide +kernel
theorem dX8_copy_176 : decode cX8_copy 176 = .ok (.bipush 40, 2) := by decide +kernel
theorem dX8_copy_178 : decode cX8_copy 178 = .ok (.iload_n 3, 1) := by decide +kernel
theorem dX8_copy_179 : decode cX8_copy 179 = .ok (.imul, 1) := by decide +kernel
theorem dX8_copy_180 : decode cX8_copy 180 = .ok (.iload 4, 2) := by decide +kernel
theorem dX8_copy_182 : decode cX8_copy 182 = .ok (.iadd, 1) := by decide +kernel
theorem dX8_copy_183 : decode cX8_copy 183 = .ok (.iload 6, 2) := by decide +kernel
theorem dX8_copy_185 : decode cX8_copy 185 = .ok (.iadd, 1) := by decide +kernel
theorem dX8_copy_186 : decode cX8_copy 186 = .ok (.aload_n 0, 1) := by decide +kernel
theorem dX8_copy_187 : decode cX8_copy 187 = .ok (.getfield 69, 3) := by decide +kernel
theorem dX8_copy_190 : decode cX8_copy 190 = .ok (.iload 6, 2) := by decide +kernel
theorem dX8_copy_192 : decode cX8_copy 192 = .ok (.iaload, 1) := by decide +kernel
theorem dX8_copy_193 : decode cX8_copy 193 = .ok (.iastore, 1) := by decide +kernel
theorem dX8_copy_194 : decode cX8_copy 194 = .ok (.iinc 6 1, 3) := by decide +kernel
theorem dX8_copy_197 : decode cX8_copy 197 = .ok (.goto (-32), 3) := by decide +kernel
theorem dX8_copy_200 : decode cX8_copy 200 = .ok (.iload 5, 2) := by decide +kernel
theorem dX8_copy_202 : decode cX8_copy 202 = .ok (.ireturn, 1) := by decide +kernel
set_option maxRecDepth 20000 in
theorem ggX8_load_X8_isSheet : GoodIn wsX8_load wsX8_isSheet := goodIn_r _ [10, 11, 12, 9, 13] (by decide +kernel) (by decide +kernel)
set_option maxRecDepth 20000 in
theorem gX8_load_X8_isSheet : GoodIn wsX8_load (va_wsS RX8 238 yX8_isSheet wsX8_isSheet) := goodIn_app (goodIn_of _ (by decide +kernel)) ggX8_load_X8_isSheet
set_option maxRecDepth 20000 in
theorem ggX8_load_X8_finding : GoodIn wsX8_load wsX8_finding := goodIn_r _ [17, 18, 1, 26, 27, 28, 29, 30, 31, 32, 33, 34, 35, 36, 37, 38, 39, 40, 41, 42, 43, 44, 45, 46, 47, 48, 49, 50, 51, 52, 53, 54] (by decide +kernel) (by decide +kernel)
set_option maxRecDepth 20000 in
theorem gX8_load_X8_finding : GoodIn wsX8_load (wsV RX8 90 RX8 yX8_finding wsX8_finding) := goodIn_app (goodIn_of _ (by decide +kernel)) ggX8_load_X8_finding
set_option maxRecDepth 20000 in
theorem ggX8_load_X8_isPerson : GoodIn wsX8_load wsX8_isPerson := goodIn_r _ [22, 6, 11, 12, 9, 13, 26, 27, 28, 29, 30, 31, 32, 33, 34, 35, 36, 37, 38, 39, 40, 41, 42, 43, 44, 45, 46, 47, 48, 49, 50, 51, 52, 53, 54] (by decide +kernel) (by decide +kernel)
set_option maxRecDepth 20000 in
theorem gX8_load_X8_isPerson : GoodIn wsX8_load (wsV RX8 130 RX8 yX8_isPerson wsX8_isPerson) := goodIn_app (goodIn_of _ (by decide +kernel)) ggX8_load_X8_isPerson
set_option maxRecDepth 20000 in
theorem ggX8_load_X8_within : GoodIn wsX8_load wsX8_within := goodIn_r _ [13] (by decide +kernel) (by decide +kernel)
set_option maxRecDepth 20000 in
theorem gX8_load_X8_within : GoodIn wsX8_load (va_wsS RX8 78 yX8_within wsX8_within) := goodIn_app (goodIn_of _ (by decide +kernel)) ggX8_load_X8_within
set_option maxRecDepth 20000 in
theorem ggX8_load_X8_at : GoodIn wsX8_load wsX8_at := goodIn_r _ [25] (by decide +kernel) (by decide +kernel)
set_option maxRecDepth 20000 in
theorem gX8_load_X8_at : GoodIn wsX8_load (va_wsS RX8 82 yX8_at wsX8_at) := goodIn_app (goodIn_of _ (by decide +kernel)) ggX8_load_X8_at
theorem dX8_load_0 : decode cX8_load 0 = .ok (.iload_n 1, 1) := by decide +kernel
theorem dX8_load_1 : decode cX8_load 1 = .ok (.invokestatic 238, 3) := by decide +kernel
theorem dX8_load_4 : decode cX8_load 4 = .ok (.ifCond .ne 10, 3) := by decide +kernel
theorem dX8_load_7 : decode cX8_load 7 = .ok (.aload_n 0, 1) := by decide +kernel
theorem dX8_load_8 : decode cX8_load 8 = .ok (.ldc 73, 2) := by decide +kernel
theorem dX8_load_10 : decode cX8_load 10 = .ok (.invokevirtual 90, 3) := by decide +kernel
theorem dX8_load_13 : decode cX8_load 13 = .ok (.ireturn, 1) := by decide +kernel
theorem dX8_load_14 : decode cX8_load 14 = .ok (.aload_n 0, 1) := by decide +kernel
theorem dX8_load_15 : decode cX8_load 15 = .ok (.getfield 60, 3) := by decide +kernel
theorem dX8_load_18 : decode cX8_load 18 = .ok (.iload_n 1, 1) := by decide +kernel
theorem dX8_load_19 : decode cX8_load 19 = .ok (.iaload, 1) := by decide +kernel
theorem dX8_load_20 : decode cX8_load 20 = .ok (.ifCond .ne 10, 3) := by decide +kernel
theorem dX8_load_23 : decode cX8_load 23 = .ok (.aload_n 0, 1) := by decide +kernel
theorem dX8_load_24 : decode cX8_load 24 = .ok (.ldc 241, 2) := by decide +kernel
theorem dX8_load_26 : decode cX8_load 26 = .ok (.invokevirtual 90, 3) := by decide +kernel
theorem dX8_load_29 : decode cX8_load 29 = .ok (.ireturn, 1) := by decide +kernel
theorem dX8_load_30 : decode cX8_load 30 = .ok (.iconst 0, 1) := by decide +kernel
theorem dX8_load_31 : decode cX8_load 31 = .ok (.istore_n 2, 1) := by decide +kernel
theorem dX8_load_32 : decode cX8_load 32 = .ok (.iload_n 2, 1) := by decide +kernel
theorem dX8_load_33 : decode cX8_load 33 = .ok (.aload_n 0, 1) := by decide +kernel
theorem dX8_load_34 : decode cX8_load 34 = .ok (.getfield 63, 3) := by decide +kernel
theorem dX8_load_37 : decode cX8_load 37 = .ok (.iload_n 1, 1) := by decide +kernel
theorem dX8_load_38 : decode cX8_load 38 = .ok (.iaload, 1) := by decide +kernel
theorem dX8_load_39 : decode cX8_load 39 = .ok (.if_icmp .ge 58, 3) := by decide +kernel
theorem dX8_load_42 : decode cX8_load 42 = .ok (.aload_n 0, 1) := by decide +kernel
theorem dX8_load_43 : decode cX8_load 43 = .ok (.iload_n 2, 1) := by decide +kernel
theorem dX8_load_44 : decode cX8_load 44 = .ok (.invokevirtual 130, 3) := by decide +kernel
theorem dX8_load_47 : decode cX8_load 47 = .ok (.ifCond .eq 50, 3) := by decide +kernel
theorem dX8_load_50 : decode cX8_load 50 = .ok (.aload_n 0, 1) := by decide +kernel
theorem dX8_load_51 : decode cX8_load 51 = .ok (.getfield 66, 3) := by decide +kernel
theorem dX8_load_54 : decode cX8_load 54 = .ok (.bipush 40, 2) := by decide +kernel
theorem dX8_load_56 : decode cX8_load 56 = .ok (.iload_n 1, 1) := by decide +kernel
theorem dX8_load_57 : decode cX8_load 57 = .ok (.imul, 1) := by decide +kernel
theorem dX8_load_58 : decode cX8_load 58 = .ok (.iload_n 2, 1) := by decide +kernel
theorem dX8_load_59 : decode cX8_load 59 = .ok (.iadd, 1) := by decide +kernel
theorem dX8_load_60 : decode cX8_load 60 = .ok (.iaload, 1) := by decide +kernel
theorem dX8_load_61 : decode cX8_load 61 = .ok (.iconst 0, 1) := by decide +kernel
theorem dX8_load_62 : decode cX8_load 62 = .ok (.bipush 99, 2) := by decide +kernel
theorem dX8_load_64 : decode cX8_load 64 = .ok (.invokestatic 78, 3) := by decide +kernel
theorem dX8_load_67 : decode cX8_load 67 = .ok (.ifCond .eq 30, 3) := by decide +kernel
theorem dX8_load_70 : decode cX8_load 70 = .ok (.aload_n 0, 1) := by decide +kernel
theorem dX8_load_71 : decode cX8_load 71 = .ok (.getfield 9, 3) := by decide +kernel
theorem dX8_load_74 : decode cX8_load 74 = .ok (.iload_n 2, 1) := by decide +kernel
theorem dX8_load_75 : decode cX8_load 75 = .ok (.iconst 1, 1) := by decide +kernel
theorem dX8_load_76 : decode cX8_load 76 = .ok (.invokestatic 82, 3) := by decide +kernel
theorem dX8_load_79 : decode cX8_load 79 = .ok (.aload_n 0, 1) := by decide +kernel
theorem dX8_load_80 : decode cX8_load 80 = .ok (.getfield 66, 3) := by decide +kernel
theorem dX8_load_83 : decode cX8_load 83 = .ok (.bipush 40, 2) := by decide +kernel
theorem dX8_load_85 : decode cX8_load 85 = .ok (.iload_n 1, 1) := by decide +kernel
theorem dX8_load_86 : decode cX8_load 86 = .ok (.imul, 1) := by decide +kernel
theorem dX8_load_87 : decode cX8_load 87 = .ok (.iload_n 2, 1) := by decide +kernel
theorem dX8_load_88 : decode cX8_load 88 = .ok (.iadd, 1) := by decide +kernel
theorem dX8_load_89 : decode cX8_load 89 = .ok (.iaload, 1) := by decide +kernel
theorem dX8_load_90 : decode cX8_load 90 = .ok (.iastore, 1) := by decide +kernel
theorem dX8_load_91 : decode cX8_load 91 = .ok (.iinc 2 1, 3) := by decide +kernel
theorem dX8_load_94 : decode cX8_load 94 = .ok (.goto (-62), 3) := by decide +kernel
theorem dX8_load_97 : decode cX8_load 97 = .ok (.iload_n 2, 1) := by decide +kernel
theorem dX8_load_98 : decode cX8_load 98 = .ok (.ireturn, 1) := by decide +kernel
set_option maxRecDepth 20000 in
theorem ggX8_judge_X8_isSheet : GoodIn wsX8_judge wsX8_isSheet := goodIn_r _ [11, 12, 13, 10, 14] (by decide +kernel) (by decide +kernel)
set_option maxRecDepth 20000 in
theorem gX8_judge_X8_isSheet : GoodIn wsX8_judge (va_wsS RX8 238 yX8_isSheet wsX8_isSheet) := goodIn_app (goodIn_of _ (by decide +kernel)) ggX8_judge_X8_isSheet
set_option maxRecDepth 20000 in
theorem ggX8_judge_X8_finding : GoodIn wsX8_judge wsX8_finding := goodIn_r _ [18, 19, 1, 72, 73, 74, 75, 76, 77, 78, 79, 80, 81, 82, 83, 84, 85, 86, 87, 88, 89, 90, 91, 92, 93, 94, 95, 96, 97, 98, 99, 100] (by decide +kernel) (by decide +kernel)
set_option maxRecDepth 20000 in
theorem gX8_judge_X8_finding : GoodIn wsX8_judge (wsV RX8 90 RX8 yX8_finding wsX8_finding) := goodIn_app (goodIn_of _ (by decide +kernel)) ggX8_judge_X8_finding
set_option maxRecDepth 20000 in
theorem ggX8_judge_X8_copyRow : GoodIn wsX8_judge wsX8_copyRow := goodIn_r _ [22] (by decide +kernel) (by decide +kernel)
set_option maxRecDepth 20000 in
theorem gX8_judge_X8_copyRow : GoodIn wsX8_judge (va_wsS RX8 74 yX8_copyRow wsX8_copyRow) := goodIn_app (goodIn_of _ (by decide +kernel)) ggX8_judge_X8_copyRow
set_option maxRecDepth 20000 in
theorem ggX8_judge_X8_isOver : GoodIn wsX8_judge wsX8_isOver := goodIn_r _ [26, 4, 72, 73, 74, 75, 76, 77, 78, 79, 80, 81, 82, 83, 84, 85, 86, 87, 88, 89, 90, 91, 92, 93, 94, 95, 96, 97, 98, 99, 100] (by decide +kernel) (by decide +kernel)
set_option maxRecDepth 20000 in
theorem gX8_judge_X8_isOver : GoodIn wsX8_judge (wsV RX8 133 RX8 yX8_isOver wsX8_isOver) := goodIn_app (goodIn_of _ (by decide +kernel)) ggX8_judge_X8_isOver
set_option maxRecDepth 20000 in
theorem ggX8_judge_X8_whoHave : GoodIn wsX8_judge wsX8_whoHave := goodIn_r _ [30, 4, 31, 32, 33, 10, 34, 35, 36, 37, 38, 39, 40, 41, 42, 43, 44, 45, 46, 47, 48, 49, 50, 51, 52, 53, 54, 55, 56, 57, 58, 59, 60, 61, 62, 63, 72, 73, 74, 75, 76, 77, 78, 79, 80, 81, 82, 83, 84, 85, 86, 87, 88, 89, 90, 91, 92, 93, 94, 95, 96, 97, 98, 99, 100] (by decide +kernel) (by decide +kernel)
set_option maxRecDepth 20000 in
theorem gX8_judge_X8_whoHave : GoodIn wsX8_judge (wsV RX8 153 RX8 yX8_whoHave wsX8_whoHave) := goodIn_app (goodIn_of _ (by decide +kernel)) ggX8_judge_X8_whoHave
set_option maxRecDepth 20000 in
theorem ggX8_judge_X8_hour : GoodIn wsX8_judge wsX8_hour := goodIn_r _ [67, 4, 57, 58, 55, 59, 53, 54, 56, 27, 28, 29, 10, 30, 31, 32, 33, 34, 35, 36, 37, 38, 39, 40, 41, 42, 43, 44, 45, 46, 47, 48, 49, 50, 51, 52, 60, 61, 62, 63, 72, 73, 74, 75, 76, 77, 78, 79, 80, 81, 82, 83, 84, 85, 86, 87, 88, 89, 90, 91, 92, 93, 94, 95, 96, 97, 98, 99, 100] (by decide +kernel) (by decide +kernel)
set_option maxRecDepth 20000 in
theorem gX8_judge_X8_hour : GoodIn wsX8_judge (wsV RX8 156 RX8 yX8_hour wsX8_hour) := goodIn_app (goodIn_of _ (by decide +kernel)) ggX8_judge_X8_hour
set_option maxRecDepth 20000 in
theorem ggX8_judge_X8_putBack : GoodIn wsX8_judge wsX8_putBack := goodIn_r _ [71, 5, 4, 20, 21, 10, 22, 72, 73, 74, 75, 76, 77, 78, 79, 80, 81, 82, 83, 84, 85, 86, 87, 88, 89, 90, 91, 92, 93, 94, 95, 96, 97, 98, 99, 100] (by decide +kernel) (by decide +kernel)
set_option maxRecDepth 20000 in
theorem gX8_judge_X8_putBack : GoodIn wsX8_judge (wsV RX8 188 RX8 yX8_putBack wsX8_putBack) := goodIn_app (goodIn_of _ (by decide +kernel)) ggX8_judge_X8_putBack
theorem dX8_judge_0 : decode cX8_judge 0 = .ok (.iload_n 1, 1) := by decide +kernel
theorem dX8_judge_1 : decode cX8_judge 1 = .ok (.invokestatic 238, 3) := by decide +kernel
theorem dX8_judge_4 : decode cX8_judge 4 = .ok (.ifCond .ne 10, 3) := by decide +kernel
theorem dX8_judge_7 : decode cX8_judge 7 = .ok (.aload_n 0, 1) := by decide +kernel
theorem dX8_judge_8 : decode cX8_judge 8 = .ok (.ldc 73, 2) := by decide +kernel
theorem dX8_judge_10 : decode cX8_judge 10 = .ok (.invokevirtual 90, 3) := by decide +kernel
theorem dX8_judge_13 : decode cX8_judge 13 = .ok (.ireturn, 1) := by decide +kernel
theorem dX8_judge_14 : decode cX8_judge 14 = .ok (.aload_n 0, 1) := by decide +kernel
theorem dX8_judge_15 : decode cX8_judge 15 = .ok (.getfield 60, 3) := by decide +kernel
theorem dX8_judge_18 : decode cX8_judge 18 = .ok (.iload_n 1, 1) := by decide +kernel
theorem dX8_judge_19 : decode cX8_judge 19 = .ok (.iaload, 1) := by decide +kernel
theorem dX8_judge_20 : decode cX8_judge 20 = .ok (.ifCond .ne 10, 3) := by decide +kernel
theorem dX8_judge_23 : decode cX8_judge 23 = .ok (.aload_n 0, 1) := by decide +kernel
theorem dX8_judge_24 : decode cX8_judge 24 = .ok (.ldc 241, 2) := by decide +kernel
theorem dX8_judge_26 : decode cX8_judge 26 = .ok (.invokevirtual 90, 3) := by decide +kernel
theorem dX8_judge_29 : decode cX8_judge 29 = .ok (.ireturn, 1) := by decide +kernel
theorem dX8_judge_30 : decode cX8_judge 30 = .ok (.aload_n 0, 1) := by decide +kernel
theorem dX8_judge_31 : decode cX8_judge 31 = .ok (.getfield 9, 3) := by decide +kernel
theorem dX8_judge_34 : decode cX8_judge 34 = .ok (.aload_n 0, 1) := by decide +kernel
theorem dX8_judge_35 : decode cX8_judge 35 = .ok (.getfield 16, 3) := by decide +kernel
theorem dX8_judge_38 : decode cX8_judge 38 = .ok (.invokestatic 74, 3) := by decide +kernel
theorem dX8_judge_41 : decode cX8_judge 41 = .ok (.iconst 0, 1) := by decide +kernel
theorem dX8_judge_42 : decode cX8_judge 42 = .ok (.istore_n 2, 1) := by decide +kernel
theorem dX8_judge_43 : decode cX8_judge 43 = .ok (.iconst 1, 1) := by decide +kernel
theorem dX8_judge_44 : decode cX8_judge 44 = .ok (.istore_n 3, 1) := by decide +kernel
theorem dX8_judge_45 : decode cX8_judge 45 = .ok (.iload_n 2, 1) := by decide +kernel
theorem dX8_judge_46 : decode cX8_judge 46 = .ok (.aload_n 0, 1) := by decide +kernel
theorem dX8_judge_47 : decode cX8_judge 47 = .ok (.getfield 63, 3) := by decide +kernel
theorem dX8_judge_50 : decode cX8_judge 50 = .ok (.iload_n 1, 1) := by decide +kernel
theorem dX8_judge_51 : decode cX8_judge 51 = .ok (.iaload, 1) := by decide +kernel
theorem dX8_judge_52 : decode cX8_judge 52 = .ok (.if_icmp .ge 58, 3) := by decide +kernel
theorem dX8_judge_55 : decode cX8_judge 55 = .ok (.iload_n 3, 1) := by decide +kernel
theorem dX8_judge_56 : decode cX8_judge 56 = .ok (.ifCond .eq 54, 3) := by decide +kernel
theorem dX8_judge_59 : decode cX8_judge 59 = .ok (.aload_n 0, 1) := by decide +kernel
theorem dX8_judge_60 : decode cX8_judge 60 = .ok (.invokevirtual 133, 3) := by decide +kernel
theorem dX8_judge_63 : decode cX8_judge 63 = .ok (.ifCond .ne 31, 3) := by decide +kernel
theorem dX8_judge_66 : decode cX8_judge 66 = .ok (.aload_n 0, 1) := by decide +kernel
theorem dX8_judge_67 : decode cX8_judge 67 = .ok (.getfield 66, 3) := by decide +kernel
theorem dX8_judge_70 : decode cX8_judge 70 = .ok (.bipush 40, 2) := by decide +kernel
theorem dX8_judge_72 : decode cX8_judge 72 = .ok (.iload_n 1, 1) := by decide +kernel
theorem dX8_judge_73 : decode cX8_judge 73 = .ok (.imul, 1) := by decide +kernel
theorem dX8_judge_74 : decode cX8_judge 74 = .ok (.iload_n 2, 1) := by decide +kernel
theorem dX8_judge_75 : decode cX8_judge 75 = .ok (.iadd, 1) := by decide +kernel
theorem dX8_judge_76 : decode cX8_judge 76 = .ok (.iaload, 1) := by decide +kernel
theorem dX8_judge_77 : decode cX8_judge 77 = .ok (.aload_n 0, 1) := by decide +kernel
theorem dX8_judge_78 : decode cX8_judge 78 = .ok (.aload_n 0, 1) := by decide +kernel
theorem dX8_judge_79 : decode cX8_judge 79 = .ok (.getfield 9, 3) := by decide +kernel
theorem dX8_judge_82 : decode cX8_judge 82 = .ok (.iconst 0, 1) := by decide +kernel
theorem dX8_judge_83 : decode cX8_judge 83 = .ok (.iaload, 1) := by decide +kernel
theorem dX8_judge_84 : decode cX8_judge 84 = .ok (.invokevirtual 153, 3) := by decide +kernel
theorem dX8_judge_87 : decode cX8_judge 87 = .ok (.if_icmp .ne 7, 3) := by decide +kernel
theorem dX8_judge_90 : decode cX8_judge 90 = .ok (.iconst 1, 1) := by decide +kernel
theorem dX8_judge_91 : decode cX8_judge 91 = .ok (.goto 4, 3) := by decide +kernel
theorem dX8_judge_94 : decode cX8_judge 94 = .ok (.iconst 0, 1) := by decide +kernel
theorem dX8_judge_95 : decode cX8_judge 95 = .ok (.istore_n 3, 1) := by decide +kernel
theorem dX8_judge_96 : decode cX8_judge 96 = .ok (.iload_n 3, 1) := by decide +kernel
theorem dX8_judge_97 : decode cX8_judge 97 = .ok (.ifCond .eq (-52), 3) := by decide +kernel
theorem dX8_judge_100 : decode cX8_judge 100 = .ok (.aload_n 0, 1) := by decide +kernel
theorem dX8_judge_101 : decode cX8_judge 101 = .ok (.invokevirtual 156, 3) := by decide +kernel
theorem dX8_judge_104 : decode cX8_judge 104 = .ok (.iinc 2 1, 3) := by decide +kernel
theorem dX8_judge_107 : decode cX8_judge 107 = .ok (.goto (-62), 3) := by decide +kernel
theorem dX8_judge_110 : decode cX8_judge 110 = .ok (.aload_n 0, 1) := by decide +kernel
theorem dX8_judge_111 : decode cX8_judge 111 = .ok (.iload_n 3, 1) := by decide +kernel
theorem dX8_judge_112 : decode cX8_judge 112 = .ok (.ifCond .eq 7, 3) := by decide +kernel
theorem dX8_judge_115 : decode cX8_judge 115 = .ok (.iconst 0, 1) := by decide +kernel
theorem dX8_judge_116 : decode cX8_judge 116 = .ok (.goto 6, 3) := by decide +kernel
theorem dX8_judge_119 : decode cX8_judge 119 = .ok (.iconst 1, 1) := by decide +kernel
theorem dX8_judge_120 : decode cX8_judge 120 = .ok (.iload_n 2, 1) := by decide +kernel
theorem dX8_judge_121 : decode cX8_judge 121 = .ok (.iadd, 1) := by decide +kernel
theorem dX8_judge_122 : decode cX8_judge 122 = .ok (.invokevirtual 188, 3) := by decide +kernel
theorem dX8_judge_125 : decode cX8_judge 125 = .ok (.ireturn, 1) := by decide +kernel
set_option maxRecDepth 20000 in
theorem ggX8_image_X8_copyRow : GoodIn wsX8_image wsX8_copyRow := goodIn_r _ [7] (by decide +kernel) (by decide +kernel)
set_option maxRecDepth 20000 in
theorem gX8_image_X8_copyRow : GoodIn wsX8_image (va_wsS RX8 74 yX8_copyRow wsX8_copyRow) := goodIn_app (goodIn_of _ (by decide +kernel)) ggX8_image_X8_copyRow
theorem dX8_image_0 : decode cX8_image 0 = .ok (.aload_n 0, 1) := by decide +kernel
theorem dX8_image_1 : decode cX8_image 1 = .ok (.getfield 9, 3) := by decide +kernel
theorem dX8_image_4 : decode cX8_image 4 = .ok (.aload_n 0, 1) := by decide +kernel
theorem dX8_image_5 : decode cX8_image 5 = .ok (.getfield 13, 3) := by decide +kernel
theorem dX8_image_8 : decode cX8_image 8 = .ok (.invokestatic 74, 3) := by decide +kernel
theorem dX8_image_11 : decode cX8_image 11 = .ok (.aload_n 0, 1) := by decide +kernel
theorem dX8_image_12 : decode cX8_image 12 = .ok (.iconst 1, 1) := by decide +kernel
theorem dX8_image_13 : decode cX8_image 13 = .ok (.putfield 347, 3) := by decide +kernel
theorem dX8_image_16 : decode cX8_image 16 = .ok (.iconst 1, 1) := by decide +kernel
theorem dX8_image_17 : decode cX8_image 17 = .ok (.ireturn, 1) := by decide +kernel
set_option maxRecDepth 20000 in
theorem ggX8_undo_X8_finding : GoodIn wsX8_undo wsX8_finding := goodIn_r _ [9, 10, 11, 15, 16, 17, 18, 19, 20, 21, 22, 23, 24, 25, 26, 27, 28, 29, 30, 31, 32, 33, 34, 35, 36, 37, 38, 39, 40, 41, 42, 43] (by decide +kernel) (by decide +kernel)
set_option maxRecDepth 20000 in
theorem gX8_undo_X8_finding : GoodIn wsX8_undo (wsV RX8 90 RX8 yX8_finding wsX8_finding) := goodIn_app (goodIn_of _ (by decide +kernel)) ggX8_undo_X8_finding
set_option maxRecDepth 20000 in
theorem ggX8_undo_X8_copyRow : GoodIn wsX8_undo wsX8_copyRow := goodIn_r _ [14] (by decide +kernel) (by decide +kernel)
set_option maxRecDepth 20000 in
theorem gX8_undo_X8_copyRow : GoodIn wsX8_undo (va_wsS RX8 74 yX8_copyRow wsX8_copyRow) := goodIn_app (goodIn_of _ (by decide +kernel)) ggX8_undo_X8_copyRow
theorem dX8_undo_0 : decode cX8_undo 0 = .ok (.aload_n 0, 1) := by decide +kernel
theorem dX8_undo_1 : decode cX8_undo 1 = .ok (.getfield 347, 3) := by decide +kernel
theorem dX8_undo_4 : decode cX8_undo 4 = .ok (.ifCond .ne 10, 3) := by decide +kernel
theorem dX8_undo_7 : decode cX8_undo 7 = .ok (.aload_n 0, 1) := by decide +kernel
theorem dX8_undo_8 : decode cX8_undo 8 = .ok (.ldc 152, 2) := by decide +kernel
theorem dX8_undo_10 : decode cX8_undo 10 = .ok (.invokevirtual 90, 3) := by decide +kernel
theorem dX8_undo_13 : decode cX8_undo 13 = .ok (.ireturn, 1) := by decide +kernel
theorem dX8_undo_14 : decode cX8_undo 14 = .ok (.aload_n 0, 1) := by decide +kernel
theorem dX8_undo_15 : decode cX8_undo 15 = .ok (.getfield 13, 3) := by decide +kernel
theorem dX8_undo_18 : decode cX8_undo 18 = .ok (.aload_n 0, 1) := by decide +kernel
theorem dX8_undo_19 : decode cX8_undo 19 = .ok (.getfield 9, 3) := by decide +kernel
theorem dX8_undo_22 : decode cX8_undo 22 = .ok (.invokestatic 74, 3) := by decide +kernel
theorem dX8_undo_25 : decode cX8_undo 25 = .ok (.aload_n 0, 1) := by decide +kernel
theorem dX8_undo_26 : decode cX8_undo 26 = .ok (.getfield 9, 3) := by decide +kernel
theorem dX8_undo_29 : decode cX8_undo 29 = .ok (.iconst 0, 1) := by decide +kernel
theorem dX8_undo_30 : decode cX8_undo 30 = .ok (.iaload, 1) := by decide +kernel
theorem dX8_undo_31 : decode cX8_undo 31 = .ok (.ireturn, 1) := by decide +kernel
theorem dX8_tear_0 : decode cX8_tear 0 = .ok (.aload_n 0, 1) := by decide +kernel
theorem dX8_tear_1 : decode cX8_tear 1 = .ok (.getfield 347, 3) := by decide +kernel
theorem dX8_tear_4 : decode cX8_tear 4 = .ok (.ifCond .eq 7, 3) := by decide +kernel
theorem dX8_tear_7 : decode cX8_tear 7 = .ok (.iconst 1, 1) := by decide +kernel
theorem dX8_tear_8 : decode cX8_tear 8 = .ok (.goto 4, 3) := by decide +kernel
theorem dX8_tear_11 : decode cX8_tear 11 = .ok (.iconst 0, 1) := by decide +kernel
theorem dX8_tear_12 : decode cX8_tear 12 = .ok (.istore_n 1, 1) := by decide +kernel
theorem dX8_tear_13 : decode cX8_tear 13 = .ok (.aload_n 0, 1) := by decide +kernel
theorem dX8_tear_14 : decode cX8_tear 14 = .ok (.iconst 0, 1) := by decide +kernel
theorem dX8_tear_15 : decode cX8_tear 15 = .ok (.putfield 347, 3) := by decide +kernel
theorem dX8_tear_18 : decode cX8_tear 18 = .ok (.iload_n 1, 1) := by decide +kernel
theorem dX8_tear_19 : decode cX8_tear 19 = .ok (.ireturn, 1) := by decide +kernel
set_option maxRecDepth 20000 in
theorem ggX8_count_X8_personIs : GoodIn wsX8_count wsX8_personIs := goodIn_r _ [8, 1, 9, 10, 7, 11, 17, 18, 19, 20, 21, 22, 23, 24, 25, 26, 27, 28, 29, 30, 31, 32, 33, 34, 35, 36, 37, 38, 39, 40, 41, 42, 43, 44, 45] (by decide +kernel) (by decide +kernel)
set_option maxRecDepth 20000 in
theorem gX8_count_X8_personIs : GoodIn wsX8_count (wsV RX8 102 RX8 yX8_personIs wsX8_personIs) := goodIn_app (goodIn_of _ (by decide +kernel)) ggX8_count_X8_personIs
set_option maxRecDepth 20000 in
theorem ggX8_count_X8_finding : GoodIn wsX8_count wsX8_finding := goodIn_r _ [15, 16, 3, 17, 18, 19, 20, 21, 22, 23, 24, 25, 26, 27, 28, 29, 30, 31, 32, 33, 34, 35, 36, 37, 38, 39, 40, 41, 42, 43, 44, 45] (by decide +kernel) (by decide +kernel)
set_option maxRecDepth 20000 in
theorem gX8_count_X8_finding : GoodIn wsX8_count (wsV RX8 90 RX8 yX8_finding wsX8_finding) := goodIn_app (goodIn_of _ (by decide +kernel)) ggX8_count_X8_finding
theorem dX8_count_0 : decode cX8_count 0 = .ok (.iconst 0, 1) := by decide +kernel
theorem dX8_count_1 : decode cX8_count 1 = .ok (.istore_n 2, 1) := by decide +kernel
theorem dX8_count_2 : decode cX8_count 2 = .ok (.iload_n 1, 1) := by decide +kernel
theorem dX8_count_3 : decode cX8_count 3 = .ok (.tableswitch 180 0 7 #[45, 52, 59, 96, 103, 132, 137, 144], 45) := by decide +kernel
theorem dX8_count_48 : decode cX8_count 48 = .ok (.aload_n 0, 1) := by decide +kernel
theorem dX8_count_49 : decode cX8_count 49 = .ok (.getfield 9, 3) := by decide +kernel
theorem dX8_count_52 : decode cX8_count 52 = .ok (.iconst 0, 1) := by decide +kernel
theorem dX8_count_53 : decode cX8_count 53 = .ok (.iaload, 1) := by decide +kernel
theorem dX8_count_54 : decode cX8_count 54 = .ok (.ireturn, 1) := by decide +kernel
theorem dX8_count_55 : decode cX8_count 55 = .ok (.aload_n 0, 1) := by decide +kernel
theorem dX8_count_56 : decode cX8_count 56 = .ok (.getfield 9, 3) := by decide +kernel
theorem dX8_count_59 : decode cX8_count 59 = .ok (.iconst 4, 1) := by decide +kernel
theorem dX8_count_60 : decode cX8_count 60 = .ok (.iaload, 1) := by decide +kernel
theorem dX8_count_61 : decode cX8_count 61 = .ok (.ireturn, 1) := by decide +kernel
theorem dX8_count_62 : decode cX8_count 62 = .ok (.iconst 0, 1) := by decide +kernel
theorem dX8_count_63 : decode cX8_count 63 = .ok (.istore_n 3, 1) := by decide +kernel
theorem dX8_count_64 : decode cX8_count 64 = .ok (.iload_n 3, 1) := by decide +kernel
theorem dX8_count_65 : decode cX8_count 65 = .ok (.aload_n 0, 1) := by decide +kernel
theorem dX8_count_66 : decode cX8_count 66 = .ok (.getfield 9, 3) := by decide +kernel
theorem dX8_count_69 : decode cX8_count 69 = .ok (.iconst 4, 1) := by decide +kernel
theorem dX8_count_70 : decode cX8_count 70 = .ok (.iaload, 1) := by decide +kernel
theorem dX8_count_71 : decode cX8_count 71 = .ok (.if_icmp .ge 26, 3) := by decide +kernel
theorem dX8_count_74 : decode cX8_count 74 = .ok (.iload_n 2, 1) := by decide +kernel
theorem dX8_count_75 : decode cX8_count 75 = .ok (.aload_n 0, 1) := by decide +kernel
theorem dX8_count_76 : decode cX8_count 76 = .ok (.iload_n 3, 1) := by decide +kernel
theorem dX8_count_77 : decode cX8_count 77 = .ok (.iconst 4, 1) := by decide +kernel
theorem dX8_count_78 : decode cX8_count 78 = .ok (.invokevirtual 102, 3) := by decide +kernel
theorem dX8_count_81 : decode cX8_count 81 = .ok (.ifCond .ge 7, 3) := by decide +kernel
theorem dX8_count_84 : decode cX8_count 84 = .ok (.iconst 0, 1) := by decide +kernel
theorem dX8_count_85 : decode cX8_count 85 = .ok (.goto 4, 3) := by decide +kernel
theorem dX8_count_88 : decode cX8_count 88 = .ok (.iconst 1, 1) := by decide +kernel
theorem dX8_count_89 : decode cX8_count 89 = .ok (.iadd, 1) := by decide +kernel
theorem dX8_count_90 : decode cX8_count 90 = .ok (.istore_n 2, 1) := by decide +kernel
theorem dX8_count_91 : decode cX8_count 91 = .ok (.iinc 3 1, 3) := by decide +kernel
theorem dX8_count_94 : decode cX8_count 94 = .ok (.goto (-30), 3) := by decide +kernel
theorem dX8_count_97 : decode cX8_count 97 = .ok (.iload_n 2, 1) := by decide +kernel
theorem dX8_count_98 : decode cX8_count 98 = .ok (.ireturn, 1) := by decide +kernel
theorem dX8_count_99 : decode cX8_count 99 = .ok (.aload_n 0, 1) := by decide +kernel
theorem dX8_count_100 : decode cX8_count 100 = .ok (.getfield 9, 3) := by decide +kernel
theorem dX8_count_103 : decode cX8_count 103 = .ok (.iconst 1, 1) := by decide +kernel
theorem dX8_count_104 : decode cX8_count 104 = .ok (.iaload, 1) := by decide +kernel
theorem dX8_count_105 : decode cX8_count 105 = .ok (.ireturn, 1) := by decide +kernel
theorem dX8_count_106 : decode cX8_count 106 = .ok (.iconst 0, 1) := by decide +kernel
theorem dX8_count_107 : decode cX8_count 107 = .ok (.istore_n 3, 1) := by decide +kernel
theorem dX8_count_108 : decode cX8_count 108 = .ok (.iload_n 3, 1) := by decide +kernel
theorem dX8_count_109 : decode cX8_count 109 = .ok (.aload_n 0, 1) := by decide +kernel
theorem dX8_count_110 : decode cX8_count 110 = .ok (.getfield 9, 3) := by decide +kernel
theorem dX8_count_113 : decode cX8_count 113 = .ok (.iconst 4, 1) := by decide +kernel
theorem dX8_count_114 : decode cX8_count 114 = .ok (.iaload, 1) := by decide +kernel
theorem dX8_count_115 : decode cX8_count 115 = .ok (.if_icmp .ge 18, 3) := by decide +kernel
theorem dX8_count_118 : decode cX8_count 118 = .ok (.iload_n 2, 1) := by decide +kernel
theorem dX8_count_119 : decode cX8_count 119 = .ok (.aload_n 0, 1) := by decide +kernel
theorem dX8_count_120 : decode cX8_count 120 = .ok (.iload_n 3, 1) := by decide +kernel
theorem dX8_count_121 : decode cX8_count 121 = .ok (.iconst 1, 1) := by decide +kernel
theorem dX8_count_122 : decode cX8_count 122 = .ok (.invokevirtual 102, 3) := by decide +kernel
theorem dX8_count_125 : decode cX8_count 125 = .ok (.iadd, 1) := by decide +kernel
theorem dX8_count_126 : decode cX8_count 126 = .ok (.istore_n 2, 1) := by decide +kernel
theorem dX8_count_127 : decode cX8_count 127 = .ok (.iinc 3 1, 3) := by decide +kernel
theorem dX8_count_130 : decode cX8_count 130 = .ok (.goto (-22), 3) := by decide +kernel
theorem dX8_count_133 : decode cX8_count 133 = .ok (.iload_n 2, 1) := by decide +kernel
theorem dX8_count_134 : decode cX8_count 134 = .ok (.ireturn, 1) := by decide +kernel
theorem dX8_count_135 : decode cX8_count 135 = .ok (.aload_n 0, 1) := by decide +kernel
theorem dX8_count_136 : decode cX8_count 136 = .ok (.getfield 256, 3) := by decide +kernel
theorem dX8_count_139 : decode cX8_count 139 = .ok (.ireturn, 1) := by decide +kernel
theorem dX8_count_140 : decode cX8_count 140 = .ok (.aload_n 0, 1) := by decide +kernel
theorem dX8_count_141 : decode cX8_count 141 = .ok (.getfield 9, 3) := by decide +kernel
theorem dX8_count_144 : decode cX8_count 144 = .ok (.iconst 5, 1) := by decide +kernel
theorem dX8_count_145 : decode cX8_count 145 = .ok (.iaload, 1) := by decide +kernel
theorem dX8_count_146 : decode cX8_count 146 = .ok (.ireturn, 1) := by decide +kernel
theorem dX8_count_147 : decode cX8_count 147 = .ok (.iconst 0, 1) := by decide +kernel
theorem dX8_count_148 : decode cX8_count 148 = .ok (.istore_n 3, 1) := by decide +kernel
theorem dX8_count_149 : decode cX8_count 149 = .ok (.iload_n 3, 1) := by decide +kernel
theorem dX8_count_150 : decode cX8_count 150 = .ok (.bipush 10, 2) := by decide +kernel
theorem dX8_count_152 : decode cX8_count 152 = .ok (.if_icmp .ge 29, 3) := by decide +kernel
theorem dX8_count_155 : decode cX8_count 155 = .ok (.iload_n 2, 1) := by decide +kernel
theorem dX8_count_156 : decode cX8_count 156 = .ok (.aload_n 0, 1) := by decide +kernel
theorem dX8_count_157 : decode cX8_count 157 = .ok (.getfield 9, 3) := by decide +kernel
theorem dX8_count_160 : decode cX8_count 160 = .ok (.bipush 6, 2) := by decide +kernel
theorem dX8_count_162 : decode cX8_count 162 = .ok (.iload_n 3, 1) := by decide +kernel
theorem dX8_count_163 : decode cX8_count 163 = .ok (.iadd, 1) := by decide +kernel
theorem dX8_count_164 : decode cX8_count 164 = .ok (.iaload, 1) := by decide +kernel
theorem dX8_count_165 : decode cX8_count 165 = .ok (.ifCond .ge 7, 3) := by decide +kernel
theorem dX8_count_168 : decode cX8_count 168 = .ok (.iconst 0, 1) := by decide +kernel
theorem dX8_count_169 : decode cX8_count 169 = .ok (.goto 4, 3) := by decide +kernel
theorem dX8_count_172 : decode cX8_count 172 = .ok (.iconst 1, 1) := by decide +kernel
theorem dX8_count_173 : decode cX8_count 173 = .ok (.iadd, 1) := by decide +kernel
theorem dX8_count_174 : decode cX8_count 174 = .ok (.istore_n 2, 1) := by decide +kernel
theorem dX8_count_175 : decode cX8_count 175 = .ok (.iinc 3 1, 3) := by decide +kernel
theorem dX8_count_178 : decode cX8_count 178 = .ok (.goto (-29), 3) := by decide +kernel
theorem dX8_count_181 : decode cX8_count 181 = .ok (.iload_n 2, 1) := by decide +kernel
theorem dX8_count_182 : decode cX8_count 182 = .ok (.ireturn, 1) := by decide +kernel
theorem dX8_count_183 : decode cX8_count 183 = .ok (.aload_n 0, 1) := by decide +kernel
theorem dX8_count_184 : decode cX8_count 184 = .ok (.ldc 73, 2) := by decide +kernel
theorem dX8_count_186 : decode cX8_count 186 = .ok (.invokevirtual 90, 3) := by decide +kernel
theorem dX8_count_189 : decode cX8_count 189 = .ok (.ireturn, 1) := by decide +kernel
set_option maxRecDepth 20000 in
theorem ggX8_status_X8_within : GoodIn wsX8_status wsX8_within := goodIn_r _ [6] (by decide +kernel) (by decide +kernel)
set_option maxRecDepth 20000 in
theorem gX8_status_X8_within : GoodIn wsX8_status (va_wsS RX8 78 yX8_within wsX8_within) := goodIn_app (goodIn_of _ (by decide +kernel)) ggX8_status_X8_within
set_option maxRecDepth 20000 in
theorem ggX8_status_X8_finding : GoodIn wsX8_status wsX8_finding := goodIn_r _ [10, 1, 2, 11, 12, 13, 14, 15, 16, 17, 18, 19, 20, 21, 22, 23, 24, 25, 26, 27, 28, 29, 30, 31, 32, 33, 34, 35, 36, 37, 38, 39] (by decide +kernel) (by decide +kernel)
set_option maxRecDepth 20000 in
theorem gX8_status_X8_finding : GoodIn wsX8_status (wsV RX8 90 RX8 yX8_finding wsX8_finding) := goodIn_app (goodIn_of _ (by decide +kernel)) ggX8_status_X8_finding
theorem dX8_status_0 : decode cX8_status 0 = .ok (.iload_n 1, 1) := by decide +kernel
theorem dX8_status_1 : decode cX8_status 1 = .ok (.iconst (-1), 1) := by decide +kernel
theorem dX8_status_2 : decode cX8_status 2 = .ok (.bipush 6, 2) := by decide +kernel
theorem dX8_status_4 : decode cX8_status 4 = .ok (.invokestatic 78, 3) := by decide +kernel
theorem dX8_status_7 : decode cX8_status 7 = .ok (.ifCond .eq 14, 3) := by decide +kernel
theorem dX8_status_10 : decode cX8_status 10 = .ok (.aload_n 0, 1) := by decide +kernel
theorem dX8_status_11 : decode cX8_status 11 = .ok (.getfield 19, 3) := by decide +kernel
theorem dX8_status_14 : decode cX8_status 14 = .ok (.iload_n 1, 1) := by decide +kernel
theorem dX8_status_15 : decode cX8_status 15 = .ok (.iconst 1, 1) := by decide +kernel
theorem dX8_status_16 : decode cX8_status 16 = .ok (.iadd, 1) := by decide +kernel
theorem dX8_status_17 : decode cX8_status 17 = .ok (.iaload, 1) := by decide +kernel
theorem dX8_status_18 : decode cX8_status 18 = .ok (.goto 9, 3) := by decide +kernel
theorem dX8_status_21 : decode cX8_status 21 = .ok (.aload_n 0, 1) := by decide +kernel
theorem dX8_status_22 : decode cX8_status 22 = .ok (.ldc 73, 2) := by decide +kernel
theorem dX8_status_24 : decode cX8_status 24 = .ok (.invokevirtual 90, 3) := by decide +kernel
theorem dX8_status_27 : decode cX8_status 27 = .ok (.ireturn, 1) := by decide +kernel
theorem dJ6_bitCount_0f7a4_0 : decode cJ6_bitCount_0f7a4 0 = .ok (.iload_n 0, 1) := by decide +kernel
theorem dJ6_bitCount_0f7a4_1 : decode cJ6_bitCount_0f7a4 1 = .ok (.iload_n 0, 1) := by decide +kernel
theorem dJ6_bitCount_0f7a4_2 : decode cJ6_bitCount_0f7a4 2 = .ok (.iconst 1, 1) := by decide +kernel
theorem dJ6_bitCount_0f7a4_3 : decode cJ6_bitCount_0f7a4 3 = .ok (.iushr, 1) := by decide +kernel
theorem dJ6_bitCount_0f7a4_4 : decode cJ6_bitCount_0f7a4 4 = .ok (.ldc_w 265, 3) := by decide +kernel
theorem dJ6_bitCount_0f7a4_7 : decode cJ6_bitCount_0f7a4 7 = .ok (.iand, 1) := by decide +kernel
theorem dJ6_bitCount_0f7a4_8 : decode cJ6_bitCount_0f7a4 8 = .ok (.isub, 1) := by decide +kernel
theorem dJ6_bitCount_0f7a4_9 : decode cJ6_bitCount_0f7a4 9 = .ok (.istore_n 0, 1) := by decide +kernel
theorem dJ6_bitCount_0f7a4_10 : decode cJ6_bitCount_0f7a4 10 = .ok (.iload_n 0, 1) := by decide +kernel
theorem dJ6_bitCount_0f7a4_11 : decode cJ6_bitCount_0f7a4 11 = .ok (.ldc_w 266, 3) := by decide +kernel
theorem dJ6_bitCount_0f7a4_14 : decode cJ6_bitCount_0f7a4 14 = .ok (.iand, 1) := by decide +kernel
theorem dJ6_bitCount_0f7a4_15 : decode cJ6_bitCount_0f7a4 15 = .ok (.iload_n 0, 1) := by decide +kernel
theorem dJ6_bitCount_0f7a4_16 : decode cJ6_bitCount_0f7a4 16 = .ok (.iconst 2, 1) := by decide +kernel
theorem dJ6_bitCount_0f7a4_17 : decode cJ6_bitCount_0f7a4 17 = .ok (.iushr, 1) := by decide +kernel
theorem dJ6_bitCount_0f7a4_18 : decode cJ6_bitCount_0f7a4 18 = .ok (.ldc_w 266, 3) := by decide +kernel
theorem dJ6_bitCount_0f7a4_21 : decode cJ6_bitCount_0f7a4 21 = .ok (.iand, 1) := by decide +kernel
theorem dJ6_bitCount_0f7a4_22 : decode cJ6_bitCount_0f7a4 22 = .ok (.iadd, 1) := by decide +kernel
theorem dJ6_bitCount_0f7a4_23 : decode cJ6_bitCount_0f7a4 23 = .ok (.istore_n 0, 1) := by decide +kernel
theorem dJ6_bitCount_0f7a4_24 : decode cJ6_bitCount_0f7a4 24 = .ok (.iload_n 0, 1) := by decide +kernel
theorem dJ6_bitCount_0f7a4_25 : decode cJ6_bitCount_0f7a4 25 = .ok (.iload_n 0, 1) := by decide +kernel
theorem dJ6_bitCount_0f7a4_26 : decode cJ6_bitCount_0f7a4 26 = .ok (.iconst 4, 1) := by decide +kernel
theorem dJ6_bitCount_0f7a4_27 : decode cJ6_bitCount_0f7a4 27 = .ok (.iushr, 1) := by decide +kernel
theorem dJ6_bitCount_0f7a4_28 : decode cJ6_bitCount_0f7a4 28 = .ok (.iadd, 1) := by decide +kernel
theorem dJ6_bitCount_0f7a4_29 : decode cJ6_bitCount_0f7a4 29 = .ok (.ldc_w 267, 3) := by decide +kernel
theorem dJ6_bitCount_0f7a4_32 : decode cJ6_bitCount_0f7a4 32 = .ok (.iand, 1) := by decide +kernel
theorem dJ6_bitCount_0f7a4_33 : decode cJ6_bitCount_0f7a4 33 = .ok (.istore_n 0, 1) := by decide +kernel
theorem dJ6_bitCount_0f7a4_34 : decode cJ6_bitCount_0f7a4 34 = .ok (.iload_n 0, 1) := by decide +kernel
theorem dJ6_bitCount_0f7a4_35 : decode cJ6_bitCount_0f7a4 35 = .ok (.iload_n 0, 1) := by decide +kernel
theorem dJ6_bitCount_0f7a4_36 : decode cJ6_bitCount_0f7a4 36 = .ok (.bipush 8, 2) := by decide +kernel
theorem dJ6_bitCount_0f7a4_38 : decode cJ6_bitCount_0f7a4 38 = .ok (.iushr, 1) := by decide +kernel
theorem dJ6_bitCount_0f7a4_39 : decode cJ6_bitCount_0f7a4 39 = .ok (.iadd, 1) := by decide +kernel
theorem dJ6_bitCount_0f7a4_40 : decode cJ6_bitCount_0f7a4 40 = .ok (.istore_n 0, 1) := by decide +kernel
theorem dJ6_bitCount_0f7a4_41 : decode cJ6_bitCount_0f7a4 41 = .ok (.iload_n 0, 1) := by decide +kernel
theorem dJ6_bitCount_0f7a4_42 : decode cJ6_bitCount_0f7a4 42 = .ok (.iload_n 0, 1) := by decide +kernel
theorem dJ6_bitCount_0f7a4_43 : decode cJ6_bitCount_0f7a4 43 = .ok (.bipush 16, 2) := by decide +kernel
theorem dJ6_bitCount_0f7a4_45 : decode cJ6_bitCount_0f7a4 45 = .ok (.iushr, 1) := by decide +kernel
theorem dJ6_bitCount_0f7a4_46 : decode cJ6_bitCount_0f7a4 46 = .ok (.iadd, 1) := by decide +kernel
theorem dJ6_bitCount_0f7a4_47 : decode cJ6_bitCount_0f7a4 47 = .ok (.istore_n 0, 1) := by decide +kernel
theorem dJ6_bitCount_0f7a4_48 : decode cJ6_bitCount_0f7a4 48 = .ok (.iload_n 0, 1) := by decide +kernel
theorem dJ6_bitCount_0f7a4_49 : decode cJ6_bitCount_0f7a4 49 = .ok (.bipush 63, 2) := by decide +kernel
theorem dJ6_bitCount_0f7a4_51 : decode cJ6_bitCount_0f7a4 51 = .ok (.iand, 1) := by decide +kernel
theorem dJ6_bitCount_0f7a4_52 : decode cJ6_bitCount_0f7a4 52 = .ok (.ireturn, 1) := by decide +kernel
theorem dJ9_max_7cf53_0 : decode cJ9_max_7cf53 0 = .ok (.iload_n 0, 1) := by decide +kernel
theorem dJ9_max_7cf53_1 : decode cJ9_max_7cf53 1 = .ok (.iload_n 1, 1) := by decide +kernel
theorem dJ9_max_7cf53_2 : decode cJ9_max_7cf53 2 = .ok (.if_icmp .lt 7, 3) := by decide +kernel
theorem dJ9_max_7cf53_5 : decode cJ9_max_7cf53 5 = .ok (.iload_n 0, 1) := by decide +kernel
theorem dJ9_max_7cf53_6 : decode cJ9_max_7cf53 6 = .ok (.goto 4, 3) := by decide +kernel
theorem dJ9_max_7cf53_9 : decode cJ9_max_7cf53 9 = .ok (.iload_n 1, 1) := by decide +kernel
theorem dJ9_max_7cf53_10 : decode cJ9_max_7cf53 10 = .ok (.ireturn, 1) := by decide +kernel
theorem dJ9_min_7cf53_0 : decode cJ9_min_7cf53 0 = .ok (.iload_n 0, 1) := by decide +kernel
theorem dJ9_min_7cf53_1 : decode cJ9_min_7cf53 1 = .ok (.iload_n 1, 1) := by decide +kernel
theorem dJ9_min_7cf53_2 : decode cJ9_min_7cf53 2 = .ok (.if_icmp .gt 7, 3) := by decide +kernel
theorem dJ9_min_7cf53_5 : decode cJ9_min_7cf53 5 = .ok (.iload_n 0, 1) := by decide +kernel
theorem dJ9_min_7cf53_6 : decode cJ9_min_7cf53 6 = .ok (.goto 4, 3) := by decide +kernel
theorem dJ9_min_7cf53_9 : decode cJ9_min_7cf53 9 = .ok (.iload_n 1, 1) := by decide +kernel
theorem dJ9_min_7cf53_10 : decode cJ9_min_7cf53 10 = .ok (.ireturn, 1) := by decide +kernel
set_option maxRecDepth 20000 in
theorem ggJ0_length_8abf5_J0_coder_7d493 : GoodIn wsJ0_length_8abf5 wsJ0_coder_7d493 := goodIn_r _ [6, 7, 8] (by decide +kernel) (by decide +kernel)
set_option maxRecDepth 20000 in
theorem gJ0_length_8abf5_J0_coder_7d493 : GoodIn wsJ0_length_8abf5 (wsV RJ0 335 RJ0 yJ0_coder_7d493 wsJ0_coder_7d493) := goodIn_app (goodIn_of _ (by decide +kernel)) ggJ0_length_8abf5_J0_coder_7d493
theorem dJ0_length_8abf5_0 : decode cJ0_length_8abf5 0 = .ok (.aload_n 0, 1) := by decide +kernel
theorem dJ0_length_8abf5_1 : decode cJ0_length_8abf5 1 = .ok (.getfield 9, 3) := by decide +kernel
theorem dJ0_length_8abf5_4 : decode cJ0_length_8abf5 4 = .ok (.arraylength, 1) := by decide +kernel
theorem dJ0_length_8abf5_5 : decode cJ0_length_8abf5 5 = .ok (.aload_n 0, 1) := by decide +kernel
theorem dJ0_length_8abf5_6 : decode cJ0_length_8abf5 6 = .ok (.invokevirtual 335, 3) := by decide +kernel
theorem dJ0_length_8abf5_9 : decode cJ0_length_8abf5 9 = .ok (.ishr, 1) := by decide +kernel
theorem dJ0_length_8abf5_10 : decode cJ0_length_8abf5 10 = .ok (.ireturn, 1) := by decide +kernel
set_option maxRecDepth 20000 in
theorem ggJ0_charAt_5068e_J0_isLatin1_aae02 : GoodIn wsJ0_charAt_5068e wsJ0_isLatin1_aae02 := goodIn_r _ [6, 7, 8] (by decide +kernel) (by decide +kernel)
set_option maxRecDepth 20000 in
theorem gJ0_charAt_5068e_J0_isLatin1_aae02 : GoodIn wsJ0_charAt_5068e (wsV RJ0 492 RJ0 yJ0_isLatin1_aae02 wsJ0_isLatin1_aae02) := goodIn_app (goodIn_of _ (by decide +kernel)) ggJ0_charAt_5068e_J0_isLatin1_aae02
set_option maxRecDepth 20000 in
theorem ggJ0_charAt_5068e_J1_charAt_3b067 : GoodIn wsJ0_charAt_5068e wsJ1_charAt_3b067 := goodIn_r _ [12, 13, 14, 5, 15, 16, 17, 18, 19, 20] (by decide +kernel) (by decide +kernel)
set_option maxRecDepth 20000 in
theorem gJ0_charAt_5068e_J1_charAt_3b067 : GoodIn wsJ0_charAt_5068e (va_wsS RJ0 495 yJ1_charAt_3b067 wsJ1_charAt_3b067) := goodIn_app (goodIn_of _ (by decide +kernel)) ggJ0_charAt_5068e_J1_charAt_3b067
set_option maxRecDepth 20000 in
theorem ggJ0_charAt_5068e_J2_charAt_3b067 : GoodIn wsJ0_charAt_5068e wsJ2_charAt_3b067 := goodIn_r _ [24, 25, 26, 23, 27, 28, 29, 30, 31, 14, 5, 15, 16, 17, 18, 19, 20, 32, 33, 34, 35, 36, 37] (by decide +kernel) (by decide +kernel)
set_option maxRecDepth 20000 in
theorem gJ0_charAt_5068e_J2_charAt_3b067 : GoodIn wsJ0_charAt_5068e (va_wsS RJ0 498 yJ2_charAt_3b067 wsJ2_charAt_3b067) := goodIn_app (goodIn_of _ (by decide +kernel)) ggJ0_charAt_5068e_J2_charAt_3b067
theorem dJ0_charAt_5068e_0 : decode cJ0_charAt_5068e 0 = .ok (.aload_n 0, 1) := by decide +kernel
theorem dJ0_charAt_5068e_1 : decode cJ0_charAt_5068e 1 = .ok (.invokevirtual 492, 3) := by decide +kernel
theorem dJ0_charAt_5068e_4 : decode cJ0_charAt_5068e 4 = .ok (.ifCond .eq 12, 3) := by decide +kernel
theorem dJ0_charAt_5068e_7 : decode cJ0_charAt_5068e 7 = .ok (.aload_n 0, 1) := by decide +kernel
theorem dJ0_charAt_5068e_8 : decode cJ0_charAt_5068e 8 = .ok (.getfield 9, 3) := by decide +kernel
theorem dJ0_charAt_5068e_11 : decode cJ0_charAt_5068e 11 = .ok (.iload_n 1, 1) := by decide +kernel
theorem dJ0_charAt_5068e_12 : decode cJ0_charAt_5068e 12 = .ok (.invokestatic 495, 3) := by decide +kernel
theorem dJ0_charAt_5068e_15 : decode cJ0_charAt_5068e 15 = .ok (.ireturn, 1) := by decide +kernel
theorem dJ0_charAt_5068e_16 : decode cJ0_charAt_5068e 16 = .ok (.aload_n 0, 1) := by decide +kernel
theorem dJ0_charAt_5068e_17 : decode cJ0_charAt_5068e 17 = .ok (.getfield 9, 3) := by decide +kernel
theorem dJ0_charAt_5068e_20 : decode cJ0_charAt_5068e 20 = .ok (.iload_n 1, 1) := by decide +kernel
theorem dJ0_charAt_5068e_21 : decode cJ0_charAt_5068e 21 = .ok (.invokestatic 498, 3) := by decide +kernel
theorem dJ0_charAt_5068e_24 : decode cJ0_charAt_5068e 24 = .ok (.ireturn, 1) := by decide +kernel
theorem dJ0_coder_7d493_0 : decode cJ0_coder_7d493 0 = .ok (.getstatic 38, 3) := by decide +kernel
theorem dJ0_coder_7d493_3 : decode cJ0_coder_7d493 3 = .ok (.ifCond .eq 10, 3) := by decide +kernel
theorem dJ0_coder_7d493_6 : decode cJ0_coder_7d493 6 = .ok (.aload_n 0, 1) := by decide +kernel
theorem dJ0_coder_7d493_7 : decode cJ0_coder_7d493 7 = .ok (.getfield 15, 3) := by decide +kernel
theorem dJ0_coder_7d493_10 : decode cJ0_coder_7d493 10 = .ok (.goto 4, 3) := by decide +kernel
theorem dJ0_coder_7d493_13 : decode cJ0_coder_7d493 13 = .ok (.iconst 1, 1) := by decide +kernel
theorem dJ0_coder_7d493_14 : decode cJ0_coder_7d493 14 = .ok (.ireturn, 1) := by decide +kernel
theorem dJ0_isLatin1_aae02_0 : decode cJ0_isLatin1_aae02 0 = .ok (.getstatic 38, 3) := by decide +kernel
theorem dJ0_isLatin1_aae02_3 : decode cJ0_isLatin1_aae02 3 = .ok (.ifCond .eq 14, 3) := by decide +kernel
theorem dJ0_isLatin1_aae02_6 : decode cJ0_isLatin1_aae02 6 = .ok (.aload_n 0, 1) := by decide +kernel
theorem dJ0_isLatin1_aae02_7 : decode cJ0_isLatin1_aae02 7 = .ok (.getfield 15, 3) := by decide +kernel
theorem dJ0_isLatin1_aae02_10 : decode cJ0_isLatin1_aae02 10 = .ok (.ifCond .ne 7, 3) := by decide +kernel
theorem dJ0_isLatin1_aae02_13 : decode cJ0_isLatin1_aae02 13 = .ok (.iconst 1, 1) := by decide +kernel
theorem dJ0_isLatin1_aae02_14 : decode cJ0_isLatin1_aae02 14 = .ok (.goto 4, 3) := by decide +kernel
theorem dJ0_isLatin1_aae02_17 : decode cJ0_isLatin1_aae02 17 = .ok (.iconst 0, 1) := by decide +kernel
theorem dJ0_isLatin1_aae02_18 : decode cJ0_isLatin1_aae02 18 = .ok (.ireturn, 1) := by decide +kernel
set_option maxRecDepth 20000 in
theorem ggJ0_checkIndex_df160_J3_checkIndex_8e157 : GoodIn wsJ0_checkIndex_df160 wsJ3_checkIndex_8e157 := goodIn_r _ [5] (by decide +kernel) (by decide +kernel)
set_option maxRecDepth 20000 in
theorem gJ0_checkIndex_df160_J3_checkIndex_8e157 : GoodIn wsJ0_checkIndex_df160 (va_wsS RJ0 1059 yJ3_checkIndex_8e157 wsJ3_checkIndex_8e157) := goodIn_app (goodIn_of _ (by decide +kernel)) ggJ0_checkIndex_df160_J3_checkIndex_8e157
theorem dJ0_checkIndex_df160_0 : decode cJ0_checkIndex_df160 0 = .ok (.iload_n 0, 1) := by decide +kernel
theorem dJ0_checkIndex_df160_1 : decode cJ0_checkIndex_df160 1 = .ok (.iload_n 1, 1) := by decide +kernel
theorem dJ0_checkIndex_df160_2 : decode cJ0_checkIndex_df160 2 = .ok (.getstatic 1053, 3) := by decide +kernel
theorem dJ0_checkIndex_df160_5 : decode cJ0_checkIndex_df160 5 = .ok (.invokestatic 1059, 3) := by decide +kernel
theorem dJ0_checkIndex_df160_8 : decode cJ0_checkIndex_df160 8 = .ok (.pop, 1) := by decide +kernel
theorem dJ0_checkIndex_df160_9 : decode cJ0_checkIndex_df160 9 = .ok (.return_, 1) := by decide +kernel
set_option maxRecDepth 20000 in
theorem ggJ1_charAt_3b067_J0_checkIndex_df160 : GoodIn wsJ1_charAt_3b067 wsJ0_checkIndex_df160 := goodIn_r _ [4, 5, 6, 7, 8, 9] (by decide +kernel) (by decide +kernel)
set_option maxRecDepth 20000 in
theorem gJ1_charAt_3b067_J0_checkIndex_df160 : GoodIn wsJ1_charAt_3b067 (va_wsS RJ1 9 yJ0_checkIndex_df160 wsJ0_checkIndex_df160) := goodIn_app (goodIn_of _ (by decide +kernel)) ggJ1_charAt_3b067_J0_checkIndex_df160
theorem dJ1_charAt_3b067_0 : decode cJ1_charAt_3b067 0 = .ok (.iload_n 1, 1) := by decide +kernel
theorem dJ1_charAt_3b067_1 : decode cJ1_charAt_3b067 1 = .ok (.aload_n 0, 1) := by decide +kernel
theorem dJ1_charAt_3b067_2 : decode cJ1_charAt_3b067 2 = .ok (.arraylength, 1) := by decide +kernel
theorem dJ1_charAt_3b067_3 : decode cJ1_charAt_3b067 3 = .ok (.invokestatic 9, 3) := by decide +kernel
theorem dJ1_charAt_3b067_6 : decode cJ1_charAt_3b067 6 = .ok (.aload_n 0, 1) := by decide +kernel
theorem dJ1_charAt_3b067_7 : decode cJ1_charAt_3b067 7 = .ok (.iload_n 1, 1) := by decide +kernel
theorem dJ1_charAt_3b067_8 : decode cJ1_charAt_3b067 8 = .ok (.baload, 1) := by decide +kernel
theorem dJ1_charAt_3b067_9 : decode cJ1_charAt_3b067 9 = .ok (.sipush 255, 3) := by decide +kernel
theorem dJ1_charAt_3b067_12 : decode cJ1_charAt_3b067 12 = .ok (.iand, 1) := by decide +kernel
theorem dJ1_charAt_3b067_13 : decode cJ1_charAt_3b067 13 = .ok (.i2c, 1) := by decide +kernel
theorem dJ1_charAt_3b067_14 : decode cJ1_charAt_3b067 14 = .ok (.ireturn, 1) := by decide +kernel
set_option maxRecDepth 20000 in
theorem ggJ2_getChar_3b067_J2_length_9d52b : GoodIn wsJ2_getChar_3b067 wsJ2_length_9d52b := goodIn_r _ [7] (by decide +kernel) (by decide +kernel)
set_option maxRecDepth 20000 in
theorem gJ2_getChar_3b067_J2_length_9d52b : GoodIn wsJ2_getChar_3b067 (va_wsS RJ2 48 yJ2_length_9d52b wsJ2_length_9d52b) := goodIn_app (goodIn_of _ (by decide +kernel)) ggJ2_getChar_3b067_J2_length_9d52b
theorem dJ2_getChar_3b067_0 : decode cJ2_getChar_3b067 0 = .ok (.getstatic 44, 3) := by decide +kernel
theorem dJ2_getChar_3b067_3 : decode cJ2_getChar_3b067 3 = .ok (.ifCond .ne 25, 3) := by decide +kernel
theorem dJ2_getChar_3b067_6 : decode cJ2_getChar_3b067 6 = .ok (.iload_n 1, 1) := by decide +kernel
theorem dJ2_getChar_3b067_7 : decode cJ2_getChar_3b067 7 = .ok (.ifCond .lt 11, 3) := by decide +kernel
theorem dJ2_getChar_3b067_10 : decode cJ2_getChar_3b067 10 = .ok (.iload_n 1, 1) := by decide +kernel
theorem dJ2_getChar_3b067_11 : decode cJ2_getChar_3b067 11 = .ok (.aload_n 0, 1) := by decide +kernel
theorem dJ2_getChar_3b067_12 : decode cJ2_getChar_3b067 12 = .ok (.invokestatic 48, 3) := by decide +kernel
theorem dJ2_getChar_3b067_15 : decode cJ2_getChar_3b067 15 = .ok (.if_icmp .lt 13, 3) := by decide +kernel
theorem dJ2_getChar_3b067_18 : decode cJ2_getChar_3b067 18 = .ok (.new 52, 3) := by decide +kernel
theorem dJ2_getChar_3b067_21 : decode cJ2_getChar_3b067 21 = .ok (.dup, 1) := by decide +kernel
theorem dJ2_getChar_3b067_22 : decode cJ2_getChar_3b067 22 = .ok (.ldc 54, 2) := by decide +kernel
theorem dJ2_getChar_3b067_24 : decode cJ2_getChar_3b067 24 = .ok (.invokespecial 56, 3) := by decide +kernel
theorem dJ2_getChar_3b067_27 : decode cJ2_getChar_3b067 27 = .ok (.athrow, 1) := by decide +kernel
theorem dJ2_getChar_3b067_28 : decode cJ2_getChar_3b067 28 = .ok (.iload_n 1, 1) := by decide +kernel
theorem dJ2_getChar_3b067_29 : decode cJ2_getChar_3b067 29 = .ok (.iconst 1, 1) := by decide +kernel
theorem dJ2_getChar_3b067_30 : decode cJ2_getChar_3b067 30 = .ok (.ishl, 1) := by decide +kernel
theorem dJ2_getChar_3b067_31 : decode cJ2_getChar_3b067 31 = .ok (.istore_n 1, 1) := by decide +kernel
theorem dJ2_getChar_3b067_32 : decode cJ2_getChar_3b067 32 = .ok (.aload_n 0, 1) := by decide +kernel
theorem dJ2_getChar_3b067_33 : decode cJ2_getChar_3b067 33 = .ok (.iload_n 1, 1) := by decide +kernel
theorem dJ2_getChar_3b067_34 : decode cJ2_getChar_3b067 34 = .ok (.iinc 1 1, 3) := by decide +kernel
theorem dJ2_getChar_3b067_37 : decode cJ2_getChar_3b067 37 = .ok (.baload, 1) := by decide +kernel
theorem dJ2_getChar_3b067_38 : decode cJ2_getChar_3b067 38 = .ok (.sipush 255, 3) := by decide +kernel
theorem dJ2_getChar_3b067_41 : decode cJ2_getChar_3b067 41 = .ok (.iand, 1) := by decide +kernel
theorem dJ2_getChar_3b067_42 : decode cJ2_getChar_3b067 42 = .ok (.getstatic 59, 3) := by decide +kernel
theorem dJ2_getChar_3b067_45 : decode cJ2_getChar_3b067 45 = .ok (.ishl, 1) := by decide +kernel
theorem dJ2_getChar_3b067_46 : decode cJ2_getChar_3b067 46 = .ok (.aload_n 0, 1) := by decide +kernel
theorem dJ2_getChar_3b067_47 : decode cJ2_getChar_3b067 47 = .ok (.iload_n 1, 1) := by decide +kernel
theorem dJ2_getChar_3b067_48 : decode cJ2_getChar_3b067 48 = .ok (.baload, 1) := by decide +kernel
theorem dJ2_getChar_3b067_49 : decode cJ2_getChar_3b067 49 = .ok (.sipush 255, 3) := by decide +kernel
theorem dJ2_getChar_3b067_52 : decode cJ2_getChar_3b067 52 = .ok (.iand, 1) := by decide +kernel
theorem dJ2_getChar_3b067_53 : decode cJ2_getChar_3b067 53 = .ok (.getstatic 63, 3) := by decide +kernel
theorem dJ2_getChar_3b067_56 : decode cJ2_getChar_3b067 56 = .ok (.ishl, 1) := by decide +kernel
theorem dJ2_getChar_3b067_57 : decode cJ2_getChar_3b067 57 = .ok (.ior, 1) := by decide +kernel
theorem dJ2_getChar_3b067_58 : decode cJ2_getChar_3b067 58 = .ok (.i2c, 1) := by decide +kernel
theorem dJ2_getChar_3b067_59 : decode cJ2_getChar_3b067 59 = .ok (.ireturn, 1) := by decide +kernel
theorem dJ2_length_9d52b_0 : decode cJ2_length_9d52b 0 = .ok (.aload_n 0, 1) := by decide +kernel
theorem dJ2_length_9d52b_1 : decode cJ2_length_9d52b 1 = .ok (.arraylength, 1) := by decide +kernel
theorem dJ2_length_9d52b_2 : decode cJ2_length_9d52b 2 = .ok (.iconst 1, 1) := by decide +kernel
theorem dJ2_length_9d52b_3 : decode cJ2_length_9d52b 3 = .ok (.ishr, 1) := by decide +kernel
theorem dJ2_length_9d52b_4 : decode cJ2_length_9d52b 4 = .ok (.ireturn, 1) := by decide +kernel
set_option maxRecDepth 20000 in
theorem ggJ2_charAt_3b067_J2_checkIndex_2214a : GoodIn wsJ2_charAt_3b067 wsJ2_checkIndex_2214a := goodIn_r _ [4, 5, 6, 3, 7, 8, 9, 10, 11, 12, 13, 14, 15, 16] (by decide +kernel) (by decide +kernel)
set_option maxRecDepth 20000 in
theorem gJ2_charAt_3b067_J2_checkIndex_2214a : GoodIn wsJ2_charAt_3b067 (va_wsS RJ2 67 yJ2_checkIndex_2214a wsJ2_checkIndex_2214a) := goodIn_app (goodIn_of _ (by decide +kernel)) ggJ2_charAt_3b067_J2_checkIndex_2214a
set_option maxRecDepth 20000 in
theorem ggJ2_charAt_3b067_J2_getChar_3b067 : GoodIn wsJ2_charAt_3b067 wsJ2_getChar_3b067 := goodIn_r _ [19, 20, 21, 22, 5, 6, 3, 7] (by decide +kernel) (by decide +kernel)
set_option maxRecDepth 20000 in
theorem gJ2_charAt_3b067_J2_getChar_3b067 : GoodIn wsJ2_charAt_3b067 (va_wsS RJ2 71 yJ2_getChar_3b067 wsJ2_getChar_3b067) := goodIn_app (goodIn_of _ (by decide +kernel)) ggJ2_charAt_3b067_J2_getChar_3b067
theorem dJ2_charAt_3b067_0 : decode cJ2_charAt_3b067 0 = .ok (.iload_n 1, 1) := by decide +kernel
theorem dJ2_charAt_3b067_1 : decode cJ2_charAt_3b067 1 = .ok (.aload_n 0, 1) := by decide +kernel
theorem dJ2_charAt_3b067_2 : decode cJ2_charAt_3b067 2 = .ok (.invokestatic 67, 3) := by decide +kernel
theorem dJ2_charAt_3b067_5 : decode cJ2_charAt_3b067 5 = .ok (.aload_n 0, 1) := by decide +kernel
theorem dJ2_charAt_3b067_6 : decode cJ2_charAt_3b067 6 = .ok (.iload_n 1, 1) := by decide +kernel
theorem dJ2_charAt_3b067_7 : decode cJ2_charAt_3b067 7 = .ok (.invokestatic 71, 3) := by decide +kernel
theorem dJ2_charAt_3b067_10 : decode cJ2_charAt_3b067 10 = .ok (.ireturn, 1) := by decide +kernel
set_option maxRecDepth 20000 in
theorem ggJ2_checkIndex_2214a_J2_length_9d52b : GoodIn wsJ2_checkIndex_2214a wsJ2_length_9d52b := goodIn_r _ [4] (by decide +kernel) (by decide +kernel)
set_option maxRecDepth 20000 in
theorem gJ2_checkIndex_2214a_J2_length_9d52b : GoodIn wsJ2_checkIndex_2214a (va_wsS RJ2 48 yJ2_length_9d52b wsJ2_length_9d52b) := goodIn_app (goodIn_of _ (by decide +kernel)) ggJ2_checkIndex_2214a_J2_length_9d52b
set_option maxRecDepth 20000 in
theorem ggJ2_checkIndex_2214a_J0_checkIndex_df160 : GoodIn wsJ2_checkIndex_2214a wsJ0_checkIndex_df160 := goodIn_r _ [8, 9, 10, 11, 12, 13] (by decide +kernel) (by decide +kernel)
set_option maxRecDepth 20000 in
theorem gJ2_checkIndex_2214a_J0_checkIndex_df160 : GoodIn wsJ2_checkIndex_2214a (va_wsS RJ2 414 yJ0_checkIndex_df160 wsJ0_checkIndex_df160) := goodIn_app (goodIn_of _ (by decide +kernel)) ggJ2_checkIndex_2214a_J0_checkIndex_df160
theorem dJ2_checkIndex_2214a_0 : decode cJ2_checkIndex_2214a 0 = .ok (.iload_n 0, 1) := by decide +kernel
theorem dJ2_checkIndex_2214a_1 : decode cJ2_checkIndex_2214a 1 = .ok (.aload_n 1, 1) := by decide +kernel
theorem dJ2_checkIndex_2214a_2 : decode cJ2_checkIndex_2214a 2 = .ok (.invokestatic 48, 3) := by decide +kernel
theorem dJ2_checkIndex_2214a_5 : decode cJ2_checkIndex_2214a 5 = .ok (.invokestatic 414, 3) := by decide +kernel
theorem dJ2_checkIndex_2214a_8 : decode cJ2_checkIndex_2214a 8 = .ok (.return_, 1) := by decide +kernel
theorem dJ3_checkIndex_8e157_0 : decode cJ3_checkIndex_8e157 0 = .ok (.iload_n 0, 1) := by decide +kernel
theorem dJ3_checkIndex_8e157_1 : decode cJ3_checkIndex_8e157 1 = .ok (.ifCond .lt 8, 3) := by decide +kernel
theorem dJ3_checkIndex_8e157_4 : decode cJ3_checkIndex_8e157 4 = .ok (.iload_n 0, 1) := by decide +kernel
theorem dJ3_checkIndex_8e157_5 : decode cJ3_checkIndex_8e157 5 = .ok (.iload_n 1, 1) := by decide +kernel
theorem dJ3_checkIndex_8e157_6 : decode cJ3_checkIndex_8e157 6 = .ok (.if_icmp .lt 10, 3) := by decide +kernel
theorem dJ3_checkIndex_8e157_9 : decode cJ3_checkIndex_8e157 9 = .ok (.aload_n 2, 1) := by decide +kernel
theorem dJ3_checkIndex_8e157_10 : decode cJ3_checkIndex_8e157 10 = .ok (.iload_n 0, 1) := by decide +kernel
theorem dJ3_checkIndex_8e157_11 : decode cJ3_checkIndex_8e157 11 = .ok (.iload_n 1, 1) := by decide +kernel
theorem dJ3_checkIndex_8e157_12 : decode cJ3_checkIndex_8e157 12 = .ok (.invokestatic 95, 3) := by decide +kernel
theorem dJ3_checkIndex_8e157_15 : decode cJ3_checkIndex_8e157 15 = .ok (.athrow, 1) := by decide +kernel
theorem dJ3_checkIndex_8e157_16 : decode cJ3_checkIndex_8e157 16 = .ok (.iload_n 0, 1) := by decide +kernel
theorem dJ3_checkIndex_8e157_17 : decode cJ3_checkIndex_8e157 17 = .ok (.ireturn, 1) := by decide +kernel
abbrev vwCl : List vw_C := [(RX0, TX0, 6), (RX1, TX1, 12), (RX2, TX2, 3), (RX3, TX3, 8), (RX4, TX4, 4), (RX5, TX5, 3), (RX6, TX6, 2), (RX7, TX7, 10), (RX8, TX8, 29)]
