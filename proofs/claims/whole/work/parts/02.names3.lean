theorem dX8_bits_13 : decode cX8_bits 13 = .ok (.iconst 1, 1) := by decide +kernel
theorem dX8_bits_14 : decode cX8_bits 14 = .ok (.isub, 1) := by decide +kernel
theorem dX8_bits_15 : decode cX8_bits 15 = .ok (.iand, 1) := by decide +kernel
theorem dX8_bits_16 : decode cX8_bits 16 = .ok (.istore_n 2, 1) := by decide +kernel
theorem dX8_bits_17 : decode cX8_bits 17 = .ok (.goto (-13), 3) := by decide +kernel
theorem dX8_bits_20 : decode cX8_bits 20 = .ok (.iload_n 1, 1) := by decide +kernel
theorem dX8_bits_21 : decode cX8_bits 21 = .ok (.ireturn, 1) := by decide +kernel
set_option maxRecDepth 20000 in
theorem ggX8_isPerson_X8_within : GoodIn wsX8_isPerson wsX8_within := goodIn_r _ [5] (by decide +kernel) (by decide +kernel)
set_option maxRecDepth 20000 in
theorem gX8_isPerson_X8_within : GoodIn wsX8_isPerson (va_wsS RX8 78 yX8_within wsX8_within) := goodIn_app (goodIn_of _ (by decide +kernel)) ggX8_isPerson_X8_within
theorem dX8_isPerson_0 : decode cX8_isPerson 0 = .ok (.iload_n 1, 1) := by decide +kernel
theorem dX8_isPerson_1 : decode cX8_isPerson 1 = .ok (.iconst 0, 1) := by decide +kernel
theorem dX8_isPerson_2 : decode cX8_isPerson 2 = .ok (.aload_n 0, 1) := by decide +kernel
theorem dX8_isPerson_3 : decode cX8_isPerson 3 = .ok (.getfield 9, 3) := by decide +kernel
theorem dX8_isPerson_6 : decode cX8_isPerson 6 = .ok (.iconst 4, 1) := by decide +kernel
theorem dX8_isPerson_7 : decode cX8_isPerson 7 = .ok (.iaload, 1) := by decide +kernel
theorem dX8_isPerson_8 : decode cX8_isPerson 8 = .ok (.iconst 1, 1) := by decide +kernel
theorem dX8_isPerson_9 : decode cX8_isPerson 9 = .ok (.isub, 1) := by decide +kernel
theorem dX8_isPerson_10 : decode cX8_isPerson 10 = .ok (.invokestatic 78, 3) := by decide +kernel
theorem dX8_isPerson_13 : decode cX8_isPerson 13 = .ok (.ireturn, 1) := by decide +kernel
set_option maxRecDepth 20000 in
theorem ggX8_isKind_X8_within : GoodIn wsX8_isKind wsX8_within := goodIn_r _ [4] (by decide +kernel) (by decide +kernel)
set_option maxRecDepth 20000 in
theorem gX8_isKind_X8_within : GoodIn wsX8_isKind (va_wsS RX8 78 yX8_within wsX8_within) := goodIn_app (goodIn_of _ (by decide +kernel)) ggX8_isKind_X8_within
theorem dX8_isKind_0 : decode cX8_isKind 0 = .ok (.iload_n 0, 1) := by decide +kernel
theorem dX8_isKind_1 : decode cX8_isKind 1 = .ok (.iconst 0, 1) := by decide +kernel
theorem dX8_isKind_2 : decode cX8_isKind 2 = .ok (.bipush 6, 2) := by decide +kernel
theorem dX8_isKind_4 : decode cX8_isKind 4 = .ok (.invokestatic 78, 3) := by decide +kernel
theorem dX8_isKind_7 : decode cX8_isKind 7 = .ok (.ireturn, 1) := by decide +kernel
set_option maxRecDepth 20000 in
theorem ggX8_isHours_X8_within : GoodIn wsX8_isHours wsX8_within := goodIn_r _ [5] (by decide +kernel) (by decide +kernel)
set_option maxRecDepth 20000 in
theorem gX8_isHours_X8_within : GoodIn wsX8_isHours (va_wsS RX8 78 yX8_within wsX8_within) := goodIn_app (goodIn_of _ (by decide +kernel)) ggX8_isHours_X8_within
theorem dX8_isHours_0 : decode cX8_isHours 0 = .ok (.iload_n 0, 1) := by decide +kernel
theorem dX8_isHours_1 : decode cX8_isHours 1 = .ok (.iconst 0, 1) := by decide +kernel
theorem dX8_isHours_2 : decode cX8_isHours 2 = .ok (.ldc 72, 2) := by decide +kernel
theorem dX8_isHours_4 : decode cX8_isHours 4 = .ok (.invokestatic 78, 3) := by decide +kernel
theorem dX8_isHours_7 : decode cX8_isHours 7 = .ok (.ireturn, 1) := by decide +kernel
theorem dX8_at_0 : decode cX8_at 0 = .ok (.bipush 16, 2) := by decide +kernel
theorem dX8_at_2 : decode cX8_at 2 = .ok (.iconst 5, 1) := by decide +kernel
theorem dX8_at_3 : decode cX8_at 3 = .ok (.iload_n 0, 1) := by decide +kernel
theorem dX8_at_4 : decode cX8_at 4 = .ok (.imul, 1) := by decide +kernel
theorem dX8_at_5 : decode cX8_at 5 = .ok (.iadd, 1) := by decide +kernel
theorem dX8_at_6 : decode cX8_at 6 = .ok (.iload_n 1, 1) := by decide +kernel
theorem dX8_at_7 : decode cX8_at 7 = .ok (.iadd, 1) := by decide +kernel
theorem dX8_at_8 : decode cX8_at 8 = .ok (.ireturn, 1) := by decide +kernel
set_option maxRecDepth 20000 in
theorem ggX8_personIs_X8_at : GoodIn wsX8_personIs wsX8_at := goodIn_r _ [5] (by decide +kernel) (by decide +kernel)
set_option maxRecDepth 20000 in
theorem gX8_personIs_X8_at : GoodIn wsX8_personIs (va_wsS RX8 82 yX8_at wsX8_at) := goodIn_app (goodIn_of _ (by decide +kernel)) ggX8_personIs_X8_at
theorem dX8_personIs_0 : decode cX8_personIs 0 = .ok (.aload_n 0, 1) := by decide +kernel
theorem dX8_personIs_1 : decode cX8_personIs 1 = .ok (.getfield 9, 3) := by decide +kernel
theorem dX8_personIs_4 : decode cX8_personIs 4 = .ok (.iload_n 1, 1) := by decide +kernel
theorem dX8_personIs_5 : decode cX8_personIs 5 = .ok (.iload_n 2, 1) := by decide +kernel
theorem dX8_personIs_6 : decode cX8_personIs 6 = .ok (.invokestatic 82, 3) := by decide +kernel
theorem dX8_personIs_9 : decode cX8_personIs 9 = .ok (.iaload, 1) := by decide +kernel
theorem dX8_personIs_10 : decode cX8_personIs 10 = .ok (.ireturn, 1) := by decide +kernel
set_option maxRecDepth 20000 in
theorem ggX8_comes_X8_at : GoodIn wsX8_comes wsX8_at := goodIn_r _ [5] (by decide +kernel) (by decide +kernel)
set_option maxRecDepth 20000 in
theorem gX8_comes_X8_at : GoodIn wsX8_comes (va_wsS RX8 82 yX8_at wsX8_at) := goodIn_app (goodIn_of _ (by decide +kernel)) ggX8_comes_X8_at
theorem dX8_comes_0 : decode cX8_comes 0 = .ok (.aload_n 0, 1) := by decide +kernel
theorem dX8_comes_1 : decode cX8_comes 1 = .ok (.getfield 9, 3) := by decide +kernel
theorem dX8_comes_4 : decode cX8_comes 4 = .ok (.iconst 4, 1) := by decide +kernel
theorem dX8_comes_5 : decode cX8_comes 5 = .ok (.iaload, 1) := by decide +kernel
theorem dX8_comes_6 : decode cX8_comes 6 = .ok (.istore 5, 2) := by decide +kernel
theorem dX8_comes_8 : decode cX8_comes 8 = .ok (.aload_n 0, 1) := by decide +kernel
theorem dX8_comes_9 : decode cX8_comes 9 = .ok (.getfield 9, 3) := by decide +kernel
theorem dX8_comes_12 : decode cX8_comes 12 = .ok (.iload 5, 2) := by decide +kernel
theorem dX8_comes_14 : decode cX8_comes 14 = .ok (.iconst 0, 1) := by decide +kernel
theorem dX8_comes_15 : decode cX8_comes 15 = .ok (.invokestatic 82, 3) := by decide +kernel
theorem dX8_comes_18 : decode cX8_comes 18 = .ok (.iload_n 1, 1) := by decide +kernel
theorem dX8_comes_19 : decode cX8_comes 19 = .ok (.iastore, 1) := by decide +kernel
theorem dX8_comes_20 : decode cX8_comes 20 = .ok (.aload_n 0, 1) := by decide +kernel
theorem dX8_comes_21 : decode cX8_comes 21 = .ok (.getfield 9, 3) := by decide +kernel
theorem dX8_comes_24 : decode cX8_comes 24 = .ok (.iload 5, 2) := by decide +kernel
theorem dX8_comes_26 : decode cX8_comes 26 = .ok (.iconst 1, 1) := by decide +kernel
theorem dX8_comes_27 : decode cX8_comes 27 = .ok (.invokestatic 82, 3) := by decide +kernel
theorem dX8_comes_30 : decode cX8_comes 30 = .ok (.iload_n 2, 1) := by decide +kernel
theorem dX8_comes_31 : decode cX8_comes 31 = .ok (.iastore, 1) := by decide +kernel
theorem dX8_comes_32 : decode cX8_comes 32 = .ok (.aload_n 0, 1) := by decide +kernel
theorem dX8_comes_33 : decode cX8_comes 33 = .ok (.getfield 9, 3) := by decide +kernel
theorem dX8_comes_36 : decode cX8_comes 36 = .ok (.iload 5, 2) := by decide +kernel
theorem dX8_comes_38 : decode cX8_comes 38 = .ok (.iconst 2, 1) := by decide +kernel
theorem dX8_comes_39 : decode cX8_comes 39 = .ok (.invokestatic 82, 3) := by decide +kernel
theorem dX8_comes_42 : decode cX8_comes 42 = .ok (.iload_n 3, 1) := by decide +kernel
theorem dX8_comes_43 : decode cX8_comes 43 = .ok (.iastore, 1) := by decide +kernel
theorem dX8_comes_44 : decode cX8_comes 44 = .ok (.aload_n 0, 1) := by decide +kernel
theorem dX8_comes_45 : decode cX8_comes 45 = .ok (.getfield 9, 3) := by decide +kernel
theorem dX8_comes_48 : decode cX8_comes 48 = .ok (.iload 5, 2) := by decide +kernel
theorem dX8_comes_50 : decode cX8_comes 50 = .ok (.iconst 3, 1) := by decide +kernel
theorem dX8_comes_51 : decode cX8_comes 51 = .ok (.invokestatic 82, 3) := by decide +kernel
theorem dX8_comes_54 : decode cX8_comes 54 = .ok (.iload 4, 2) := by decide +kernel
theorem dX8_comes_56 : decode cX8_comes 56 = .ok (.iastore, 1) := by decide +kernel
theorem dX8_comes_57 : decode cX8_comes 57 = .ok (.aload_n 0, 1) := by decide +kernel
theorem dX8_comes_58 : decode cX8_comes 58 = .ok (.getfield 9, 3) := by decide +kernel
theorem dX8_comes_61 : decode cX8_comes 61 = .ok (.iload 5, 2) := by decide +kernel
theorem dX8_comes_63 : decode cX8_comes 63 = .ok (.iconst 4, 1) := by decide +kernel
theorem dX8_comes_64 : decode cX8_comes 64 = .ok (.invokestatic 82, 3) := by decide +kernel
theorem dX8_comes_67 : decode cX8_comes 67 = .ok (.iconst (-1), 1) := by decide +kernel
theorem dX8_comes_68 : decode cX8_comes 68 = .ok (.iastore, 1) := by decide +kernel
theorem dX8_comes_69 : decode cX8_comes 69 = .ok (.aload_n 0, 1) := by decide +kernel
theorem dX8_comes_70 : decode cX8_comes 70 = .ok (.getfield 9, 3) := by decide +kernel
theorem dX8_comes_73 : decode cX8_comes 73 = .ok (.iconst 4, 1) := by decide +kernel
theorem dX8_comes_74 : decode cX8_comes 74 = .ok (.dup2, 1) := by decide +kernel
theorem dX8_comes_75 : decode cX8_comes 75 = .ok (.iaload, 1) := by decide +kernel
theorem dX8_comes_76 : decode cX8_comes 76 = .ok (.iconst 1, 1) := by decide +kernel
theorem dX8_comes_77 : decode cX8_comes 77 = .ok (.iadd, 1) := by decide +kernel
theorem dX8_comes_78 : decode cX8_comes 78 = .ok (.iastore, 1) := by decide +kernel
theorem dX8_comes_79 : decode cX8_comes 79 = .ok (.iload 5, 2) := by decide +kernel
theorem dX8_comes_81 : decode cX8_comes 81 = .ok (.ireturn, 1) := by decide +kernel
set_option maxRecDepth 20000 in
theorem ggX8_person_X8_isKind : GoodIn wsX8_person wsX8_isKind := goodIn_r _ [7, 8, 9, 6, 10] (by decide +kernel) (by decide +kernel)
set_option maxRecDepth 20000 in
theorem gX8_person_X8_isKind : GoodIn wsX8_person (va_wsS RX8 86 yX8_isKind wsX8_isKind) := goodIn_app (goodIn_of _ (by decide +kernel)) ggX8_person_X8_isKind
set_option maxRecDepth 20000 in
theorem ggX8_person_X8_finding : GoodIn wsX8_person wsX8_finding := goodIn_r _ [14, 15, 1, 23, 24, 25, 26, 27, 28, 29, 30, 31, 32, 33, 34, 35, 36, 37, 38, 39, 40, 41, 42, 43, 44, 45, 46, 47, 48, 49, 50, 51] (by decide +kernel) (by decide +kernel)
set_option maxRecDepth 20000 in
theorem gX8_person_X8_finding : GoodIn wsX8_person (wsV RX8 90 RX8 yX8_finding wsX8_finding) := goodIn_app (goodIn_of _ (by decide +kernel)) ggX8_person_X8_finding
set_option maxRecDepth 20000 in
theorem ggX8_person_X8_comes : GoodIn wsX8_person wsX8_comes := goodIn_r _ [19, 2, 20, 21, 6, 22, 23, 24, 25, 26, 27, 28, 29, 30, 31, 32, 33, 34, 35, 36, 37, 38, 39, 40, 41, 42, 43, 44, 45, 46, 47, 48, 49, 50, 51] (by decide +kernel) (by decide +kernel)
set_option maxRecDepth 20000 in
theorem gX8_person_X8_comes : GoodIn wsX8_person (wsV RX8 95 RX8 yX8_comes wsX8_comes) := goodIn_app (goodIn_of _ (by decide +kernel)) ggX8_person_X8_comes
theorem dX8_person_0 : decode cX8_person 0 = .ok (.iload_n 1, 1) := by decide +kernel
theorem dX8_person_1 : decode cX8_person 1 = .ok (.invokestatic 86, 3) := by decide +kernel
theorem dX8_person_4 : decode cX8_person 4 = .ok (.ifCond .ne 10, 3) := by decide +kernel
theorem dX8_person_7 : decode cX8_person 7 = .ok (.aload_n 0, 1) := by decide +kernel
theorem dX8_person_8 : decode cX8_person 8 = .ok (.ldc 73, 2) := by decide +kernel
theorem dX8_person_10 : decode cX8_person 10 = .ok (.invokevirtual 90, 3) := by decide +kernel
theorem dX8_person_13 : decode cX8_person 13 = .ok (.ireturn, 1) := by decide +kernel
theorem dX8_person_14 : decode cX8_person 14 = .ok (.aload_n 0, 1) := by decide +kernel
theorem dX8_person_15 : decode cX8_person 15 = .ok (.getfield 9, 3) := by decide +kernel
theorem dX8_person_18 : decode cX8_person 18 = .ok (.iconst 4, 1) := by decide +kernel
theorem dX8_person_19 : decode cX8_person 19 = .ok (.iaload, 1) := by decide +kernel
theorem dX8_person_20 : decode cX8_person 20 = .ok (.bipush 8, 2) := by decide +kernel
theorem dX8_person_22 : decode cX8_person 22 = .ok (.if_icmp .ne 12, 3) := by decide +kernel
theorem dX8_person_25 : decode cX8_person 25 = .ok (.aload_n 0, 1) := by decide +kernel
theorem dX8_person_26 : decode cX8_person 26 = .ok (.ldc 94, 2) := by decide +kernel
theorem dX8_person_28 : decode cX8_person 28 = .ok (.invokevirtual 90, 3) := by decide +kernel
theorem dX8_person_31 : decode cX8_person 31 = .ok (.goto 11, 3) := by decide +kernel
theorem dX8_person_34 : decode cX8_person 34 = .ok (.aload_n 0, 1) := by decide +kernel
theorem dX8_person_35 : decode cX8_person 35 = .ok (.iload_n 1, 1) := by decide +kernel
theorem dX8_person_36 : decode cX8_person 36 = .ok (.iconst 0, 1) := by decide +kernel
theorem dX8_person_37 : decode cX8_person 37 = .ok (.iconst 3, 1) := by decide +kernel
theorem dX8_person_38 : decode cX8_person 38 = .ok (.iconst 0, 1) := by decide +kernel
theorem dX8_person_39 : decode cX8_person 39 = .ok (.invokevirtual 95, 3) := by decide +kernel
theorem dX8_person_42 : decode cX8_person 42 = .ok (.ireturn, 1) := by decide +kernel
theorem dX8_above_0 : decode cX8_above 0 = .ok (.iload_n 0, 1) := by decide +kernel
theorem dX8_above_1 : decode cX8_above 1 = .ok (.ifCond .ne 7, 3) := by decide +kernel
theorem dX8_above_4 : decode cX8_above 4 = .ok (.iconst (-1), 1) := by decide +kernel
theorem dX8_above_5 : decode cX8_above 5 = .ok (.goto 32, 3) := by decide +kernel
theorem dX8_above_8 : decode cX8_above 8 = .ok (.iload_n 0, 1) := by decide +kernel
theorem dX8_above_9 : decode cX8_above 9 = .ok (.iconst 3, 1) := by decide +kernel
theorem dX8_above_10 : decode cX8_above 10 = .ok (.if_icmp .ne 7, 3) := by decide +kernel
theorem dX8_above_13 : decode cX8_above 13 = .ok (.iconst 2, 1) := by decide +kernel
theorem dX8_above_14 : decode cX8_above 14 = .ok (.goto 23, 3) := by decide +kernel
theorem dX8_above_17 : decode cX8_above 17 = .ok (.iload_n 0, 1) := by decide +kernel
theorem dX8_above_18 : decode cX8_above 18 = .ok (.iconst 4, 1) := by decide +kernel
theorem dX8_above_19 : decode cX8_above 19 = .ok (.if_icmp .ne 7, 3) := by decide +kernel
theorem dX8_above_22 : decode cX8_above 22 = .ok (.iconst 3, 1) := by decide +kernel
theorem dX8_above_23 : decode cX8_above 23 = .ok (.goto 14, 3) := by decide +kernel
theorem dX8_above_26 : decode cX8_above 26 = .ok (.iload_n 0, 1) := by decide +kernel
theorem dX8_above_27 : decode cX8_above 27 = .ok (.bipush 6, 2) := by decide +kernel
theorem dX8_above_29 : decode cX8_above 29 = .ok (.if_icmp .ne 7, 3) := by decide +kernel
theorem dX8_above_32 : decode cX8_above 32 = .ok (.iconst 1, 1) := by decide +kernel
theorem dX8_above_33 : decode cX8_above 33 = .ok (.goto 4, 3) := by decide +kernel
theorem dX8_above_36 : decode cX8_above 36 = .ok (.iconst 0, 1) := by decide +kernel
theorem dX8_above_37 : decode cX8_above 37 = .ok (.ireturn, 1) := by decide +kernel
set_option maxRecDepth 20000 in
theorem ggX8_isUnder_X8_above : GoodIn wsX8_isUnder wsX8_above := goodIn_r _ [4] (by decide +kernel) (by decide +kernel)
set_option maxRecDepth 20000 in
theorem gX8_isUnder_X8_above : GoodIn wsX8_isUnder (va_wsS RX8 99 yX8_above wsX8_above) := goodIn_app (goodIn_of _ (by decide +kernel)) ggX8_isUnder_X8_above
theorem dX8_isUnder_0 : decode cX8_isUnder 0 = .ok (.iload_n 0, 1) := by decide +kernel
theorem dX8_isUnder_1 : decode cX8_isUnder 1 = .ok (.istore_n 2, 1) := by decide +kernel
theorem dX8_isUnder_2 : decode cX8_isUnder 2 = .ok (.iload_n 2, 1) := by decide +kernel
theorem dX8_isUnder_3 : decode cX8_isUnder 3 = .ok (.ifCond .lt 16, 3) := by decide +kernel
theorem dX8_isUnder_6 : decode cX8_isUnder 6 = .ok (.iload_n 2, 1) := by decide +kernel
theorem dX8_isUnder_7 : decode cX8_isUnder 7 = .ok (.iload_n 1, 1) := by decide +kernel
theorem dX8_isUnder_8 : decode cX8_isUnder 8 = .ok (.if_icmp .eq 11, 3) := by decide +kernel
theorem dX8_isUnder_11 : decode cX8_isUnder 11 = .ok (.iload_n 2, 1) := by decide +kernel
theorem dX8_isUnder_12 : decode cX8_isUnder 12 = .ok (.invokestatic 99, 3) := by decide +kernel
theorem dX8_isUnder_15 : decode cX8_isUnder 15 = .ok (.istore_n 2, 1) := by decide +kernel
theorem dX8_isUnder_16 : decode cX8_isUnder 16 = .ok (.goto (-14), 3) := by decide +kernel
theorem dX8_isUnder_19 : decode cX8_isUnder 19 = .ok (.iload_n 2, 1) := by decide +kernel
theorem dX8_isUnder_20 : decode cX8_isUnder 20 = .ok (.ifCond .lt 7, 3) := by decide +kernel
theorem dX8_isUnder_23 : decode cX8_isUnder 23 = .ok (.iconst 1, 1) := by decide +kernel
theorem dX8_isUnder_24 : decode cX8_isUnder 24 = .ok (.goto 4, 3) := by decide +kernel
theorem dX8_isUnder_27 : decode cX8_isUnder 27 = .ok (.iconst 0, 1) := by decide +kernel
theorem dX8_isUnder_28 : decode cX8_isUnder 28 = .ok (.ireturn, 1) := by decide +kernel
set_option maxRecDepth 20000 in
theorem ggX8_claimOf_X8_personIs : GoodIn wsX8_claimOf wsX8_personIs := goodIn_r _ [5, 6, 7, 8, 4, 9, 10, 11, 12, 13, 14, 15, 16, 17, 18, 19, 20, 21, 22, 23, 24, 25, 26, 27, 28, 29, 30, 31, 32, 33, 34, 35, 36, 37, 38] (by decide +kernel) (by decide +kernel)
set_option maxRecDepth 20000 in
theorem gX8_claimOf_X8_personIs : GoodIn wsX8_claimOf (wsV RX8 102 RX8 yX8_personIs wsX8_personIs) := goodIn_app (goodIn_of _ (by decide +kernel)) ggX8_claimOf_X8_personIs
theorem dX8_claimOf_0 : decode cX8_claimOf 0 = .ok (.aload_n 0, 1) := by decide +kernel
theorem dX8_claimOf_1 : decode cX8_claimOf 1 = .ok (.iload_n 1, 1) := by decide +kernel
theorem dX8_claimOf_2 : decode cX8_claimOf 2 = .ok (.iconst 1, 1) := by decide +kernel
theorem dX8_claimOf_3 : decode cX8_claimOf 3 = .ok (.invokevirtual 102, 3) := by decide +kernel
theorem dX8_claimOf_6 : decode cX8_claimOf 6 = .ok (.istore_n 3, 1) := by decide +kernel
theorem dX8_claimOf_7 : decode cX8_claimOf 7 = .ok (.iload_n 3, 1) := by decide +kernel
theorem dX8_claimOf_8 : decode cX8_claimOf 8 = .ok (.iconst 2, 1) := by decide +kernel
theorem dX8_claimOf_9 : decode cX8_claimOf 9 = .ok (.aload_n 0, 1) := by decide +kernel
theorem dX8_claimOf_10 : decode cX8_claimOf 10 = .ok (.iload_n 1, 1) := by decide +kernel
theorem dX8_claimOf_11 : decode cX8_claimOf 11 = .ok (.iconst 2, 1) := by decide +kernel
theorem dX8_claimOf_12 : decode cX8_claimOf 12 = .ok (.invokevirtual 102, 3) := by decide +kernel
theorem dX8_claimOf_15 : decode cX8_claimOf 15 = .ok (.imul, 1) := by decide +kernel
theorem dX8_claimOf_16 : decode cX8_claimOf 16 = .ok (.iadd, 1) := by decide +kernel
theorem dX8_claimOf_17 : decode cX8_claimOf 17 = .ok (.istore 4, 2) := by decide +kernel
theorem dX8_claimOf_19 : decode cX8_claimOf 19 = .ok (.aload_n 0, 1) := by decide +kernel
theorem dX8_claimOf_20 : decode cX8_claimOf 20 = .ok (.iload_n 1, 1) := by decide +kernel
theorem dX8_claimOf_21 : decode cX8_claimOf 21 = .ok (.iconst 0, 1) := by decide +kernel
theorem dX8_claimOf_22 : decode cX8_claimOf 22 = .ok (.invokevirtual 102, 3) := by decide +kernel
theorem dX8_claimOf_25 : decode cX8_claimOf 25 = .ok (.tableswitch 101 1 6 #[39, 42, 47, 54, 71, 87], 39) := by decide +kernel
theorem dX8_claimOf_64 : decode cX8_claimOf 64 = .ok (.iload 4, 2) := by decide +kernel
theorem dX8_claimOf_66 : decode cX8_claimOf 66 = .ok (.ireturn, 1) := by decide +kernel
theorem dX8_claimOf_67 : decode cX8_claimOf 67 = .ok (.iload_n 3, 1) := by decide +kernel
theorem dX8_claimOf_68 : decode cX8_claimOf 68 = .ok (.bipush 10, 2) := by decide +kernel
theorem dX8_claimOf_70 : decode cX8_claimOf 70 = .ok (.iadd, 1) := by decide +kernel
theorem dX8_claimOf_71 : decode cX8_claimOf 71 = .ok (.ireturn, 1) := by decide +kernel
theorem dX8_claimOf_72 : decode cX8_claimOf 72 = .ok (.iload_n 3, 1) := by decide +kernel
theorem dX8_claimOf_73 : decode cX8_claimOf 73 = .ok (.bipush 10, 2) := by decide +kernel
theorem dX8_claimOf_75 : decode cX8_claimOf 75 = .ok (.iadd, 1) := by decide +kernel
theorem dX8_claimOf_76 : decode cX8_claimOf 76 = .ok (.iconst 2, 1) := by decide +kernel
theorem dX8_claimOf_77 : decode cX8_claimOf 77 = .ok (.idiv, 1) := by decide +kernel
theorem dX8_claimOf_78 : decode cX8_claimOf 78 = .ok (.ireturn, 1) := by decide +kernel
theorem dX8_claimOf_79 : decode cX8_claimOf 79 = .ok (.iload_n 2, 1) := by decide +kernel
theorem dX8_claimOf_80 : decode cX8_claimOf 80 = .ok (.iconst 2, 1) := by decide +kernel
theorem dX8_claimOf_81 : decode cX8_claimOf 81 = .ok (.irem, 1) := by decide +kernel
theorem dX8_claimOf_82 : decode cX8_claimOf 82 = .ok (.ifCond .ne 12, 3) := by decide +kernel
theorem dX8_claimOf_85 : decode cX8_claimOf 85 = .ok (.iload_n 3, 1) := by decide +kernel
theorem dX8_claimOf_86 : decode cX8_claimOf 86 = .ok (.bipush 10, 2) := by decide +kernel
theorem dX8_claimOf_88 : decode cX8_claimOf 88 = .ok (.iadd, 1) := by decide +kernel
theorem dX8_claimOf_89 : decode cX8_claimOf 89 = .ok (.iconst 2, 1) := by decide +kernel
theorem dX8_claimOf_90 : decode cX8_claimOf 90 = .ok (.idiv, 1) := by decide +kernel
theorem dX8_claimOf_91 : decode cX8_claimOf 91 = .ok (.goto 4, 3) := by decide +kernel
theorem dX8_claimOf_94 : decode cX8_claimOf 94 = .ok (.iconst 0, 1) := by decide +kernel
theorem dX8_claimOf_95 : decode cX8_claimOf 95 = .ok (.ireturn, 1) := by decide +kernel
theorem dX8_claimOf_96 : decode cX8_claimOf 96 = .ok (.iload_n 2, 1) := by decide +kernel
theorem dX8_claimOf_97 : decode cX8_claimOf 97 = .ok (.iconst 2, 1) := by decide +kernel
theorem dX8_claimOf_98 : decode cX8_claimOf 98 = .ok (.irem, 1) := by decide +kernel
theorem dX8_claimOf_99 : decode cX8_claimOf 99 = .ok (.iload_n 1, 1) := by decide +kernel
theorem dX8_claimOf_100 : decode cX8_claimOf 100 = .ok (.iconst 2, 1) := by decide +kernel
theorem dX8_claimOf_101 : decode cX8_claimOf 101 = .ok (.irem, 1) := by decide +kernel
theorem dX8_claimOf_102 : decode cX8_claimOf 102 = .ok (.if_icmp .ne 8, 3) := by decide +kernel
theorem dX8_claimOf_105 : decode cX8_claimOf 105 = .ok (.bipush 50, 2) := by decide +kernel
theorem dX8_claimOf_107 : decode cX8_claimOf 107 = .ok (.goto 4, 3) := by decide +kernel
theorem dX8_claimOf_110 : decode cX8_claimOf 110 = .ok (.iconst 0, 1) := by decide +kernel
theorem dX8_claimOf_111 : decode cX8_claimOf 111 = .ok (.ireturn, 1) := by decide +kernel
theorem dX8_claimOf_112 : decode cX8_claimOf 112 = .ok (.iload_n 2, 1) := by decide +kernel
theorem dX8_claimOf_113 : decode cX8_claimOf 113 = .ok (.bipush 8, 2) := by decide +kernel
theorem dX8_claimOf_115 : decode cX8_claimOf 115 = .ok (.if_icmp .ne 8, 3) := by decide +kernel
theorem dX8_claimOf_118 : decode cX8_claimOf 118 = .ok (.bipush 99, 2) := by decide +kernel
theorem dX8_claimOf_120 : decode cX8_claimOf 120 = .ok (.goto 5, 3) := by decide +kernel
theorem dX8_claimOf_123 : decode cX8_claimOf 123 = .ok (.iload 4, 2) := by decide +kernel
theorem dX8_claimOf_125 : decode cX8_claimOf 125 = .ok (.ireturn, 1) := by decide +kernel
theorem dX8_claimOf_126 : decode cX8_claimOf 126 = .ok (.iload_n 3, 1) := by decide +kernel
theorem dX8_claimOf_127 : decode cX8_claimOf 127 = .ok (.ireturn, 1) := by decide +kernel
set_option maxRecDepth 20000 in
theorem ggX8_firstOf_X8_claimOf : GoodIn wsX8_firstOf wsX8_claimOf := goodIn_r _ [12, 13, 14, 15, 11, 16, 17, 18, 19, 20, 21, 22, 23, 24, 25, 26, 27, 28, 29, 30, 31, 32, 33, 34, 35, 36, 37, 38, 39, 40, 41, 42, 43, 44, 45, 46, 47, 48, 49] (by decide +kernel) (by decide +kernel)
set_option maxRecDepth 20000 in
theorem gX8_firstOf_X8_claimOf : GoodIn wsX8_firstOf (wsV RX8 113 RX8 yX8_claimOf wsX8_claimOf) := goodIn_app (goodIn_of _ (by decide +kernel)) ggX8_firstOf_X8_claimOf
theorem dX8_firstOf_0 : decode cX8_firstOf 0 = .ok (.iload_n 1, 1) := by decide +kernel
theorem dX8_firstOf_1 : decode cX8_firstOf 1 = .ok (.iload_n 2, 1) := by decide +kernel
theorem dX8_firstOf_2 : decode cX8_firstOf 2 = .ok (.invokestatic 105, 3) := by decide +kernel
theorem dX8_firstOf_5 : decode cX8_firstOf 5 = .ok (.istore 4, 2) := by decide +kernel
theorem dX8_firstOf_7 : decode cX8_firstOf 7 = .ok (.iload_n 1, 1) := by decide +kernel
theorem dX8_firstOf_8 : decode cX8_firstOf 8 = .ok (.iload_n 2, 1) := by decide +kernel
theorem dX8_firstOf_9 : decode cX8_firstOf 9 = .ok (.invokestatic 110, 3) := by decide +kernel
theorem dX8_firstOf_12 : decode cX8_firstOf 12 = .ok (.istore 5, 2) := by decide +kernel
theorem dX8_firstOf_14 : decode cX8_firstOf 14 = .ok (.aload_n 0, 1) := by decide +kernel
theorem dX8_firstOf_15 : decode cX8_firstOf 15 = .ok (.iload 5, 2) := by decide +kernel
theorem dX8_firstOf_17 : decode cX8_firstOf 17 = .ok (.iload_n 3, 1) := by decide +kernel
theorem dX8_firstOf_18 : decode cX8_firstOf 18 = .ok (.invokevirtual 113, 3) := by decide +kernel
theorem dX8_firstOf_21 : decode cX8_firstOf 21 = .ok (.aload_n 0, 1) := by decide +kernel
theorem dX8_firstOf_22 : decode cX8_firstOf 22 = .ok (.iload 4, 2) := by decide +kernel
theorem dX8_firstOf_24 : decode cX8_firstOf 24 = .ok (.iload_n 3, 1) := by decide +kernel
theorem dX8_firstOf_25 : decode cX8_firstOf 25 = .ok (.invokevirtual 113, 3) := by decide +kernel
theorem dX8_firstOf_28 : decode cX8_firstOf 28 = .ok (.if_icmp .le 8, 3) := by decide +kernel
theorem dX8_firstOf_31 : decode cX8_firstOf 31 = .ok (.iload 5, 2) := by decide +kernel
theorem dX8_firstOf_33 : decode cX8_firstOf 33 = .ok (.goto 5, 3) := by decide +kernel
theorem dX8_firstOf_36 : decode cX8_firstOf 36 = .ok (.iload 4, 2) := by decide +kernel
theorem dX8_firstOf_38 : decode cX8_firstOf 38 = .ok (.ireturn, 1) := by decide +kernel
set_option maxRecDepth 20000 in
theorem ggX8_isLit_X8_has : GoodIn wsX8_isLit wsX8_has := goodIn_r _ [5] (by decide +kernel) (by decide +kernel)
set_option maxRecDepth 20000 in
theorem gX8_isLit_X8_has : GoodIn wsX8_isLit (va_wsS RX8 116 yX8_has wsX8_has) := goodIn_app (goodIn_of _ (by decide +kernel)) ggX8_isLit_X8_has
theorem dX8_isLit_0 : decode cX8_isLit 0 = .ok (.aload_n 0, 1) := by decide +kernel
theorem dX8_isLit_1 : decode cX8_isLit 1 = .ok (.getfield 9, 3) := by decide +kernel
theorem dX8_isLit_4 : decode cX8_isLit 4 = .ok (.iconst 3, 1) := by decide +kernel
theorem dX8_isLit_5 : decode cX8_isLit 5 = .ok (.iaload, 1) := by decide +kernel
theorem dX8_isLit_6 : decode cX8_isLit 6 = .ok (.iload_n 1, 1) := by decide +kernel
theorem dX8_isLit_7 : decode cX8_isLit 7 = .ok (.invokestatic 116, 3) := by decide +kernel
theorem dX8_isLit_10 : decode cX8_isLit 10 = .ok (.ireturn, 1) := by decide +kernel
set_option maxRecDepth 20000 in
theorem ggX8_hasShadow_X8_personIs : GoodIn wsX8_hasShadow wsX8_personIs := goodIn_r _ [5, 6, 7, 8, 4, 9, 32, 33, 34, 35, 36, 37, 38, 39, 40, 41, 42, 43, 44, 45, 46, 47, 48, 49, 50, 51, 52, 53, 54, 55, 56, 57, 58, 59, 60] (by decide +kernel) (by decide +kernel)
set_option maxRecDepth 20000 in
theorem gX8_hasShadow_X8_personIs : GoodIn wsX8_hasShadow (wsV RX8 102 RX8 yX8_personIs wsX8_personIs) := goodIn_app (goodIn_of _ (by decide +kernel)) ggX8_hasShadow_X8_personIs
set_option maxRecDepth 20000 in
theorem ggX8_hasShadow_X8_isLit : GoodIn wsX8_hasShadow wsX8_isLit := goodIn_r _ [13, 6, 14, 15, 4, 16, 32, 33, 34, 35, 36, 37, 38, 39, 40, 41, 42, 43, 44, 45, 46, 47, 48, 49, 50, 51, 52, 53, 54, 55, 56, 57, 58, 59, 60] (by decide +kernel) (by decide +kernel)
set_option maxRecDepth 20000 in
theorem gX8_hasShadow_X8_isLit : GoodIn wsX8_hasShadow (wsV RX8 120 RX8 yX8_isLit wsX8_isLit) := goodIn_app (goodIn_of _ (by decide +kernel)) ggX8_hasShadow_X8_isLit
set_option maxRecDepth 20000 in
theorem ggX8_hasShadow_X8_firstOf : GoodIn wsX8_hasShadow wsX8_firstOf := goodIn_r _ [20, 21, 22, 23, 24, 25, 26, 27, 28, 29, 30, 4, 31, 1, 2, 3, 5, 6, 7, 8, 9, 32, 33, 34, 35, 36, 37, 38, 39, 40, 41, 42, 43, 44, 45, 46, 47, 48, 49, 50, 51, 52, 53, 54, 55, 56, 57, 58, 59, 60] (by decide +kernel) (by decide +kernel)
set_option maxRecDepth 20000 in
theorem gX8_hasShadow_X8_firstOf : GoodIn wsX8_hasShadow (wsV RX8 123 RX8 yX8_firstOf wsX8_firstOf) := goodIn_app (goodIn_of _ (by decide +kernel)) ggX8_hasShadow_X8_firstOf
theorem dX8_hasShadow_0 : decode cX8_hasShadow 0 = .ok (.aload_n 0, 1) := by decide +kernel
theorem dX8_hasShadow_1 : decode cX8_hasShadow 1 = .ok (.iload_n 1, 1) := by decide +kernel
theorem dX8_hasShadow_2 : decode cX8_hasShadow 2 = .ok (.iconst 4, 1) := by decide +kernel
theorem dX8_hasShadow_3 : decode cX8_hasShadow 3 = .ok (.invokevirtual 102, 3) := by decide +kernel
theorem dX8_hasShadow_6 : decode cX8_hasShadow 6 = .ok (.istore_n 3, 1) := by decide +kernel
theorem dX8_hasShadow_7 : decode cX8_hasShadow 7 = .ok (.aload_n 0, 1) := by decide +kernel
theorem dX8_hasShadow_8 : decode cX8_hasShadow 8 = .ok (.iload_n 2, 1) := by decide +kernel
theorem dX8_hasShadow_9 : decode cX8_hasShadow 9 = .ok (.invokevirtual 120, 3) := by decide +kernel
theorem dX8_hasShadow_12 : decode cX8_hasShadow 12 = .ok (.ifCond .eq 22, 3) := by decide +kernel
theorem dX8_hasShadow_15 : decode cX8_hasShadow 15 = .ok (.iload_n 3, 1) := by decide +kernel
theorem dX8_hasShadow_16 : decode cX8_hasShadow 16 = .ok (.ifCond .lt 14, 3) := by decide +kernel
theorem dX8_hasShadow_19 : decode cX8_hasShadow 19 = .ok (.aload_n 0, 1) := by decide +kernel
theorem dX8_hasShadow_20 : decode cX8_hasShadow 20 = .ok (.iload_n 1, 1) := by decide +kernel
theorem dX8_hasShadow_21 : decode cX8_hasShadow 21 = .ok (.iload_n 3, 1) := by decide +kernel
theorem dX8_hasShadow_22 : decode cX8_hasShadow 22 = .ok (.iload_n 2, 1) := by decide +kernel
theorem dX8_hasShadow_23 : decode cX8_hasShadow 23 = .ok (.invokevirtual 123, 3) := by decide +kernel
theorem dX8_hasShadow_26 : decode cX8_hasShadow 26 = .ok (.iload_n 1, 1) := by decide +kernel
theorem dX8_hasShadow_27 : decode cX8_hasShadow 27 = .ok (.if_icmp .ne 7, 3) := by decide +kernel
theorem dX8_hasShadow_30 : decode cX8_hasShadow 30 = .ok (.iconst 1, 1) := by decide +kernel
theorem dX8_hasShadow_31 : decode cX8_hasShadow 31 = .ok (.goto 4, 3) := by decide +kernel
theorem dX8_hasShadow_34 : decode cX8_hasShadow 34 = .ok (.iconst 0, 1) := by decide +kernel
theorem dX8_hasShadow_35 : decode cX8_hasShadow 35 = .ok (.ireturn, 1) := by decide +kernel
set_option maxRecDepth 20000 in
theorem ggX8_whoHave_X8_hasShadow : GoodIn wsX8_whoHave wsX8_hasShadow := goodIn_r _ [6, 7, 8, 9, 5, 10, 1, 11, 12, 13, 14, 15, 16, 17, 18, 19, 20, 21, 22, 23, 24, 25, 26, 27, 28, 29, 30, 31, 32, 33, 34, 35, 36, 37, 38, 39, 40, 41, 42, 43, 44, 45, 46, 47, 48, 49, 50, 51, 52, 53, 54, 55, 56, 57, 58, 59, 60, 61, 62, 63, 64] (by decide +kernel) (by decide +kernel)
set_option maxRecDepth 20000 in
theorem gX8_whoHave_X8_hasShadow : GoodIn wsX8_whoHave (wsV RX8 127 RX8 yX8_hasShadow wsX8_hasShadow) := goodIn_app (goodIn_of _ (by decide +kernel)) ggX8_whoHave_X8_hasShadow
theorem dX8_whoHave_0 : decode cX8_whoHave 0 = .ok (.iconst 0, 1) := by decide +kernel
theorem dX8_whoHave_1 : decode cX8_whoHave 1 = .ok (.istore_n 2, 1) := by decide +kernel
theorem dX8_whoHave_2 : decode cX8_whoHave 2 = .ok (.iconst 0, 1) := by decide +kernel
theorem dX8_whoHave_3 : decode cX8_whoHave 3 = .ok (.istore_n 3, 1) := by decide +kernel
theorem dX8_whoHave_4 : decode cX8_whoHave 4 = .ok (.iload_n 3, 1) := by decide +kernel
theorem dX8_whoHave_5 : decode cX8_whoHave 5 = .ok (.aload_n 0, 1) := by decide +kernel
theorem dX8_whoHave_6 : decode cX8_whoHave 6 = .ok (.getfield 9, 3) := by decide +kernel
theorem dX8_whoHave_9 : decode cX8_whoHave 9 = .ok (.iconst 4, 1) := by decide +kernel
theorem dX8_whoHave_10 : decode cX8_whoHave 10 = .ok (.iaload, 1) := by decide +kernel
theorem dX8_whoHave_11 : decode cX8_whoHave 11 = .ok (.if_icmp .ge 28, 3) := by decide +kernel
theorem dX8_whoHave_14 : decode cX8_whoHave 14 = .ok (.iload_n 2, 1) := by decide +kernel
theorem dX8_whoHave_15 : decode cX8_whoHave 15 = .ok (.aload_n 0, 1) := by decide +kernel
theorem dX8_whoHave_16 : decode cX8_whoHave 16 = .ok (.iload_n 3, 1) := by decide +kernel
theorem dX8_whoHave_17 : decode cX8_whoHave 17 = .ok (.iload_n 1, 1) := by decide +kernel
theorem dX8_whoHave_18 : decode cX8_whoHave 18 = .ok (.invokevirtual 127, 3) := by decide +kernel
theorem dX8_whoHave_21 : decode cX8_whoHave 21 = .ok (.ifCond .eq 9, 3) := by decide +kernel
theorem dX8_whoHave_24 : decode cX8_whoHave 24 = .ok (.iconst 1, 1) := by decide +kernel
theorem dX8_whoHave_25 : decode cX8_whoHave 25 = .ok (.iload_n 3, 1) := by decide +kernel
theorem dX8_whoHave_26 : decode cX8_whoHave 26 = .ok (.ishl, 1) := by decide +kernel
theorem dX8_whoHave_27 : decode cX8_whoHave 27 = .ok (.goto 4, 3) := by decide +kernel
theorem dX8_whoHave_30 : decode cX8_whoHave 30 = .ok (.iconst 0, 1) := by decide +kernel
theorem dX8_whoHave_31 : decode cX8_whoHave 31 = .ok (.ior, 1) := by decide +kernel
theorem dX8_whoHave_32 : decode cX8_whoHave 32 = .ok (.istore_n 2, 1) := by decide +kernel
theorem dX8_whoHave_33 : decode cX8_whoHave 33 = .ok (.iinc 3 1, 3) := by decide +kernel
theorem dX8_whoHave_36 : decode cX8_whoHave 36 = .ok (.goto (-32), 3) := by decide +kernel
theorem dX8_whoHave_39 : decode cX8_whoHave 39 = .ok (.iload_n 2, 1) := by decide +kernel
theorem dX8_whoHave_40 : decode cX8_whoHave 40 = .ok (.ireturn, 1) := by decide +kernel
theorem dX8_isOver_0 : decode cX8_isOver 0 = .ok (.aload_n 0, 1) := by decide +kernel
theorem dX8_isOver_1 : decode cX8_isOver 1 = .ok (.getfield 9, 3) := by decide +kernel
theorem dX8_isOver_4 : decode cX8_isOver 4 = .ok (.iconst 0, 1) := by decide +kernel
theorem dX8_isOver_5 : decode cX8_isOver 5 = .ok (.iaload, 1) := by decide +kernel
theorem dX8_isOver_6 : decode cX8_isOver 6 = .ok (.bipush 16, 2) := by decide +kernel
theorem dX8_isOver_8 : decode cX8_isOver 8 = .ok (.if_icmp .ne 7, 3) := by decide +kernel
theorem dX8_isOver_11 : decode cX8_isOver 11 = .ok (.iconst 1, 1) := by decide +kernel
theorem dX8_isOver_12 : decode cX8_isOver 12 = .ok (.goto 4, 3) := by decide +kernel
theorem dX8_isOver_15 : decode cX8_isOver 15 = .ok (.iconst 0, 1) := by decide +kernel
theorem dX8_isOver_16 : decode cX8_isOver 16 = .ok (.ireturn, 1) := by decide +kernel
set_option maxRecDepth 20000 in
theorem ggX8_of_X8_isPerson : GoodIn wsX8_of wsX8_isPerson := goodIn_r _ [7, 2, 8, 9, 6, 10, 53, 54, 55, 56, 57, 58, 59, 60, 61, 62, 63, 64, 65, 66, 67, 68, 69, 70, 71, 72, 73, 74, 75, 76, 77, 78, 79, 80, 81] (by decide +kernel) (by decide +kernel)
set_option maxRecDepth 20000 in
theorem gX8_of_X8_isPerson : GoodIn wsX8_of (wsV RX8 130 RX8 yX8_isPerson wsX8_isPerson) := goodIn_app (goodIn_of _ (by decide +kernel)) ggX8_of_X8_isPerson
set_option maxRecDepth 20000 in
theorem ggX8_of_X8_within : GoodIn wsX8_of wsX8_within := goodIn_r _ [10] (by decide +kernel) (by decide +kernel)
set_option maxRecDepth 20000 in
theorem gX8_of_X8_within : GoodIn wsX8_of (va_wsS RX8 78 yX8_within wsX8_within) := goodIn_app (goodIn_of _ (by decide +kernel)) ggX8_of_X8_within
set_option maxRecDepth 20000 in
theorem ggX8_of_X8_finding : GoodIn wsX8_of wsX8_finding := goodIn_r _ [14, 15, 1, 53, 54, 55, 56, 57, 58, 59, 60, 61, 62, 63, 64, 65, 66, 67, 68, 69, 70, 71, 72, 73, 74, 75, 76, 77, 78, 79, 80, 81] (by decide +kernel) (by decide +kernel)
set_option maxRecDepth 20000 in
theorem gX8_of_X8_finding : GoodIn wsX8_of (wsV RX8 90 RX8 yX8_finding wsX8_finding) := goodIn_app (goodIn_of _ (by decide +kernel)) ggX8_of_X8_finding
set_option maxRecDepth 20000 in
theorem ggX8_of_X8_personIs : GoodIn wsX8_of wsX8_personIs := goodIn_r _ [19, 2, 20, 21, 6, 22, 53, 54, 55, 56, 57, 58, 59, 60, 61, 62, 63, 64, 65, 66, 67, 68, 69, 70, 71, 72, 73, 74, 75, 76, 77, 78, 79, 80, 81] (by decide +kernel) (by decide +kernel)
set_option maxRecDepth 20000 in
theorem gX8_of_X8_personIs : GoodIn wsX8_of (wsV RX8 102 RX8 yX8_personIs wsX8_personIs) := goodIn_app (goodIn_of _ (by decide +kernel)) ggX8_of_X8_personIs
set_option maxRecDepth 20000 in
theorem ggX8_of_X8_isOver : GoodIn wsX8_of wsX8_isOver := goodIn_r _ [26, 2, 53, 54, 55, 56, 57, 58, 59, 60, 61, 62, 63, 64, 65, 66, 67, 68, 69, 70, 71, 72, 73, 74, 75, 76, 77, 78, 79, 80, 81] (by decide +kernel) (by decide +kernel)
set_option maxRecDepth 20000 in
theorem gX8_of_X8_isOver : GoodIn wsX8_of (wsV RX8 133 RX8 yX8_isOver wsX8_isOver) := goodIn_app (goodIn_of _ (by decide +kernel)) ggX8_of_X8_isOver
set_option maxRecDepth 20000 in
theorem ggX8_of_X8_claimOf : GoodIn wsX8_of wsX8_claimOf := goodIn_r _ [30, 16, 17, 18, 6, 19, 2, 20, 21, 22, 53, 54, 55, 56, 57, 58, 59, 60, 61, 62, 63, 64, 65, 66, 67, 68, 69, 70, 71, 72, 73, 74, 75, 76, 77, 78, 79, 80, 81] (by decide +kernel) (by decide +kernel)
set_option maxRecDepth 20000 in
theorem gX8_of_X8_claimOf : GoodIn wsX8_of (wsV RX8 113 RX8 yX8_claimOf wsX8_claimOf) := goodIn_app (goodIn_of _ (by decide +kernel)) ggX8_of_X8_claimOf
set_option maxRecDepth 20000 in
theorem ggX8_of_X8_hasShadow : GoodIn wsX8_of wsX8_hasShadow := goodIn_r _ [34, 16, 17, 18, 6, 19, 2, 20, 21, 22, 35, 36, 37, 38, 39, 40, 41, 42, 43, 44, 45, 46, 47, 48, 49, 50, 51, 52, 27, 28, 29, 30, 53, 54, 55, 56, 57, 58, 59, 60, 61, 62, 63, 64, 65, 66, 67, 68, 69, 70, 71, 72, 73, 74, 75, 76, 77, 78, 79, 80, 81] (by decide +kernel) (by decide +kernel)
set_option maxRecDepth 20000 in
theorem gX8_of_X8_hasShadow : GoodIn wsX8_of (wsV RX8 127 RX8 yX8_hasShadow wsX8_hasShadow) := goodIn_app (goodIn_of _ (by decide +kernel)) ggX8_of_X8_hasShadow
theorem dX8_of_0 : decode cX8_of 0 = .ok (.aload_n 0, 1) := by decide +kernel
theorem dX8_of_1 : decode cX8_of 1 = .ok (.iload_n 1, 1) := by decide +kernel
theorem dX8_of_2 : decode cX8_of 2 = .ok (.invokevirtual 130, 3) := by decide +kernel
theorem dX8_of_5 : decode cX8_of 5 = .ok (.ifCond .eq 13, 3) := by decide +kernel
theorem dX8_of_8 : decode cX8_of 8 = .ok (.iload_n 2, 1) := by decide +kernel
theorem dX8_of_9 : decode cX8_of 9 = .ok (.iconst 0, 1) := by decide +kernel
theorem dX8_of_10 : decode cX8_of 10 = .ok (.bipush 6, 2) := by decide +kernel
theorem dX8_of_12 : decode cX8_of 12 = .ok (.invokestatic 78, 3) := by decide +kernel
theorem dX8_of_15 : decode cX8_of 15 = .ok (.ifCond .ne 10, 3) := by decide +kernel
theorem dX8_of_18 : decode cX8_of 18 = .ok (.aload_n 0, 1) := by decide +kernel
theorem dX8_of_19 : decode cX8_of 19 = .ok (.ldc 73, 2) := by decide +kernel
theorem dX8_of_21 : decode cX8_of 21 = .ok (.invokevirtual 90, 3) := by decide +kernel
theorem dX8_of_24 : decode cX8_of 24 = .ok (.ireturn, 1) := by decide +kernel
theorem dX8_of_25 : decode cX8_of 25 = .ok (.iload_n 2, 1) := by decide +kernel
theorem dX8_of_26 : decode cX8_of 26 = .ok (.iconst 5, 1) := by decide +kernel
theorem dX8_of_27 : decode cX8_of 27 = .ok (.if_icmp .ge 10, 3) := by decide +kernel
theorem dX8_of_30 : decode cX8_of 30 = .ok (.aload_n 0, 1) := by decide +kernel
theorem dX8_of_31 : decode cX8_of 31 = .ok (.iload_n 1, 1) := by decide +kernel
theorem dX8_of_32 : decode cX8_of 32 = .ok (.iload_n 2, 1) := by decide +kernel
theorem dX8_of_33 : decode cX8_of 33 = .ok (.invokevirtual 102, 3) := by decide +kernel
theorem dX8_of_36 : decode cX8_of 36 = .ok (.ireturn, 1) := by decide +kernel
theorem dX8_of_37 : decode cX8_of 37 = .ok (.aload_n 0, 1) := by decide +kernel
theorem dX8_of_38 : decode cX8_of 38 = .ok (.invokevirtual 133, 3) := by decide +kernel
theorem dX8_of_41 : decode cX8_of 41 = .ok (.ifCond .eq 7, 3) := by decide +kernel
theorem dX8_of_44 : decode cX8_of 44 = .ok (.iconst 0, 1) := by decide +kernel
theorem dX8_of_45 : decode cX8_of 45 = .ok (.goto 41, 3) := by decide +kernel
theorem dX8_of_48 : decode cX8_of 48 = .ok (.iload_n 2, 1) := by decide +kernel
theorem dX8_of_49 : decode cX8_of 49 = .ok (.iconst 5, 1) := by decide +kernel
theorem dX8_of_50 : decode cX8_of 50 = .ok (.if_icmp .ne 17, 3) := by decide +kernel
theorem dX8_of_53 : decode cX8_of 53 = .ok (.aload_n 0, 1) := by decide +kernel
theorem dX8_of_54 : decode cX8_of 54 = .ok (.iload_n 1, 1) := by decide +kernel
theorem dX8_of_55 : decode cX8_of 55 = .ok (.aload_n 0, 1) := by decide +kernel
theorem dX8_of_56 : decode cX8_of 56 = .ok (.getfield 9, 3) := by decide +kernel
theorem dX8_of_59 : decode cX8_of 59 = .ok (.iconst 0, 1) := by decide +kernel
theorem dX8_of_60 : decode cX8_of 60 = .ok (.iaload, 1) := by decide +kernel
theorem dX8_of_61 : decode cX8_of 61 = .ok (.invokevirtual 113, 3) := by decide +kernel
theorem dX8_of_64 : decode cX8_of 64 = .ok (.goto 22, 3) := by decide +kernel
theorem dX8_of_67 : decode cX8_of 67 = .ok (.aload_n 0, 1) := by decide +kernel
theorem dX8_of_68 : decode cX8_of 68 = .ok (.iload_n 1, 1) := by decide +kernel
theorem dX8_of_69 : decode cX8_of 69 = .ok (.aload_n 0, 1) := by decide +kernel
theorem dX8_of_70 : decode cX8_of 70 = .ok (.getfield 9, 3) := by decide +kernel
theorem dX8_of_73 : decode cX8_of 73 = .ok (.iconst 0, 1) := by decide +kernel
theorem dX8_of_74 : decode cX8_of 74 = .ok (.iaload, 1) := by decide +kernel
theorem dX8_of_75 : decode cX8_of 75 = .ok (.invokevirtual 127, 3) := by decide +kernel
theorem dX8_of_78 : decode cX8_of 78 = .ok (.ifCond .eq 7, 3) := by decide +kernel
theorem dX8_of_81 : decode cX8_of 81 = .ok (.iconst 1, 1) := by decide +kernel
theorem dX8_of_82 : decode cX8_of 82 = .ok (.goto 4, 3) := by decide +kernel
theorem dX8_of_85 : decode cX8_of 85 = .ok (.iconst 0, 1) := by decide +kernel
theorem dX8_of_86 : decode cX8_of 86 = .ok (.ireturn, 1) := by decide +kernel
set_option maxRecDepth 20000 in
theorem ggX8_change_X8_isKind : GoodIn wsX8_change wsX8_isKind := goodIn_r _ [5, 6, 7, 4, 8] (by decide +kernel) (by decide +kernel)
set_option maxRecDepth 20000 in
theorem gX8_change_X8_isKind : GoodIn wsX8_change (va_wsS RX8 86 yX8_isKind wsX8_isKind) := goodIn_app (goodIn_of _ (by decide +kernel)) ggX8_change_X8_isKind
set_option maxRecDepth 20000 in
theorem ggX8_change_X8_within : GoodIn wsX8_change wsX8_within := goodIn_r _ [8] (by decide +kernel) (by decide +kernel)
set_option maxRecDepth 20000 in
theorem gX8_change_X8_within : GoodIn wsX8_change (va_wsS RX8 78 yX8_within wsX8_within) := goodIn_app (goodIn_of _ (by decide +kernel)) ggX8_change_X8_within
set_option maxRecDepth 20000 in
theorem ggX8_change_X8_isHours : GoodIn wsX8_change wsX8_isHours := goodIn_r _ [11, 12, 6, 7, 4, 8] (by decide +kernel) (by decide +kernel)
set_option maxRecDepth 20000 in
theorem gX8_change_X8_isHours : GoodIn wsX8_change (va_wsS RX8 137 yX8_isHours wsX8_isHours) := goodIn_app (goodIn_of _ (by decide +kernel)) ggX8_change_X8_isHours
set_option maxRecDepth 20000 in
theorem ggX8_change_X8_isPerson : GoodIn wsX8_change wsX8_isPerson := goodIn_r _ [16, 17, 6, 7, 4, 8, 30, 31, 32, 33, 34, 35, 36, 37, 38, 39, 40, 41, 42, 43, 44, 45, 46, 47, 48, 49, 50, 51, 52, 53, 54, 55, 56, 57, 58] (by decide +kernel) (by decide +kernel)
set_option maxRecDepth 20000 in
theorem gX8_change_X8_isPerson : GoodIn wsX8_change (wsV RX8 130 RX8 yX8_isPerson wsX8_isPerson) := goodIn_app (goodIn_of _ (by decide +kernel)) ggX8_change_X8_isPerson
set_option maxRecDepth 20000 in
theorem ggX8_change_X8_at : GoodIn wsX8_change wsX8_at := goodIn_r _ [20] (by decide +kernel) (by decide +kernel)
set_option maxRecDepth 20000 in
theorem gX8_change_X8_at : GoodIn wsX8_change (va_wsS RX8 82 yX8_at wsX8_at) := goodIn_app (goodIn_of _ (by decide +kernel)) ggX8_change_X8_at
set_option maxRecDepth 20000 in
theorem ggX8_change_X8_become : GoodIn wsX8_change wsX8_become := goodIn_r _ [24, 17, 30, 31, 32, 33, 34, 35, 36, 37, 38, 39, 40, 41, 42, 43, 44, 45, 46, 47, 48, 49, 50, 51, 52, 53, 54, 55, 56, 57, 58] (by decide +kernel) (by decide +kernel)
set_option maxRecDepth 20000 in
theorem gX8_change_X8_become : GoodIn wsX8_change (wsV RX8 140 RX8 yX8_become wsX8_become) := goodIn_app (goodIn_of _ (by decide +kernel)) ggX8_change_X8_become
set_option maxRecDepth 20000 in
theorem ggX8_change_X8_finding : GoodIn wsX8_change wsX8_finding := goodIn_r _ [28, 29, 1, 30, 31, 32, 33, 34, 35, 36, 37, 38, 39, 40, 41, 42, 43, 44, 45, 46, 47, 48, 49, 50, 51, 52, 53, 54, 55, 56, 57, 58] (by decide +kernel) (by decide +kernel)
set_option maxRecDepth 20000 in
theorem gX8_change_X8_finding : GoodIn wsX8_change (wsV RX8 90 RX8 yX8_finding wsX8_finding) := goodIn_app (goodIn_of _ (by decide +kernel)) ggX8_change_X8_finding
theorem dX8_change_0 : decode cX8_change 0 = .ok (.iload_n 2, 1) := by decide +kernel
theorem dX8_change_1 : decode cX8_change 1 = .ok (.ifCond .ne 10, 3) := by decide +kernel
theorem dX8_change_4 : decode cX8_change 4 = .ok (.iload_n 3, 1) := by decide +kernel
theorem dX8_change_5 : decode cX8_change 5 = .ok (.invokestatic 86, 3) := by decide +kernel
theorem dX8_change_8 : decode cX8_change 8 = .ok (.ifCond .ne 45, 3) := by decide +kernel
theorem dX8_change_11 : decode cX8_change 11 = .ok (.iload_n 2, 1) := by decide +kernel
theorem dX8_change_12 : decode cX8_change 12 = .ok (.iconst 1, 1) := by decide +kernel
theorem dX8_change_13 : decode cX8_change 13 = .ok (.if_icmp .ne 13, 3) := by decide +kernel
theorem dX8_change_16 : decode cX8_change 16 = .ok (.iload_n 3, 1) := by decide +kernel
theorem dX8_change_17 : decode cX8_change 17 = .ok (.iconst 0, 1) := by decide +kernel
theorem dX8_change_18 : decode cX8_change 18 = .ok (.bipush 99, 2) := by decide +kernel
theorem dX8_change_20 : decode cX8_change 20 = .ok (.invokestatic 78, 3) := by decide +kernel
theorem dX8_change_23 : decode cX8_change 23 = .ok (.ifCond .ne 30, 3) := by decide +kernel
theorem dX8_change_26 : decode cX8_change 26 = .ok (.iload_n 2, 1) := by decide +kernel
theorem dX8_change_27 : decode cX8_change 27 = .ok (.iconst 2, 1) := by decide +kernel
theorem dX8_change_28 : decode cX8_change 28 = .ok (.if_icmp .ne 13, 3) := by decide +kernel
theorem dX8_change_31 : decode cX8_change 31 = .ok (.iload_n 3, 1) := by decide +kernel
theorem dX8_change_32 : decode cX8_change 32 = .ok (.iconst 0, 1) := by decide +kernel
theorem dX8_change_33 : decode cX8_change 33 = .ok (.bipush 9, 2) := by decide +kernel
theorem dX8_change_35 : decode cX8_change 35 = .ok (.invokestatic 78, 3) := by decide +kernel
theorem dX8_change_38 : decode cX8_change 38 = .ok (.ifCond .ne 15, 3) := by decide +kernel
theorem dX8_change_41 : decode cX8_change 41 = .ok (.iload_n 2, 1) := by decide +kernel
theorem dX8_change_42 : decode cX8_change 42 = .ok (.iconst 3, 1) := by decide +kernel
theorem dX8_change_43 : decode cX8_change 43 = .ok (.if_icmp .ne 14, 3) := by decide +kernel
theorem dX8_change_46 : decode cX8_change 46 = .ok (.iload_n 3, 1) := by decide +kernel
theorem dX8_change_47 : decode cX8_change 47 = .ok (.invokestatic 137, 3) := by decide +kernel
theorem dX8_change_50 : decode cX8_change 50 = .ok (.ifCond .eq 7, 3) := by decide +kernel
theorem dX8_change_53 : decode cX8_change 53 = .ok (.iconst 1, 1) := by decide +kernel
theorem dX8_change_54 : decode cX8_change 54 = .ok (.goto 4, 3) := by decide +kernel
theorem dX8_change_57 : decode cX8_change 57 = .ok (.iconst 0, 1) := by decide +kernel
theorem dX8_change_58 : decode cX8_change 58 = .ok (.istore 4, 2) := by decide +kernel
theorem dX8_change_60 : decode cX8_change 60 = .ok (.aload_n 0, 1) := by decide +kernel
theorem dX8_change_61 : decode cX8_change 61 = .ok (.iload_n 1, 1) := by decide +kernel
theorem dX8_change_62 : decode cX8_change 62 = .ok (.invokevirtual 130, 3) := by decide +kernel
theorem dX8_change_65 : decode cX8_change 65 = .ok (.ifCond .eq 21, 3) := by decide +kernel
theorem dX8_change_68 : decode cX8_change 68 = .ok (.iload 4, 2) := by decide +kernel
theorem dX8_change_70 : decode cX8_change 70 = .ok (.ifCond .eq 16, 3) := by decide +kernel
theorem dX8_change_73 : decode cX8_change 73 = .ok (.aload_n 0, 1) := by decide +kernel
theorem dX8_change_74 : decode cX8_change 74 = .ok (.iload_n 1, 1) := by decide +kernel
theorem dX8_change_75 : decode cX8_change 75 = .ok (.iload_n 2, 1) := by decide +kernel
theorem dX8_change_76 : decode cX8_change 76 = .ok (.invokestatic 82, 3) := by decide +kernel
theorem dX8_change_79 : decode cX8_change 79 = .ok (.iload_n 3, 1) := by decide +kernel
theorem dX8_change_80 : decode cX8_change 80 = .ok (.invokevirtual 140, 3) := by decide +kernel
theorem dX8_change_83 : decode cX8_change 83 = .ok (.goto 9, 3) := by decide +kernel
theorem dX8_change_86 : decode cX8_change 86 = .ok (.aload_n 0, 1) := by decide +kernel
theorem dX8_change_87 : decode cX8_change 87 = .ok (.ldc 73, 2) := by decide +kernel
theorem dX8_change_89 : decode cX8_change 89 = .ok (.invokevirtual 90, 3) := by decide +kernel
theorem dX8_change_92 : decode cX8_change 92 = .ok (.ireturn, 1) := by decide +kernel
set_option maxRecDepth 20000 in
theorem ggX8_parts_X8_at : GoodIn wsX8_parts wsX8_at := goodIn_r _ [5] (by decide +kernel) (by decide +kernel)
set_option maxRecDepth 20000 in
theorem gX8_parts_X8_at : GoodIn wsX8_parts (va_wsS RX8 82 yX8_at wsX8_at) := goodIn_app (goodIn_of _ (by decide +kernel)) ggX8_parts_X8_at
set_option maxRecDepth 20000 in
theorem ggX8_parts_X8_become : GoodIn wsX8_parts wsX8_become := goodIn_r _ [9, 1, 10, 11, 12, 13, 14, 15, 16, 17, 18, 19, 20, 21, 22, 23, 24, 25, 26, 27, 28, 29, 30, 31, 32, 33, 34, 35, 36, 37, 38] (by decide +kernel) (by decide +kernel)
set_option maxRecDepth 20000 in
theorem gX8_parts_X8_become : GoodIn wsX8_parts (wsV RX8 140 RX8 yX8_become wsX8_become) := goodIn_app (goodIn_of _ (by decide +kernel)) ggX8_parts_X8_become
theorem dX8_parts_0 : decode cX8_parts 0 = .ok (.aload_n 0, 1) := by decide +kernel
theorem dX8_parts_1 : decode cX8_parts 1 = .ok (.iload_n 1, 1) := by decide +kernel
theorem dX8_parts_2 : decode cX8_parts 2 = .ok (.iconst 4, 1) := by decide +kernel
theorem dX8_parts_3 : decode cX8_parts 3 = .ok (.invokestatic 82, 3) := by decide +kernel
theorem dX8_parts_6 : decode cX8_parts 6 = .ok (.iconst (-1), 1) := by decide +kernel
theorem dX8_parts_7 : decode cX8_parts 7 = .ok (.invokevirtual 140, 3) := by decide +kernel
theorem dX8_parts_10 : decode cX8_parts 10 = .ok (.istore_n 2, 1) := by decide +kernel
theorem dX8_parts_11 : decode cX8_parts 11 = .ok (.iload_n 2, 1) := by decide +kernel
theorem dX8_parts_12 : decode cX8_parts 12 = .ok (.ifCond .lt 14, 3) := by decide +kernel
theorem dX8_parts_15 : decode cX8_parts 15 = .ok (.aload_n 0, 1) := by decide +kernel
theorem dX8_parts_16 : decode cX8_parts 16 = .ok (.getfield 9, 3) := by decide +kernel
theorem dX8_parts_19 : decode cX8_parts 19 = .ok (.iload_n 2, 1) := by decide +kernel
theorem dX8_parts_20 : decode cX8_parts 20 = .ok (.iconst 4, 1) := by decide +kernel
theorem dX8_parts_21 : decode cX8_parts 21 = .ok (.invokestatic 82, 3) := by decide +kernel
theorem dX8_parts_24 : decode cX8_parts 24 = .ok (.iconst (-1), 1) := by decide +kernel
theorem dX8_parts_25 : decode cX8_parts 25 = .ok (.iastore, 1) := by decide +kernel
theorem dX8_parts_26 : decode cX8_parts 26 = .ok (.iload_n 2, 1) := by decide +kernel
theorem dX8_parts_27 : decode cX8_parts 27 = .ok (.ireturn, 1) := by decide +kernel
set_option maxRecDepth 20000 in
theorem ggX8_areMates_X8_personIs : GoodIn wsX8_areMates wsX8_personIs := goodIn_r _ [6, 1, 7, 8, 5, 9, 18, 19, 20, 21, 22, 23, 24, 25, 26, 27, 28, 29, 30, 31, 32, 33, 34, 35, 36, 37, 38, 39, 40, 41, 42, 43, 44, 45, 46] (by decide +kernel) (by decide +kernel)
set_option maxRecDepth 20000 in
theorem gX8_areMates_X8_personIs : GoodIn wsX8_areMates (wsV RX8 102 RX8 yX8_personIs wsX8_personIs) := goodIn_app (goodIn_of _ (by decide +kernel)) ggX8_areMates_X8_personIs
set_option maxRecDepth 20000 in
theorem ggX8_areMates_X8_parts : GoodIn wsX8_areMates wsX8_parts := goodIn_r _ [13, 1, 7, 8, 5, 9, 14, 15, 16, 17, 18, 19, 20, 21, 22, 23, 24, 25, 26, 27, 28, 29, 30, 31, 32, 33, 34, 35, 36, 37, 38, 39, 40, 41, 42, 43, 44, 45, 46] (by decide +kernel) (by decide +kernel)
set_option maxRecDepth 20000 in
theorem gX8_areMates_X8_parts : GoodIn wsX8_areMates (wsV RX8 143 RX8 yX8_parts wsX8_parts) := goodIn_app (goodIn_of _ (by decide +kernel)) ggX8_areMates_X8_parts
set_option maxRecDepth 20000 in
theorem ggX8_areMates_X8_at : GoodIn wsX8_areMates wsX8_at := goodIn_r _ [9] (by decide +kernel) (by decide +kernel)
set_option maxRecDepth 20000 in
theorem gX8_areMates_X8_at : GoodIn wsX8_areMates (va_wsS RX8 82 yX8_at wsX8_at) := goodIn_app (goodIn_of _ (by decide +kernel)) ggX8_areMates_X8_at
theorem dX8_areMates_0 : decode cX8_areMates 0 = .ok (.aload_n 0, 1) := by decide +kernel
theorem dX8_areMates_1 : decode cX8_areMates 1 = .ok (.iload_n 1, 1) := by decide +kernel
theorem dX8_areMates_2 : decode cX8_areMates 2 = .ok (.iconst 4, 1) := by decide +kernel
theorem dX8_areMates_3 : decode cX8_areMates 3 = .ok (.invokevirtual 102, 3) := by decide +kernel
theorem dX8_areMates_6 : decode cX8_areMates 6 = .ok (.iload_n 2, 1) := by decide +kernel
theorem dX8_areMates_7 : decode cX8_areMates 7 = .ok (.if_icmp .ne 5, 3) := by decide +kernel
theorem dX8_areMates_10 : decode cX8_areMates 10 = .ok (.iconst 0, 1) := by decide +kernel
theorem dX8_areMates_11 : decode cX8_areMates 11 = .ok (.ireturn, 1) := by decide +kernel
theorem dX8_areMates_12 : decode cX8_areMates 12 = .ok (.aload_n 0, 1) := by decide +kernel
theorem dX8_areMates_13 : decode cX8_areMates 13 = .ok (.iload_n 1, 1) := by decide +kernel
theorem dX8_areMates_14 : decode cX8_areMates 14 = .ok (.invokevirtual 143, 3) := by decide +kernel
theorem dX8_areMates_17 : decode cX8_areMates 17 = .ok (.istore_n 3, 1) := by decide +kernel
theorem dX8_areMates_18 : decode cX8_areMates 18 = .ok (.iload_n 3, 1) := by decide +kernel
theorem dX8_areMates_19 : decode cX8_areMates 19 = .ok (.aload_n 0, 1) := by decide +kernel
theorem dX8_areMates_20 : decode cX8_areMates 20 = .ok (.iload_n 2, 1) := by decide +kernel
theorem dX8_areMates_21 : decode cX8_areMates 21 = .ok (.invokevirtual 143, 3) := by decide +kernel
theorem dX8_areMates_24 : decode cX8_areMates 24 = .ok (.iadd, 1) := by decide +kernel
theorem dX8_areMates_25 : decode cX8_areMates 25 = .ok (.istore_n 3, 1) := by decide +kernel
theorem dX8_areMates_26 : decode cX8_areMates 26 = .ok (.aload_n 0, 1) := by decide +kernel
theorem dX8_areMates_27 : decode cX8_areMates 27 = .ok (.getfield 9, 3) := by decide +kernel
theorem dX8_areMates_30 : decode cX8_areMates 30 = .ok (.iload_n 1, 1) := by decide +kernel
theorem dX8_areMates_31 : decode cX8_areMates 31 = .ok (.iconst 4, 1) := by decide +kernel
theorem dX8_areMates_32 : decode cX8_areMates 32 = .ok (.invokestatic 82, 3) := by decide +kernel
theorem dX8_areMates_35 : decode cX8_areMates 35 = .ok (.iload_n 2, 1) := by decide +kernel
theorem dX8_areMates_36 : decode cX8_areMates 36 = .ok (.iastore, 1) := by decide +kernel
theorem dX8_areMates_37 : decode cX8_areMates 37 = .ok (.aload_n 0, 1) := by decide +kernel
theorem dX8_areMates_38 : decode cX8_areMates 38 = .ok (.getfield 9, 3) := by decide +kernel
theorem dX8_areMates_41 : decode cX8_areMates 41 = .ok (.iload_n 2, 1) := by decide +kernel
theorem dX8_areMates_42 : decode cX8_areMates 42 = .ok (.iconst 4, 1) := by decide +kernel
theorem dX8_areMates_43 : decode cX8_areMates 43 = .ok (.invokestatic 82, 3) := by decide +kernel
theorem dX8_areMates_46 : decode cX8_areMates 46 = .ok (.iload_n 1, 1) := by decide +kernel
theorem dX8_areMates_47 : decode cX8_areMates 47 = .ok (.iastore, 1) := by decide +kernel
theorem dX8_areMates_48 : decode cX8_areMates 48 = .ok (.iload_n 3, 1) := by decide +kernel
theorem dX8_areMates_49 : decode cX8_areMates 49 = .ok (.bipush (-2), 2) := by decide +kernel
theorem dX8_areMates_51 : decode cX8_areMates 51 = .ok (.if_icmp .ge 7, 3) := by decide +kernel
theorem dX8_areMates_54 : decode cX8_areMates 54 = .ok (.iconst 0, 1) := by decide +kernel
theorem dX8_areMates_55 : decode cX8_areMates 55 = .ok (.goto 4, 3) := by decide +kernel
theorem dX8_areMates_58 : decode cX8_areMates 58 = .ok (.iconst 1, 1) := by decide +kernel
theorem dX8_areMates_59 : decode cX8_areMates 59 = .ok (.ireturn, 1) := by decide +kernel
set_option maxRecDepth 20000 in
theorem ggX8_areTwo_X8_isPerson : GoodIn wsX8_areTwo wsX8_isPerson := goodIn_r _ [5, 6, 7, 8, 4, 9, 10, 11, 12, 13, 14, 15, 16, 17, 18, 19, 20, 21, 22, 23, 24, 25, 26, 27, 28, 29, 30, 31, 32, 33, 34, 35, 36, 37, 38] (by decide +kernel) (by decide +kernel)
set_option maxRecDepth 20000 in
theorem gX8_areTwo_X8_isPerson : GoodIn wsX8_areTwo (wsV RX8 130 RX8 yX8_isPerson wsX8_isPerson) := goodIn_app (goodIn_of _ (by decide +kernel)) ggX8_areTwo_X8_isPerson
theorem dX8_areTwo_0 : decode cX8_areTwo 0 = .ok (.aload_n 0, 1) := by decide +kernel
theorem dX8_areTwo_1 : decode cX8_areTwo 1 = .ok (.iload_n 1, 1) := by decide +kernel
theorem dX8_areTwo_2 : decode cX8_areTwo 2 = .ok (.invokevirtual 130, 3) := by decide +kernel
theorem dX8_areTwo_5 : decode cX8_areTwo 5 = .ok (.ifCond .eq 20, 3) := by decide +kernel
theorem dX8_areTwo_8 : decode cX8_areTwo 8 = .ok (.aload_n 0, 1) := by decide +kernel
theorem dX8_areTwo_9 : decode cX8_areTwo 9 = .ok (.iload_n 2, 1) := by decide +kernel
theorem dX8_areTwo_10 : decode cX8_areTwo 10 = .ok (.invokevirtual 130, 3) := by decide +kernel
theorem dX8_areTwo_13 : decode cX8_areTwo 13 = .ok (.ifCond .eq 12, 3) := by decide +kernel
theorem dX8_areTwo_16 : decode cX8_areTwo 16 = .ok (.iload_n 1, 1) := by decide +kernel
theorem dX8_areTwo_17 : decode cX8_areTwo 17 = .ok (.iload_n 2, 1) := by decide +kernel
theorem dX8_areTwo_18 : decode cX8_areTwo 18 = .ok (.if_icmp .eq 7, 3) := by decide +kernel
theorem dX8_areTwo_21 : decode cX8_areTwo 21 = .ok (.iconst 1, 1) := by decide +kernel
theorem dX8_areTwo_22 : decode cX8_areTwo 22 = .ok (.goto 4, 3) := by decide +kernel
theorem dX8_areTwo_25 : decode cX8_areTwo 25 = .ok (.iconst 0, 1) := by decide +kernel
theorem dX8_areTwo_26 : decode cX8_areTwo 26 = .ok (.ireturn, 1) := by decide +kernel
set_option maxRecDepth 20000 in
theorem ggX8_share_X8_areTwo : GoodIn wsX8_share wsX8_areTwo := goodIn_r _ [6, 7, 8, 9, 5, 10, 11, 12, 13, 14, 39, 40, 41, 42, 43, 44, 45, 46, 47, 48, 49, 50, 51, 52, 53, 54, 55, 56, 57, 58, 59, 60, 61, 62, 63, 64, 65, 66, 67] (by decide +kernel) (by decide +kernel)
set_option maxRecDepth 20000 in
theorem gX8_share_X8_areTwo : GoodIn wsX8_share (wsV RX8 146 RX8 yX8_areTwo wsX8_areTwo) := goodIn_app (goodIn_of _ (by decide +kernel)) ggX8_share_X8_areTwo
set_option maxRecDepth 20000 in
theorem ggX8_share_X8_areMates : GoodIn wsX8_share wsX8_areMates := goodIn_r _ [18, 11, 19, 20, 21, 5, 22, 23, 24, 25, 26, 27, 28, 29, 30, 31, 32, 33, 39, 40, 41, 42, 43, 44, 45, 46, 47, 48, 49, 50, 51, 52, 53, 54, 55, 56, 57, 58, 59, 60, 61, 62, 63, 64, 65, 66, 67] (by decide +kernel) (by decide +kernel)
set_option maxRecDepth 20000 in
theorem gX8_share_X8_areMates : GoodIn wsX8_share (wsV RX8 149 RX8 yX8_areMates wsX8_areMates) := goodIn_app (goodIn_of _ (by decide +kernel)) ggX8_share_X8_areMates
set_option maxRecDepth 20000 in
theorem ggX8_share_X8_finding : GoodIn wsX8_share wsX8_finding := goodIn_r _ [37, 38, 1, 39, 40, 41, 42, 43, 44, 45, 46, 47, 48, 49, 50, 51, 52, 53, 54, 55, 56, 57, 58, 59, 60, 61, 62, 63, 64, 65, 66, 67] (by decide +kernel) (by decide +kernel)
set_option maxRecDepth 20000 in
theorem gX8_share_X8_finding : GoodIn wsX8_share (wsV RX8 90 RX8 yX8_finding wsX8_finding) := goodIn_app (goodIn_of _ (by decide +kernel)) ggX8_share_X8_finding
theorem dX8_share_0 : decode cX8_share 0 = .ok (.aload_n 0, 1) := by decide +kernel
theorem dX8_share_1 : decode cX8_share 1 = .ok (.iload_n 1, 1) := by decide +kernel
theorem dX8_share_2 : decode cX8_share 2 = .ok (.iload_n 2, 1) := by decide +kernel
theorem dX8_share_3 : decode cX8_share 3 = .ok (.invokevirtual 146, 3) := by decide +kernel
theorem dX8_share_6 : decode cX8_share 6 = .ok (.ifCond .eq 12, 3) := by decide +kernel
theorem dX8_share_9 : decode cX8_share 9 = .ok (.aload_n 0, 1) := by decide +kernel
theorem dX8_share_10 : decode cX8_share 10 = .ok (.iload_n 1, 1) := by decide +kernel
theorem dX8_share_11 : decode cX8_share 11 = .ok (.iload_n 2, 1) := by decide +kernel
theorem dX8_share_12 : decode cX8_share 12 = .ok (.invokevirtual 149, 3) := by decide +kernel
theorem dX8_share_15 : decode cX8_share 15 = .ok (.goto 9, 3) := by decide +kernel
theorem dX8_share_18 : decode cX8_share 18 = .ok (.aload_n 0, 1) := by decide +kernel
theorem dX8_share_19 : decode cX8_share 19 = .ok (.ldc 73, 2) := by decide +kernel
theorem dX8_share_21 : decode cX8_share 21 = .ok (.invokevirtual 90, 3) := by decide +kernel
theorem dX8_share_24 : decode cX8_share 24 = .ok (.ireturn, 1) := by decide +kernel
set_option maxRecDepth 20000 in
theorem ggX8_part_X8_isPerson : GoodIn wsX8_part wsX8_isPerson := goodIn_r _ [7, 8, 9, 10, 6, 11, 32, 33, 34, 35, 36, 37, 38, 39, 40, 41, 42, 43, 44, 45, 46, 47, 48, 49, 50, 51, 52, 53, 54, 55, 56, 57, 58, 59, 60] (by decide +kernel) (by decide +kernel)
set_option maxRecDepth 20000 in
theorem gX8_part_X8_isPerson : GoodIn wsX8_part (wsV RX8 130 RX8 yX8_isPerson wsX8_isPerson) := goodIn_app (goodIn_of _ (by decide +kernel)) ggX8_part_X8_isPerson
set_option maxRecDepth 20000 in
theorem ggX8_part_X8_finding : GoodIn wsX8_part wsX8_finding := goodIn_r _ [15, 16, 1, 32, 33, 34, 35, 36, 37, 38, 39, 40, 41, 42, 43, 44, 45, 46, 47, 48, 49, 50, 51, 52, 53, 54, 55, 56, 57, 58, 59, 60] (by decide +kernel) (by decide +kernel)
set_option maxRecDepth 20000 in
theorem gX8_part_X8_finding : GoodIn wsX8_part (wsV RX8 90 RX8 yX8_finding wsX8_finding) := goodIn_app (goodIn_of _ (by decide +kernel)) ggX8_part_X8_finding
set_option maxRecDepth 20000 in
theorem ggX8_part_X8_personIs : GoodIn wsX8_part wsX8_personIs := goodIn_r _ [20, 8, 21, 22, 6, 23, 32, 33, 34, 35, 36, 37, 38, 39, 40, 41, 42, 43, 44, 45, 46, 47, 48, 49, 50, 51, 52, 53, 54, 55, 56, 57, 58, 59, 60] (by decide +kernel) (by decide +kernel)
set_option maxRecDepth 20000 in
theorem gX8_part_X8_personIs : GoodIn wsX8_part (wsV RX8 102 RX8 yX8_personIs wsX8_personIs) := goodIn_app (goodIn_of _ (by decide +kernel)) ggX8_part_X8_personIs
set_option maxRecDepth 20000 in
theorem ggX8_part_X8_parts : GoodIn wsX8_part wsX8_parts := goodIn_r _ [27, 8, 21, 22, 6, 23, 28, 29, 30, 31, 32, 33, 34, 35, 36, 37, 38, 39, 40, 41, 42, 43, 44, 45, 46, 47, 48, 49, 50, 51, 52, 53, 54, 55, 56, 57, 58, 59, 60] (by decide +kernel) (by decide +kernel)
set_option maxRecDepth 20000 in
theorem gX8_part_X8_parts : GoodIn wsX8_part (wsV RX8 143 RX8 yX8_parts wsX8_parts) := goodIn_app (goodIn_of _ (by decide +kernel)) ggX8_part_X8_parts
theorem dX8_part_0 : decode cX8_part 0 = .ok (.aload_n 0, 1) := by decide +kernel
theorem dX8_part_1 : decode cX8_part 1 = .ok (.iload_n 1, 1) := by decide +kernel
theorem dX8_part_2 : decode cX8_part 2 = .ok (.invokevirtual 130, 3) := by decide +kernel
theorem dX8_part_5 : decode cX8_part 5 = .ok (.ifCond .ne 10, 3) := by decide +kernel
theorem dX8_part_8 : decode cX8_part 8 = .ok (.aload_n 0, 1) := by decide +kernel
theorem dX8_part_9 : decode cX8_part 9 = .ok (.ldc 73, 2) := by decide +kernel
theorem dX8_part_11 : decode cX8_part 11 = .ok (.invokevirtual 90, 3) := by decide +kernel
theorem dX8_part_14 : decode cX8_part 14 = .ok (.ireturn, 1) := by decide +kernel
theorem dX8_part_15 : decode cX8_part 15 = .ok (.aload_n 0, 1) := by decide +kernel
theorem dX8_part_16 : decode cX8_part 16 = .ok (.iload_n 1, 1) := by decide +kernel
theorem dX8_part_17 : decode cX8_part 17 = .ok (.iconst 4, 1) := by decide +kernel
theorem dX8_part_18 : decode cX8_part 18 = .ok (.invokevirtual 102, 3) := by decide +kernel
theorem dX8_part_21 : decode cX8_part 21 = .ok (.ifCond .ge 12, 3) := by decide +kernel
theorem dX8_part_24 : decode cX8_part 24 = .ok (.aload_n 0, 1) := by decide +kernel
theorem dX8_part_25 : decode cX8_part 25 = .ok (.ldc 152, 2) := by decide +kernel
theorem dX8_part_27 : decode cX8_part 27 = .ok (.invokevirtual 90, 3) := by decide +kernel
theorem dX8_part_30 : decode cX8_part 30 = .ok (.goto 8, 3) := by decide +kernel
theorem dX8_part_33 : decode cX8_part 33 = .ok (.aload_n 0, 1) := by decide +kernel
theorem dX8_part_34 : decode cX8_part 34 = .ok (.iload_n 1, 1) := by decide +kernel
theorem dX8_part_35 : decode cX8_part 35 = .ok (.invokevirtual 143, 3) := by decide +kernel
theorem dX8_part_38 : decode cX8_part 38 = .ok (.ireturn, 1) := by decide +kernel
set_option maxRecDepth 20000 in
theorem ggX8_light_X8_isHours : GoodIn wsX8_light wsX8_isHours := goodIn_r _ [5, 6, 7, 8, 4, 9] (by decide +kernel) (by decide +kernel)
set_option maxRecDepth 20000 in
theorem gX8_light_X8_isHours : GoodIn wsX8_light (va_wsS RX8 137 yX8_isHours wsX8_isHours) := goodIn_app (goodIn_of _ (by decide +kernel)) ggX8_light_X8_isHours
set_option maxRecDepth 20000 in
theorem ggX8_light_X8_become : GoodIn wsX8_light wsX8_become := goodIn_r _ [13, 14, 20, 21, 22, 23, 24, 25, 26, 27, 28, 29, 30, 31, 32, 33, 34, 35, 36, 37, 38, 39, 40, 41, 42, 43, 44, 45, 46, 47, 48] (by decide +kernel) (by decide +kernel)
set_option maxRecDepth 20000 in
theorem gX8_light_X8_become : GoodIn wsX8_light (wsV RX8 140 RX8 yX8_become wsX8_become) := goodIn_app (goodIn_of _ (by decide +kernel)) ggX8_light_X8_become
set_option maxRecDepth 20000 in
theorem ggX8_light_X8_finding : GoodIn wsX8_light wsX8_finding := goodIn_r _ [18, 19, 1, 20, 21, 22, 23, 24, 25, 26, 27, 28, 29, 30, 31, 32, 33, 34, 35, 36, 37, 38, 39, 40, 41, 42, 43, 44, 45, 46, 47, 48] (by decide +kernel) (by decide +kernel)
set_option maxRecDepth 20000 in
theorem gX8_light_X8_finding : GoodIn wsX8_light (wsV RX8 90 RX8 yX8_finding wsX8_finding) := goodIn_app (goodIn_of _ (by decide +kernel)) ggX8_light_X8_finding
theorem dX8_light_0 : decode cX8_light 0 = .ok (.iload_n 1, 1) := by decide +kernel
theorem dX8_light_1 : decode cX8_light 1 = .ok (.invokestatic 137, 3) := by decide +kernel
theorem dX8_light_4 : decode cX8_light 4 = .ok (.ifCond .eq 12, 3) := by decide +kernel
theorem dX8_light_7 : decode cX8_light 7 = .ok (.aload_n 0, 1) := by decide +kernel
theorem dX8_light_8 : decode cX8_light 8 = .ok (.iconst 3, 1) := by decide +kernel
theorem dX8_light_9 : decode cX8_light 9 = .ok (.iload_n 1, 1) := by decide +kernel
theorem dX8_light_10 : decode cX8_light 10 = .ok (.invokevirtual 140, 3) := by decide +kernel
theorem dX8_light_13 : decode cX8_light 13 = .ok (.goto 9, 3) := by decide +kernel
theorem dX8_light_16 : decode cX8_light 16 = .ok (.aload_n 0, 1) := by decide +kernel
theorem dX8_light_17 : decode cX8_light 17 = .ok (.ldc 73, 2) := by decide +kernel
theorem dX8_light_19 : decode cX8_light 19 = .ok (.invokevirtual 90, 3) := by decide +kernel
theorem dX8_light_22 : decode cX8_light 22 = .ok (.ireturn, 1) := by decide +kernel
set_option maxRecDepth 20000 in
theorem ggX8_claim_X8_isPerson : GoodIn wsX8_claim wsX8_isPerson := goodIn_r _ [6, 7, 8, 9, 5, 10, 27, 28, 29, 30, 31, 32, 33, 34, 35, 36, 37, 38, 39, 40, 41, 42, 43, 44, 45, 46, 47, 48, 49, 50, 51, 52, 53, 54, 55] (by decide +kernel) (by decide +kernel)
set_option maxRecDepth 20000 in
theorem gX8_claim_X8_isPerson : GoodIn wsX8_claim (wsV RX8 130 RX8 yX8_isPerson wsX8_isPerson) := goodIn_app (goodIn_of _ (by decide +kernel)) ggX8_claim_X8_isPerson
set_option maxRecDepth 20000 in
theorem ggX8_claim_X8_within : GoodIn wsX8_claim wsX8_within := goodIn_r _ [10] (by decide +kernel) (by decide +kernel)
set_option maxRecDepth 20000 in
theorem gX8_claim_X8_within : GoodIn wsX8_claim (va_wsS RX8 78 yX8_within wsX8_within) := goodIn_app (goodIn_of _ (by decide +kernel)) ggX8_claim_X8_within
set_option maxRecDepth 20000 in
theorem ggX8_claim_X8_claimOf : GoodIn wsX8_claim wsX8_claimOf := goodIn_r _ [14, 15, 16, 17, 5, 18, 7, 19, 20, 21, 27, 28, 29, 30, 31, 32, 33, 34, 35, 36, 37, 38, 39, 40, 41, 42, 43, 44, 45, 46, 47, 48, 49, 50, 51, 52, 53, 54, 55] (by decide +kernel) (by decide +kernel)
set_option maxRecDepth 20000 in
theorem gX8_claim_X8_claimOf : GoodIn wsX8_claim (wsV RX8 113 RX8 yX8_claimOf wsX8_claimOf) := goodIn_app (goodIn_of _ (by decide +kernel)) ggX8_claim_X8_claimOf
set_option maxRecDepth 20000 in
theorem ggX8_claim_X8_finding : GoodIn wsX8_claim wsX8_finding := goodIn_r _ [25, 26, 1, 27, 28, 29, 30, 31, 32, 33, 34, 35, 36, 37, 38, 39, 40, 41, 42, 43, 44, 45, 46, 47, 48, 49, 50, 51, 52, 53, 54, 55] (by decide +kernel) (by decide +kernel)
set_option maxRecDepth 20000 in
theorem gX8_claim_X8_finding : GoodIn wsX8_claim (wsV RX8 90 RX8 yX8_finding wsX8_finding) := goodIn_app (goodIn_of _ (by decide +kernel)) ggX8_claim_X8_finding
theorem dX8_claim_0 : decode cX8_claim 0 = .ok (.aload_n 0, 1) := by decide +kernel
theorem dX8_claim_1 : decode cX8_claim 1 = .ok (.iload_n 1, 1) := by decide +kernel
theorem dX8_claim_2 : decode cX8_claim 2 = .ok (.invokevirtual 130, 3) := by decide +kernel
theorem dX8_claim_5 : decode cX8_claim 5 = .ok (.ifCond .eq 22, 3) := by decide +kernel
theorem dX8_claim_8 : decode cX8_claim 8 = .ok (.iload_n 2, 1) := by decide +kernel
theorem dX8_claim_9 : decode cX8_claim 9 = .ok (.iconst 0, 1) := by decide +kernel
theorem dX8_claim_10 : decode cX8_claim 10 = .ok (.bipush 15, 2) := by decide +kernel
theorem dX8_claim_12 : decode cX8_claim 12 = .ok (.invokestatic 78, 3) := by decide +kernel
theorem dX8_claim_15 : decode cX8_claim 15 = .ok (.ifCond .eq 12, 3) := by decide +kernel
theorem dX8_claim_18 : decode cX8_claim 18 = .ok (.aload_n 0, 1) := by decide +kernel
theorem dX8_claim_19 : decode cX8_claim 19 = .ok (.iload_n 1, 1) := by decide +kernel
theorem dX8_claim_20 : decode cX8_claim 20 = .ok (.iload_n 2, 1) := by decide +kernel
theorem dX8_claim_21 : decode cX8_claim 21 = .ok (.invokevirtual 113, 3) := by decide +kernel
theorem dX8_claim_24 : decode cX8_claim 24 = .ok (.goto 9, 3) := by decide +kernel
theorem dX8_claim_27 : decode cX8_claim 27 = .ok (.aload_n 0, 1) := by decide +kernel
theorem dX8_claim_28 : decode cX8_claim 28 = .ok (.ldc 73, 2) := by decide +kernel
theorem dX8_claim_30 : decode cX8_claim 30 = .ok (.invokevirtual 90, 3) := by decide +kernel
theorem dX8_claim_33 : decode cX8_claim 33 = .ok (.ireturn, 1) := by decide +kernel
set_option maxRecDepth 20000 in
theorem ggX8_hour_X8_whoHave : GoodIn wsX8_hour wsX8_whoHave := goodIn_r _ [13, 1, 14, 15, 16, 12, 17, 18, 19, 20, 21, 22, 23, 24, 25, 26, 27, 28, 29, 30, 31, 32, 33, 34, 35, 6, 7, 4, 8, 2, 3, 5, 36, 37, 38, 39, 40, 41, 42, 43, 44, 45, 46, 47, 48, 49, 50, 51, 52, 53, 54, 55, 56, 57, 58, 59, 60, 61, 62, 63, 64, 65, 66, 67, 68] (by decide +kernel) (by decide +kernel)
set_option maxRecDepth 20000 in
theorem gX8_hour_X8_whoHave : GoodIn wsX8_hour (wsV RX8 153 RX8 yX8_whoHave wsX8_whoHave) := goodIn_app (goodIn_of _ (by decide +kernel)) ggX8_hour_X8_whoHave
set_option maxRecDepth 20000 in
theorem ggX8_hour_X8_personIs : GoodIn wsX8_hour wsX8_personIs := goodIn_r _ [21, 1, 22, 23, 12, 24, 40, 41, 42, 43, 44, 45, 46, 47, 48, 49, 50, 51, 52, 53, 54, 55, 56, 57, 58, 59, 60, 61, 62, 63, 64, 65, 66, 67, 68] (by decide +kernel) (by decide +kernel)
set_option maxRecDepth 20000 in
theorem gX8_hour_X8_personIs : GoodIn wsX8_hour (wsV RX8 102 RX8 yX8_personIs wsX8_personIs) := goodIn_app (goodIn_of _ (by decide +kernel)) ggX8_hour_X8_personIs
set_option maxRecDepth 20000 in
theorem ggX8_hour_X8_has : GoodIn wsX8_hour wsX8_has := goodIn_r _ [31] (by decide +kernel) (by decide +kernel)
set_option maxRecDepth 20000 in
theorem gX8_hour_X8_has : GoodIn wsX8_hour (va_wsS RX8 116 yX8_has wsX8_has) := goodIn_app (goodIn_of _ (by decide +kernel)) ggX8_hour_X8_has
set_option maxRecDepth 20000 in
theorem ggX8_hour_X8_isLit : GoodIn wsX8_hour wsX8_isLit := goodIn_r _ [28, 1, 29, 30, 12, 31, 40, 41, 42, 43, 44, 45, 46, 47, 48, 49, 50, 51, 52, 53, 54, 55, 56, 57, 58, 59, 60, 61, 62, 63, 64, 65, 66, 67, 68] (by decide +kernel) (by decide +kernel)
set_option maxRecDepth 20000 in
theorem gX8_hour_X8_isLit : GoodIn wsX8_hour (wsV RX8 120 RX8 yX8_isLit wsX8_isLit) := goodIn_app (goodIn_of _ (by decide +kernel)) ggX8_hour_X8_isLit
set_option maxRecDepth 20000 in
theorem ggX8_hour_X8_at : GoodIn wsX8_hour wsX8_at := goodIn_r _ [24] (by decide +kernel) (by decide +kernel)
set_option maxRecDepth 20000 in
theorem gX8_hour_X8_at : GoodIn wsX8_hour (va_wsS RX8 82 yX8_at wsX8_at) := goodIn_app (goodIn_of _ (by decide +kernel)) ggX8_hour_X8_at
theorem dX8_hour_0 : decode cX8_hour 0 = .ok (.aload_n 0, 1) := by decide +kernel
theorem dX8_hour_1 : decode cX8_hour 1 = .ok (.getfield 9, 3) := by decide +kernel
theorem dX8_hour_4 : decode cX8_hour 4 = .ok (.iconst 0, 1) := by decide +kernel
theorem dX8_hour_5 : decode cX8_hour 5 = .ok (.iaload, 1) := by decide +kernel
theorem dX8_hour_6 : decode cX8_hour 6 = .ok (.istore_n 1, 1) := by decide +kernel
theorem dX8_hour_7 : decode cX8_hour 7 = .ok (.aload_n 0, 1) := by decide +kernel
theorem dX8_hour_8 : decode cX8_hour 8 = .ok (.iload_n 1, 1) := by decide +kernel
theorem dX8_hour_9 : decode cX8_hour 9 = .ok (.invokevirtual 153, 3) := by decide +kernel
theorem dX8_hour_12 : decode cX8_hour 12 = .ok (.istore_n 2, 1) := by decide +kernel
theorem dX8_hour_13 : decode cX8_hour 13 = .ok (.iconst 0, 1) := by decide +kernel
theorem dX8_hour_14 : decode cX8_hour 14 = .ok (.istore_n 3, 1) := by decide +kernel
theorem dX8_hour_15 : decode cX8_hour 15 = .ok (.iload_n 3, 1) := by decide +kernel
theorem dX8_hour_16 : decode cX8_hour 16 = .ok (.aload_n 0, 1) := by decide +kernel
theorem dX8_hour_17 : decode cX8_hour 17 = .ok (.getfield 9, 3) := by decide +kernel
theorem dX8_hour_20 : decode cX8_hour 20 = .ok (.iconst 4, 1) := by decide +kernel
theorem dX8_hour_21 : decode cX8_hour 21 = .ok (.iaload, 1) := by decide +kernel
theorem dX8_hour_22 : decode cX8_hour 22 = .ok (.if_icmp .ge 151, 3) := by decide +kernel
theorem dX8_hour_25 : decode cX8_hour 25 = .ok (.aload_n 0, 1) := by decide +kernel
theorem dX8_hour_26 : decode cX8_hour 26 = .ok (.iload_n 3, 1) := by decide +kernel
theorem dX8_hour_27 : decode cX8_hour 27 = .ok (.iconst 3, 1) := by decide +kernel
theorem dX8_hour_28 : decode cX8_hour 28 = .ok (.invokevirtual 102, 3) := by decide +kernel
theorem dX8_hour_31 : decode cX8_hour 31 = .ok (.iload_n 1, 1) := by decide +kernel
theorem dX8_hour_32 : decode cX8_hour 32 = .ok (.invokestatic 116, 3) := by decide +kernel
theorem dX8_hour_35 : decode cX8_hour 35 = .ok (.istore 4, 2) := by decide +kernel
theorem dX8_hour_37 : decode cX8_hour 37 = .ok (.aload_n 0, 1) := by decide +kernel
theorem dX8_hour_38 : decode cX8_hour 38 = .ok (.iload_n 1, 1) := by decide +kernel
theorem dX8_hour_39 : decode cX8_hour 39 = .ok (.invokevirtual 120, 3) := by decide +kernel
theorem dX8_hour_42 : decode cX8_hour 42 = .ok (.ifCond .eq 11, 3) := by decide +kernel
theorem dX8_hour_45 : decode cX8_hour 45 = .ok (.iload_n 2, 1) := by decide +kernel
theorem dX8_hour_46 : decode cX8_hour 46 = .ok (.iload_n 3, 1) := by decide +kernel
theorem dX8_hour_47 : decode cX8_hour 47 = .ok (.invokestatic 116, 3) := by decide +kernel
theorem dX8_hour_50 : decode cX8_hour 50 = .ok (.ifCond .eq 7, 3) := by decide +kernel
theorem dX8_hour_53 : decode cX8_hour 53 = .ok (.iconst 1, 1) := by decide +kernel
theorem dX8_hour_54 : decode cX8_hour 54 = .ok (.goto 4, 3) := by decide +kernel
theorem dX8_hour_57 : decode cX8_hour 57 = .ok (.iconst 0, 1) := by decide +kernel
theorem dX8_hour_58 : decode cX8_hour 58 = .ok (.istore 5, 2) := by decide +kernel
theorem dX8_hour_60 : decode cX8_hour 60 = .ok (.aload_n 0, 1) := by decide +kernel
theorem dX8_hour_61 : decode cX8_hour 61 = .ok (.getfield 9, 3) := by decide +kernel
theorem dX8_hour_64 : decode cX8_hour 64 = .ok (.iconst 1, 1) := by decide +kernel
theorem dX8_hour_65 : decode cX8_hour 65 = .ok (.dup2, 1) := by decide +kernel
theorem dX8_hour_66 : decode cX8_hour 66 = .ok (.iaload, 1) := by decide +kernel
theorem dX8_hour_67 : decode cX8_hour 67 = .ok (.iload 4, 2) := by decide +kernel
theorem dX8_hour_69 : decode cX8_hour 69 = .ok (.ifCond .eq 12, 3) := by decide +kernel
theorem dX8_hour_72 : decode cX8_hour 72 = .ok (.iload 5, 2) := by decide +kernel
theorem dX8_hour_74 : decode cX8_hour 74 = .ok (.ifCond .eq 7, 3) := by decide +kernel
theorem dX8_hour_77 : decode cX8_hour 77 = .ok (.iconst 1, 1) := by decide +kernel
theorem dX8_hour_78 : decode cX8_hour 78 = .ok (.goto 4, 3) := by decide +kernel
theorem dX8_hour_81 : decode cX8_hour 81 = .ok (.iconst 0, 1) := by decide +kernel
theorem dX8_hour_82 : decode cX8_hour 82 = .ok (.iadd, 1) := by decide +kernel
theorem dX8_hour_83 : decode cX8_hour 83 = .ok (.iastore, 1) := by decide +kernel
theorem dX8_hour_84 : decode cX8_hour 84 = .ok (.aload_n 0, 1) := by decide +kernel
theorem dX8_hour_85 : decode cX8_hour 85 = .ok (.getfield 9, 3) := by decide +kernel
theorem dX8_hour_88 : decode cX8_hour 88 = .ok (.iconst 2, 1) := by decide +kernel
theorem dX8_hour_89 : decode cX8_hour 89 = .ok (.dup2, 1) := by decide +kernel
theorem dX8_hour_90 : decode cX8_hour 90 = .ok (.iaload, 1) := by decide +kernel
theorem dX8_hour_91 : decode cX8_hour 91 = .ok (.iload 4, 2) := by decide +kernel
theorem dX8_hour_93 : decode cX8_hour 93 = .ok (.ifCond .eq 12, 3) := by decide +kernel
theorem dX8_hour_96 : decode cX8_hour 96 = .ok (.iload 5, 2) := by decide +kernel
theorem dX8_hour_98 : decode cX8_hour 98 = .ok (.ifCond .ne 7, 3) := by decide +kernel
theorem dX8_hour_101 : decode cX8_hour 101 = .ok (.iconst 1, 1) := by decide +kernel
theorem dX8_hour_102 : decode cX8_hour 102 = .ok (.goto 4, 3) := by decide +kernel
theorem dX8_hour_105 : decode cX8_hour 105 = .ok (.iconst 0, 1) := by decide +kernel
theorem dX8_hour_106 : decode cX8_hour 106 = .ok (.iadd, 1) := by decide +kernel
theorem dX8_hour_107 : decode cX8_hour 107 = .ok (.iastore, 1) := by decide +kernel
theorem dX8_hour_108 : decode cX8_hour 108 = .ok (.aload_n 0, 1) := by decide +kernel
theorem dX8_hour_109 : decode cX8_hour 109 = .ok (.iload_n 3, 1) := by decide +kernel
theorem dX8_hour_110 : decode cX8_hour 110 = .ok (.iconst 1, 1) := by decide +kernel
theorem dX8_hour_111 : decode cX8_hour 111 = .ok (.invokevirtual 102, 3) := by decide +kernel
theorem dX8_hour_114 : decode cX8_hour 114 = .ok (.istore 6, 2) := by decide +kernel
theorem dX8_hour_116 : decode cX8_hour 116 = .ok (.aload_n 0, 1) := by decide +kernel
theorem dX8_hour_117 : decode cX8_hour 117 = .ok (.getfield 9, 3) := by decide +kernel
theorem dX8_hour_120 : decode cX8_hour 120 = .ok (.iload_n 3, 1) := by decide +kernel
theorem dX8_hour_121 : decode cX8_hour 121 = .ok (.iconst 1, 1) := by decide +kernel
theorem dX8_hour_122 : decode cX8_hour 122 = .ok (.invokestatic 82, 3) := by decide +kernel
theorem dX8_hour_125 : decode cX8_hour 125 = .ok (.aload_n 0, 1) := by decide +kernel
theorem dX8_hour_126 : decode cX8_hour 126 = .ok (.iload_n 1, 1) := by decide +kernel
theorem dX8_hour_127 : decode cX8_hour 127 = .ok (.invokevirtual 120, 3) := by decide +kernel
theorem dX8_hour_130 : decode cX8_hour 130 = .ok (.ifCond .ne 8, 3) := by decide +kernel
theorem dX8_hour_133 : decode cX8_hour 133 = .ok (.iload 6, 2) := by decide +kernel
theorem dX8_hour_135 : decode cX8_hour 135 = .ok (.goto 31, 3) := by decide +kernel
theorem dX8_hour_138 : decode cX8_hour 138 = .ok (.iload_n 2, 1) := by decide +kernel
theorem dX8_hour_139 : decode cX8_hour 139 = .ok (.iload_n 3, 1) := by decide +kernel
theorem dX8_hour_140 : decode cX8_hour 140 = .ok (.invokestatic 116, 3) := by decide +kernel
theorem dX8_hour_143 : decode cX8_hour 143 = .ok (.ifCond .eq 14, 3) := by decide +kernel
theorem dX8_hour_146 : decode cX8_hour 146 = .ok (.iconst 0, 1) := by decide +kernel
theorem dX8_hour_147 : decode cX8_hour 147 = .ok (.iload 6, 2) := by decide +kernel
theorem dX8_hour_149 : decode cX8_hour 149 = .ok (.iconst 1, 1) := by decide +kernel
theorem dX8_hour_150 : decode cX8_hour 150 = .ok (.isub, 1) := by decide +kernel
theorem dX8_hour_151 : decode cX8_hour 151 = .ok (.invokestatic 110, 3) := by decide +kernel
theorem dX8_hour_154 : decode cX8_hour 154 = .ok (.goto 12, 3) := by decide +kernel
theorem dX8_hour_157 : decode cX8_hour 157 = .ok (.bipush 99, 2) := by decide +kernel
theorem dX8_hour_159 : decode cX8_hour 159 = .ok (.iload 6, 2) := by decide +kernel
theorem dX8_hour_161 : decode cX8_hour 161 = .ok (.iconst 1, 1) := by decide +kernel
theorem dX8_hour_162 : decode cX8_hour 162 = .ok (.iadd, 1) := by decide +kernel
theorem dX8_hour_163 : decode cX8_hour 163 = .ok (.invokestatic 105, 3) := by decide +kernel
theorem dX8_hour_166 : decode cX8_hour 166 = .ok (.iastore, 1) := by decide +kernel
theorem dX8_hour_167 : decode cX8_hour 167 = .ok (.iinc 3 1, 3) := by decide +kernel
theorem dX8_hour_170 : decode cX8_hour 170 = .ok (.goto (-155), 3) := by decide +kernel
theorem dX8_hour_173 : decode cX8_hour 173 = .ok (.aload_n 0, 1) := by decide +kernel
theorem dX8_hour_174 : decode cX8_hour 174 = .ok (.getfield 9, 3) := by decide +kernel
theorem dX8_hour_177 : decode cX8_hour 177 = .ok (.iconst 0, 1) := by decide +kernel
theorem dX8_hour_178 : decode cX8_hour 178 = .ok (.dup2, 1) := by decide +kernel
theorem dX8_hour_179 : decode cX8_hour 179 = .ok (.iaload, 1) := by decide +kernel
theorem dX8_hour_180 : decode cX8_hour 180 = .ok (.iconst 1, 1) := by decide +kernel
theorem dX8_hour_181 : decode cX8_hour 181 = .ok (.iadd, 1) := by decide +kernel
theorem dX8_hour_182 : decode cX8_hour 182 = .ok (.iastore, 1) := by decide +kernel
theorem dX8_hour_183 : decode cX8_hour 183 = .ok (.return_, 1) := by decide +kernel
set_option maxRecDepth 20000 in
theorem ggX8_hoursGo_X8_hour : GoodIn wsX8_hoursGo wsX8_hour := goodIn_r _ [6, 1, 7, 8, 9, 10, 11, 12, 13, 14, 15, 16, 5, 17, 18, 19, 20, 21, 22, 23, 24, 25, 26, 27, 28, 29, 30, 31, 32, 33, 34, 35, 36, 37, 38, 39, 40, 41, 42, 43, 44, 45, 46, 47, 48, 49, 50, 51, 52, 53, 54, 55, 56, 57, 58, 59, 60, 61, 62, 63, 64, 65, 66, 67, 68, 69, 70, 71, 72] (by decide +kernel) (by decide +kernel)
set_option maxRecDepth 20000 in
theorem gX8_hoursGo_X8_hour : GoodIn wsX8_hoursGo (wsV RX8 156 RX8 yX8_hour wsX8_hour) := goodIn_app (goodIn_of _ (by decide +kernel)) ggX8_hoursGo_X8_hour
theorem dX8_hoursGo_0 : decode cX8_hoursGo 0 = .ok (.iconst 0, 1) := by decide +kernel
theorem dX8_hoursGo_1 : decode cX8_hoursGo 1 = .ok (.istore_n 2, 1) := by decide +kernel
theorem dX8_hoursGo_2 : decode cX8_hoursGo 2 = .ok (.iload_n 2, 1) := by decide +kernel
theorem dX8_hoursGo_3 : decode cX8_hoursGo 3 = .ok (.iload_n 1, 1) := by decide +kernel
theorem dX8_hoursGo_4 : decode cX8_hoursGo 4 = .ok (.if_icmp .ge 13, 3) := by decide +kernel
theorem dX8_hoursGo_7 : decode cX8_hoursGo 7 = .ok (.aload_n 0, 1) := by decide +kernel
theorem dX8_hoursGo_8 : decode cX8_hoursGo 8 = .ok (.invokevirtual 156, 3) := by decide +kernel
theorem dX8_hoursGo_11 : decode cX8_hoursGo 11 = .ok (.iinc 2 1, 3) := by decide +kernel
theorem dX8_hoursGo_14 : decode cX8_hoursGo 14 = .ok (.goto (-12), 3) := by decide +kernel
theorem dX8_hoursGo_17 : decode cX8_hoursGo 17 = .ok (.aload_n 0, 1) := by decide +kernel
theorem dX8_hoursGo_18 : decode cX8_hoursGo 18 = .ok (.getfield 9, 3) := by decide +kernel
theorem dX8_hoursGo_21 : decode cX8_hoursGo 21 = .ok (.iconst 1, 1) := by decide +kernel
theorem dX8_hoursGo_22 : decode cX8_hoursGo 22 = .ok (.iaload, 1) := by decide +kernel
theorem dX8_hoursGo_23 : decode cX8_hoursGo 23 = .ok (.ireturn, 1) := by decide +kernel
set_option maxRecDepth 20000 in
theorem ggX8_go_X8_within : GoodIn wsX8_go wsX8_within := goodIn_r _ [7] (by decide +kernel) (by decide +kernel)
set_option maxRecDepth 20000 in
theorem gX8_go_X8_within : GoodIn wsX8_go (va_wsS RX8 78 yX8_within wsX8_within) := goodIn_app (goodIn_of _ (by decide +kernel)) ggX8_go_X8_within
set_option maxRecDepth 20000 in
theorem ggX8_go_X8_finding : GoodIn wsX8_go wsX8_finding := goodIn_r _ [11, 12, 1, 58, 59, 60, 61, 62, 63, 64, 65, 66, 67, 68, 69, 70, 71, 72, 73, 74, 75, 76, 77, 78, 79, 80, 81, 82, 83, 84, 85, 86] (by decide +kernel) (by decide +kernel)
set_option maxRecDepth 20000 in
theorem gX8_go_X8_finding : GoodIn wsX8_go (wsV RX8 90 RX8 yX8_finding wsX8_finding) := goodIn_app (goodIn_of _ (by decide +kernel)) ggX8_go_X8_finding
set_option maxRecDepth 20000 in
theorem ggX8_go_X8_hoursGo : GoodIn wsX8_go wsX8_hoursGo := goodIn_r _ [16, 2, 17, 18, 19, 6, 20, 21, 22, 23, 24, 25, 26, 27, 28, 29, 30, 31, 32, 33, 34, 35, 36, 37, 38, 39, 40, 41, 42, 43, 44, 45, 46, 47, 48, 49, 50, 51, 52, 53, 54, 55, 56, 57, 58, 59, 60, 61, 62, 63, 64, 65, 66, 67, 68, 69, 70, 71, 72, 73, 74, 75, 76, 77, 78, 79, 80, 81, 82, 83, 84, 85, 86] (by decide +kernel) (by decide +kernel)
set_option maxRecDepth 20000 in
theorem gX8_go_X8_hoursGo : GoodIn wsX8_go (wsV RX8 160 RX8 yX8_hoursGo wsX8_hoursGo) := goodIn_app (goodIn_of _ (by decide +kernel)) ggX8_go_X8_hoursGo
theorem dX8_go_0 : decode cX8_go 0 = .ok (.iload_n 1, 1) := by decide +kernel
theorem dX8_go_1 : decode cX8_go 1 = .ok (.iconst 1, 1) := by decide +kernel
theorem dX8_go_2 : decode cX8_go 2 = .ok (.bipush 16, 2) := by decide +kernel
theorem dX8_go_4 : decode cX8_go 4 = .ok (.invokestatic 78, 3) := by decide +kernel
theorem dX8_go_7 : decode cX8_go 7 = .ok (.ifCond .ne 10, 3) := by decide +kernel
theorem dX8_go_10 : decode cX8_go 10 = .ok (.aload_n 0, 1) := by decide +kernel
theorem dX8_go_11 : decode cX8_go 11 = .ok (.ldc 73, 2) := by decide +kernel
theorem dX8_go_13 : decode cX8_go 13 = .ok (.invokevirtual 90, 3) := by decide +kernel
theorem dX8_go_16 : decode cX8_go 16 = .ok (.ireturn, 1) := by decide +kernel
theorem dX8_go_17 : decode cX8_go 17 = .ok (.aload_n 0, 1) := by decide +kernel
theorem dX8_go_18 : decode cX8_go 18 = .ok (.getfield 9, 3) := by decide +kernel
theorem dX8_go_21 : decode cX8_go 21 = .ok (.iconst 0, 1) := by decide +kernel
theorem dX8_go_22 : decode cX8_go 22 = .ok (.iaload, 1) := by decide +kernel
theorem dX8_go_23 : decode cX8_go 23 = .ok (.iload_n 1, 1) := by decide +kernel
theorem dX8_go_24 : decode cX8_go 24 = .ok (.iadd, 1) := by decide +kernel
theorem dX8_go_25 : decode cX8_go 25 = .ok (.bipush 16, 2) := by decide +kernel
theorem dX8_go_27 : decode cX8_go 27 = .ok (.if_icmp .le 12, 3) := by decide +kernel
theorem dX8_go_30 : decode cX8_go 30 = .ok (.aload_n 0, 1) := by decide +kernel
theorem dX8_go_31 : decode cX8_go 31 = .ok (.ldc 159, 2) := by decide +kernel
theorem dX8_go_33 : decode cX8_go 33 = .ok (.invokevirtual 90, 3) := by decide +kernel
theorem dX8_go_36 : decode cX8_go 36 = .ok (.goto 8, 3) := by decide +kernel
theorem dX8_go_39 : decode cX8_go 39 = .ok (.aload_n 0, 1) := by decide +kernel
theorem dX8_go_40 : decode cX8_go 40 = .ok (.iload_n 1, 1) := by decide +kernel
theorem dX8_go_41 : decode cX8_go 41 = .ok (.invokevirtual 160, 3) := by decide +kernel
theorem dX8_go_44 : decode cX8_go 44 = .ok (.ireturn, 1) := by decide +kernel
set_option maxRecDepth 20000 in
theorem ggX8_at__X8_within : GoodIn wsX8_at_ wsX8_within := goodIn_r _ [5] (by decide +kernel) (by decide +kernel)
set_option maxRecDepth 20000 in
theorem gX8_at__X8_within : GoodIn wsX8_at_ (va_wsS RX8 78 yX8_within wsX8_within) := goodIn_app (goodIn_of _ (by decide +kernel)) ggX8_at__X8_within
set_option maxRecDepth 20000 in
theorem ggX8_at__X8_become : GoodIn wsX8_at_ wsX8_become := goodIn_r _ [9, 10, 16, 17, 18, 19, 20, 21, 22, 23, 24, 25, 26, 27, 28, 29, 30, 31, 32, 33, 34, 35, 36, 37, 38, 39, 40, 41, 42, 43, 44] (by decide +kernel) (by decide +kernel)
set_option maxRecDepth 20000 in
theorem gX8_at__X8_become : GoodIn wsX8_at_ (wsV RX8 140 RX8 yX8_become wsX8_become) := goodIn_app (goodIn_of _ (by decide +kernel)) ggX8_at__X8_become
set_option maxRecDepth 20000 in
theorem ggX8_at__X8_finding : GoodIn wsX8_at_ wsX8_finding := goodIn_r _ [14, 15, 1, 16, 17, 18, 19, 20, 21, 22, 23, 24, 25, 26, 27, 28, 29, 30, 31, 32, 33, 34, 35, 36, 37, 38, 39, 40, 41, 42, 43, 44] (by decide +kernel) (by decide +kernel)
set_option maxRecDepth 20000 in
theorem gX8_at__X8_finding : GoodIn wsX8_at_ (wsV RX8 90 RX8 yX8_finding wsX8_finding) := goodIn_app (goodIn_of _ (by decide +kernel)) ggX8_at__X8_finding
theorem dX8_at__0 : decode cX8_at_ 0 = .ok (.iload_n 1, 1) := by decide +kernel
theorem dX8_at__1 : decode cX8_at_ 1 = .ok (.iconst 0, 1) := by decide +kernel
theorem dX8_at__2 : decode cX8_at_ 2 = .ok (.bipush 16, 2) := by decide +kernel
theorem dX8_at__4 : decode cX8_at_ 4 = .ok (.invokestatic 78, 3) := by decide +kernel
theorem dX8_at__7 : decode cX8_at_ 7 = .ok (.ifCond .eq 12, 3) := by decide +kernel
theorem dX8_at__10 : decode cX8_at_ 10 = .ok (.aload_n 0, 1) := by decide +kernel
theorem dX8_at__11 : decode cX8_at_ 11 = .ok (.iconst 0, 1) := by decide +kernel
theorem dX8_at__12 : decode cX8_at_ 12 = .ok (.iload_n 1, 1) := by decide +kernel
theorem dX8_at__13 : decode cX8_at_ 13 = .ok (.invokevirtual 140, 3) := by decide +kernel
theorem dX8_at__16 : decode cX8_at_ 16 = .ok (.goto 9, 3) := by decide +kernel
theorem dX8_at__19 : decode cX8_at_ 19 = .ok (.aload_n 0, 1) := by decide +kernel
theorem dX8_at__20 : decode cX8_at_ 20 = .ok (.ldc 73, 2) := by decide +kernel
theorem dX8_at__22 : decode cX8_at_ 22 = .ok (.invokevirtual 90, 3) := by decide +kernel
theorem dX8_at__25 : decode cX8_at_ 25 = .ok (.ireturn, 1) := by decide +kernel
set_option maxRecDepth 20000 in
theorem ggX8_now_X8_within : GoodIn wsX8_now wsX8_within := goodIn_r _ [6] (by decide +kernel) (by decide +kernel)
set_option maxRecDepth 20000 in
theorem gX8_now_X8_within : GoodIn wsX8_now (va_wsS RX8 78 yX8_within wsX8_within) := goodIn_app (goodIn_of _ (by decide +kernel)) ggX8_now_X8_within
set_option maxRecDepth 20000 in
theorem ggX8_now_X8_finding : GoodIn wsX8_now wsX8_finding := goodIn_r _ [10, 11, 1, 53, 54, 55, 56, 57, 58, 59, 60, 61, 62, 63, 64, 65, 66, 67, 68, 69, 70, 71, 72, 73, 74, 75, 76, 77, 78, 79, 80, 81] (by decide +kernel) (by decide +kernel)
set_option maxRecDepth 20000 in
theorem gX8_now_X8_finding : GoodIn wsX8_now (wsV RX8 90 RX8 yX8_finding wsX8_finding) := goodIn_app (goodIn_of _ (by decide +kernel)) ggX8_now_X8_finding
set_option maxRecDepth 20000 in
theorem ggX8_now_X8_isOver : GoodIn wsX8_now wsX8_isOver := goodIn_r _ [15, 2, 53, 54, 55, 56, 57, 58, 59, 60, 61, 62, 63, 64, 65, 66, 67, 68, 69, 70, 71, 72, 73, 74, 75, 76, 77, 78, 79, 80, 81] (by decide +kernel) (by decide +kernel)
set_option maxRecDepth 20000 in
theorem gX8_now_X8_isOver : GoodIn wsX8_now (wsV RX8 133 RX8 yX8_isOver wsX8_isOver) := goodIn_app (goodIn_of _ (by decide +kernel)) ggX8_now_X8_isOver
set_option maxRecDepth 20000 in
theorem ggX8_now_X8_whoHave : GoodIn wsX8_now wsX8_whoHave := goodIn_r _ [19, 2, 20, 21, 22, 5, 23, 24, 25, 26, 27, 28, 29, 30, 31, 32, 33, 34, 35, 36, 37, 38, 39, 40, 41, 42, 43, 44, 45, 46, 47, 48, 49, 50, 51, 52, 53, 54, 55, 56, 57, 58, 59, 60, 61, 62, 63, 64, 65, 66, 67, 68, 69, 70, 71, 72, 73, 74, 75, 76, 77, 78, 79, 80, 81] (by decide +kernel) (by decide +kernel)
set_option maxRecDepth 20000 in
theorem gX8_now_X8_whoHave : GoodIn wsX8_now (wsV RX8 153 RX8 yX8_whoHave wsX8_whoHave) := goodIn_app (goodIn_of _ (by decide +kernel)) ggX8_now_X8_whoHave
theorem dX8_now_0 : decode cX8_now 0 = .ok (.iload_n 1, 1) := by decide +kernel
theorem dX8_now_1 : decode cX8_now 1 = .ok (.iconst 0, 1) := by decide +kernel
theorem dX8_now_2 : decode cX8_now 2 = .ok (.iconst 4, 1) := by decide +kernel
theorem dX8_now_3 : decode cX8_now 3 = .ok (.invokestatic 78, 3) := by decide +kernel
theorem dX8_now_6 : decode cX8_now 6 = .ok (.ifCond .ne 10, 3) := by decide +kernel
theorem dX8_now_9 : decode cX8_now 9 = .ok (.aload_n 0, 1) := by decide +kernel
theorem dX8_now_10 : decode cX8_now 10 = .ok (.ldc 73, 2) := by decide +kernel
theorem dX8_now_12 : decode cX8_now 12 = .ok (.invokevirtual 90, 3) := by decide +kernel
theorem dX8_now_15 : decode cX8_now 15 = .ok (.ireturn, 1) := by decide +kernel
theorem dX8_now_16 : decode cX8_now 16 = .ok (.iload_n 1, 1) := by decide +kernel
theorem dX8_now_17 : decode cX8_now 17 = .ok (.iconst 4, 1) := by decide +kernel
theorem dX8_now_18 : decode cX8_now 18 = .ok (.if_icmp .ge 12, 3) := by decide +kernel
theorem dX8_now_21 : decode cX8_now 21 = .ok (.aload_n 0, 1) := by decide +kernel
theorem dX8_now_22 : decode cX8_now 22 = .ok (.getfield 9, 3) := by decide +kernel
theorem dX8_now_25 : decode cX8_now 25 = .ok (.iload_n 1, 1) := by decide +kernel
theorem dX8_now_26 : decode cX8_now 26 = .ok (.iaload, 1) := by decide +kernel
theorem dX8_now_27 : decode cX8_now 27 = .ok (.goto 24, 3) := by decide +kernel
theorem dX8_now_30 : decode cX8_now 30 = .ok (.aload_n 0, 1) := by decide +kernel
theorem dX8_now_31 : decode cX8_now 31 = .ok (.invokevirtual 133, 3) := by decide +kernel
theorem dX8_now_34 : decode cX8_now 34 = .ok (.ifCond .eq 7, 3) := by decide +kernel
theorem dX8_now_37 : decode cX8_now 37 = .ok (.iconst 0, 1) := by decide +kernel
theorem dX8_now_38 : decode cX8_now 38 = .ok (.goto 13, 3) := by decide +kernel
theorem dX8_now_41 : decode cX8_now 41 = .ok (.aload_n 0, 1) := by decide +kernel
theorem dX8_now_42 : decode cX8_now 42 = .ok (.aload_n 0, 1) := by decide +kernel
theorem dX8_now_43 : decode cX8_now 43 = .ok (.getfield 9, 3) := by decide +kernel
theorem dX8_now_46 : decode cX8_now 46 = .ok (.iconst 0, 1) := by decide +kernel
theorem dX8_now_47 : decode cX8_now 47 = .ok (.iaload, 1) := by decide +kernel
theorem dX8_now_48 : decode cX8_now 48 = .ok (.invokevirtual 153, 3) := by decide +kernel
theorem dX8_now_51 : decode cX8_now 51 = .ok (.ireturn, 1) := by decide +kernel
set_option maxRecDepth 20000 in
theorem ggX8_findRest_X8_copyRow : GoodIn wsX8_findRest wsX8_copyRow := goodIn_r _ [10] (by decide +kernel) (by decide +kernel)
set_option maxRecDepth 20000 in
theorem gX8_findRest_X8_copyRow : GoodIn wsX8_findRest (va_wsS RX8 74 yX8_copyRow wsX8_copyRow) := goodIn_app (goodIn_of _ (by decide +kernel)) ggX8_findRest_X8_copyRow
set_option maxRecDepth 20000 in
theorem ggX8_findRest_X8_isOver : GoodIn wsX8_findRest wsX8_isOver := goodIn_r _ [14, 1, 59, 60, 61, 62, 63, 64, 65, 66, 67, 68, 69, 70, 71, 72, 73, 74, 75, 76, 77, 78, 79, 80, 81, 82, 83, 84, 85, 86, 87] (by decide +kernel) (by decide +kernel)
set_option maxRecDepth 20000 in
theorem gX8_findRest_X8_isOver : GoodIn wsX8_findRest (wsV RX8 133 RX8 yX8_isOver wsX8_isOver) := goodIn_app (goodIn_of _ (by decide +kernel)) ggX8_findRest_X8_isOver
set_option maxRecDepth 20000 in
theorem ggX8_findRest_X8_hasShadow : GoodIn wsX8_findRest wsX8_hasShadow := goodIn_r _ [18, 19, 20, 21, 9, 22, 1, 23, 24, 25, 26, 27, 28, 29, 30, 31, 32, 33, 34, 35, 36, 37, 38, 39, 40, 41, 42, 43, 44, 45, 46, 47, 59, 60, 61, 62, 63, 64, 65, 66, 67, 68, 69, 70, 71, 72, 73, 74, 75, 76, 77, 78, 79, 80, 81, 82, 83, 84, 85, 86, 87] (by decide +kernel) (by decide +kernel)
set_option maxRecDepth 20000 in
theorem gX8_findRest_X8_hasShadow : GoodIn wsX8_findRest (wsV RX8 127 RX8 yX8_hasShadow wsX8_hasShadow) := goodIn_app (goodIn_of _ (by decide +kernel)) ggX8_findRest_X8_hasShadow
set_option maxRecDepth 20000 in
theorem ggX8_findRest_X8_isLit : GoodIn wsX8_findRest wsX8_isLit := goodIn_r _ [29, 1, 30, 31, 9, 32, 59, 60, 61, 62, 63, 64, 65, 66, 67, 68, 69, 70, 71, 72, 73, 74, 75, 76, 77, 78, 79, 80, 81, 82, 83, 84, 85, 86, 87] (by decide +kernel) (by decide +kernel)
set_option maxRecDepth 20000 in
theorem gX8_findRest_X8_isLit : GoodIn wsX8_findRest (wsV RX8 120 RX8 yX8_isLit wsX8_isLit) := goodIn_app (goodIn_of _ (by decide +kernel)) ggX8_findRest_X8_isLit
set_option maxRecDepth 20000 in
theorem ggX8_findRest_X8_personIs : GoodIn wsX8_findRest wsX8_personIs := goodIn_r _ [22, 1, 23, 24, 9, 25, 59, 60, 61, 62, 63, 64, 65, 66, 67, 68, 69, 70, 71, 72, 73, 74, 75, 76, 77, 78, 79, 80, 81, 82, 83, 84, 85, 86, 87] (by decide +kernel) (by decide +kernel)
set_option maxRecDepth 20000 in
theorem gX8_findRest_X8_personIs : GoodIn wsX8_findRest (wsV RX8 102 RX8 yX8_personIs wsX8_personIs) := goodIn_app (goodIn_of _ (by decide +kernel)) ggX8_findRest_X8_personIs
set_option maxRecDepth 20000 in
theorem ggX8_findRest_X8_hour : GoodIn wsX8_findRest wsX8_hour := goodIn_r _ [51, 1, 41, 42, 39, 43, 37, 38, 40, 52, 53, 54, 9, 55, 15, 16, 17, 18, 19, 20, 21, 22, 23, 24, 25, 26, 27, 28, 29, 30, 31, 32, 33, 34, 35, 36, 44, 45, 46, 47, 59, 60, 61, 62, 63, 64, 65, 66, 67, 68, 69, 70, 71, 72, 73, 74, 75, 76, 77, 78, 79, 80, 81, 82, 83, 84, 85, 86, 87] (by decide +kernel) (by decide +kernel)
set_option maxRecDepth 20000 in
theorem gX8_findRest_X8_hour : GoodIn wsX8_findRest (wsV RX8 156 RX8 yX8_hour wsX8_hour) := goodIn_app (goodIn_of _ (by decide +kernel)) ggX8_findRest_X8_hour
set_option maxRecDepth 20000 in
theorem ggX8_findRest_X8_bits : GoodIn wsX8_findRest wsX8_bits := goodIn_r _ [58] (by decide +kernel) (by decide +kernel)
set_option maxRecDepth 20000 in
theorem gX8_findRest_X8_bits : GoodIn wsX8_findRest (va_wsS RX8 173 yX8_bits wsX8_bits) := goodIn_app (goodIn_of _ (by decide +kernel)) ggX8_findRest_X8_bits
theorem dX8_findRest_0 : decode cX8_findRest 0 = .ok (.aload_n 0, 1) := by decide +kernel
theorem dX8_findRest_1 : decode cX8_findRest 1 = .ok (.getfield 9, 3) := by decide +kernel
theorem dX8_findRest_4 : decode cX8_findRest 4 = .ok (.aload_n 0, 1) := by decide +kernel
theorem dX8_findRest_5 : decode cX8_findRest 5 = .ok (.getfield 16, 3) := by decide +kernel
theorem dX8_findRest_8 : decode cX8_findRest 8 = .ok (.invokestatic 74, 3) := by decide +kernel
theorem dX8_findRest_11 : decode cX8_findRest 11 = .ok (.aload_n 0, 1) := by decide +kernel
theorem dX8_findRest_12 : decode cX8_findRest 12 = .ok (.iconst 0, 1) := by decide +kernel
theorem dX8_findRest_13 : decode cX8_findRest 13 = .ok (.putfield 163, 3) := by decide +kernel
theorem dX8_findRest_16 : decode cX8_findRest 16 = .ok (.aload_n 0, 1) := by decide +kernel
theorem dX8_findRest_17 : decode cX8_findRest 17 = .ok (.iconst 0, 1) := by decide +kernel
theorem dX8_findRest_18 : decode cX8_findRest 18 = .ok (.putfield 167, 3) := by decide +kernel
theorem dX8_findRest_21 : decode cX8_findRest 21 = .ok (.aload_n 0, 1) := by decide +kernel
theorem dX8_findRest_22 : decode cX8_findRest 22 = .ok (.invokevirtual 133, 3) := by decide +kernel
theorem dX8_findRest_25 : decode cX8_findRest 25 = .ok (.ifCond .ne 91, 3) := by decide +kernel
theorem dX8_findRest_28 : decode cX8_findRest 28 = .ok (.iconst 1, 1) := by decide +kernel
theorem dX8_findRest_29 : decode cX8_findRest 29 = .ok (.aload_n 0, 1) := by decide +kernel
theorem dX8_findRest_30 : decode cX8_findRest 30 = .ok (.getfield 9, 3) := by decide +kernel
theorem dX8_findRest_33 : decode cX8_findRest 33 = .ok (.iconst 0, 1) := by decide +kernel
theorem dX8_findRest_34 : decode cX8_findRest 34 = .ok (.iaload, 1) := by decide +kernel
theorem dX8_findRest_35 : decode cX8_findRest 35 = .ok (.ishl, 1) := by decide +kernel
theorem dX8_findRest_36 : decode cX8_findRest 36 = .ok (.istore_n 2, 1) := by decide +kernel
theorem dX8_findRest_37 : decode cX8_findRest 37 = .ok (.aload_n 0, 1) := by decide +kernel
theorem dX8_findRest_38 : decode cX8_findRest 38 = .ok (.iload_n 1, 1) := by decide +kernel
theorem dX8_findRest_39 : decode cX8_findRest 39 = .ok (.aload_n 0, 1) := by decide +kernel
theorem dX8_findRest_40 : decode cX8_findRest 40 = .ok (.getfield 9, 3) := by decide +kernel
theorem dX8_findRest_43 : decode cX8_findRest 43 = .ok (.iconst 0, 1) := by decide +kernel
theorem dX8_findRest_44 : decode cX8_findRest 44 = .ok (.iaload, 1) := by decide +kernel
theorem dX8_findRest_45 : decode cX8_findRest 45 = .ok (.invokevirtual 127, 3) := by decide +kernel
theorem dX8_findRest_48 : decode cX8_findRest 48 = .ok (.istore_n 3, 1) := by decide +kernel
theorem dX8_findRest_49 : decode cX8_findRest 49 = .ok (.aload_n 0, 1) := by decide +kernel
theorem dX8_findRest_50 : decode cX8_findRest 50 = .ok (.dup, 1) := by decide +kernel
theorem dX8_findRest_51 : decode cX8_findRest 51 = .ok (.getfield 167, 3) := by decide +kernel
theorem dX8_findRest_54 : decode cX8_findRest 54 = .ok (.iload_n 3, 1) := by decide +kernel
theorem dX8_findRest_55 : decode cX8_findRest 55 = .ok (.ifCond .eq 7, 3) := by decide +kernel
theorem dX8_findRest_58 : decode cX8_findRest 58 = .ok (.iload_n 2, 1) := by decide +kernel
theorem dX8_findRest_59 : decode cX8_findRest 59 = .ok (.goto 4, 3) := by decide +kernel
theorem dX8_findRest_62 : decode cX8_findRest 62 = .ok (.iconst 0, 1) := by decide +kernel
theorem dX8_findRest_63 : decode cX8_findRest 63 = .ok (.ior, 1) := by decide +kernel
theorem dX8_findRest_64 : decode cX8_findRest 64 = .ok (.putfield 167, 3) := by decide +kernel
theorem dX8_findRest_67 : decode cX8_findRest 67 = .ok (.aload_n 0, 1) := by decide +kernel
theorem dX8_findRest_68 : decode cX8_findRest 68 = .ok (.dup, 1) := by decide +kernel
theorem dX8_findRest_69 : decode cX8_findRest 69 = .ok (.getfield 163, 3) := by decide +kernel
theorem dX8_findRest_72 : decode cX8_findRest 72 = .ok (.iload_n 3, 1) := by decide +kernel
theorem dX8_findRest_73 : decode cX8_findRest 73 = .ok (.ifCond .ne 27, 3) := by decide +kernel
theorem dX8_findRest_76 : decode cX8_findRest 76 = .ok (.aload_n 0, 1) := by decide +kernel
theorem dX8_findRest_77 : decode cX8_findRest 77 = .ok (.aload_n 0, 1) := by decide +kernel
theorem dX8_findRest_78 : decode cX8_findRest 78 = .ok (.getfield 9, 3) := by decide +kernel
theorem dX8_findRest_81 : decode cX8_findRest 81 = .ok (.iconst 0, 1) := by decide +kernel
theorem dX8_findRest_82 : decode cX8_findRest 82 = .ok (.iaload, 1) := by decide +kernel
theorem dX8_findRest_83 : decode cX8_findRest 83 = .ok (.invokevirtual 120, 3) := by decide +kernel
theorem dX8_findRest_86 : decode cX8_findRest 86 = .ok (.ifCond .eq 14, 3) := by decide +kernel
theorem dX8_findRest_89 : decode cX8_findRest 89 = .ok (.aload_n 0, 1) := by decide +kernel
theorem dX8_findRest_90 : decode cX8_findRest 90 = .ok (.iload_n 1, 1) := by decide +kernel
theorem dX8_findRest_91 : decode cX8_findRest 91 = .ok (.iconst 3, 1) := by decide +kernel
theorem dX8_findRest_92 : decode cX8_findRest 92 = .ok (.invokevirtual 102, 3) := by decide +kernel
theorem dX8_findRest_95 : decode cX8_findRest 95 = .ok (.iload_n 2, 1) := by decide +kernel
theorem dX8_findRest_96 : decode cX8_findRest 96 = .ok (.iand, 1) := by decide +kernel
theorem dX8_findRest_97 : decode cX8_findRest 97 = .ok (.ifCond .ne 7, 3) := by decide +kernel
theorem dX8_findRest_100 : decode cX8_findRest 100 = .ok (.iload_n 2, 1) := by decide +kernel
theorem dX8_findRest_101 : decode cX8_findRest 101 = .ok (.goto 4, 3) := by decide +kernel
theorem dX8_findRest_104 : decode cX8_findRest 104 = .ok (.iconst 0, 1) := by decide +kernel
theorem dX8_findRest_105 : decode cX8_findRest 105 = .ok (.ior, 1) := by decide +kernel
theorem dX8_findRest_106 : decode cX8_findRest 106 = .ok (.putfield 163, 3) := by decide +kernel
theorem dX8_findRest_109 : decode cX8_findRest 109 = .ok (.aload_n 0, 1) := by decide +kernel
theorem dX8_findRest_110 : decode cX8_findRest 110 = .ok (.invokevirtual 156, 3) := by decide +kernel
theorem dX8_findRest_113 : decode cX8_findRest 113 = .ok (.goto (-92), 3) := by decide +kernel
theorem dX8_findRest_116 : decode cX8_findRest 116 = .ok (.aload_n 0, 1) := by decide +kernel
theorem dX8_findRest_117 : decode cX8_findRest 117 = .ok (.aload_n 0, 1) := by decide +kernel
theorem dX8_findRest_118 : decode cX8_findRest 118 = .ok (.iload_n 1, 1) := by decide +kernel
theorem dX8_findRest_119 : decode cX8_findRest 119 = .ok (.iconst 1, 1) := by decide +kernel
theorem dX8_findRest_120 : decode cX8_findRest 120 = .ok (.invokevirtual 102, 3) := by decide +kernel
theorem dX8_findRest_123 : decode cX8_findRest 123 = .ok (.putfield 170, 3) := by decide +kernel
theorem dX8_findRest_126 : decode cX8_findRest 126 = .ok (.aload_n 0, 1) := by decide +kernel
theorem dX8_findRest_127 : decode cX8_findRest 127 = .ok (.aload_n 0, 1) := by decide +kernel
theorem dX8_findRest_128 : decode cX8_findRest 128 = .ok (.getfield 163, 3) := by decide +kernel
theorem dX8_findRest_131 : decode cX8_findRest 131 = .ok (.aload_n 0, 1) := by decide +kernel
theorem dX8_findRest_132 : decode cX8_findRest 132 = .ok (.iload_n 1, 1) := by decide +kernel
theorem dX8_findRest_133 : decode cX8_findRest 133 = .ok (.iconst 3, 1) := by decide +kernel
theorem dX8_findRest_134 : decode cX8_findRest 134 = .ok (.invokevirtual 102, 3) := by decide +kernel
theorem dX8_findRest_137 : decode cX8_findRest 137 = .ok (.iand, 1) := by decide +kernel
theorem dX8_findRest_138 : decode cX8_findRest 138 = .ok (.invokestatic 173, 3) := by decide +kernel
theorem dX8_findRest_141 : decode cX8_findRest 141 = .ok (.putfield 176, 3) := by decide +kernel
theorem dX8_findRest_144 : decode cX8_findRest 144 = .ok (.aload_n 0, 1) := by decide +kernel
theorem dX8_findRest_145 : decode cX8_findRest 145 = .ok (.getfield 16, 3) := by decide +kernel
theorem dX8_findRest_148 : decode cX8_findRest 148 = .ok (.aload_n 0, 1) := by decide +kernel
theorem dX8_findRest_149 : decode cX8_findRest 149 = .ok (.getfield 9, 3) := by decide +kernel
theorem dX8_findRest_152 : decode cX8_findRest 152 = .ok (.invokestatic 74, 3) := by decide +kernel
theorem dX8_findRest_155 : decode cX8_findRest 155 = .ok (.return_, 1) := by decide +kernel
set_option maxRecDepth 20000 in
theorem ggX8_met_X8_isPerson : GoodIn wsX8_met wsX8_isPerson := goodIn_r _ [7, 8, 9, 10, 6, 11, 76, 77, 78, 79, 80, 81, 82, 83, 84, 85, 86, 87, 88, 89, 90, 91, 92, 93, 94, 95, 96, 97, 98, 99, 100, 101, 102, 103, 104] (by decide +kernel) (by decide +kernel)
set_option maxRecDepth 20000 in
theorem gX8_met_X8_isPerson : GoodIn wsX8_met (wsV RX8 130 RX8 yX8_isPerson wsX8_isPerson) := goodIn_app (goodIn_of _ (by decide +kernel)) ggX8_met_X8_isPerson
set_option maxRecDepth 20000 in
theorem ggX8_met_X8_finding : GoodIn wsX8_met wsX8_finding := goodIn_r _ [15, 16, 1, 76, 77, 78, 79, 80, 81, 82, 83, 84, 85, 86, 87, 88, 89, 90, 91, 92, 93, 94, 95, 96, 97, 98, 99, 100, 101, 102, 103, 104] (by decide +kernel) (by decide +kernel)
set_option maxRecDepth 20000 in
theorem gX8_met_X8_finding : GoodIn wsX8_met (wsV RX8 90 RX8 yX8_finding wsX8_finding) := goodIn_app (goodIn_of _ (by decide +kernel)) ggX8_met_X8_finding
set_option maxRecDepth 20000 in
theorem ggX8_met_X8_findRest : GoodIn wsX8_met wsX8_findRest := goodIn_r _ [20, 8, 21, 22, 23, 24, 2, 25, 26, 6, 27, 28, 29, 30, 31, 32, 33, 34, 35, 36, 37, 38, 39, 40, 41, 42, 43, 44, 45, 46, 47, 48, 49, 50, 51, 52, 53, 54, 55, 56, 57, 58, 59, 60, 61, 62, 63, 64, 65, 66, 67, 68, 69, 70, 71, 72, 73, 74, 75, 76, 77, 78, 79, 80, 81, 82, 83, 84, 85, 86, 87, 88, 89, 90, 91, 92, 93, 94, 95, 96, 97, 98, 99, 100, 101, 102, 103, 104] (by decide +kernel) (by decide +kernel)
set_option maxRecDepth 20000 in
theorem gX8_met_X8_findRest : GoodIn wsX8_met (wsV RX8 179 RX8 yX8_findRest wsX8_findRest) := goodIn_app (goodIn_of _ (by decide +kernel)) ggX8_met_X8_findRest
theorem dX8_met_0 : decode cX8_met 0 = .ok (.aload_n 0, 1) := by decide +kernel
theorem dX8_met_1 : decode cX8_met 1 = .ok (.iload_n 1, 1) := by decide +kernel
theorem dX8_met_2 : decode cX8_met 2 = .ok (.invokevirtual 130, 3) := by decide +kernel
theorem dX8_met_5 : decode cX8_met 5 = .ok (.ifCond .ne 10, 3) := by decide +kernel
theorem dX8_met_8 : decode cX8_met 8 = .ok (.aload_n 0, 1) := by decide +kernel
theorem dX8_met_9 : decode cX8_met 9 = .ok (.ldc 73, 2) := by decide +kernel
theorem dX8_met_11 : decode cX8_met 11 = .ok (.invokevirtual 90, 3) := by decide +kernel
theorem dX8_met_14 : decode cX8_met 14 = .ok (.ireturn, 1) := by decide +kernel
theorem dX8_met_15 : decode cX8_met 15 = .ok (.aload_n 0, 1) := by decide +kernel
theorem dX8_met_16 : decode cX8_met 16 = .ok (.iload_n 1, 1) := by decide +kernel
theorem dX8_met_17 : decode cX8_met 17 = .ok (.invokevirtual 179, 3) := by decide +kernel
theorem dX8_met_20 : decode cX8_met 20 = .ok (.aload_n 0, 1) := by decide +kernel
theorem dX8_met_21 : decode cX8_met 21 = .ok (.getfield 176, 3) := by decide +kernel
theorem dX8_met_24 : decode cX8_met 24 = .ok (.ireturn, 1) := by decide +kernel
theorem dX8_restHours_0 : decode cX8_restHours 0 = .ok (.ldc 183, 2) := by decide +kernel
theorem dX8_restHours_2 : decode cX8_restHours 2 = .ok (.iconst 1, 1) := by decide +kernel
theorem dX8_restHours_3 : decode cX8_restHours 3 = .ok (.aload_n 0, 1) := by decide +kernel
theorem dX8_restHours_4 : decode cX8_restHours 4 = .ok (.getfield 9, 3) := by decide +kernel
theorem dX8_restHours_7 : decode cX8_restHours 7 = .ok (.iconst 0, 1) := by decide +kernel
theorem dX8_restHours_8 : decode cX8_restHours 8 = .ok (.iaload, 1) := by decide +kernel
theorem dX8_restHours_9 : decode cX8_restHours 9 = .ok (.ishl, 1) := by decide +kernel
theorem dX8_restHours_10 : decode cX8_restHours 10 = .ok (.isub, 1) := by decide +kernel
theorem dX8_restHours_11 : decode cX8_restHours 11 = .ok (.ireturn, 1) := by decide +kernel
set_option maxRecDepth 20000 in
theorem ggX8_cold_X8_isPerson : GoodIn wsX8_cold wsX8_isPerson := goodIn_r _ [8, 9, 10, 11, 7, 12, 82, 83, 84, 85, 86, 87, 88, 89, 90, 91, 92, 93, 94, 95, 96, 97, 98, 99, 100, 101, 102, 103, 104, 105, 106, 107, 108, 109, 110] (by decide +kernel) (by decide +kernel)
set_option maxRecDepth 20000 in
theorem gX8_cold_X8_isPerson : GoodIn wsX8_cold (wsV RX8 130 RX8 yX8_isPerson wsX8_isPerson) := goodIn_app (goodIn_of _ (by decide +kernel)) ggX8_cold_X8_isPerson
set_option maxRecDepth 20000 in
theorem ggX8_cold_X8_finding : GoodIn wsX8_cold wsX8_finding := goodIn_r _ [16, 17, 1, 82, 83, 84, 85, 86, 87, 88, 89, 90, 91, 92, 93, 94, 95, 96, 97, 98, 99, 100, 101, 102, 103, 104, 105, 106, 107, 108, 109, 110] (by decide +kernel) (by decide +kernel)
set_option maxRecDepth 20000 in
theorem gX8_cold_X8_finding : GoodIn wsX8_cold (wsV RX8 90 RX8 yX8_finding wsX8_finding) := goodIn_app (goodIn_of _ (by decide +kernel)) ggX8_cold_X8_finding
set_option maxRecDepth 20000 in
theorem ggX8_cold_X8_findRest : GoodIn wsX8_cold wsX8_findRest := goodIn_r _ [21, 9, 22, 2, 23, 24, 25, 26, 27, 7, 28, 29, 30, 31, 32, 33, 34, 35, 36, 37, 38, 39, 40, 41, 42, 43, 44, 45, 46, 47, 48, 49, 50, 51, 52, 53, 54, 55, 56, 57, 58, 59, 60, 61, 62, 63, 64, 65, 66, 67, 68, 69, 70, 71, 72, 73, 74, 75, 76, 82, 83, 84, 85, 86, 87, 88, 89, 90, 91, 92, 93, 94, 95, 96, 97, 98, 99, 100, 101, 102, 103, 104, 105, 106, 107, 108, 109, 110] (by decide +kernel) (by decide +kernel)
set_option maxRecDepth 20000 in
theorem gX8_cold_X8_findRest : GoodIn wsX8_cold (wsV RX8 179 RX8 yX8_findRest wsX8_findRest) := goodIn_app (goodIn_of _ (by decide +kernel)) ggX8_cold_X8_findRest
set_option maxRecDepth 20000 in
theorem ggX8_cold_X8_restHours : GoodIn wsX8_cold wsX8_restHours := goodIn_r _ [80, 81, 9, 82, 83, 84, 85, 86, 87, 88, 89, 90, 91, 92, 93, 94, 95, 96, 97, 98, 99, 100, 101, 102, 103, 104, 105, 106, 107, 108, 109, 110] (by decide +kernel) (by decide +kernel)
set_option maxRecDepth 20000 in
theorem gX8_cold_X8_restHours : GoodIn wsX8_cold (wsV RX8 184 RX8 yX8_restHours wsX8_restHours) := goodIn_app (goodIn_of _ (by decide +kernel)) ggX8_cold_X8_restHours
set_option maxRecDepth 20000 in
theorem ggX8_cold_X8_has : GoodIn wsX8_cold wsX8_has := goodIn_r _ [50] (by decide +kernel) (by decide +kernel)
set_option maxRecDepth 20000 in
theorem gX8_cold_X8_has : GoodIn wsX8_cold (va_wsS RX8 116 yX8_has wsX8_has) := goodIn_app (goodIn_of _ (by decide +kernel)) ggX8_cold_X8_has
theorem dX8_cold_0 : decode cX8_cold 0 = .ok (.aload_n 0, 1) := by decide +kernel
theorem dX8_cold_1 : decode cX8_cold 1 = .ok (.iload_n 1, 1) := by decide +kernel
theorem dX8_cold_2 : decode cX8_cold 2 = .ok (.invokevirtual 130, 3) := by decide +kernel
theorem dX8_cold_5 : decode cX8_cold 5 = .ok (.ifCond .ne 10, 3) := by decide +kernel
theorem dX8_cold_8 : decode cX8_cold 8 = .ok (.aload_n 0, 1) := by decide +kernel
theorem dX8_cold_9 : decode cX8_cold 9 = .ok (.ldc 73, 2) := by decide +kernel
theorem dX8_cold_11 : decode cX8_cold 11 = .ok (.invokevirtual 90, 3) := by decide +kernel
theorem dX8_cold_14 : decode cX8_cold 14 = .ok (.ireturn, 1) := by decide +kernel
theorem dX8_cold_15 : decode cX8_cold 15 = .ok (.aload_n 0, 1) := by decide +kernel
theorem dX8_cold_16 : decode cX8_cold 16 = .ok (.iload_n 1, 1) := by decide +kernel
theorem dX8_cold_17 : decode cX8_cold 17 = .ok (.invokevirtual 179, 3) := by decide +kernel
theorem dX8_cold_20 : decode cX8_cold 20 = .ok (.aload_n 0, 1) := by decide +kernel
theorem dX8_cold_21 : decode cX8_cold 21 = .ok (.invokevirtual 184, 3) := by decide +kernel
theorem dX8_cold_24 : decode cX8_cold 24 = .ok (.aload_n 0, 1) := by decide +kernel
theorem dX8_cold_25 : decode cX8_cold 25 = .ok (.getfield 163, 3) := by decide +kernel
theorem dX8_cold_28 : decode cX8_cold 28 = .ok (.iconst (-1), 1) := by decide +kernel
theorem dX8_cold_29 : decode cX8_cold 29 = .ok (.ixor, 1) := by decide +kernel
theorem dX8_cold_30 : decode cX8_cold 30 = .ok (.iand, 1) := by decide +kernel
theorem dX8_cold_31 : decode cX8_cold 31 = .ok (.istore_n 2, 1) := by decide +kernel
theorem dX8_cold_32 : decode cX8_cold 32 = .ok (.iconst 0, 1) := by decide +kernel
theorem dX8_cold_33 : decode cX8_cold 33 = .ok (.istore_n 3, 1) := by decide +kernel
theorem dX8_cold_34 : decode cX8_cold 34 = .ok (.iload_n 2, 1) := by decide +kernel
theorem dX8_cold_35 : decode cX8_cold 35 = .ok (.ifCond .eq 17, 3) := by decide +kernel
theorem dX8_cold_38 : decode cX8_cold 38 = .ok (.iload_n 2, 1) := by decide +kernel
theorem dX8_cold_39 : decode cX8_cold 39 = .ok (.iload_n 3, 1) := by decide +kernel
theorem dX8_cold_40 : decode cX8_cold 40 = .ok (.invokestatic 116, 3) := by decide +kernel
theorem dX8_cold_43 : decode cX8_cold 43 = .ok (.ifCond .ne 9, 3) := by decide +kernel
theorem dX8_cold_46 : decode cX8_cold 46 = .ok (.iinc 3 1, 3) := by decide +kernel
theorem dX8_cold_49 : decode cX8_cold 49 = .ok (.goto (-15), 3) := by decide +kernel
theorem dX8_cold_52 : decode cX8_cold 52 = .ok (.iload_n 2, 1) := by decide +kernel
theorem dX8_cold_53 : decode cX8_cold 53 = .ok (.ifCond .ne 12, 3) := by decide +kernel
theorem dX8_cold_56 : decode cX8_cold 56 = .ok (.aload_n 0, 1) := by decide +kernel
theorem dX8_cold_57 : decode cX8_cold 57 = .ok (.ldc 152, 2) := by decide +kernel
theorem dX8_cold_59 : decode cX8_cold 59 = .ok (.invokevirtual 90, 3) := by decide +kernel
theorem dX8_cold_62 : decode cX8_cold 62 = .ok (.goto 4, 3) := by decide +kernel
theorem dX8_cold_65 : decode cX8_cold 65 = .ok (.iload_n 3, 1) := by decide +kernel
theorem dX8_cold_66 : decode cX8_cold 66 = .ok (.ireturn, 1) := by decide +kernel
set_option maxRecDepth 20000 in
theorem ggX8_shade_X8_isPerson : GoodIn wsX8_shade wsX8_isPerson := goodIn_r _ [7, 8, 9, 10, 6, 11, 76, 77, 78, 79, 80, 81, 82, 83, 84, 85, 86, 87, 88, 89, 90, 91, 92, 93, 94, 95, 96, 97, 98, 99, 100, 101, 102, 103, 104] (by decide +kernel) (by decide +kernel)
set_option maxRecDepth 20000 in
theorem gX8_shade_X8_isPerson : GoodIn wsX8_shade (wsV RX8 130 RX8 yX8_isPerson wsX8_isPerson) := goodIn_app (goodIn_of _ (by decide +kernel)) ggX8_shade_X8_isPerson
set_option maxRecDepth 20000 in
theorem ggX8_shade_X8_finding : GoodIn wsX8_shade wsX8_finding := goodIn_r _ [15, 16, 1, 76, 77, 78, 79, 80, 81, 82, 83, 84, 85, 86, 87, 88, 89, 90, 91, 92, 93, 94, 95, 96, 97, 98, 99, 100, 101, 102, 103, 104] (by decide +kernel) (by decide +kernel)
set_option maxRecDepth 20000 in
theorem gX8_shade_X8_finding : GoodIn wsX8_shade (wsV RX8 90 RX8 yX8_finding wsX8_finding) := goodIn_app (goodIn_of _ (by decide +kernel)) ggX8_shade_X8_finding
set_option maxRecDepth 20000 in
theorem ggX8_shade_X8_findRest : GoodIn wsX8_shade wsX8_findRest := goodIn_r _ [20, 8, 21, 22, 2, 23, 24, 25, 26, 6, 27, 28, 29, 30, 31, 32, 33, 34, 35, 36, 37, 38, 39, 40, 41, 42, 43, 44, 45, 46, 47, 48, 49, 50, 51, 52, 53, 54, 55, 56, 57, 58, 59, 60, 61, 62, 63, 64, 65, 66, 67, 68, 69, 70, 71, 72, 73, 74, 75, 76, 77, 78, 79, 80, 81, 82, 83, 84, 85, 86, 87, 88, 89, 90, 91, 92, 93, 94, 95, 96, 97, 98, 99, 100, 101, 102, 103, 104] (by decide +kernel) (by decide +kernel)
set_option maxRecDepth 20000 in
theorem gX8_shade_X8_findRest : GoodIn wsX8_shade (wsV RX8 179 RX8 yX8_findRest wsX8_findRest) := goodIn_app (goodIn_of _ (by decide +kernel)) ggX8_shade_X8_findRest
theorem dX8_shade_0 : decode cX8_shade 0 = .ok (.aload_n 0, 1) := by decide +kernel
theorem dX8_shade_1 : decode cX8_shade 1 = .ok (.iload_n 1, 1) := by decide +kernel
theorem dX8_shade_2 : decode cX8_shade 2 = .ok (.invokevirtual 130, 3) := by decide +kernel
theorem dX8_shade_5 : decode cX8_shade 5 = .ok (.ifCond .ne 10, 3) := by decide +kernel
theorem dX8_shade_8 : decode cX8_shade 8 = .ok (.aload_n 0, 1) := by decide +kernel
theorem dX8_shade_9 : decode cX8_shade 9 = .ok (.ldc 73, 2) := by decide +kernel
theorem dX8_shade_11 : decode cX8_shade 11 = .ok (.invokevirtual 90, 3) := by decide +kernel
theorem dX8_shade_14 : decode cX8_shade 14 = .ok (.ireturn, 1) := by decide +kernel
theorem dX8_shade_15 : decode cX8_shade 15 = .ok (.aload_n 0, 1) := by decide +kernel
theorem dX8_shade_16 : decode cX8_shade 16 = .ok (.iload_n 1, 1) := by decide +kernel
theorem dX8_shade_17 : decode cX8_shade 17 = .ok (.invokevirtual 179, 3) := by decide +kernel
theorem dX8_shade_20 : decode cX8_shade 20 = .ok (.aload_n 0, 1) := by decide +kernel
theorem dX8_shade_21 : decode cX8_shade 21 = .ok (.getfield 167, 3) := by decide +kernel
theorem dX8_shade_24 : decode cX8_shade 24 = .ok (.ireturn, 1) := by decide +kernel
set_option maxRecDepth 20000 in
theorem ggX8_metByAll_X8_copyRow : GoodIn wsX8_metByAll wsX8_copyRow := goodIn_r _ [6] (by decide +kernel) (by decide +kernel)
set_option maxRecDepth 20000 in
theorem gX8_metByAll_X8_copyRow : GoodIn wsX8_metByAll (va_wsS RX8 74 yX8_copyRow wsX8_copyRow) := goodIn_app (goodIn_of _ (by decide +kernel)) ggX8_metByAll_X8_copyRow
set_option maxRecDepth 20000 in
theorem ggX8_metByAll_X8_hoursGo : GoodIn wsX8_metByAll wsX8_hoursGo := goodIn_r _ [10, 1, 11, 12, 13, 5, 14, 15, 16, 17, 18, 19, 20, 21, 22, 23, 24, 25, 26, 27, 28, 29, 30, 31, 32, 33, 34, 35, 36, 37, 38, 39, 40, 41, 42, 43, 44, 45, 46, 47, 48, 49, 50, 51, 56, 57, 58, 59, 60, 61, 62, 63, 64, 65, 66, 67, 68, 69, 70, 71, 72, 73, 74, 75, 76, 77, 78, 79, 80, 81, 82, 83, 84] (by decide +kernel) (by decide +kernel)
set_option maxRecDepth 20000 in
theorem gX8_metByAll_X8_hoursGo : GoodIn wsX8_metByAll (wsV RX8 160 RX8 yX8_hoursGo wsX8_hoursGo) := goodIn_app (goodIn_of _ (by decide +kernel)) ggX8_metByAll_X8_hoursGo
set_option maxRecDepth 20000 in
theorem ggX8_metByAll_X8_putBack : GoodIn wsX8_metByAll wsX8_putBack := goodIn_r _ [55, 2, 1, 3, 4, 5, 6, 56, 57, 58, 59, 60, 61, 62, 63, 64, 65, 66, 67, 68, 69, 70, 71, 72, 73, 74, 75, 76, 77, 78, 79, 80, 81, 82, 83, 84] (by decide +kernel) (by decide +kernel)
set_option maxRecDepth 20000 in
theorem gX8_metByAll_X8_putBack : GoodIn wsX8_metByAll (wsV RX8 188 RX8 yX8_putBack wsX8_putBack) := goodIn_app (goodIn_of _ (by decide +kernel)) ggX8_metByAll_X8_putBack
theorem dX8_metByAll_0 : decode cX8_metByAll 0 = .ok (.aload_n 0, 1) := by decide +kernel
theorem dX8_metByAll_1 : decode cX8_metByAll 1 = .ok (.getfield 9, 3) := by decide +kernel
theorem dX8_metByAll_4 : decode cX8_metByAll 4 = .ok (.aload_n 0, 1) := by decide +kernel
theorem dX8_metByAll_5 : decode cX8_metByAll 5 = .ok (.getfield 16, 3) := by decide +kernel
theorem dX8_metByAll_8 : decode cX8_metByAll 8 = .ok (.invokestatic 74, 3) := by decide +kernel
theorem dX8_metByAll_11 : decode cX8_metByAll 11 = .ok (.aload_n 0, 1) := by decide +kernel
theorem dX8_metByAll_12 : decode cX8_metByAll 12 = .ok (.aload_n 0, 1) := by decide +kernel
theorem dX8_metByAll_13 : decode cX8_metByAll 13 = .ok (.bipush 16, 2) := by decide +kernel
theorem dX8_metByAll_15 : decode cX8_metByAll 15 = .ok (.aload_n 0, 1) := by decide +kernel
theorem dX8_metByAll_16 : decode cX8_metByAll 16 = .ok (.getfield 9, 3) := by decide +kernel
theorem dX8_metByAll_19 : decode cX8_metByAll 19 = .ok (.iconst 0, 1) := by decide +kernel
theorem dX8_metByAll_20 : decode cX8_metByAll 20 = .ok (.iaload, 1) := by decide +kernel
theorem dX8_metByAll_21 : decode cX8_metByAll 21 = .ok (.isub, 1) := by decide +kernel
theorem dX8_metByAll_22 : decode cX8_metByAll 22 = .ok (.invokevirtual 160, 3) := by decide +kernel
theorem dX8_metByAll_25 : decode cX8_metByAll 25 = .ok (.aload_n 0, 1) := by decide +kernel
theorem dX8_metByAll_26 : decode cX8_metByAll 26 = .ok (.getfield 16, 3) := by decide +kernel
theorem dX8_metByAll_29 : decode cX8_metByAll 29 = .ok (.iconst 1, 1) := by decide +kernel
theorem dX8_metByAll_30 : decode cX8_metByAll 30 = .ok (.iaload, 1) := by decide +kernel
theorem dX8_metByAll_31 : decode cX8_metByAll 31 = .ok (.isub, 1) := by decide +kernel
theorem dX8_metByAll_32 : decode cX8_metByAll 32 = .ok (.invokevirtual 188, 3) := by decide +kernel
theorem dX8_metByAll_35 : decode cX8_metByAll 35 = .ok (.ireturn, 1) := by decide +kernel
set_option maxRecDepth 20000 in
theorem ggX8_all_X8_metByAll : GoodIn wsX8_all wsX8_metByAll := goodIn_r _ [5, 6, 7, 8, 9, 4, 10, 11, 12, 13, 14, 15, 16, 17, 18, 19, 20, 21, 22, 23, 24, 25, 26, 27, 28, 29, 30, 31, 32, 33, 34, 35, 36, 37, 38, 39, 40, 41, 42, 43, 44, 45, 46, 47, 48, 49, 50, 51, 52, 53, 54, 55, 56, 57, 58, 59, 60, 61, 62, 63, 64, 65, 66, 67, 68, 69, 70, 71, 72, 73, 74, 75, 76, 77, 78, 79, 80, 81, 82, 83, 84, 85, 86, 87, 88] (by decide +kernel) (by decide +kernel)
set_option maxRecDepth 20000 in
theorem gX8_all_X8_metByAll : GoodIn wsX8_all (wsV RX8 191 RX8 yX8_metByAll wsX8_metByAll) := goodIn_app (goodIn_of _ (by decide +kernel)) ggX8_all_X8_metByAll
theorem dX8_all_0 : decode cX8_all 0 = .ok (.aload_n 0, 1) := by decide +kernel
theorem dX8_all_1 : decode cX8_all 1 = .ok (.invokevirtual 191, 3) := by decide +kernel
theorem dX8_all_4 : decode cX8_all 4 = .ok (.ireturn, 1) := by decide +kernel
set_option maxRecDepth 20000 in
theorem ggX8_tan_X8_isPerson : GoodIn wsX8_tan wsX8_isPerson := goodIn_r _ [7, 8, 9, 10, 6, 11, 76, 77, 78, 79, 80, 81, 82, 83, 84, 85, 86, 87, 88, 89, 90, 91, 92, 93, 94, 95, 96, 97, 98, 99, 100, 101, 102, 103, 104] (by decide +kernel) (by decide +kernel)
set_option maxRecDepth 20000 in
theorem gX8_tan_X8_isPerson : GoodIn wsX8_tan (wsV RX8 130 RX8 yX8_isPerson wsX8_isPerson) := goodIn_app (goodIn_of _ (by decide +kernel)) ggX8_tan_X8_isPerson
set_option maxRecDepth 20000 in
theorem ggX8_tan_X8_finding : GoodIn wsX8_tan wsX8_finding := goodIn_r _ [15, 16, 1, 76, 77, 78, 79, 80, 81, 82, 83, 84, 85, 86, 87, 88, 89, 90, 91, 92, 93, 94, 95, 96, 97, 98, 99, 100, 101, 102, 103, 104] (by decide +kernel) (by decide +kernel)
set_option maxRecDepth 20000 in
theorem gX8_tan_X8_finding : GoodIn wsX8_tan (wsV RX8 90 RX8 yX8_finding wsX8_finding) := goodIn_app (goodIn_of _ (by decide +kernel)) ggX8_tan_X8_finding
set_option maxRecDepth 20000 in
theorem ggX8_tan_X8_findRest : GoodIn wsX8_tan wsX8_findRest := goodIn_r _ [20, 8, 21, 22, 23, 2, 24, 25, 26, 6, 27, 28, 29, 30, 31, 32, 33, 34, 35, 36, 37, 38, 39, 40, 41, 42, 43, 44, 45, 46, 47, 48, 49, 50, 51, 52, 53, 54, 55, 56, 57, 58, 59, 60, 61, 62, 63, 64, 65, 66, 67, 68, 69, 70, 71, 72, 73, 74, 75, 76, 77, 78, 79, 80, 81, 82, 83, 84, 85, 86, 87, 88, 89, 90, 91, 92, 93, 94, 95, 96, 97, 98, 99, 100, 101, 102, 103, 104] (by decide +kernel) (by decide +kernel)
set_option maxRecDepth 20000 in
theorem gX8_tan_X8_findRest : GoodIn wsX8_tan (wsV RX8 179 RX8 yX8_findRest wsX8_findRest) := goodIn_app (goodIn_of _ (by decide +kernel)) ggX8_tan_X8_findRest
theorem dX8_tan_0 : decode cX8_tan 0 = .ok (.aload_n 0, 1) := by decide +kernel
theorem dX8_tan_1 : decode cX8_tan 1 = .ok (.iload_n 1, 1) := by decide +kernel
theorem dX8_tan_2 : decode cX8_tan 2 = .ok (.invokevirtual 130, 3) := by decide +kernel
theorem dX8_tan_5 : decode cX8_tan 5 = .ok (.ifCond .ne 10, 3) := by decide +kernel
theorem dX8_tan_8 : decode cX8_tan 8 = .ok (.aload_n 0, 1) := by decide +kernel
theorem dX8_tan_9 : decode cX8_tan 9 = .ok (.ldc 73, 2) := by decide +kernel
theorem dX8_tan_11 : decode cX8_tan 11 = .ok (.invokevirtual 90, 3) := by decide +kernel
theorem dX8_tan_14 : decode cX8_tan 14 = .ok (.ireturn, 1) := by decide +kernel
theorem dX8_tan_15 : decode cX8_tan 15 = .ok (.aload_n 0, 1) := by decide +kernel
theorem dX8_tan_16 : decode cX8_tan 16 = .ok (.iload_n 1, 1) := by decide +kernel
theorem dX8_tan_17 : decode cX8_tan 17 = .ok (.invokevirtual 179, 3) := by decide +kernel
theorem dX8_tan_20 : decode cX8_tan 20 = .ok (.aload_n 0, 1) := by decide +kernel
theorem dX8_tan_21 : decode cX8_tan 21 = .ok (.getfield 170, 3) := by decide +kernel
theorem dX8_tan_24 : decode cX8_tan 24 = .ok (.ireturn, 1) := by decide +kernel
set_option maxRecDepth 20000 in
theorem ggX8_strong_X8_isPerson : GoodIn wsX8_strong wsX8_isPerson := goodIn_r _ [9, 2, 10, 11, 8, 12, 82, 83, 84, 85, 86, 87, 88, 89, 90, 91, 92, 93, 94, 95, 96, 97, 98, 99, 100, 101, 102, 103, 104, 105, 106, 107, 108, 109, 110] (by decide +kernel) (by decide +kernel)
set_option maxRecDepth 20000 in
theorem gX8_strong_X8_isPerson : GoodIn wsX8_strong (wsV RX8 130 RX8 yX8_isPerson wsX8_isPerson) := goodIn_app (goodIn_of _ (by decide +kernel)) ggX8_strong_X8_isPerson
set_option maxRecDepth 20000 in
theorem ggX8_strong_X8_finding : GoodIn wsX8_strong wsX8_finding := goodIn_r _ [16, 17, 1, 82, 83, 84, 85, 86, 87, 88, 89, 90, 91, 92, 93, 94, 95, 96, 97, 98, 99, 100, 101, 102, 103, 104, 105, 106, 107, 108, 109, 110] (by decide +kernel) (by decide +kernel)
set_option maxRecDepth 20000 in
theorem gX8_strong_X8_finding : GoodIn wsX8_strong (wsV RX8 90 RX8 yX8_finding wsX8_finding) := goodIn_app (goodIn_of _ (by decide +kernel)) ggX8_strong_X8_finding
set_option maxRecDepth 20000 in
theorem ggX8_strong_X8_personIs : GoodIn wsX8_strong wsX8_personIs := goodIn_r _ [21, 2, 22, 23, 8, 24, 82, 83, 84, 85, 86, 87, 88, 89, 90, 91, 92, 93, 94, 95, 96, 97, 98, 99, 100, 101, 102, 103, 104, 105, 106, 107, 108, 109, 110] (by decide +kernel) (by decide +kernel)
set_option maxRecDepth 20000 in
theorem gX8_strong_X8_personIs : GoodIn wsX8_strong (wsV RX8 102 RX8 yX8_personIs wsX8_personIs) := goodIn_app (goodIn_of _ (by decide +kernel)) ggX8_strong_X8_personIs
set_option maxRecDepth 20000 in
theorem ggX8_strong_X8_at : GoodIn wsX8_strong wsX8_at := goodIn_r _ [24] (by decide +kernel) (by decide +kernel)
set_option maxRecDepth 20000 in
theorem gX8_strong_X8_at : GoodIn wsX8_strong (va_wsS RX8 82 yX8_at wsX8_at) := goodIn_app (goodIn_of _ (by decide +kernel)) ggX8_strong_X8_at
set_option maxRecDepth 20000 in
theorem ggX8_strong_X8_findRest : GoodIn wsX8_strong wsX8_findRest := goodIn_r _ [28, 2, 29, 3, 30, 31, 32, 33, 34, 8, 35, 36, 37, 38, 39, 40, 41, 42, 43, 18, 19, 20, 21, 22, 23, 24, 44, 45, 46, 47, 48, 49, 50, 51, 52, 53, 54, 55, 56, 57, 58, 59, 60, 61, 62, 63, 64, 65, 66, 67, 68, 69, 70, 71, 72, 73, 74, 75, 76, 82, 83, 84, 85, 86, 87, 88, 89, 90, 91, 92, 93, 94, 95, 96, 97, 98, 99, 100, 101, 102, 103, 104, 105, 106, 107, 108, 109, 110] (by decide +kernel) (by decide +kernel)
set_option maxRecDepth 20000 in
theorem gX8_strong_X8_findRest : GoodIn wsX8_strong (wsV RX8 179 RX8 yX8_findRest wsX8_findRest) := goodIn_app (goodIn_of _ (by decide +kernel)) ggX8_strong_X8_findRest
set_option maxRecDepth 20000 in
theorem ggX8_strong_X8_restHours : GoodIn wsX8_strong wsX8_restHours := goodIn_r _ [80, 81, 2, 82, 83, 84, 85, 86, 87, 88, 89, 90, 91, 92, 93, 94, 95, 96, 97, 98, 99, 100, 101, 102, 103, 104, 105, 106, 107, 108, 109, 110] (by decide +kernel) (by decide +kernel)
set_option maxRecDepth 20000 in
theorem gX8_strong_X8_restHours : GoodIn wsX8_strong (wsV RX8 184 RX8 yX8_restHours wsX8_restHours) := goodIn_app (goodIn_of _ (by decide +kernel)) ggX8_strong_X8_restHours
theorem dX8_strong_0 : decode cX8_strong 0 = .ok (.aload_n 0, 1) := by decide +kernel
theorem dX8_strong_1 : decode cX8_strong 1 = .ok (.iload_n 1, 1) := by decide +kernel
theorem dX8_strong_2 : decode cX8_strong 2 = .ok (.invokevirtual 130, 3) := by decide +kernel
theorem dX8_strong_5 : decode cX8_strong 5 = .ok (.ifCond .ne 10, 3) := by decide +kernel
theorem dX8_strong_8 : decode cX8_strong 8 = .ok (.aload_n 0, 1) := by decide +kernel
theorem dX8_strong_9 : decode cX8_strong 9 = .ok (.ldc 73, 2) := by decide +kernel
theorem dX8_strong_11 : decode cX8_strong 11 = .ok (.invokevirtual 90, 3) := by decide +kernel
theorem dX8_strong_14 : decode cX8_strong 14 = .ok (.ireturn, 1) := by decide +kernel
theorem dX8_strong_15 : decode cX8_strong 15 = .ok (.aload_n 0, 1) := by decide +kernel
theorem dX8_strong_16 : decode cX8_strong 16 = .ok (.iload_n 1, 1) := by decide +kernel
theorem dX8_strong_17 : decode cX8_strong 17 = .ok (.iconst 2, 1) := by decide +kernel
theorem dX8_strong_18 : decode cX8_strong 18 = .ok (.invokevirtual 102, 3) := by decide +kernel
theorem dX8_strong_21 : decode cX8_strong 21 = .ok (.istore_n 2, 1) := by decide +kernel
theorem dX8_strong_22 : decode cX8_strong 22 = .ok (.iconst (-1), 1) := by decide +kernel
theorem dX8_strong_23 : decode cX8_strong 23 = .ok (.istore_n 3, 1) := by decide +kernel
theorem dX8_strong_24 : decode cX8_strong 24 = .ok (.iconst 0, 1) := by decide +kernel
theorem dX8_strong_25 : decode cX8_strong 25 = .ok (.istore 4, 2) := by decide +kernel
theorem dX8_strong_27 : decode cX8_strong 27 = .ok (.iload 4, 2) := by decide +kernel
theorem dX8_strong_29 : decode cX8_strong 29 = .ok (.bipush 9, 2) := by decide +kernel
theorem dX8_strong_31 : decode cX8_strong 31 = .ok (.if_icmp .gt 48, 3) := by decide +kernel
theorem dX8_strong_34 : decode cX8_strong 34 = .ok (.iload_n 3, 1) := by decide +kernel
theorem dX8_strong_35 : decode cX8_strong 35 = .ok (.ifCond .ge 44, 3) := by decide +kernel
theorem dX8_strong_38 : decode cX8_strong 38 = .ok (.aload_n 0, 1) := by decide +kernel
theorem dX8_strong_39 : decode cX8_strong 39 = .ok (.getfield 9, 3) := by decide +kernel
theorem dX8_strong_42 : decode cX8_strong 42 = .ok (.iload_n 1, 1) := by decide +kernel
theorem dX8_strong_43 : decode cX8_strong 43 = .ok (.iconst 2, 1) := by decide +kernel
theorem dX8_strong_44 : decode cX8_strong 44 = .ok (.invokestatic 82, 3) := by decide +kernel
theorem dX8_strong_47 : decode cX8_strong 47 = .ok (.iload 4, 2) := by decide +kernel
theorem dX8_strong_49 : decode cX8_strong 49 = .ok (.iastore, 1) := by decide +kernel
theorem dX8_strong_50 : decode cX8_strong 50 = .ok (.aload_n 0, 1) := by decide +kernel
theorem dX8_strong_51 : decode cX8_strong 51 = .ok (.iload_n 1, 1) := by decide +kernel
theorem dX8_strong_52 : decode cX8_strong 52 = .ok (.invokevirtual 179, 3) := by decide +kernel
theorem dX8_strong_55 : decode cX8_strong 55 = .ok (.aload_n 0, 1) := by decide +kernel
theorem dX8_strong_56 : decode cX8_strong 56 = .ok (.getfield 163, 3) := by decide +kernel
theorem dX8_strong_59 : decode cX8_strong 59 = .ok (.aload_n 0, 1) := by decide +kernel
theorem dX8_strong_60 : decode cX8_strong 60 = .ok (.invokevirtual 184, 3) := by decide +kernel
theorem dX8_strong_63 : decode cX8_strong 63 = .ok (.if_icmp .ne 8, 3) := by decide +kernel
theorem dX8_strong_66 : decode cX8_strong 66 = .ok (.iload 4, 2) := by decide +kernel
theorem dX8_strong_68 : decode cX8_strong 68 = .ok (.goto 4, 3) := by decide +kernel
theorem dX8_strong_71 : decode cX8_strong 71 = .ok (.iconst (-1), 1) := by decide +kernel
theorem dX8_strong_72 : decode cX8_strong 72 = .ok (.istore_n 3, 1) := by decide +kernel
theorem dX8_strong_73 : decode cX8_strong 73 = .ok (.iinc 4 1, 3) := by decide +kernel
theorem dX8_strong_76 : decode cX8_strong 76 = .ok (.goto (-49), 3) := by decide +kernel
theorem dX8_strong_79 : decode cX8_strong 79 = .ok (.aload_n 0, 1) := by decide +kernel
theorem dX8_strong_80 : decode cX8_strong 80 = .ok (.getfield 9, 3) := by decide +kernel
theorem dX8_strong_83 : decode cX8_strong 83 = .ok (.iload_n 1, 1) := by decide +kernel
theorem dX8_strong_84 : decode cX8_strong 84 = .ok (.iconst 2, 1) := by decide +kernel
theorem dX8_strong_85 : decode cX8_strong 85 = .ok (.invokestatic 82, 3) := by decide +kernel
theorem dX8_strong_88 : decode cX8_strong 88 = .ok (.iload_n 2, 1) := by decide +kernel
theorem dX8_strong_89 : decode cX8_strong 89 = .ok (.iastore, 1) := by decide +kernel
theorem dX8_strong_90 : decode cX8_strong 90 = .ok (.iload_n 3, 1) := by decide +kernel
theorem dX8_strong_91 : decode cX8_strong 91 = .ok (.ifCond .ge 12, 3) := by decide +kernel
theorem dX8_strong_94 : decode cX8_strong 94 = .ok (.aload_n 0, 1) := by decide +kernel
theorem dX8_strong_95 : decode cX8_strong 95 = .ok (.ldc 152, 2) := by decide +kernel
theorem dX8_strong_97 : decode cX8_strong 97 = .ok (.invokevirtual 90, 3) := by decide +kernel
theorem dX8_strong_100 : decode cX8_strong 100 = .ok (.goto 4, 3) := by decide +kernel
theorem dX8_strong_103 : decode cX8_strong 103 = .ok (.iload_n 3, 1) := by decide +kernel
theorem dX8_strong_104 : decode cX8_strong 104 = .ok (.ireturn, 1) := by decide +kernel
set_option maxRecDepth 20000 in
theorem ggX8_kindFor_X8_isPerson : GoodIn wsX8_kindFor wsX8_isPerson := goodIn_r _ [12, 2, 13, 14, 11, 15, 76, 77, 78, 79, 80, 81, 82, 83, 84, 85, 86, 87, 88, 89, 90, 91, 92, 93, 94, 95, 96, 97, 98, 99, 100, 101, 102, 103, 104] (by decide +kernel) (by decide +kernel)
set_option maxRecDepth 20000 in
theorem gX8_kindFor_X8_isPerson : GoodIn wsX8_kindFor (wsV RX8 130 RX8 yX8_isPerson wsX8_isPerson) := goodIn_app (goodIn_of _ (by decide +kernel)) ggX8_kindFor_X8_isPerson
set_option maxRecDepth 20000 in
theorem ggX8_kindFor_X8_finding : GoodIn wsX8_kindFor wsX8_finding := goodIn_r _ [19, 20, 1, 76, 77, 78, 79, 80, 81, 82, 83, 84, 85, 86, 87, 88, 89, 90, 91, 92, 93, 94, 95, 96, 97, 98, 99, 100, 101, 102, 103, 104] (by decide +kernel) (by decide +kernel)
set_option maxRecDepth 20000 in
theorem gX8_kindFor_X8_finding : GoodIn wsX8_kindFor (wsV RX8 90 RX8 yX8_finding wsX8_finding) := goodIn_app (goodIn_of _ (by decide +kernel)) ggX8_kindFor_X8_finding
set_option maxRecDepth 20000 in
theorem ggX8_kindFor_X8_personIs : GoodIn wsX8_kindFor wsX8_personIs := goodIn_r _ [24, 2, 25, 26, 11, 27, 76, 77, 78, 79, 80, 81, 82, 83, 84, 85, 86, 87, 88, 89, 90, 91, 92, 93, 94, 95, 96, 97, 98, 99, 100, 101, 102, 103, 104] (by decide +kernel) (by decide +kernel)
set_option maxRecDepth 20000 in
theorem gX8_kindFor_X8_personIs : GoodIn wsX8_kindFor (wsV RX8 102 RX8 yX8_personIs wsX8_personIs) := goodIn_app (goodIn_of _ (by decide +kernel)) ggX8_kindFor_X8_personIs
set_option maxRecDepth 20000 in
theorem ggX8_kindFor_X8_at : GoodIn wsX8_kindFor wsX8_at := goodIn_r _ [27] (by decide +kernel) (by decide +kernel)
set_option maxRecDepth 20000 in
theorem gX8_kindFor_X8_at : GoodIn wsX8_kindFor (va_wsS RX8 82 yX8_at wsX8_at) := goodIn_app (goodIn_of _ (by decide +kernel)) ggX8_kindFor_X8_at
set_option maxRecDepth 20000 in
theorem ggX8_kindFor_X8_findRest : GoodIn wsX8_kindFor wsX8_findRest := goodIn_r _ [31, 2, 32, 33, 34, 35, 3, 36, 37, 11, 38, 39, 40, 41, 42, 43, 44, 45, 46, 21, 22, 23, 24, 25, 26, 27, 47, 48, 49, 50, 51, 52, 53, 54, 55, 56, 57, 58, 59, 6, 60, 4, 5, 7, 61, 62, 63, 64, 65, 66, 67, 68, 69, 70, 71, 72, 73, 74, 75, 76, 77, 78, 79, 80, 81, 82, 83, 84, 85, 86, 87, 88, 89, 90, 91, 92, 93, 94, 95, 96, 97, 98, 99, 100, 101, 102, 103, 104] (by decide +kernel) (by decide +kernel)
set_option maxRecDepth 20000 in
theorem gX8_kindFor_X8_findRest : GoodIn wsX8_kindFor (wsV RX8 179 RX8 yX8_findRest wsX8_findRest) := goodIn_app (goodIn_of _ (by decide +kernel)) ggX8_kindFor_X8_findRest
theorem dX8_kindFor_0 : decode cX8_kindFor 0 = .ok (.aload_n 0, 1) := by decide +kernel
theorem dX8_kindFor_1 : decode cX8_kindFor 1 = .ok (.iload_n 1, 1) := by decide +kernel
theorem dX8_kindFor_2 : decode cX8_kindFor 2 = .ok (.invokevirtual 130, 3) := by decide +kernel
theorem dX8_kindFor_5 : decode cX8_kindFor 5 = .ok (.ifCond .ne 10, 3) := by decide +kernel
theorem dX8_kindFor_8 : decode cX8_kindFor 8 = .ok (.aload_n 0, 1) := by decide +kernel
theorem dX8_kindFor_9 : decode cX8_kindFor 9 = .ok (.ldc 73, 2) := by decide +kernel
theorem dX8_kindFor_11 : decode cX8_kindFor 11 = .ok (.invokevirtual 90, 3) := by decide +kernel
theorem dX8_kindFor_14 : decode cX8_kindFor 14 = .ok (.ireturn, 1) := by decide +kernel
theorem dX8_kindFor_15 : decode cX8_kindFor 15 = .ok (.aload_n 0, 1) := by decide +kernel
theorem dX8_kindFor_16 : decode cX8_kindFor 16 = .ok (.iload_n 1, 1) := by decide +kernel
theorem dX8_kindFor_17 : decode cX8_kindFor 17 = .ok (.iconst 0, 1) := by decide +kernel
theorem dX8_kindFor_18 : decode cX8_kindFor 18 = .ok (.invokevirtual 102, 3) := by decide +kernel
theorem dX8_kindFor_21 : decode cX8_kindFor 21 = .ok (.istore_n 2, 1) := by decide +kernel
theorem dX8_kindFor_22 : decode cX8_kindFor 22 = .ok (.iconst (-1), 1) := by decide +kernel
theorem dX8_kindFor_23 : decode cX8_kindFor 23 = .ok (.istore_n 3, 1) := by decide +kernel
theorem dX8_kindFor_24 : decode cX8_kindFor 24 = .ok (.iconst (-1), 1) := by decide +kernel
theorem dX8_kindFor_25 : decode cX8_kindFor 25 = .ok (.istore 4, 2) := by decide +kernel
theorem dX8_kindFor_27 : decode cX8_kindFor 27 = .ok (.iconst 0, 1) := by decide +kernel
theorem dX8_kindFor_28 : decode cX8_kindFor 28 = .ok (.istore 5, 2) := by decide +kernel
theorem dX8_kindFor_30 : decode cX8_kindFor 30 = .ok (.iload 5, 2) := by decide +kernel
theorem dX8_kindFor_32 : decode cX8_kindFor 32 = .ok (.bipush 6, 2) := by decide +kernel
theorem dX8_kindFor_34 : decode cX8_kindFor 34 = .ok (.if_icmp .gt 53, 3) := by decide +kernel
theorem dX8_kindFor_37 : decode cX8_kindFor 37 = .ok (.aload_n 0, 1) := by decide +kernel
theorem dX8_kindFor_38 : decode cX8_kindFor 38 = .ok (.getfield 9, 3) := by decide +kernel
theorem dX8_kindFor_41 : decode cX8_kindFor 41 = .ok (.iload_n 1, 1) := by decide +kernel
theorem dX8_kindFor_42 : decode cX8_kindFor 42 = .ok (.iconst 0, 1) := by decide +kernel
theorem dX8_kindFor_43 : decode cX8_kindFor 43 = .ok (.invokestatic 82, 3) := by decide +kernel
theorem dX8_kindFor_46 : decode cX8_kindFor 46 = .ok (.iload 5, 2) := by decide +kernel
theorem dX8_kindFor_48 : decode cX8_kindFor 48 = .ok (.iastore, 1) := by decide +kernel
theorem dX8_kindFor_49 : decode cX8_kindFor 49 = .ok (.aload_n 0, 1) := by decide +kernel
theorem dX8_kindFor_50 : decode cX8_kindFor 50 = .ok (.iload_n 1, 1) := by decide +kernel
theorem dX8_kindFor_51 : decode cX8_kindFor 51 = .ok (.invokevirtual 179, 3) := by decide +kernel
theorem dX8_kindFor_54 : decode cX8_kindFor 54 = .ok (.aload_n 0, 1) := by decide +kernel
theorem dX8_kindFor_55 : decode cX8_kindFor 55 = .ok (.getfield 176, 3) := by decide +kernel
theorem dX8_kindFor_58 : decode cX8_kindFor 58 = .ok (.iload 4, 2) := by decide +kernel
theorem dX8_kindFor_60 : decode cX8_kindFor 60 = .ok (.if_icmp .le 8, 3) := by decide +kernel
theorem dX8_kindFor_63 : decode cX8_kindFor 63 = .ok (.iload 5, 2) := by decide +kernel
theorem dX8_kindFor_65 : decode cX8_kindFor 65 = .ok (.goto 4, 3) := by decide +kernel
theorem dX8_kindFor_68 : decode cX8_kindFor 68 = .ok (.iload_n 3, 1) := by decide +kernel
theorem dX8_kindFor_69 : decode cX8_kindFor 69 = .ok (.istore_n 3, 1) := by decide +kernel
theorem dX8_kindFor_70 : decode cX8_kindFor 70 = .ok (.iload 4, 2) := by decide +kernel
theorem dX8_kindFor_72 : decode cX8_kindFor 72 = .ok (.aload_n 0, 1) := by decide +kernel
theorem dX8_kindFor_73 : decode cX8_kindFor 73 = .ok (.getfield 176, 3) := by decide +kernel
theorem dX8_kindFor_76 : decode cX8_kindFor 76 = .ok (.invokestatic 110, 3) := by decide +kernel
theorem dX8_kindFor_79 : decode cX8_kindFor 79 = .ok (.istore 4, 2) := by decide +kernel
theorem dX8_kindFor_81 : decode cX8_kindFor 81 = .ok (.iinc 5 1, 3) := by decide +kernel
theorem dX8_kindFor_84 : decode cX8_kindFor 84 = .ok (.goto (-54), 3) := by decide +kernel
theorem dX8_kindFor_87 : decode cX8_kindFor 87 = .ok (.aload_n 0, 1) := by decide +kernel
theorem dX8_kindFor_88 : decode cX8_kindFor 88 = .ok (.getfield 9, 3) := by decide +kernel
theorem dX8_kindFor_91 : decode cX8_kindFor 91 = .ok (.iload_n 1, 1) := by decide +kernel
theorem dX8_kindFor_92 : decode cX8_kindFor 92 = .ok (.iconst 0, 1) := by decide +kernel
theorem dX8_kindFor_93 : decode cX8_kindFor 93 = .ok (.invokestatic 82, 3) := by decide +kernel
theorem dX8_kindFor_96 : decode cX8_kindFor 96 = .ok (.iload_n 2, 1) := by decide +kernel
theorem dX8_kindFor_97 : decode cX8_kindFor 97 = .ok (.iastore, 1) := by decide +kernel
theorem dX8_kindFor_98 : decode cX8_kindFor 98 = .ok (.iload_n 3, 1) := by decide +kernel
theorem dX8_kindFor_99 : decode cX8_kindFor 99 = .ok (.ireturn, 1) := by decide +kernel
set_option maxRecDepth 20000 in
theorem ggX8_cloud_X8_metByAll : GoodIn wsX8_cloud wsX8_metByAll := goodIn_r _ [10, 1, 11, 12, 13, 9, 14, 15, 16, 17, 18, 19, 20, 21, 22, 2, 3, 4, 5, 23, 24, 25, 26, 27, 28, 29, 30, 31, 32, 33, 34, 35, 36, 37, 38, 39, 40, 41, 42, 43, 44, 45, 46, 47, 48, 49, 50, 51, 52, 53, 54, 55, 56, 57, 58, 59, 60, 61, 62, 63, 64, 65, 66, 67, 68, 69, 70, 71, 72, 73, 74, 75, 76, 77, 78, 79, 80, 81, 82, 83, 84, 85, 86, 87, 88] (by decide +kernel) (by decide +kernel)
set_option maxRecDepth 20000 in
theorem gX8_cloud_X8_metByAll : GoodIn wsX8_cloud (wsV RX8 191 RX8 yX8_metByAll wsX8_metByAll) := goodIn_app (goodIn_of _ (by decide +kernel)) ggX8_cloud_X8_metByAll
theorem dX8_cloud_0 : decode cX8_cloud 0 = .ok (.aload_n 0, 1) := by decide +kernel
theorem dX8_cloud_1 : decode cX8_cloud 1 = .ok (.getfield 9, 3) := by decide +kernel
theorem dX8_cloud_4 : decode cX8_cloud 4 = .ok (.iconst 3, 1) := by decide +kernel
theorem dX8_cloud_5 : decode cX8_cloud 5 = .ok (.iaload, 1) := by decide +kernel
theorem dX8_cloud_6 : decode cX8_cloud 6 = .ok (.istore_n 1, 1) := by decide +kernel
theorem dX8_cloud_7 : decode cX8_cloud 7 = .ok (.iconst (-1), 1) := by decide +kernel
theorem dX8_cloud_8 : decode cX8_cloud 8 = .ok (.istore_n 2, 1) := by decide +kernel
theorem dX8_cloud_9 : decode cX8_cloud 9 = .ok (.aload_n 0, 1) := by decide +kernel
theorem dX8_cloud_10 : decode cX8_cloud 10 = .ok (.invokevirtual 191, 3) := by decide +kernel
theorem dX8_cloud_13 : decode cX8_cloud 13 = .ok (.istore_n 3, 1) := by decide +kernel
theorem dX8_cloud_14 : decode cX8_cloud 14 = .ok (.iconst 0, 1) := by decide +kernel
theorem dX8_cloud_15 : decode cX8_cloud 15 = .ok (.istore 4, 2) := by decide +kernel
theorem dX8_cloud_17 : decode cX8_cloud 17 = .ok (.iload 4, 2) := by decide +kernel
theorem dX8_cloud_19 : decode cX8_cloud 19 = .ok (.bipush 16, 2) := by decide +kernel
theorem dX8_cloud_21 : decode cX8_cloud 21 = .ok (.if_icmp .ge 47, 3) := by decide +kernel
theorem dX8_cloud_24 : decode cX8_cloud 24 = .ok (.aload_n 0, 1) := by decide +kernel
theorem dX8_cloud_25 : decode cX8_cloud 25 = .ok (.getfield 9, 3) := by decide +kernel
theorem dX8_cloud_28 : decode cX8_cloud 28 = .ok (.iconst 3, 1) := by decide +kernel
theorem dX8_cloud_29 : decode cX8_cloud 29 = .ok (.iload_n 1, 1) := by decide +kernel
theorem dX8_cloud_30 : decode cX8_cloud 30 = .ok (.iconst 1, 1) := by decide +kernel
theorem dX8_cloud_31 : decode cX8_cloud 31 = .ok (.iload 4, 2) := by decide +kernel
theorem dX8_cloud_33 : decode cX8_cloud 33 = .ok (.ishl, 1) := by decide +kernel
theorem dX8_cloud_34 : decode cX8_cloud 34 = .ok (.ixor, 1) := by decide +kernel
theorem dX8_cloud_35 : decode cX8_cloud 35 = .ok (.iastore, 1) := by decide +kernel
theorem dX8_cloud_36 : decode cX8_cloud 36 = .ok (.aload_n 0, 1) := by decide +kernel
theorem dX8_cloud_37 : decode cX8_cloud 37 = .ok (.invokevirtual 191, 3) := by decide +kernel
theorem dX8_cloud_40 : decode cX8_cloud 40 = .ok (.istore 5, 2) := by decide +kernel
theorem dX8_cloud_42 : decode cX8_cloud 42 = .ok (.iload 5, 2) := by decide +kernel
theorem dX8_cloud_44 : decode cX8_cloud 44 = .ok (.iload_n 3, 1) := by decide +kernel
theorem dX8_cloud_45 : decode cX8_cloud 45 = .ok (.if_icmp .le 8, 3) := by decide +kernel
theorem dX8_cloud_48 : decode cX8_cloud 48 = .ok (.iload 4, 2) := by decide +kernel
theorem dX8_cloud_50 : decode cX8_cloud 50 = .ok (.goto 4, 3) := by decide +kernel
theorem dX8_cloud_53 : decode cX8_cloud 53 = .ok (.iload_n 2, 1) := by decide +kernel
theorem dX8_cloud_54 : decode cX8_cloud 54 = .ok (.istore_n 2, 1) := by decide +kernel
theorem dX8_cloud_55 : decode cX8_cloud 55 = .ok (.iload_n 3, 1) := by decide +kernel
theorem dX8_cloud_56 : decode cX8_cloud 56 = .ok (.iload 5, 2) := by decide +kernel
theorem dX8_cloud_58 : decode cX8_cloud 58 = .ok (.invokestatic 110, 3) := by decide +kernel
theorem dX8_cloud_61 : decode cX8_cloud 61 = .ok (.istore_n 3, 1) := by decide +kernel
theorem dX8_cloud_62 : decode cX8_cloud 62 = .ok (.iinc 4 1, 3) := by decide +kernel
theorem dX8_cloud_65 : decode cX8_cloud 65 = .ok (.goto (-48), 3) := by decide +kernel
theorem dX8_cloud_68 : decode cX8_cloud 68 = .ok (.aload_n 0, 1) := by decide +kernel
theorem dX8_cloud_69 : decode cX8_cloud 69 = .ok (.getfield 9, 3) := by decide +kernel
theorem dX8_cloud_72 : decode cX8_cloud 72 = .ok (.iconst 3, 1) := by decide +kernel
theorem dX8_cloud_73 : decode cX8_cloud 73 = .ok (.iload_n 1, 1) := by decide +kernel
theorem dX8_cloud_74 : decode cX8_cloud 74 = .ok (.iastore, 1) := by decide +kernel
theorem dX8_cloud_75 : decode cX8_cloud 75 = .ok (.iload_n 2, 1) := by decide +kernel
theorem dX8_cloud_76 : decode cX8_cloud 76 = .ok (.ireturn, 1) := by decide +kernel
set_option maxRecDepth 20000 in
theorem ggX8_mayHave_X8_personIs : GoodIn wsX8_mayHave wsX8_personIs := goodIn_r _ [5, 6, 7, 8, 4, 9, 13, 14, 15, 16, 17, 18, 19, 20, 21, 22, 23, 24, 25, 26, 27, 28, 29, 30, 31, 32, 33, 34, 35, 36, 37, 38, 39, 40, 41] (by decide +kernel) (by decide +kernel)
set_option maxRecDepth 20000 in
theorem gX8_mayHave_X8_personIs : GoodIn wsX8_mayHave (wsV RX8 102 RX8 yX8_personIs wsX8_personIs) := goodIn_app (goodIn_of _ (by decide +kernel)) ggX8_mayHave_X8_personIs
set_option maxRecDepth 20000 in
theorem ggX8_mayHave_X8_has : GoodIn wsX8_mayHave wsX8_has := goodIn_r _ [12] (by decide +kernel) (by decide +kernel)
set_option maxRecDepth 20000 in
theorem gX8_mayHave_X8_has : GoodIn wsX8_mayHave (va_wsS RX8 116 yX8_has wsX8_has) := goodIn_app (goodIn_of _ (by decide +kernel)) ggX8_mayHave_X8_has
theorem dX8_mayHave_0 : decode cX8_mayHave 0 = .ok (.aload_n 0, 1) := by decide +kernel
theorem dX8_mayHave_1 : decode cX8_mayHave 1 = .ok (.iload_n 1, 1) := by decide +kernel
theorem dX8_mayHave_2 : decode cX8_mayHave 2 = .ok (.iconst 3, 1) := by decide +kernel
theorem dX8_mayHave_3 : decode cX8_mayHave 3 = .ok (.invokevirtual 102, 3) := by decide +kernel
theorem dX8_mayHave_6 : decode cX8_mayHave 6 = .ok (.iload_n 3, 1) := by decide +kernel
theorem dX8_mayHave_7 : decode cX8_mayHave 7 = .ok (.invokestatic 116, 3) := by decide +kernel
theorem dX8_mayHave_10 : decode cX8_mayHave 10 = .ok (.istore 5, 2) := by decide +kernel
theorem dX8_mayHave_12 : decode cX8_mayHave 12 = .ok (.aload_n 0, 1) := by decide +kernel
theorem dX8_mayHave_13 : decode cX8_mayHave 13 = .ok (.iload_n 2, 1) := by decide +kernel
theorem dX8_mayHave_14 : decode cX8_mayHave 14 = .ok (.iconst 3, 1) := by decide +kernel
theorem dX8_mayHave_15 : decode cX8_mayHave 15 = .ok (.invokevirtual 102, 3) := by decide +kernel
theorem dX8_mayHave_18 : decode cX8_mayHave 18 = .ok (.iload_n 3, 1) := by decide +kernel
theorem dX8_mayHave_19 : decode cX8_mayHave 19 = .ok (.invokestatic 116, 3) := by decide +kernel
theorem dX8_mayHave_22 : decode cX8_mayHave 22 = .ok (.istore 6, 2) := by decide +kernel
theorem dX8_mayHave_24 : decode cX8_mayHave 24 = .ok (.iload 5, 2) := by decide +kernel
theorem dX8_mayHave_26 : decode cX8_mayHave 26 = .ok (.iload 6, 2) := by decide +kernel
theorem dX8_mayHave_28 : decode cX8_mayHave 28 = .ok (.if_icmp .eq 19, 3) := by decide +kernel
theorem dX8_mayHave_31 : decode cX8_mayHave 31 = .ok (.iload 5, 2) := by decide +kernel
theorem dX8_mayHave_33 : decode cX8_mayHave 33 = .ok (.iload 4, 2) := by decide +kernel
theorem dX8_mayHave_35 : decode cX8_mayHave 35 = .ok (.iconst 1, 1) := by decide +kernel
theorem dX8_mayHave_36 : decode cX8_mayHave 36 = .ok (.if_icmp .ne 7, 3) := by decide +kernel
theorem dX8_mayHave_39 : decode cX8_mayHave 39 = .ok (.iconst 1, 1) := by decide +kernel
theorem dX8_mayHave_40 : decode cX8_mayHave 40 = .ok (.goto 4, 3) := by decide +kernel
theorem dX8_mayHave_43 : decode cX8_mayHave 43 = .ok (.iconst 0, 1) := by decide +kernel
theorem dX8_mayHave_44 : decode cX8_mayHave 44 = .ok (.if_icmp .ne 7, 3) := by decide +kernel
theorem dX8_mayHave_47 : decode cX8_mayHave 47 = .ok (.iconst 1, 1) := by decide +kernel
theorem dX8_mayHave_48 : decode cX8_mayHave 48 = .ok (.goto 4, 3) := by decide +kernel
theorem dX8_mayHave_51 : decode cX8_mayHave 51 = .ok (.iconst 0, 1) := by decide +kernel
theorem dX8_mayHave_52 : decode cX8_mayHave 52 = .ok (.ireturn, 1) := by decide +kernel
theorem dX8_changesWith_0 : decode cX8_changesWith 0 = .ok (.iload_n 2, 1) := by decide +kernel
theorem dX8_changesWith_1 : decode cX8_changesWith 1 = .ok (.ifCond .eq 8, 3) := by decide +kernel
theorem dX8_changesWith_4 : decode cX8_changesWith 4 = .ok (.iload_n 2, 1) := by decide +kernel
theorem dX8_changesWith_5 : decode cX8_changesWith 5 = .ok (.iload_n 3, 1) := by decide +kernel
theorem dX8_changesWith_6 : decode cX8_changesWith 6 = .ok (.if_icmp .ne 7, 3) := by decide +kernel
theorem dX8_changesWith_9 : decode cX8_changesWith 9 = .ok (.iconst 0, 1) := by decide +kernel
theorem dX8_changesWith_10 : decode cX8_changesWith 10 = .ok (.goto 4, 3) := by decide +kernel
theorem dX8_changesWith_13 : decode cX8_changesWith 13 = .ok (.iconst 1, 1) := by decide +kernel
theorem dX8_changesWith_14 : decode cX8_changesWith 14 = .ok (.aload_n 0, 1) := by decide +kernel
theorem dX8_changesWith_15 : decode cX8_changesWith 15 = .ok (.getfield 22, 3) := by decide +kernel
theorem dX8_changesWith_18 : decode cX8_changesWith 18 = .ok (.iconst 3, 1) := by decide +kernel
theorem dX8_changesWith_19 : decode cX8_changesWith 19 = .ok (.iload_n 1, 1) := by decide +kernel
theorem dX8_changesWith_20 : decode cX8_changesWith 20 = .ok (.iconst 1, 1) := by decide +kernel
theorem dX8_changesWith_21 : decode cX8_changesWith 21 = .ok (.iadd, 1) := by decide +kernel
theorem dX8_changesWith_22 : decode cX8_changesWith 22 = .ok (.imul, 1) := by decide +kernel
theorem dX8_changesWith_23 : decode cX8_changesWith 23 = .ok (.iload_n 3, 1) := by decide +kernel
theorem dX8_changesWith_24 : decode cX8_changesWith 24 = .ok (.iadd, 1) := by decide +kernel
theorem dX8_changesWith_25 : decode cX8_changesWith 25 = .ok (.iaload, 1) := by decide +kernel
theorem dX8_changesWith_26 : decode cX8_changesWith 26 = .ok (.iadd, 1) := by decide +kernel
theorem dX8_changesWith_27 : decode cX8_changesWith 27 = .ok (.ireturn, 1) := by decide +kernel
set_option maxRecDepth 20000 in
theorem ggX8_findAgreement_X8_isLit : GoodIn wsX8_findAgreement wsX8_isLit := goodIn_r _ [12, 2, 13, 14, 11, 15, 31, 32, 33, 34, 35, 36, 37, 38, 39, 40, 41, 42, 43, 44, 45, 46, 47, 48, 49, 50, 51, 52, 53, 54, 55, 56, 57, 58, 59] (by decide +kernel) (by decide +kernel)
set_option maxRecDepth 20000 in
theorem gX8_findAgreement_X8_isLit : GoodIn wsX8_findAgreement (wsV RX8 120 RX8 yX8_isLit wsX8_isLit) := goodIn_app (goodIn_of _ (by decide +kernel)) ggX8_findAgreement_X8_isLit
set_option maxRecDepth 20000 in
theorem ggX8_findAgreement_X8_mayHave : GoodIn wsX8_findAgreement wsX8_mayHave := goodIn_r _ [19, 20, 21, 22, 11, 23, 2, 24, 25, 26, 13, 14, 15, 31, 32, 33, 34, 35, 36, 37, 38, 39, 40, 41, 42, 43, 44, 45, 46, 47, 48, 49, 50, 51, 52, 53, 54, 55, 56, 57, 58, 59] (by decide +kernel) (by decide +kernel)
set_option maxRecDepth 20000 in
theorem gX8_findAgreement_X8_mayHave : GoodIn wsX8_findAgreement (wsV RX8 195 RX8 yX8_mayHave wsX8_mayHave) := goodIn_app (goodIn_of _ (by decide +kernel)) ggX8_findAgreement_X8_mayHave
set_option maxRecDepth 20000 in
theorem ggX8_findAgreement_X8_changesWith : GoodIn wsX8_findAgreement wsX8_changesWith := goodIn_r _ [30, 1, 31, 32, 33, 34, 35, 36, 37, 38, 39, 40, 41, 42, 43, 44, 45, 46, 47, 48, 49, 50, 51, 52, 53, 54, 55, 56, 57, 58, 59] (by decide +kernel) (by decide +kernel)
set_option maxRecDepth 20000 in
theorem gX8_findAgreement_X8_changesWith : GoodIn wsX8_findAgreement (wsV RX8 199 RX8 yX8_changesWith wsX8_changesWith) := goodIn_app (goodIn_of _ (by decide +kernel)) ggX8_findAgreement_X8_changesWith
theorem dX8_findAgreement_0 : decode cX8_findAgreement 0 = .ok (.iconst 0, 1) := by decide +kernel
theorem dX8_findAgreement_1 : decode cX8_findAgreement 1 = .ok (.istore_n 3, 1) := by decide +kernel
theorem dX8_findAgreement_2 : decode cX8_findAgreement 2 = .ok (.iload_n 3, 1) := by decide +kernel
theorem dX8_findAgreement_3 : decode cX8_findAgreement 3 = .ok (.iconst 3, 1) := by decide +kernel
theorem dX8_findAgreement_4 : decode cX8_findAgreement 4 = .ok (.if_icmp .ge 19, 3) := by decide +kernel
theorem dX8_findAgreement_7 : decode cX8_findAgreement 7 = .ok (.aload_n 0, 1) := by decide +kernel
theorem dX8_findAgreement_8 : decode cX8_findAgreement 8 = .ok (.getfield 22, 3) := by decide +kernel
theorem dX8_findAgreement_11 : decode cX8_findAgreement 11 = .ok (.bipush 48, 2) := by decide +kernel
theorem dX8_findAgreement_13 : decode cX8_findAgreement 13 = .ok (.iload_n 3, 1) := by decide +kernel
theorem dX8_findAgreement_14 : decode cX8_findAgreement 14 = .ok (.iadd, 1) := by decide +kernel
theorem dX8_findAgreement_15 : decode cX8_findAgreement 15 = .ok (.iconst 0, 1) := by decide +kernel
theorem dX8_findAgreement_16 : decode cX8_findAgreement 16 = .ok (.iastore, 1) := by decide +kernel
theorem dX8_findAgreement_17 : decode cX8_findAgreement 17 = .ok (.iinc 3 1, 3) := by decide +kernel
theorem dX8_findAgreement_20 : decode cX8_findAgreement 20 = .ok (.goto (-18), 3) := by decide +kernel
theorem dX8_findAgreement_23 : decode cX8_findAgreement 23 = .ok (.bipush 15, 2) := by decide +kernel
theorem dX8_findAgreement_25 : decode cX8_findAgreement 25 = .ok (.istore_n 3, 1) := by decide +kernel
theorem dX8_findAgreement_26 : decode cX8_findAgreement 26 = .ok (.iload_n 3, 1) := by decide +kernel
theorem dX8_findAgreement_27 : decode cX8_findAgreement 27 = .ok (.aload_n 0, 1) := by decide +kernel
theorem dX8_findAgreement_28 : decode cX8_findAgreement 28 = .ok (.getfield 9, 3) := by decide +kernel
theorem dX8_findAgreement_31 : decode cX8_findAgreement 31 = .ok (.iconst 0, 1) := by decide +kernel
theorem dX8_findAgreement_32 : decode cX8_findAgreement 32 = .ok (.iaload, 1) := by decide +kernel
theorem dX8_findAgreement_33 : decode cX8_findAgreement 33 = .ok (.if_icmp .lt 121, 3) := by decide +kernel
theorem dX8_findAgreement_36 : decode cX8_findAgreement 36 = .ok (.iconst 0, 1) := by decide +kernel
theorem dX8_findAgreement_37 : decode cX8_findAgreement 37 = .ok (.istore 4, 2) := by decide +kernel
theorem dX8_findAgreement_39 : decode cX8_findAgreement 39 = .ok (.iload 4, 2) := by decide +kernel
theorem dX8_findAgreement_41 : decode cX8_findAgreement 41 = .ok (.iconst 3, 1) := by decide +kernel
theorem dX8_findAgreement_42 : decode cX8_findAgreement 42 = .ok (.if_icmp .ge 106, 3) := by decide +kernel
theorem dX8_findAgreement_45 : decode cX8_findAgreement 45 = .ok (.aload_n 0, 1) := by decide +kernel
theorem dX8_findAgreement_46 : decode cX8_findAgreement 46 = .ok (.iload_n 3, 1) := by decide +kernel
theorem dX8_findAgreement_47 : decode cX8_findAgreement 47 = .ok (.invokevirtual 120, 3) := by decide +kernel
theorem dX8_findAgreement_50 : decode cX8_findAgreement 50 = .ok (.ifCond .eq 8, 3) := by decide +kernel
theorem dX8_findAgreement_53 : decode cX8_findAgreement 53 = .ok (.ldc 194, 2) := by decide +kernel
theorem dX8_findAgreement_55 : decode cX8_findAgreement 55 = .ok (.goto 16, 3) := by decide +kernel
theorem dX8_findAgreement_58 : decode cX8_findAgreement 58 = .ok (.aload_n 0, 1) := by decide +kernel
theorem dX8_findAgreement_59 : decode cX8_findAgreement 59 = .ok (.getfield 22, 3) := by decide +kernel
theorem dX8_findAgreement_62 : decode cX8_findAgreement 62 = .ok (.iconst 3, 1) := by decide +kernel
theorem dX8_findAgreement_63 : decode cX8_findAgreement 63 = .ok (.iload_n 3, 1) := by decide +kernel
theorem dX8_findAgreement_64 : decode cX8_findAgreement 64 = .ok (.iconst 1, 1) := by decide +kernel
theorem dX8_findAgreement_65 : decode cX8_findAgreement 65 = .ok (.iadd, 1) := by decide +kernel
theorem dX8_findAgreement_66 : decode cX8_findAgreement 66 = .ok (.imul, 1) := by decide +kernel
theorem dX8_findAgreement_67 : decode cX8_findAgreement 67 = .ok (.iload 4, 2) := by decide +kernel
theorem dX8_findAgreement_69 : decode cX8_findAgreement 69 = .ok (.iadd, 1) := by decide +kernel
theorem dX8_findAgreement_70 : decode cX8_findAgreement 70 = .ok (.iaload, 1) := by decide +kernel
theorem dX8_findAgreement_71 : decode cX8_findAgreement 71 = .ok (.istore 5, 2) := by decide +kernel
theorem dX8_findAgreement_73 : decode cX8_findAgreement 73 = .ok (.iconst 1, 1) := by decide +kernel
theorem dX8_findAgreement_74 : decode cX8_findAgreement 74 = .ok (.istore 6, 2) := by decide +kernel
theorem dX8_findAgreement_76 : decode cX8_findAgreement 76 = .ok (.iload 6, 2) := by decide +kernel
theorem dX8_findAgreement_78 : decode cX8_findAgreement 78 = .ok (.iconst 3, 1) := by decide +kernel
theorem dX8_findAgreement_79 : decode cX8_findAgreement 79 = .ok (.if_icmp .ge 50, 3) := by decide +kernel
theorem dX8_findAgreement_82 : decode cX8_findAgreement 82 = .ok (.aload_n 0, 1) := by decide +kernel
theorem dX8_findAgreement_83 : decode cX8_findAgreement 83 = .ok (.iload_n 3, 1) := by decide +kernel
theorem dX8_findAgreement_84 : decode cX8_findAgreement 84 = .ok (.invokevirtual 120, 3) := by decide +kernel
theorem dX8_findAgreement_87 : decode cX8_findAgreement 87 = .ok (.ifCond .eq 42, 3) := by decide +kernel
theorem dX8_findAgreement_90 : decode cX8_findAgreement 90 = .ok (.aload_n 0, 1) := by decide +kernel
theorem dX8_findAgreement_91 : decode cX8_findAgreement 91 = .ok (.iload_n 1, 1) := by decide +kernel
theorem dX8_findAgreement_92 : decode cX8_findAgreement 92 = .ok (.iload_n 2, 1) := by decide +kernel
theorem dX8_findAgreement_93 : decode cX8_findAgreement 93 = .ok (.iload_n 3, 1) := by decide +kernel
theorem dX8_findAgreement_94 : decode cX8_findAgreement 94 = .ok (.iload 6, 2) := by decide +kernel
theorem dX8_findAgreement_96 : decode cX8_findAgreement 96 = .ok (.invokevirtual 195, 3) := by decide +kernel
theorem dX8_findAgreement_99 : decode cX8_findAgreement 99 = .ok (.ifCond .eq 20, 3) := by decide +kernel
theorem dX8_findAgreement_102 : decode cX8_findAgreement 102 = .ok (.iload 5, 2) := by decide +kernel
theorem dX8_findAgreement_104 : decode cX8_findAgreement 104 = .ok (.aload_n 0, 1) := by decide +kernel
theorem dX8_findAgreement_105 : decode cX8_findAgreement 105 = .ok (.iload_n 3, 1) := by decide +kernel
theorem dX8_findAgreement_106 : decode cX8_findAgreement 106 = .ok (.iload 4, 2) := by decide +kernel
theorem dX8_findAgreement_108 : decode cX8_findAgreement 108 = .ok (.iload 6, 2) := by decide +kernel
theorem dX8_findAgreement_110 : decode cX8_findAgreement 110 = .ok (.invokevirtual 199, 3) := by decide +kernel
theorem dX8_findAgreement_113 : decode cX8_findAgreement 113 = .ok (.invokestatic 105, 3) := by decide +kernel
theorem dX8_findAgreement_116 : decode cX8_findAgreement 116 = .ok (.goto 5, 3) := by decide +kernel
theorem dX8_findAgreement_119 : decode cX8_findAgreement 119 = .ok (.iload 5, 2) := by decide +kernel
theorem dX8_findAgreement_121 : decode cX8_findAgreement 121 = .ok (.istore 5, 2) := by decide +kernel
theorem dX8_findAgreement_123 : decode cX8_findAgreement 123 = .ok (.iinc 6 1, 3) := by decide +kernel
theorem dX8_findAgreement_126 : decode cX8_findAgreement 126 = .ok (.goto (-50), 3) := by decide +kernel
theorem dX8_findAgreement_129 : decode cX8_findAgreement 129 = .ok (.aload_n 0, 1) := by decide +kernel
theorem dX8_findAgreement_130 : decode cX8_findAgreement 130 = .ok (.getfield 22, 3) := by decide +kernel
theorem dX8_findAgreement_133 : decode cX8_findAgreement 133 = .ok (.iconst 3, 1) := by decide +kernel
theorem dX8_findAgreement_134 : decode cX8_findAgreement 134 = .ok (.iload_n 3, 1) := by decide +kernel
theorem dX8_findAgreement_135 : decode cX8_findAgreement 135 = .ok (.imul, 1) := by decide +kernel
theorem dX8_findAgreement_136 : decode cX8_findAgreement 136 = .ok (.iload 4, 2) := by decide +kernel
theorem dX8_findAgreement_138 : decode cX8_findAgreement 138 = .ok (.iadd, 1) := by decide +kernel
theorem dX8_findAgreement_139 : decode cX8_findAgreement 139 = .ok (.iload 5, 2) := by decide +kernel
theorem dX8_findAgreement_141 : decode cX8_findAgreement 141 = .ok (.iastore, 1) := by decide +kernel
theorem dX8_findAgreement_142 : decode cX8_findAgreement 142 = .ok (.iinc 4 1, 3) := by decide +kernel
theorem dX8_findAgreement_145 : decode cX8_findAgreement 145 = .ok (.goto (-106), 3) := by decide +kernel
theorem dX8_findAgreement_148 : decode cX8_findAgreement 148 = .ok (.iinc 3 (-1), 3) := by decide +kernel
theorem dX8_findAgreement_151 : decode cX8_findAgreement 151 = .ok (.goto (-125), 3) := by decide +kernel
theorem dX8_findAgreement_154 : decode cX8_findAgreement 154 = .ok (.aload_n 0, 1) := by decide +kernel
theorem dX8_findAgreement_155 : decode cX8_findAgreement 155 = .ok (.getfield 22, 3) := by decide +kernel
theorem dX8_findAgreement_158 : decode cX8_findAgreement 158 = .ok (.iconst 3, 1) := by decide +kernel
theorem dX8_findAgreement_159 : decode cX8_findAgreement 159 = .ok (.aload_n 0, 1) := by decide +kernel
theorem dX8_findAgreement_160 : decode cX8_findAgreement 160 = .ok (.getfield 9, 3) := by decide +kernel
theorem dX8_findAgreement_163 : decode cX8_findAgreement 163 = .ok (.iconst 0, 1) := by decide +kernel
theorem dX8_findAgreement_164 : decode cX8_findAgreement 164 = .ok (.iaload, 1) := by decide +kernel
theorem dX8_findAgreement_165 : decode cX8_findAgreement 165 = .ok (.imul, 1) := by decide +kernel
theorem dX8_findAgreement_166 : decode cX8_findAgreement 166 = .ok (.iaload, 1) := by decide +kernel
theorem dX8_findAgreement_167 : decode cX8_findAgreement 167 = .ok (.ireturn, 1) := by decide +kernel
set_option maxRecDepth 20000 in
theorem ggX8_needsIn_X8_personIs : GoodIn wsX8_needsIn wsX8_personIs := goodIn_r _ [5, 6, 7, 8, 4, 9, 13, 14, 15, 16, 17, 18, 19, 20, 21, 22, 23, 24, 25, 26, 27, 28, 29, 30, 31, 32, 33, 34, 35, 36, 37, 38, 39, 40, 41] (by decide +kernel) (by decide +kernel)
set_option maxRecDepth 20000 in
theorem gX8_needsIn_X8_personIs : GoodIn wsX8_needsIn (wsV RX8 102 RX8 yX8_personIs wsX8_personIs) := goodIn_app (goodIn_of _ (by decide +kernel)) ggX8_needsIn_X8_personIs
set_option maxRecDepth 20000 in
theorem ggX8_needsIn_X8_bits : GoodIn wsX8_needsIn wsX8_bits := goodIn_r _ [12] (by decide +kernel) (by decide +kernel)
set_option maxRecDepth 20000 in
theorem gX8_needsIn_X8_bits : GoodIn wsX8_needsIn (va_wsS RX8 173 yX8_bits wsX8_bits) := goodIn_app (goodIn_of _ (by decide +kernel)) ggX8_needsIn_X8_bits
theorem dX8_needsIn_0 : decode cX8_needsIn 0 = .ok (.aload_n 0, 1) := by decide +kernel
theorem dX8_needsIn_1 : decode cX8_needsIn 1 = .ok (.iload_n 1, 1) := by decide +kernel
theorem dX8_needsIn_2 : decode cX8_needsIn 2 = .ok (.iconst 3, 1) := by decide +kernel
theorem dX8_needsIn_3 : decode cX8_needsIn 3 = .ok (.invokevirtual 102, 3) := by decide +kernel
theorem dX8_needsIn_6 : decode cX8_needsIn 6 = .ok (.iload_n 2, 1) := by decide +kernel
theorem dX8_needsIn_7 : decode cX8_needsIn 7 = .ok (.iand, 1) := by decide +kernel
theorem dX8_needsIn_8 : decode cX8_needsIn 8 = .ok (.invokestatic 173, 3) := by decide +kernel
theorem dX8_needsIn_11 : decode cX8_needsIn 11 = .ok (.ireturn, 1) := by decide +kernel
set_option maxRecDepth 20000 in
theorem ggX8_meets_X8_restHours : GoodIn wsX8_meets wsX8_restHours := goodIn_r _ [6, 7, 1, 22, 23, 24, 25, 26, 27, 28, 29, 30, 31, 32, 33, 34, 35, 36, 37, 38, 39, 40, 41, 42, 43, 44, 45, 46, 47, 48, 49, 50] (by decide +kernel) (by decide +kernel)
set_option maxRecDepth 20000 in
theorem gX8_meets_X8_restHours : GoodIn wsX8_meets (wsV RX8 184 RX8 yX8_restHours wsX8_restHours) := goodIn_app (goodIn_of _ (by decide +kernel)) ggX8_meets_X8_restHours
set_option maxRecDepth 20000 in
theorem ggX8_meets_X8_personIs : GoodIn wsX8_meets wsX8_personIs := goodIn_r _ [11, 1, 12, 13, 5, 14, 22, 23, 24, 25, 26, 27, 28, 29, 30, 31, 32, 33, 34, 35, 36, 37, 38, 39, 40, 41, 42, 43, 44, 45, 46, 47, 48, 49, 50] (by decide +kernel) (by decide +kernel)
set_option maxRecDepth 20000 in
theorem gX8_meets_X8_personIs : GoodIn wsX8_meets (wsV RX8 102 RX8 yX8_personIs wsX8_personIs) := goodIn_app (goodIn_of _ (by decide +kernel)) ggX8_meets_X8_personIs
set_option maxRecDepth 20000 in
theorem ggX8_meets_X8_bits : GoodIn wsX8_meets wsX8_bits := goodIn_r _ [17] (by decide +kernel) (by decide +kernel)
set_option maxRecDepth 20000 in
theorem gX8_meets_X8_bits : GoodIn wsX8_meets (va_wsS RX8 173 yX8_bits wsX8_bits) := goodIn_app (goodIn_of _ (by decide +kernel)) ggX8_meets_X8_bits
set_option maxRecDepth 20000 in
theorem ggX8_meets_X8_needsIn : GoodIn wsX8_meets wsX8_needsIn := goodIn_r _ [21, 8, 9, 10, 5, 11, 1, 12, 13, 14, 15, 16, 17, 22, 23, 24, 25, 26, 27, 28, 29, 30, 31, 32, 33, 34, 35, 36, 37, 38, 39, 40, 41, 42, 43, 44, 45, 46, 47, 48, 49, 50] (by decide +kernel) (by decide +kernel)
set_option maxRecDepth 20000 in
theorem gX8_meets_X8_needsIn : GoodIn wsX8_meets (wsV RX8 202 RX8 yX8_needsIn wsX8_needsIn) := goodIn_app (goodIn_of _ (by decide +kernel)) ggX8_meets_X8_needsIn
theorem dX8_meets_0 : decode cX8_meets 0 = .ok (.aload_n 0, 1) := by decide +kernel
theorem dX8_meets_1 : decode cX8_meets 1 = .ok (.invokevirtual 184, 3) := by decide +kernel
theorem dX8_meets_4 : decode cX8_meets 4 = .ok (.aload_n 0, 1) := by decide +kernel
theorem dX8_meets_5 : decode cX8_meets 5 = .ok (.getfield 9, 3) := by decide +kernel
theorem dX8_meets_8 : decode cX8_meets 8 = .ok (.iconst 3, 1) := by decide +kernel
theorem dX8_meets_9 : decode cX8_meets 9 = .ok (.iaload, 1) := by decide +kernel
theorem dX8_meets_10 : decode cX8_meets 10 = .ok (.iand, 1) := by decide +kernel
theorem dX8_meets_11 : decode cX8_meets 11 = .ok (.istore_n 3, 1) := by decide +kernel
theorem dX8_meets_12 : decode cX8_meets 12 = .ok (.aload_n 0, 1) := by decide +kernel
theorem dX8_meets_13 : decode cX8_meets 13 = .ok (.invokevirtual 184, 3) := by decide +kernel
theorem dX8_meets_16 : decode cX8_meets 16 = .ok (.aload_n 0, 1) := by decide +kernel
theorem dX8_meets_17 : decode cX8_meets 17 = .ok (.getfield 9, 3) := by decide +kernel
theorem dX8_meets_20 : decode cX8_meets 20 = .ok (.iconst 3, 1) := by decide +kernel
theorem dX8_meets_21 : decode cX8_meets 21 = .ok (.iaload, 1) := by decide +kernel
theorem dX8_meets_22 : decode cX8_meets 22 = .ok (.iconst (-1), 1) := by decide +kernel
theorem dX8_meets_23 : decode cX8_meets 23 = .ok (.ixor, 1) := by decide +kernel
theorem dX8_meets_24 : decode cX8_meets 24 = .ok (.iand, 1) := by decide +kernel
theorem dX8_meets_25 : decode cX8_meets 25 = .ok (.istore 4, 2) := by decide +kernel
theorem dX8_meets_27 : decode cX8_meets 27 = .ok (.aload_n 0, 1) := by decide +kernel
theorem dX8_meets_28 : decode cX8_meets 28 = .ok (.iload_n 1, 1) := by decide +kernel
theorem dX8_meets_29 : decode cX8_meets 29 = .ok (.iconst 3, 1) := by decide +kernel
theorem dX8_meets_30 : decode cX8_meets 30 = .ok (.invokevirtual 102, 3) := by decide +kernel
theorem dX8_meets_33 : decode cX8_meets 33 = .ok (.aload_n 0, 1) := by decide +kernel
theorem dX8_meets_34 : decode cX8_meets 34 = .ok (.iload_n 2, 1) := by decide +kernel
theorem dX8_meets_35 : decode cX8_meets 35 = .ok (.iconst 3, 1) := by decide +kernel
theorem dX8_meets_36 : decode cX8_meets 36 = .ok (.invokevirtual 102, 3) := by decide +kernel
theorem dX8_meets_39 : decode cX8_meets 39 = .ok (.ior, 1) := by decide +kernel
theorem dX8_meets_40 : decode cX8_meets 40 = .ok (.iload_n 3, 1) := by decide +kernel
theorem dX8_meets_41 : decode cX8_meets 41 = .ok (.iand, 1) := by decide +kernel
theorem dX8_meets_42 : decode cX8_meets 42 = .ok (.invokestatic 173, 3) := by decide +kernel
theorem dX8_meets_45 : decode cX8_meets 45 = .ok (.aload_n 0, 1) := by decide +kernel
theorem dX8_meets_46 : decode cX8_meets 46 = .ok (.iload_n 1, 1) := by decide +kernel
theorem dX8_meets_47 : decode cX8_meets 47 = .ok (.iload 4, 2) := by decide +kernel
theorem dX8_meets_49 : decode cX8_meets 49 = .ok (.invokevirtual 202, 3) := by decide +kernel
theorem dX8_meets_52 : decode cX8_meets 52 = .ok (.iadd, 1) := by decide +kernel
theorem dX8_meets_53 : decode cX8_meets 53 = .ok (.aload_n 0, 1) := by decide +kernel
theorem dX8_meets_54 : decode cX8_meets 54 = .ok (.iload_n 2, 1) := by decide +kernel
theorem dX8_meets_55 : decode cX8_meets 55 = .ok (.iload 4, 2) := by decide +kernel
theorem dX8_meets_57 : decode cX8_meets 57 = .ok (.invokevirtual 202, 3) := by decide +kernel
theorem dX8_meets_60 : decode cX8_meets 60 = .ok (.iadd, 1) := by decide +kernel
theorem dX8_meets_61 : decode cX8_meets 61 = .ok (.ireturn, 1) := by decide +kernel
set_option maxRecDepth 20000 in
theorem ggX8_agree_X8_areTwo : GoodIn wsX8_agree wsX8_areTwo := goodIn_r _ [6, 7, 8, 9, 5, 10, 11, 12, 13, 14, 43, 44, 45, 46, 47, 48, 49, 50, 51, 52, 53, 54, 55, 56, 57, 58, 59, 60, 61, 62, 63, 64, 65, 66, 67, 68, 69, 70, 71] (by decide +kernel) (by decide +kernel)
set_option maxRecDepth 20000 in
theorem gX8_agree_X8_areTwo : GoodIn wsX8_agree (wsV RX8 146 RX8 yX8_areTwo wsX8_areTwo) := goodIn_app (goodIn_of _ (by decide +kernel)) ggX8_agree_X8_areTwo
set_option maxRecDepth 20000 in
theorem ggX8_agree_X8_meets : GoodIn wsX8_agree wsX8_meets := goodIn_r _ [18, 11, 19, 20, 21, 5, 22, 23, 24, 25, 26, 27, 28, 29, 30, 31, 32, 33, 34, 35, 36, 37, 43, 44, 45, 46, 47, 48, 49, 50, 51, 52, 53, 54, 55, 56, 57, 58, 59, 60, 61, 62, 63, 64, 65, 66, 67, 68, 69, 70, 71] (by decide +kernel) (by decide +kernel)
set_option maxRecDepth 20000 in
theorem gX8_agree_X8_meets : GoodIn wsX8_agree (wsV RX8 205 RX8 yX8_meets wsX8_meets) := goodIn_app (goodIn_of _ (by decide +kernel)) ggX8_agree_X8_meets
set_option maxRecDepth 20000 in
theorem ggX8_agree_X8_finding : GoodIn wsX8_agree wsX8_finding := goodIn_r _ [41, 42, 1, 43, 44, 45, 46, 47, 48, 49, 50, 51, 52, 53, 54, 55, 56, 57, 58, 59, 60, 61, 62, 63, 64, 65, 66, 67, 68, 69, 70, 71] (by decide +kernel) (by decide +kernel)
set_option maxRecDepth 20000 in
theorem gX8_agree_X8_finding : GoodIn wsX8_agree (wsV RX8 90 RX8 yX8_finding wsX8_finding) := goodIn_app (goodIn_of _ (by decide +kernel)) ggX8_agree_X8_finding
theorem dX8_agree_0 : decode cX8_agree 0 = .ok (.aload_n 0, 1) := by decide +kernel
theorem dX8_agree_1 : decode cX8_agree 1 = .ok (.iload_n 1, 1) := by decide +kernel
theorem dX8_agree_2 : decode cX8_agree 2 = .ok (.iload_n 2, 1) := by decide +kernel
theorem dX8_agree_3 : decode cX8_agree 3 = .ok (.invokevirtual 146, 3) := by decide +kernel
theorem dX8_agree_6 : decode cX8_agree 6 = .ok (.ifCond .eq 12, 3) := by decide +kernel
theorem dX8_agree_9 : decode cX8_agree 9 = .ok (.aload_n 0, 1) := by decide +kernel
theorem dX8_agree_10 : decode cX8_agree 10 = .ok (.iload_n 1, 1) := by decide +kernel
theorem dX8_agree_11 : decode cX8_agree 11 = .ok (.iload_n 2, 1) := by decide +kernel
theorem dX8_agree_12 : decode cX8_agree 12 = .ok (.invokevirtual 205, 3) := by decide +kernel
theorem dX8_agree_15 : decode cX8_agree 15 = .ok (.goto 9, 3) := by decide +kernel
theorem dX8_agree_18 : decode cX8_agree 18 = .ok (.aload_n 0, 1) := by decide +kernel
theorem dX8_agree_19 : decode cX8_agree 19 = .ok (.ldc 73, 2) := by decide +kernel
theorem dX8_agree_21 : decode cX8_agree 21 = .ok (.invokevirtual 90, 3) := by decide +kernel
theorem dX8_agree_24 : decode cX8_agree 24 = .ok (.ireturn, 1) := by decide +kernel
set_option maxRecDepth 20000 in
theorem ggX8_changes_X8_areTwo : GoodIn wsX8_changes wsX8_areTwo := goodIn_r _ [13, 14, 15, 16, 12, 17, 18, 19, 20, 21, 55, 56, 57, 58, 59, 60, 61, 62, 63, 64, 65, 66, 67, 68, 69, 70, 71, 72, 73, 74, 75, 76, 77, 78, 79, 80, 81, 82, 83] (by decide +kernel) (by decide +kernel)
set_option maxRecDepth 20000 in
theorem gX8_changes_X8_areTwo : GoodIn wsX8_changes (wsV RX8 146 RX8 yX8_areTwo wsX8_areTwo) := goodIn_app (goodIn_of _ (by decide +kernel)) ggX8_changes_X8_areTwo
set_option maxRecDepth 20000 in
theorem ggX8_changes_X8_findAgreement : GoodIn wsX8_changes wsX8_findAgreement := goodIn_r _ [25, 26, 18, 27, 1, 2, 3, 4, 28, 29, 30, 12, 31, 32, 33, 34, 35, 36, 37, 38, 39, 40, 41, 42, 43, 44, 45, 46, 47, 48, 49, 55, 56, 57, 58, 59, 60, 61, 62, 63, 64, 65, 66, 67, 68, 69, 70, 71, 72, 73, 74, 75, 76, 77, 78, 79, 80, 81, 82, 83] (by decide +kernel) (by decide +kernel)
set_option maxRecDepth 20000 in
theorem gX8_changes_X8_findAgreement : GoodIn wsX8_changes (wsV RX8 208 RX8 yX8_findAgreement wsX8_findAgreement) := goodIn_app (goodIn_of _ (by decide +kernel)) ggX8_changes_X8_findAgreement
set_option maxRecDepth 20000 in
theorem ggX8_changes_X8_finding : GoodIn wsX8_changes wsX8_finding := goodIn_r _ [53, 54, 8, 55, 56, 57, 58, 59, 60, 61, 62, 63, 64, 65, 66, 67, 68, 69, 70, 71, 72, 73, 74, 75, 76, 77, 78, 79, 80, 81, 82, 83] (by decide +kernel) (by decide +kernel)
set_option maxRecDepth 20000 in
theorem gX8_changes_X8_finding : GoodIn wsX8_changes (wsV RX8 90 RX8 yX8_finding wsX8_finding) := goodIn_app (goodIn_of _ (by decide +kernel)) ggX8_changes_X8_finding
theorem dX8_changes_0 : decode cX8_changes 0 = .ok (.aload_n 0, 1) := by decide +kernel
theorem dX8_changes_1 : decode cX8_changes 1 = .ok (.iload_n 1, 1) := by decide +kernel
theorem dX8_changes_2 : decode cX8_changes 2 = .ok (.iload_n 2, 1) := by decide +kernel
theorem dX8_changes_3 : decode cX8_changes 3 = .ok (.invokevirtual 146, 3) := by decide +kernel
theorem dX8_changes_6 : decode cX8_changes 6 = .ok (.ifCond .eq 20, 3) := by decide +kernel
theorem dX8_changes_9 : decode cX8_changes 9 = .ok (.aload_n 0, 1) := by decide +kernel
theorem dX8_changes_10 : decode cX8_changes 10 = .ok (.iload_n 1, 1) := by decide +kernel
theorem dX8_changes_11 : decode cX8_changes 11 = .ok (.iload_n 2, 1) := by decide +kernel
theorem dX8_changes_12 : decode cX8_changes 12 = .ok (.invokestatic 105, 3) := by decide +kernel
theorem dX8_changes_15 : decode cX8_changes 15 = .ok (.iload_n 1, 1) := by decide +kernel
theorem dX8_changes_16 : decode cX8_changes 16 = .ok (.iload_n 2, 1) := by decide +kernel
theorem dX8_changes_17 : decode cX8_changes 17 = .ok (.invokestatic 110, 3) := by decide +kernel
theorem dX8_changes_20 : decode cX8_changes 20 = .ok (.invokevirtual 208, 3) := by decide +kernel
theorem dX8_changes_23 : decode cX8_changes 23 = .ok (.goto 9, 3) := by decide +kernel
theorem dX8_changes_26 : decode cX8_changes 26 = .ok (.aload_n 0, 1) := by decide +kernel
theorem dX8_changes_27 : decode cX8_changes 27 = .ok (.ldc 73, 2) := by decide +kernel
theorem dX8_changes_29 : decode cX8_changes 29 = .ok (.invokevirtual 90, 3) := by decide +kernel
theorem dX8_changes_32 : decode cX8_changes 32 = .ok (.ireturn, 1) := by decide +kernel
set_option maxRecDepth 20000 in
theorem ggX8_heldByLess_X8_findAgreement : GoodIn wsX8_heldByLess wsX8_findAgreement := goodIn_r _ [7, 2, 1, 8, 9, 10, 11, 12, 13, 14, 15, 6, 16, 17, 18, 19, 20, 21, 22, 23, 24, 25, 26, 27, 28, 29, 30, 31, 32, 33, 34, 35, 36, 37, 38, 39, 40, 41, 42, 43, 44, 45, 46, 47, 48, 49, 50, 51, 52, 53, 54, 55, 56, 57, 58, 59, 60, 61, 62, 63] (by decide +kernel) (by decide +kernel)
set_option maxRecDepth 20000 in
theorem gX8_heldByLess_X8_findAgreement : GoodIn wsX8_heldByLess (wsV RX8 208 RX8 yX8_findAgreement wsX8_findAgreement) := goodIn_app (goodIn_of _ (by decide +kernel)) ggX8_heldByLess_X8_findAgreement
set_option maxRecDepth 20000 in
theorem ggX8_heldByLess_X8_isLit : GoodIn wsX8_heldByLess wsX8_isLit := goodIn_r _ [16, 1, 17, 18, 6, 19, 35, 36, 37, 38, 39, 40, 41, 42, 43, 44, 45, 46, 47, 48, 49, 50, 51, 52, 53, 54, 55, 56, 57, 58, 59, 60, 61, 62, 63] (by decide +kernel) (by decide +kernel)
set_option maxRecDepth 20000 in
theorem gX8_heldByLess_X8_isLit : GoodIn wsX8_heldByLess (wsV RX8 120 RX8 yX8_isLit wsX8_isLit) := goodIn_app (goodIn_of _ (by decide +kernel)) ggX8_heldByLess_X8_isLit
set_option maxRecDepth 20000 in
theorem ggX8_heldByLess_X8_mayHave : GoodIn wsX8_heldByLess wsX8_mayHave := goodIn_r _ [23, 24, 25, 26, 6, 27, 1, 28, 29, 30, 17, 18, 19, 35, 36, 37, 38, 39, 40, 41, 42, 43, 44, 45, 46, 47, 48, 49, 50, 51, 52, 53, 54, 55, 56, 57, 58, 59, 60, 61, 62, 63] (by decide +kernel) (by decide +kernel)
set_option maxRecDepth 20000 in
theorem gX8_heldByLess_X8_mayHave : GoodIn wsX8_heldByLess (wsV RX8 195 RX8 yX8_mayHave wsX8_mayHave) := goodIn_app (goodIn_of _ (by decide +kernel)) ggX8_heldByLess_X8_mayHave
set_option maxRecDepth 20000 in
theorem ggX8_heldByLess_X8_changesWith : GoodIn wsX8_heldByLess wsX8_changesWith := goodIn_r _ [34, 2, 35, 36, 37, 38, 39, 40, 41, 42, 43, 44, 45, 46, 47, 48, 49, 50, 51, 52, 53, 54, 55, 56, 57, 58, 59, 60, 61, 62, 63] (by decide +kernel) (by decide +kernel)
set_option maxRecDepth 20000 in
theorem gX8_heldByLess_X8_changesWith : GoodIn wsX8_heldByLess (wsV RX8 199 RX8 yX8_changesWith wsX8_changesWith) := goodIn_app (goodIn_of _ (by decide +kernel)) ggX8_heldByLess_X8_changesWith
theorem dX8_heldByLess_0 : decode cX8_heldByLess 0 = .ok (.aload_n 0, 1) := by decide +kernel
theorem dX8_heldByLess_1 : decode cX8_heldByLess 1 = .ok (.iload_n 1, 1) := by decide +kernel
theorem dX8_heldByLess_2 : decode cX8_heldByLess 2 = .ok (.iload_n 2, 1) := by decide +kernel
theorem dX8_heldByLess_3 : decode cX8_heldByLess 3 = .ok (.invokevirtual 208, 3) := by decide +kernel
theorem dX8_heldByLess_6 : decode cX8_heldByLess 6 = .ok (.ifCond .ge 7, 3) := by decide +kernel
theorem dX8_heldByLess_9 : decode cX8_heldByLess 9 = .ok (.iconst (-1), 1) := by decide +kernel
theorem dX8_heldByLess_10 : decode cX8_heldByLess 10 = .ok (.goto 4, 3) := by decide +kernel
theorem dX8_heldByLess_13 : decode cX8_heldByLess 13 = .ok (.iconst 0, 1) := by decide +kernel
theorem dX8_heldByLess_14 : decode cX8_heldByLess 14 = .ok (.istore_n 3, 1) := by decide +kernel
theorem dX8_heldByLess_15 : decode cX8_heldByLess 15 = .ok (.iconst 0, 1) := by decide +kernel
theorem dX8_heldByLess_16 : decode cX8_heldByLess 16 = .ok (.istore 4, 2) := by decide +kernel
theorem dX8_heldByLess_18 : decode cX8_heldByLess 18 = .ok (.aload_n 0, 1) := by decide +kernel
theorem dX8_heldByLess_19 : decode cX8_heldByLess 19 = .ok (.getfield 9, 3) := by decide +kernel
theorem dX8_heldByLess_22 : decode cX8_heldByLess 22 = .ok (.iconst 0, 1) := by decide +kernel
theorem dX8_heldByLess_23 : decode cX8_heldByLess 23 = .ok (.iaload, 1) := by decide +kernel
theorem dX8_heldByLess_24 : decode cX8_heldByLess 24 = .ok (.istore 5, 2) := by decide +kernel
theorem dX8_heldByLess_26 : decode cX8_heldByLess 26 = .ok (.iload 5, 2) := by decide +kernel
theorem dX8_heldByLess_28 : decode cX8_heldByLess 28 = .ok (.bipush 16, 2) := by decide +kernel
theorem dX8_heldByLess_30 : decode cX8_heldByLess 30 = .ok (.if_icmp .ge 89, 3) := by decide +kernel
theorem dX8_heldByLess_33 : decode cX8_heldByLess 33 = .ok (.aload_n 0, 1) := by decide +kernel
theorem dX8_heldByLess_34 : decode cX8_heldByLess 34 = .ok (.iload 5, 2) := by decide +kernel
theorem dX8_heldByLess_36 : decode cX8_heldByLess 36 = .ok (.invokevirtual 120, 3) := by decide +kernel
theorem dX8_heldByLess_39 : decode cX8_heldByLess 39 = .ok (.ifCond .eq 74, 3) := by decide +kernel
theorem dX8_heldByLess_42 : decode cX8_heldByLess 42 = .ok (.aload_n 0, 1) := by decide +kernel
theorem dX8_heldByLess_43 : decode cX8_heldByLess 43 = .ok (.iload_n 1, 1) := by decide +kernel
theorem dX8_heldByLess_44 : decode cX8_heldByLess 44 = .ok (.iload_n 2, 1) := by decide +kernel
theorem dX8_heldByLess_45 : decode cX8_heldByLess 45 = .ok (.iload 5, 2) := by decide +kernel
theorem dX8_heldByLess_47 : decode cX8_heldByLess 47 = .ok (.iconst 1, 1) := by decide +kernel
theorem dX8_heldByLess_48 : decode cX8_heldByLess 48 = .ok (.invokevirtual 195, 3) := by decide +kernel
theorem dX8_heldByLess_51 : decode cX8_heldByLess 51 = .ok (.ifCond .eq 31, 3) := by decide +kernel
theorem dX8_heldByLess_54 : decode cX8_heldByLess 54 = .ok (.aload_n 0, 1) := by decide +kernel
theorem dX8_heldByLess_55 : decode cX8_heldByLess 55 = .ok (.iload 5, 2) := by decide +kernel
theorem dX8_heldByLess_57 : decode cX8_heldByLess 57 = .ok (.iload 4, 2) := by decide +kernel
theorem dX8_heldByLess_59 : decode cX8_heldByLess 59 = .ok (.iconst 1, 1) := by decide +kernel
theorem dX8_heldByLess_60 : decode cX8_heldByLess 60 = .ok (.invokevirtual 199, 3) := by decide +kernel
theorem dX8_heldByLess_63 : decode cX8_heldByLess 63 = .ok (.aload_n 0, 1) := by decide +kernel
theorem dX8_heldByLess_64 : decode cX8_heldByLess 64 = .ok (.getfield 22, 3) := by decide +kernel
theorem dX8_heldByLess_67 : decode cX8_heldByLess 67 = .ok (.iconst 3, 1) := by decide +kernel
theorem dX8_heldByLess_68 : decode cX8_heldByLess 68 = .ok (.iload 5, 2) := by decide +kernel
theorem dX8_heldByLess_70 : decode cX8_heldByLess 70 = .ok (.imul, 1) := by decide +kernel
theorem dX8_heldByLess_71 : decode cX8_heldByLess 71 = .ok (.iload 4, 2) := by decide +kernel
theorem dX8_heldByLess_73 : decode cX8_heldByLess 73 = .ok (.iadd, 1) := by decide +kernel
theorem dX8_heldByLess_74 : decode cX8_heldByLess 74 = .ok (.iaload, 1) := by decide +kernel
theorem dX8_heldByLess_75 : decode cX8_heldByLess 75 = .ok (.if_icmp .ne 7, 3) := by decide +kernel
theorem dX8_heldByLess_78 : decode cX8_heldByLess 78 = .ok (.iconst 1, 1) := by decide +kernel
theorem dX8_heldByLess_79 : decode cX8_heldByLess 79 = .ok (.goto 4, 3) := by decide +kernel
theorem dX8_heldByLess_82 : decode cX8_heldByLess 82 = .ok (.iconst 0, 1) := by decide +kernel
theorem dX8_heldByLess_83 : decode cX8_heldByLess 83 = .ok (.istore 6, 2) := by decide +kernel
theorem dX8_heldByLess_85 : decode cX8_heldByLess 85 = .ok (.iload 6, 2) := by decide +kernel
theorem dX8_heldByLess_87 : decode cX8_heldByLess 87 = .ok (.ifCond .eq 7, 3) := by decide +kernel
theorem dX8_heldByLess_90 : decode cX8_heldByLess 90 = .ok (.iconst 1, 1) := by decide +kernel
theorem dX8_heldByLess_91 : decode cX8_heldByLess 91 = .ok (.goto 4, 3) := by decide +kernel
theorem dX8_heldByLess_94 : decode cX8_heldByLess 94 = .ok (.iconst 2, 1) := by decide +kernel
theorem dX8_heldByLess_95 : decode cX8_heldByLess 95 = .ok (.istore 4, 2) := by decide +kernel
theorem dX8_heldByLess_97 : decode cX8_heldByLess 97 = .ok (.iload_n 3, 1) := by decide +kernel
theorem dX8_heldByLess_98 : decode cX8_heldByLess 98 = .ok (.iload 6, 2) := by decide +kernel
theorem dX8_heldByLess_100 : decode cX8_heldByLess 100 = .ok (.ifCond .eq 10, 3) := by decide +kernel
theorem dX8_heldByLess_103 : decode cX8_heldByLess 103 = .ok (.iconst 1, 1) := by decide +kernel
theorem dX8_heldByLess_104 : decode cX8_heldByLess 104 = .ok (.iload 5, 2) := by decide +kernel
theorem dX8_heldByLess_106 : decode cX8_heldByLess 106 = .ok (.ishl, 1) := by decide +kernel
theorem dX8_heldByLess_107 : decode cX8_heldByLess 107 = .ok (.goto 4, 3) := by decide +kernel
theorem dX8_heldByLess_110 : decode cX8_heldByLess 110 = .ok (.iconst 0, 1) := by decide +kernel
theorem dX8_heldByLess_111 : decode cX8_heldByLess 111 = .ok (.ior, 1) := by decide +kernel
theorem dX8_heldByLess_112 : decode cX8_heldByLess 112 = .ok (.istore_n 3, 1) := by decide +kernel
theorem dX8_heldByLess_113 : decode cX8_heldByLess 113 = .ok (.iinc 5 1, 3) := by decide +kernel
theorem dX8_heldByLess_116 : decode cX8_heldByLess 116 = .ok (.goto (-90), 3) := by decide +kernel
theorem dX8_heldByLess_119 : decode cX8_heldByLess 119 = .ok (.iload_n 3, 1) := by decide +kernel
theorem dX8_heldByLess_120 : decode cX8_heldByLess 120 = .ok (.ireturn, 1) := by decide +kernel
set_option maxRecDepth 20000 in
theorem ggX8_holder_X8_areTwo : GoodIn wsX8_holder wsX8_areTwo := goodIn_r _ [15, 16, 17, 18, 14, 19, 2, 20, 21, 22, 60, 61, 62, 63, 64, 65, 66, 67, 68, 69, 70, 71, 72, 73, 74, 75, 76, 77, 78, 79, 80, 81, 82, 83, 84, 85, 86, 87, 88] (by decide +kernel) (by decide +kernel)
set_option maxRecDepth 20000 in
theorem gX8_holder_X8_areTwo : GoodIn wsX8_holder (wsV RX8 146 RX8 yX8_areTwo wsX8_areTwo) := goodIn_app (goodIn_of _ (by decide +kernel)) ggX8_holder_X8_areTwo
set_option maxRecDepth 20000 in
theorem ggX8_holder_X8_within : GoodIn wsX8_holder wsX8_within := goodIn_r _ [22] (by decide +kernel) (by decide +kernel)
set_option maxRecDepth 20000 in
theorem gX8_holder_X8_within : GoodIn wsX8_holder (va_wsS RX8 78 yX8_within wsX8_within) := goodIn_app (goodIn_of _ (by decide +kernel)) ggX8_holder_X8_within
set_option maxRecDepth 20000 in
theorem ggX8_holder_X8_finding : GoodIn wsX8_holder wsX8_finding := goodIn_r _ [26, 27, 1, 60, 61, 62, 63, 64, 65, 66, 67, 68, 69, 70, 71, 72, 73, 74, 75, 76, 77, 78, 79, 80, 81, 82, 83, 84, 85, 86, 87, 88] (by decide +kernel) (by decide +kernel)
set_option maxRecDepth 20000 in
theorem gX8_holder_X8_finding : GoodIn wsX8_holder (wsV RX8 90 RX8 yX8_finding wsX8_finding) := goodIn_app (goodIn_of _ (by decide +kernel)) ggX8_holder_X8_finding
set_option maxRecDepth 20000 in
theorem ggX8_holder_X8_isLit : GoodIn wsX8_holder wsX8_isLit := goodIn_r _ [31, 2, 32, 33, 14, 34, 60, 61, 62, 63, 64, 65, 66, 67, 68, 69, 70, 71, 72, 73, 74, 75, 76, 77, 78, 79, 80, 81, 82, 83, 84, 85, 86, 87, 88] (by decide +kernel) (by decide +kernel)
set_option maxRecDepth 20000 in
theorem gX8_holder_X8_isLit : GoodIn wsX8_holder (wsV RX8 120 RX8 yX8_isLit wsX8_isLit) := goodIn_app (goodIn_of _ (by decide +kernel)) ggX8_holder_X8_isLit
set_option maxRecDepth 20000 in
theorem ggX8_holder_X8_heldByLess : GoodIn wsX8_holder wsX8_heldByLess := goodIn_r _ [38, 2, 39, 40, 41, 42, 14, 43, 44, 4, 5, 6, 7, 28, 29, 30, 31, 32, 33, 34, 45, 46, 47, 48, 49, 50, 51, 52, 53, 54, 55, 56, 57, 58, 59, 60, 61, 62, 63, 64, 65, 66, 67, 68, 69, 70, 71, 72, 73, 74, 75, 76, 77, 78, 79, 80, 81, 82, 83, 84, 85, 86, 87, 88] (by decide +kernel) (by decide +kernel)
set_option maxRecDepth 20000 in
theorem gX8_holder_X8_heldByLess : GoodIn wsX8_holder (wsV RX8 211 RX8 yX8_heldByLess wsX8_heldByLess) := goodIn_app (goodIn_of _ (by decide +kernel)) ggX8_holder_X8_heldByLess
set_option maxRecDepth 20000 in
theorem ggX8_holder_X8_has : GoodIn wsX8_holder wsX8_has := goodIn_r _ [34] (by decide +kernel) (by decide +kernel)
set_option maxRecDepth 20000 in
theorem gX8_holder_X8_has : GoodIn wsX8_holder (va_wsS RX8 116 yX8_has wsX8_has) := goodIn_app (goodIn_of _ (by decide +kernel)) ggX8_holder_X8_has
theorem dX8_holder_0 : decode cX8_holder 0 = .ok (.aload_n 0, 1) := by decide +kernel
theorem dX8_holder_1 : decode cX8_holder 1 = .ok (.iload_n 1, 1) := by decide +kernel
theorem dX8_holder_2 : decode cX8_holder 2 = .ok (.iload_n 2, 1) := by decide +kernel
theorem dX8_holder_3 : decode cX8_holder 3 = .ok (.invokevirtual 146, 3) := by decide +kernel
theorem dX8_holder_6 : decode cX8_holder 6 = .ok (.ifCond .eq 13, 3) := by decide +kernel
theorem dX8_holder_9 : decode cX8_holder 9 = .ok (.iload_n 3, 1) := by decide +kernel
theorem dX8_holder_10 : decode cX8_holder 10 = .ok (.iconst 0, 1) := by decide +kernel
theorem dX8_holder_11 : decode cX8_holder 11 = .ok (.bipush 15, 2) := by decide +kernel
theorem dX8_holder_13 : decode cX8_holder 13 = .ok (.invokestatic 78, 3) := by decide +kernel
theorem dX8_holder_16 : decode cX8_holder 16 = .ok (.ifCond .ne 10, 3) := by decide +kernel
theorem dX8_holder_19 : decode cX8_holder 19 = .ok (.aload_n 0, 1) := by decide +kernel
theorem dX8_holder_20 : decode cX8_holder 20 = .ok (.ldc 73, 2) := by decide +kernel
theorem dX8_holder_22 : decode cX8_holder 22 = .ok (.invokevirtual 90, 3) := by decide +kernel
theorem dX8_holder_25 : decode cX8_holder 25 = .ok (.ireturn, 1) := by decide +kernel
theorem dX8_holder_26 : decode cX8_holder 26 = .ok (.aload_n 0, 1) := by decide +kernel
theorem dX8_holder_27 : decode cX8_holder 27 = .ok (.iload_n 3, 1) := by decide +kernel
theorem dX8_holder_28 : decode cX8_holder 28 = .ok (.invokevirtual 120, 3) := by decide +kernel
theorem dX8_holder_31 : decode cX8_holder 31 = .ok (.ifCond .eq 13, 3) := by decide +kernel
theorem dX8_holder_34 : decode cX8_holder 34 = .ok (.iload_n 3, 1) := by decide +kernel
theorem dX8_holder_35 : decode cX8_holder 35 = .ok (.aload_n 0, 1) := by decide +kernel
theorem dX8_holder_36 : decode cX8_holder 36 = .ok (.getfield 9, 3) := by decide +kernel
theorem dX8_holder_39 : decode cX8_holder 39 = .ok (.iconst 0, 1) := by decide +kernel
theorem dX8_holder_40 : decode cX8_holder 40 = .ok (.iaload, 1) := by decide +kernel
theorem dX8_holder_41 : decode cX8_holder 41 = .ok (.if_icmp .ge 10, 3) := by decide +kernel
theorem dX8_holder_44 : decode cX8_holder 44 = .ok (.aload_n 0, 1) := by decide +kernel
theorem dX8_holder_45 : decode cX8_holder 45 = .ok (.ldc 152, 2) := by decide +kernel
theorem dX8_holder_47 : decode cX8_holder 47 = .ok (.invokevirtual 90, 3) := by decide +kernel
theorem dX8_holder_50 : decode cX8_holder 50 = .ok (.ireturn, 1) := by decide +kernel
theorem dX8_holder_51 : decode cX8_holder 51 = .ok (.iload_n 1, 1) := by decide +kernel
theorem dX8_holder_52 : decode cX8_holder 52 = .ok (.iload_n 2, 1) := by decide +kernel
theorem dX8_holder_53 : decode cX8_holder 53 = .ok (.invokestatic 105, 3) := by decide +kernel
theorem dX8_holder_56 : decode cX8_holder 56 = .ok (.istore 4, 2) := by decide +kernel
theorem dX8_holder_58 : decode cX8_holder 58 = .ok (.iload_n 1, 1) := by decide +kernel
theorem dX8_holder_59 : decode cX8_holder 59 = .ok (.iload_n 2, 1) := by decide +kernel
theorem dX8_holder_60 : decode cX8_holder 60 = .ok (.invokestatic 110, 3) := by decide +kernel
theorem dX8_holder_63 : decode cX8_holder 63 = .ok (.istore 5, 2) := by decide +kernel
theorem dX8_holder_65 : decode cX8_holder 65 = .ok (.aload_n 0, 1) := by decide +kernel
theorem dX8_holder_66 : decode cX8_holder 66 = .ok (.iload 4, 2) := by decide +kernel
theorem dX8_holder_68 : decode cX8_holder 68 = .ok (.iload 5, 2) := by decide +kernel
theorem dX8_holder_70 : decode cX8_holder 70 = .ok (.invokevirtual 211, 3) := by decide +kernel
theorem dX8_holder_73 : decode cX8_holder 73 = .ok (.iload_n 3, 1) := by decide +kernel
theorem dX8_holder_74 : decode cX8_holder 74 = .ok (.invokestatic 116, 3) := by decide +kernel
theorem dX8_holder_77 : decode cX8_holder 77 = .ok (.ifCond .eq 8, 3) := by decide +kernel
theorem dX8_holder_80 : decode cX8_holder 80 = .ok (.iload 4, 2) := by decide +kernel
theorem dX8_holder_82 : decode cX8_holder 82 = .ok (.goto 5, 3) := by decide +kernel
theorem dX8_holder_85 : decode cX8_holder 85 = .ok (.iload 5, 2) := by decide +kernel
theorem dX8_holder_87 : decode cX8_holder 87 = .ok (.ireturn, 1) := by decide +kernel
set_option maxRecDepth 20000 in
theorem ggX8_gain_X8_areTwo : GoodIn wsX8_gain wsX8_areTwo := goodIn_r _ [8, 9, 10, 11, 7, 12, 2, 13, 14, 15, 93, 94, 95, 96, 97, 98, 99, 100, 101, 102, 103, 104, 105, 106, 107, 108, 109, 110, 111, 112, 113, 114, 115, 116, 117, 118, 119, 120, 121] (by decide +kernel) (by decide +kernel)
set_option maxRecDepth 20000 in
theorem gX8_gain_X8_areTwo : GoodIn wsX8_gain (wsV RX8 146 RX8 yX8_areTwo wsX8_areTwo) := goodIn_app (goodIn_of _ (by decide +kernel)) ggX8_gain_X8_areTwo
set_option maxRecDepth 20000 in
theorem ggX8_gain_X8_finding : GoodIn wsX8_gain wsX8_finding := goodIn_r _ [19, 20, 1, 93, 94, 95, 96, 97, 98, 99, 100, 101, 102, 103, 104, 105, 106, 107, 108, 109, 110, 111, 112, 113, 114, 115, 116, 117, 118, 119, 120, 121] (by decide +kernel) (by decide +kernel)
set_option maxRecDepth 20000 in
theorem gX8_gain_X8_finding : GoodIn wsX8_gain (wsV RX8 90 RX8 yX8_finding wsX8_finding) := goodIn_app (goodIn_of _ (by decide +kernel)) ggX8_gain_X8_finding
set_option maxRecDepth 20000 in
theorem ggX8_gain_X8_personIs : GoodIn wsX8_gain wsX8_personIs := goodIn_r _ [24, 2, 25, 26, 7, 27, 93, 94, 95, 96, 97, 98, 99, 100, 101, 102, 103, 104, 105, 106, 107, 108, 109, 110, 111, 112, 113, 114, 115, 116, 117, 118, 119, 120, 121] (by decide +kernel) (by decide +kernel)
set_option maxRecDepth 20000 in
theorem gX8_gain_X8_personIs : GoodIn wsX8_gain (wsV RX8 102 RX8 yX8_personIs wsX8_personIs) := goodIn_app (goodIn_of _ (by decide +kernel)) ggX8_gain_X8_personIs
set_option maxRecDepth 20000 in
theorem ggX8_gain_X8_at : GoodIn wsX8_gain wsX8_at := goodIn_r _ [27] (by decide +kernel) (by decide +kernel)
set_option maxRecDepth 20000 in
theorem gX8_gain_X8_at : GoodIn wsX8_gain (va_wsS RX8 82 yX8_at wsX8_at) := goodIn_app (goodIn_of _ (by decide +kernel)) ggX8_gain_X8_at
set_option maxRecDepth 20000 in
theorem ggX8_gain_X8_findRest : GoodIn wsX8_gain wsX8_findRest := goodIn_r _ [31, 2, 32, 33, 34, 35, 3, 36, 37, 7, 38, 39, 40, 41, 42, 43, 44, 45, 46, 21, 22, 23, 24, 25, 26, 27, 47, 48, 49, 50, 51, 52, 53, 54, 55, 56, 57, 58, 59, 60, 61, 62, 63, 64, 65, 66, 67, 68, 69, 70, 71, 72, 73, 74, 75, 76, 77, 78, 79, 93, 94, 95, 96, 97, 98, 99, 100, 101, 102, 103, 104, 105, 106, 107, 108, 109, 110, 111, 112, 113, 114, 115, 116, 117, 118, 119, 120, 121] (by decide +kernel) (by decide +kernel)
set_option maxRecDepth 20000 in
theorem gX8_gain_X8_findRest : GoodIn wsX8_gain (wsV RX8 179 RX8 yX8_findRest wsX8_findRest) := goodIn_app (goodIn_of _ (by decide +kernel)) ggX8_gain_X8_findRest
set_option maxRecDepth 20000 in
theorem ggX8_gain_X8_meets : GoodIn wsX8_gain wsX8_meets := goodIn_r _ [83, 2, 84, 85, 86, 7, 87, 88, 21, 22, 23, 24, 25, 26, 27, 77, 78, 79, 89, 90, 91, 92, 93, 94, 95, 96, 97, 98, 99, 100, 101, 102, 103, 104, 105, 106, 107, 108, 109, 110, 111, 112, 113, 114, 115, 116, 117, 118, 119, 120, 121] (by decide +kernel) (by decide +kernel)
set_option maxRecDepth 20000 in
theorem gX8_gain_X8_meets : GoodIn wsX8_gain (wsV RX8 205 RX8 yX8_meets wsX8_meets) := goodIn_app (goodIn_of _ (by decide +kernel)) ggX8_gain_X8_meets
theorem dX8_gain_0 : decode cX8_gain 0 = .ok (.aload_n 0, 1) := by decide +kernel
theorem dX8_gain_1 : decode cX8_gain 1 = .ok (.iload_n 1, 1) := by decide +kernel
theorem dX8_gain_2 : decode cX8_gain 2 = .ok (.iload_n 2, 1) := by decide +kernel
theorem dX8_gain_3 : decode cX8_gain 3 = .ok (.invokevirtual 146, 3) := by decide +kernel
theorem dX8_gain_6 : decode cX8_gain 6 = .ok (.ifCond .ne 10, 3) := by decide +kernel
theorem dX8_gain_9 : decode cX8_gain 9 = .ok (.aload_n 0, 1) := by decide +kernel
theorem dX8_gain_10 : decode cX8_gain 10 = .ok (.ldc 73, 2) := by decide +kernel
theorem dX8_gain_12 : decode cX8_gain 12 = .ok (.invokevirtual 90, 3) := by decide +kernel
theorem dX8_gain_15 : decode cX8_gain 15 = .ok (.ireturn, 1) := by decide +kernel
theorem dX8_gain_16 : decode cX8_gain 16 = .ok (.aload_n 0, 1) := by decide +kernel
theorem dX8_gain_17 : decode cX8_gain 17 = .ok (.iload_n 1, 1) := by decide +kernel
theorem dX8_gain_18 : decode cX8_gain 18 = .ok (.iconst 4, 1) := by decide +kernel
theorem dX8_gain_19 : decode cX8_gain 19 = .ok (.invokevirtual 102, 3) := by decide +kernel
theorem dX8_gain_22 : decode cX8_gain 22 = .ok (.istore_n 3, 1) := by decide +kernel
theorem dX8_gain_23 : decode cX8_gain 23 = .ok (.aload_n 0, 1) := by decide +kernel
theorem dX8_gain_24 : decode cX8_gain 24 = .ok (.iload_n 2, 1) := by decide +kernel
theorem dX8_gain_25 : decode cX8_gain 25 = .ok (.iconst 4, 1) := by decide +kernel
theorem dX8_gain_26 : decode cX8_gain 26 = .ok (.invokevirtual 102, 3) := by decide +kernel
theorem dX8_gain_29 : decode cX8_gain 29 = .ok (.istore 4, 2) := by decide +kernel
theorem dX8_gain_31 : decode cX8_gain 31 = .ok (.aload_n 0, 1) := by decide +kernel
theorem dX8_gain_32 : decode cX8_gain 32 = .ok (.getfield 9, 3) := by decide +kernel
theorem dX8_gain_35 : decode cX8_gain 35 = .ok (.iload_n 1, 1) := by decide +kernel
theorem dX8_gain_36 : decode cX8_gain 36 = .ok (.iconst 4, 1) := by decide +kernel
theorem dX8_gain_37 : decode cX8_gain 37 = .ok (.invokestatic 82, 3) := by decide +kernel
theorem dX8_gain_40 : decode cX8_gain 40 = .ok (.iload_n 2, 1) := by decide +kernel
theorem dX8_gain_41 : decode cX8_gain 41 = .ok (.iastore, 1) := by decide +kernel
theorem dX8_gain_42 : decode cX8_gain 42 = .ok (.aload_n 0, 1) := by decide +kernel
theorem dX8_gain_43 : decode cX8_gain 43 = .ok (.getfield 9, 3) := by decide +kernel
theorem dX8_gain_46 : decode cX8_gain 46 = .ok (.iload_n 2, 1) := by decide +kernel
theorem dX8_gain_47 : decode cX8_gain 47 = .ok (.iconst 4, 1) := by decide +kernel
theorem dX8_gain_48 : decode cX8_gain 48 = .ok (.invokestatic 82, 3) := by decide +kernel
theorem dX8_gain_51 : decode cX8_gain 51 = .ok (.iload_n 1, 1) := by decide +kernel
theorem dX8_gain_52 : decode cX8_gain 52 = .ok (.iastore, 1) := by decide +kernel
theorem dX8_gain_53 : decode cX8_gain 53 = .ok (.aload_n 0, 1) := by decide +kernel
theorem dX8_gain_54 : decode cX8_gain 54 = .ok (.iload_n 1, 1) := by decide +kernel
theorem dX8_gain_55 : decode cX8_gain 55 = .ok (.invokevirtual 179, 3) := by decide +kernel
theorem dX8_gain_58 : decode cX8_gain 58 = .ok (.aload_n 0, 1) := by decide +kernel
theorem dX8_gain_59 : decode cX8_gain 59 = .ok (.getfield 176, 3) := by decide +kernel
theorem dX8_gain_62 : decode cX8_gain 62 = .ok (.istore 5, 2) := by decide +kernel
theorem dX8_gain_64 : decode cX8_gain 64 = .ok (.aload_n 0, 1) := by decide +kernel
theorem dX8_gain_65 : decode cX8_gain 65 = .ok (.iload_n 2, 1) := by decide +kernel
theorem dX8_gain_66 : decode cX8_gain 66 = .ok (.invokevirtual 179, 3) := by decide +kernel
theorem dX8_gain_69 : decode cX8_gain 69 = .ok (.iload 5, 2) := by decide +kernel
theorem dX8_gain_71 : decode cX8_gain 71 = .ok (.aload_n 0, 1) := by decide +kernel
theorem dX8_gain_72 : decode cX8_gain 72 = .ok (.getfield 176, 3) := by decide +kernel
theorem dX8_gain_75 : decode cX8_gain 75 = .ok (.iadd, 1) := by decide +kernel
theorem dX8_gain_76 : decode cX8_gain 76 = .ok (.istore 5, 2) := by decide +kernel
theorem dX8_gain_78 : decode cX8_gain 78 = .ok (.aload_n 0, 1) := by decide +kernel
theorem dX8_gain_79 : decode cX8_gain 79 = .ok (.getfield 9, 3) := by decide +kernel
theorem dX8_gain_82 : decode cX8_gain 82 = .ok (.iload_n 1, 1) := by decide +kernel
theorem dX8_gain_83 : decode cX8_gain 83 = .ok (.iconst 4, 1) := by decide +kernel
theorem dX8_gain_84 : decode cX8_gain 84 = .ok (.invokestatic 82, 3) := by decide +kernel
theorem dX8_gain_87 : decode cX8_gain 87 = .ok (.iload_n 3, 1) := by decide +kernel
theorem dX8_gain_88 : decode cX8_gain 88 = .ok (.iastore, 1) := by decide +kernel
theorem dX8_gain_89 : decode cX8_gain 89 = .ok (.aload_n 0, 1) := by decide +kernel
theorem dX8_gain_90 : decode cX8_gain 90 = .ok (.getfield 9, 3) := by decide +kernel
theorem dX8_gain_93 : decode cX8_gain 93 = .ok (.iload_n 2, 1) := by decide +kernel
theorem dX8_gain_94 : decode cX8_gain 94 = .ok (.iconst 4, 1) := by decide +kernel
theorem dX8_gain_95 : decode cX8_gain 95 = .ok (.invokestatic 82, 3) := by decide +kernel
theorem dX8_gain_98 : decode cX8_gain 98 = .ok (.iload 4, 2) := by decide +kernel
theorem dX8_gain_100 : decode cX8_gain 100 = .ok (.iastore, 1) := by decide +kernel
theorem dX8_gain_101 : decode cX8_gain 101 = .ok (.aload_n 0, 1) := by decide +kernel
theorem dX8_gain_102 : decode cX8_gain 102 = .ok (.iload_n 1, 1) := by decide +kernel
theorem dX8_gain_103 : decode cX8_gain 103 = .ok (.iload_n 2, 1) := by decide +kernel
theorem dX8_gain_104 : decode cX8_gain 104 = .ok (.invokevirtual 205, 3) := by decide +kernel
theorem dX8_gain_107 : decode cX8_gain 107 = .ok (.iload 5, 2) := by decide +kernel
theorem dX8_gain_109 : decode cX8_gain 109 = .ok (.isub, 1) := by decide +kernel
theorem dX8_gain_110 : decode cX8_gain 110 = .ok (.ireturn, 1) := by decide +kernel
set_option maxRecDepth 20000 in
theorem ggX8_lowest_X8_has : GoodIn wsX8_lowest wsX8_has := goodIn_r _ [4] (by decide +kernel) (by decide +kernel)
set_option maxRecDepth 20000 in
theorem gX8_lowest_X8_has : GoodIn wsX8_lowest (va_wsS RX8 116 yX8_has wsX8_has) := goodIn_app (goodIn_of _ (by decide +kernel)) ggX8_lowest_X8_has
theorem dX8_lowest_0 : decode cX8_lowest 0 = .ok (.iconst 0, 1) := by decide +kernel
theorem dX8_lowest_1 : decode cX8_lowest 1 = .ok (.istore_n 1, 1) := by decide +kernel
theorem dX8_lowest_2 : decode cX8_lowest 2 = .ok (.iload_n 0, 1) := by decide +kernel
theorem dX8_lowest_3 : decode cX8_lowest 3 = .ok (.iload_n 1, 1) := by decide +kernel
theorem dX8_lowest_4 : decode cX8_lowest 4 = .ok (.invokestatic 116, 3) := by decide +kernel
theorem dX8_lowest_7 : decode cX8_lowest 7 = .ok (.ifCond .ne 9, 3) := by decide +kernel
theorem dX8_lowest_10 : decode cX8_lowest 10 = .ok (.iinc 1 1, 3) := by decide +kernel
theorem dX8_lowest_13 : decode cX8_lowest 13 = .ok (.goto (-11), 3) := by decide +kernel
theorem dX8_lowest_16 : decode cX8_lowest 16 = .ok (.iload_n 1, 1) := by decide +kernel
theorem dX8_lowest_17 : decode cX8_lowest 17 = .ok (.ireturn, 1) := by decide +kernel
set_option maxRecDepth 20000 in
theorem ggX8_mostWith_X8_lowest : GoodIn wsX8_mostWith wsX8_lowest := goodIn_r _ [5, 6, 7, 4, 8] (by decide +kernel) (by decide +kernel)
set_option maxRecDepth 20000 in
theorem gX8_mostWith_X8_lowest : GoodIn wsX8_mostWith (va_wsS RX8 214 yX8_lowest wsX8_lowest) := goodIn_app (goodIn_of _ (by decide +kernel)) ggX8_mostWith_X8_lowest
set_option maxRecDepth 20000 in
theorem ggX8_mostWith_X8_restHours : GoodIn wsX8_mostWith wsX8_restHours := goodIn_r _ [12, 13, 14, 33, 34, 35, 36, 37, 38, 39, 40, 41, 42, 43, 44, 45, 46, 47, 48, 49, 50, 51, 52, 53, 54, 55, 56, 57, 58, 59, 60, 61] (by decide +kernel) (by decide +kernel)
set_option maxRecDepth 20000 in
theorem gX8_mostWith_X8_restHours : GoodIn wsX8_mostWith (wsV RX8 184 RX8 yX8_restHours wsX8_restHours) := goodIn_app (goodIn_of _ (by decide +kernel)) ggX8_mostWith_X8_restHours
set_option maxRecDepth 20000 in
theorem ggX8_mostWith_X8_needsIn : GoodIn wsX8_mostWith wsX8_needsIn := goodIn_r _ [18, 19, 20, 21, 4, 22, 14, 23, 24, 25, 26, 27, 28, 33, 34, 35, 36, 37, 38, 39, 40, 41, 42, 43, 44, 45, 46, 47, 48, 49, 50, 51, 52, 53, 54, 55, 56, 57, 58, 59, 60, 61] (by decide +kernel) (by decide +kernel)
set_option maxRecDepth 20000 in
theorem gX8_mostWith_X8_needsIn : GoodIn wsX8_mostWith (wsV RX8 202 RX8 yX8_needsIn wsX8_needsIn) := goodIn_app (goodIn_of _ (by decide +kernel)) ggX8_mostWith_X8_needsIn
set_option maxRecDepth 20000 in
theorem ggX8_mostWith_X8_meets : GoodIn wsX8_mostWith wsX8_meets := goodIn_r _ [32, 14, 9, 10, 11, 4, 12, 13, 19, 20, 21, 22, 23, 24, 25, 26, 27, 28, 15, 16, 17, 18, 33, 34, 35, 36, 37, 38, 39, 40, 41, 42, 43, 44, 45, 46, 47, 48, 49, 50, 51, 52, 53, 54, 55, 56, 57, 58, 59, 60, 61] (by decide +kernel) (by decide +kernel)
set_option maxRecDepth 20000 in
theorem gX8_mostWith_X8_meets : GoodIn wsX8_mostWith (wsV RX8 205 RX8 yX8_meets wsX8_meets) := goodIn_app (goodIn_of _ (by decide +kernel)) ggX8_mostWith_X8_meets
theorem dX8_mostWith_0 : decode cX8_mostWith 0 = .ok (.iload_n 1, 1) := by decide +kernel
theorem dX8_mostWith_1 : decode cX8_mostWith 1 = .ok (.invokestatic 214, 3) := by decide +kernel
theorem dX8_mostWith_4 : decode cX8_mostWith 4 = .ok (.istore_n 3, 1) := by decide +kernel
theorem dX8_mostWith_5 : decode cX8_mostWith 5 = .ok (.iload_n 2, 1) := by decide +kernel
theorem dX8_mostWith_6 : decode cX8_mostWith 6 = .ok (.iload_n 3, 1) := by decide +kernel
theorem dX8_mostWith_7 : decode cX8_mostWith 7 = .ok (.if_icmp .ne 28, 3) := by decide +kernel
theorem dX8_mostWith_10 : decode cX8_mostWith 10 = .ok (.aload_n 0, 1) := by decide +kernel
theorem dX8_mostWith_11 : decode cX8_mostWith 11 = .ok (.iload_n 3, 1) := by decide +kernel
theorem dX8_mostWith_12 : decode cX8_mostWith 12 = .ok (.aload_n 0, 1) := by decide +kernel
theorem dX8_mostWith_13 : decode cX8_mostWith 13 = .ok (.invokevirtual 184, 3) := by decide +kernel
theorem dX8_mostWith_16 : decode cX8_mostWith 16 = .ok (.invokevirtual 202, 3) := by decide +kernel
theorem dX8_mostWith_19 : decode cX8_mostWith 19 = .ok (.aload_n 0, 1) := by decide +kernel
theorem dX8_mostWith_20 : decode cX8_mostWith 20 = .ok (.getfield 25, 3) := by decide +kernel
theorem dX8_mostWith_23 : decode cX8_mostWith 23 = .ok (.iload_n 1, 1) := by decide +kernel
theorem dX8_mostWith_24 : decode cX8_mostWith 24 = .ok (.iconst 1, 1) := by decide +kernel
theorem dX8_mostWith_25 : decode cX8_mostWith 25 = .ok (.iload_n 3, 1) := by decide +kernel
theorem dX8_mostWith_26 : decode cX8_mostWith 26 = .ok (.ishl, 1) := by decide +kernel
theorem dX8_mostWith_27 : decode cX8_mostWith 27 = .ok (.iconst (-1), 1) := by decide +kernel
theorem dX8_mostWith_28 : decode cX8_mostWith 28 = .ok (.ixor, 1) := by decide +kernel
theorem dX8_mostWith_29 : decode cX8_mostWith 29 = .ok (.iand, 1) := by decide +kernel
theorem dX8_mostWith_30 : decode cX8_mostWith 30 = .ok (.iaload, 1) := by decide +kernel
theorem dX8_mostWith_31 : decode cX8_mostWith 31 = .ok (.iadd, 1) := by decide +kernel
theorem dX8_mostWith_32 : decode cX8_mostWith 32 = .ok (.goto 28, 3) := by decide +kernel
theorem dX8_mostWith_35 : decode cX8_mostWith 35 = .ok (.aload_n 0, 1) := by decide +kernel
theorem dX8_mostWith_36 : decode cX8_mostWith 36 = .ok (.iload_n 3, 1) := by decide +kernel
theorem dX8_mostWith_37 : decode cX8_mostWith 37 = .ok (.iload_n 2, 1) := by decide +kernel
theorem dX8_mostWith_38 : decode cX8_mostWith 38 = .ok (.invokevirtual 205, 3) := by decide +kernel
theorem dX8_mostWith_41 : decode cX8_mostWith 41 = .ok (.aload_n 0, 1) := by decide +kernel
theorem dX8_mostWith_42 : decode cX8_mostWith 42 = .ok (.getfield 25, 3) := by decide +kernel
theorem dX8_mostWith_45 : decode cX8_mostWith 45 = .ok (.iload_n 1, 1) := by decide +kernel
theorem dX8_mostWith_46 : decode cX8_mostWith 46 = .ok (.iconst 1, 1) := by decide +kernel
theorem dX8_mostWith_47 : decode cX8_mostWith 47 = .ok (.iload_n 3, 1) := by decide +kernel
theorem dX8_mostWith_48 : decode cX8_mostWith 48 = .ok (.ishl, 1) := by decide +kernel
theorem dX8_mostWith_49 : decode cX8_mostWith 49 = .ok (.iconst (-1), 1) := by decide +kernel
theorem dX8_mostWith_50 : decode cX8_mostWith 50 = .ok (.ixor, 1) := by decide +kernel
theorem dX8_mostWith_51 : decode cX8_mostWith 51 = .ok (.iand, 1) := by decide +kernel
theorem dX8_mostWith_52 : decode cX8_mostWith 52 = .ok (.iconst 1, 1) := by decide +kernel
theorem dX8_mostWith_53 : decode cX8_mostWith 53 = .ok (.iload_n 2, 1) := by decide +kernel
theorem dX8_mostWith_54 : decode cX8_mostWith 54 = .ok (.ishl, 1) := by decide +kernel
theorem dX8_mostWith_55 : decode cX8_mostWith 55 = .ok (.iconst (-1), 1) := by decide +kernel
theorem dX8_mostWith_56 : decode cX8_mostWith 56 = .ok (.ixor, 1) := by decide +kernel
theorem dX8_mostWith_57 : decode cX8_mostWith 57 = .ok (.iand, 1) := by decide +kernel
theorem dX8_mostWith_58 : decode cX8_mostWith 58 = .ok (.iaload, 1) := by decide +kernel
theorem dX8_mostWith_59 : decode cX8_mostWith 59 = .ok (.iadd, 1) := by decide +kernel
theorem dX8_mostWith_60 : decode cX8_mostWith 60 = .ok (.ireturn, 1) := by decide +kernel
set_option maxRecDepth 20000 in
theorem ggX8_mayBe_X8_has : GoodIn wsX8_mayBe wsX8_has := goodIn_r _ [4] (by decide +kernel) (by decide +kernel)
set_option maxRecDepth 20000 in
theorem gX8_mayBe_X8_has : GoodIn wsX8_mayBe (va_wsS RX8 116 yX8_has wsX8_has) := goodIn_app (goodIn_of _ (by decide +kernel)) ggX8_mayBe_X8_has
set_option maxRecDepth 20000 in
theorem ggX8_mayBe_X8_lowest : GoodIn wsX8_mayBe wsX8_lowest := goodIn_r _ [7, 1, 2, 3, 4] (by decide +kernel) (by decide +kernel)
set_option maxRecDepth 20000 in
theorem gX8_mayBe_X8_lowest : GoodIn wsX8_mayBe (va_wsS RX8 214 yX8_lowest wsX8_lowest) := goodIn_app (goodIn_of _ (by decide +kernel)) ggX8_mayBe_X8_lowest
set_option maxRecDepth 20000 in
theorem ggX8_mayBe_X8_bits : GoodIn wsX8_mayBe wsX8_bits := goodIn_r _ [10] (by decide +kernel) (by decide +kernel)
set_option maxRecDepth 20000 in
theorem gX8_mayBe_X8_bits : GoodIn wsX8_mayBe (va_wsS RX8 173 yX8_bits wsX8_bits) := goodIn_app (goodIn_of _ (by decide +kernel)) ggX8_mayBe_X8_bits
theorem dX8_mayBe_0 : decode cX8_mayBe 0 = .ok (.iload_n 1, 1) := by decide +kernel
theorem dX8_mayBe_1 : decode cX8_mayBe 1 = .ok (.iload_n 2, 1) := by decide +kernel
theorem dX8_mayBe_2 : decode cX8_mayBe 2 = .ok (.invokestatic 116, 3) := by decide +kernel
theorem dX8_mayBe_5 : decode cX8_mayBe 5 = .ok (.ifCond .eq 25, 3) := by decide +kernel
theorem dX8_mayBe_8 : decode cX8_mayBe 8 = .ok (.iload_n 2, 1) := by decide +kernel
theorem dX8_mayBe_9 : decode cX8_mayBe 9 = .ok (.iload_n 1, 1) := by decide +kernel
theorem dX8_mayBe_10 : decode cX8_mayBe 10 = .ok (.invokestatic 214, 3) := by decide +kernel
theorem dX8_mayBe_13 : decode cX8_mayBe 13 = .ok (.if_icmp .ne 13, 3) := by decide +kernel
theorem dX8_mayBe_16 : decode cX8_mayBe 16 = .ok (.iload_n 1, 1) := by decide +kernel
theorem dX8_mayBe_17 : decode cX8_mayBe 17 = .ok (.invokestatic 173, 3) := by decide +kernel
theorem dX8_mayBe_20 : decode cX8_mayBe 20 = .ok (.iconst 2, 1) := by decide +kernel
theorem dX8_mayBe_21 : decode cX8_mayBe 21 = .ok (.irem, 1) := by decide +kernel
theorem dX8_mayBe_22 : decode cX8_mayBe 22 = .ok (.iconst 1, 1) := by decide +kernel
theorem dX8_mayBe_23 : decode cX8_mayBe 23 = .ok (.if_icmp .ne 7, 3) := by decide +kernel
theorem dX8_mayBe_26 : decode cX8_mayBe 26 = .ok (.iconst 1, 1) := by decide +kernel
theorem dX8_mayBe_27 : decode cX8_mayBe 27 = .ok (.goto 4, 3) := by decide +kernel
theorem dX8_mayBe_30 : decode cX8_mayBe 30 = .ok (.iconst 0, 1) := by decide +kernel
theorem dX8_mayBe_31 : decode cX8_mayBe 31 = .ok (.ireturn, 1) := by decide +kernel
set_option maxRecDepth 20000 in
theorem ggX8_findPairs_X8_mayBe : GoodIn wsX8_findPairs wsX8_mayBe := goodIn_r _ [12, 13, 14, 11, 15, 16, 17, 18, 19, 20, 21] (by decide +kernel) (by decide +kernel)
set_option maxRecDepth 20000 in
theorem gX8_findPairs_X8_mayBe : GoodIn wsX8_findPairs (wsV RX8 217 RX8 yX8_mayBe wsX8_mayBe) := goodIn_app (goodIn_of _ (by decide +kernel)) ggX8_findPairs_X8_mayBe
set_option maxRecDepth 20000 in
theorem ggX8_findPairs_X8_mostWith : GoodIn wsX8_findPairs wsX8_mostWith := goodIn_r _ [25, 1, 16, 17, 11, 18, 13, 14, 15, 26, 27, 28, 29, 30, 3, 31, 32, 33, 34, 35, 36, 37, 38, 39, 40, 41, 19, 20, 21, 42, 43, 44, 45, 46, 47, 48, 49, 50, 51, 52, 53, 54, 55, 56, 57, 58, 59, 60, 61, 62, 63, 64, 65, 66, 67, 68, 69, 70, 71, 72, 73, 74] (by decide +kernel) (by decide +kernel)
set_option maxRecDepth 20000 in
theorem gX8_findPairs_X8_mostWith : GoodIn wsX8_findPairs (wsV RX8 220 RX8 yX8_mostWith wsX8_mostWith) := goodIn_app (goodIn_of _ (by decide +kernel)) ggX8_findPairs_X8_mostWith
set_option maxRecDepth 20000 in
theorem ggX8_findPairs_X8_lowest : GoodIn wsX8_findPairs wsX8_lowest := goodIn_r _ [18, 13, 14, 11, 15] (by decide +kernel) (by decide +kernel)
set_option maxRecDepth 20000 in
theorem gX8_findPairs_X8_lowest : GoodIn wsX8_findPairs (va_wsS RX8 214 yX8_lowest wsX8_lowest) := goodIn_app (goodIn_of _ (by decide +kernel)) ggX8_findPairs_X8_lowest
theorem dX8_findPairs_0 : decode cX8_findPairs 0 = .ok (.aload_n 0, 1) := by decide +kernel
theorem dX8_findPairs_1 : decode cX8_findPairs 1 = .ok (.getfield 25, 3) := by decide +kernel
theorem dX8_findPairs_4 : decode cX8_findPairs 4 = .ok (.iconst 0, 1) := by decide +kernel
theorem dX8_findPairs_5 : decode cX8_findPairs 5 = .ok (.iconst 0, 1) := by decide +kernel
theorem dX8_findPairs_6 : decode cX8_findPairs 6 = .ok (.iastore, 1) := by decide +kernel
theorem dX8_findPairs_7 : decode cX8_findPairs 7 = .ok (.aload_n 0, 1) := by decide +kernel
theorem dX8_findPairs_8 : decode cX8_findPairs 8 = .ok (.getfield 28, 3) := by decide +kernel
theorem dX8_findPairs_11 : decode cX8_findPairs 11 = .ok (.iconst 0, 1) := by decide +kernel
theorem dX8_findPairs_12 : decode cX8_findPairs 12 = .ok (.iconst 1, 1) := by decide +kernel
theorem dX8_findPairs_13 : decode cX8_findPairs 13 = .ok (.iastore, 1) := by decide +kernel
theorem dX8_findPairs_14 : decode cX8_findPairs 14 = .ok (.iconst 1, 1) := by decide +kernel
theorem dX8_findPairs_15 : decode cX8_findPairs 15 = .ok (.istore_n 1, 1) := by decide +kernel
theorem dX8_findPairs_16 : decode cX8_findPairs 16 = .ok (.iload_n 1, 1) := by decide +kernel
theorem dX8_findPairs_17 : decode cX8_findPairs 17 = .ok (.iconst 1, 1) := by decide +kernel
theorem dX8_findPairs_18 : decode cX8_findPairs 18 = .ok (.aload_n 0, 1) := by decide +kernel
theorem dX8_findPairs_19 : decode cX8_findPairs 19 = .ok (.getfield 9, 3) := by decide +kernel
theorem dX8_findPairs_22 : decode cX8_findPairs 22 = .ok (.iconst 4, 1) := by decide +kernel
theorem dX8_findPairs_23 : decode cX8_findPairs 23 = .ok (.iaload, 1) := by decide +kernel
theorem dX8_findPairs_24 : decode cX8_findPairs 24 = .ok (.ishl, 1) := by decide +kernel
theorem dX8_findPairs_25 : decode cX8_findPairs 25 = .ok (.if_icmp .ge 145, 3) := by decide +kernel
theorem dX8_findPairs_28 : decode cX8_findPairs 28 = .ok (.aload_n 0, 1) := by decide +kernel
theorem dX8_findPairs_29 : decode cX8_findPairs 29 = .ok (.getfield 25, 3) := by decide +kernel
theorem dX8_findPairs_32 : decode cX8_findPairs 32 = .ok (.iload_n 1, 1) := by decide +kernel
theorem dX8_findPairs_33 : decode cX8_findPairs 33 = .ok (.iconst (-1), 1) := by decide +kernel
theorem dX8_findPairs_34 : decode cX8_findPairs 34 = .ok (.iastore, 1) := by decide +kernel
theorem dX8_findPairs_35 : decode cX8_findPairs 35 = .ok (.aload_n 0, 1) := by decide +kernel
theorem dX8_findPairs_36 : decode cX8_findPairs 36 = .ok (.getfield 28, 3) := by decide +kernel
theorem dX8_findPairs_39 : decode cX8_findPairs 39 = .ok (.iload_n 1, 1) := by decide +kernel
theorem dX8_findPairs_40 : decode cX8_findPairs 40 = .ok (.iconst 0, 1) := by decide +kernel
theorem dX8_findPairs_41 : decode cX8_findPairs 41 = .ok (.iastore, 1) := by decide +kernel
theorem dX8_findPairs_42 : decode cX8_findPairs 42 = .ok (.iconst 0, 1) := by decide +kernel
theorem dX8_findPairs_43 : decode cX8_findPairs 43 = .ok (.istore_n 2, 1) := by decide +kernel
theorem dX8_findPairs_44 : decode cX8_findPairs 44 = .ok (.iload_n 2, 1) := by decide +kernel
theorem dX8_findPairs_45 : decode cX8_findPairs 45 = .ok (.aload_n 0, 1) := by decide +kernel
theorem dX8_findPairs_46 : decode cX8_findPairs 46 = .ok (.getfield 9, 3) := by decide +kernel
theorem dX8_findPairs_49 : decode cX8_findPairs 49 = .ok (.iconst 4, 1) := by decide +kernel
theorem dX8_findPairs_50 : decode cX8_findPairs 50 = .ok (.iaload, 1) := by decide +kernel
theorem dX8_findPairs_51 : decode cX8_findPairs 51 = .ok (.if_icmp .ge 113, 3) := by decide +kernel
theorem dX8_findPairs_54 : decode cX8_findPairs 54 = .ok (.aload_n 0, 1) := by decide +kernel
theorem dX8_findPairs_55 : decode cX8_findPairs 55 = .ok (.iload_n 1, 1) := by decide +kernel
theorem dX8_findPairs_56 : decode cX8_findPairs 56 = .ok (.iload_n 2, 1) := by decide +kernel
theorem dX8_findPairs_57 : decode cX8_findPairs 57 = .ok (.invokevirtual 217, 3) := by decide +kernel
theorem dX8_findPairs_60 : decode cX8_findPairs 60 = .ok (.ifCond .eq 98, 3) := by decide +kernel
theorem dX8_findPairs_63 : decode cX8_findPairs 63 = .ok (.aload_n 0, 1) := by decide +kernel
theorem dX8_findPairs_64 : decode cX8_findPairs 64 = .ok (.iload_n 1, 1) := by decide +kernel
theorem dX8_findPairs_65 : decode cX8_findPairs 65 = .ok (.iload_n 2, 1) := by decide +kernel
theorem dX8_findPairs_66 : decode cX8_findPairs 66 = .ok (.invokevirtual 220, 3) := by decide +kernel
theorem dX8_findPairs_69 : decode cX8_findPairs 69 = .ok (.istore_n 3, 1) := by decide +kernel
theorem dX8_findPairs_70 : decode cX8_findPairs 70 = .ok (.aload_n 0, 1) := by decide +kernel
theorem dX8_findPairs_71 : decode cX8_findPairs 71 = .ok (.getfield 28, 3) := by decide +kernel
theorem dX8_findPairs_74 : decode cX8_findPairs 74 = .ok (.iload_n 1, 1) := by decide +kernel
theorem dX8_findPairs_75 : decode cX8_findPairs 75 = .ok (.iconst 1, 1) := by decide +kernel
theorem dX8_findPairs_76 : decode cX8_findPairs 76 = .ok (.iload_n 1, 1) := by decide +kernel
theorem dX8_findPairs_77 : decode cX8_findPairs 77 = .ok (.invokestatic 214, 3) := by decide +kernel
theorem dX8_findPairs_80 : decode cX8_findPairs 80 = .ok (.ishl, 1) := by decide +kernel
theorem dX8_findPairs_81 : decode cX8_findPairs 81 = .ok (.iconst (-1), 1) := by decide +kernel
theorem dX8_findPairs_82 : decode cX8_findPairs 82 = .ok (.ixor, 1) := by decide +kernel
theorem dX8_findPairs_83 : decode cX8_findPairs 83 = .ok (.iand, 1) := by decide +kernel
theorem dX8_findPairs_84 : decode cX8_findPairs 84 = .ok (.iconst 1, 1) := by decide +kernel
theorem dX8_findPairs_85 : decode cX8_findPairs 85 = .ok (.iload_n 2, 1) := by decide +kernel
theorem dX8_findPairs_86 : decode cX8_findPairs 86 = .ok (.ishl, 1) := by decide +kernel
theorem dX8_findPairs_87 : decode cX8_findPairs 87 = .ok (.iconst (-1), 1) := by decide +kernel
theorem dX8_findPairs_88 : decode cX8_findPairs 88 = .ok (.ixor, 1) := by decide +kernel
theorem dX8_findPairs_89 : decode cX8_findPairs 89 = .ok (.iand, 1) := by decide +kernel
theorem dX8_findPairs_90 : decode cX8_findPairs 90 = .ok (.iaload, 1) := by decide +kernel
theorem dX8_findPairs_91 : decode cX8_findPairs 91 = .ok (.istore 4, 2) := by decide +kernel
theorem dX8_findPairs_93 : decode cX8_findPairs 93 = .ok (.aload_n 0, 1) := by decide +kernel
theorem dX8_findPairs_94 : decode cX8_findPairs 94 = .ok (.getfield 28, 3) := by decide +kernel
theorem dX8_findPairs_97 : decode cX8_findPairs 97 = .ok (.iload_n 1, 1) := by decide +kernel
theorem dX8_findPairs_98 : decode cX8_findPairs 98 = .ok (.iload_n 3, 1) := by decide +kernel
theorem dX8_findPairs_99 : decode cX8_findPairs 99 = .ok (.aload_n 0, 1) := by decide +kernel
theorem dX8_findPairs_100 : decode cX8_findPairs 100 = .ok (.getfield 25, 3) := by decide +kernel
theorem dX8_findPairs_103 : decode cX8_findPairs 103 = .ok (.iload_n 1, 1) := by decide +kernel
theorem dX8_findPairs_104 : decode cX8_findPairs 104 = .ok (.iaload, 1) := by decide +kernel
theorem dX8_findPairs_105 : decode cX8_findPairs 105 = .ok (.if_icmp .le 8, 3) := by decide +kernel
theorem dX8_findPairs_108 : decode cX8_findPairs 108 = .ok (.iload 4, 2) := by decide +kernel
theorem dX8_findPairs_110 : decode cX8_findPairs 110 = .ok (.goto 31, 3) := by decide +kernel
theorem dX8_findPairs_113 : decode cX8_findPairs 113 = .ok (.iload_n 3, 1) := by decide +kernel
theorem dX8_findPairs_114 : decode cX8_findPairs 114 = .ok (.aload_n 0, 1) := by decide +kernel
theorem dX8_findPairs_115 : decode cX8_findPairs 115 = .ok (.getfield 25, 3) := by decide +kernel
theorem dX8_findPairs_118 : decode cX8_findPairs 118 = .ok (.iload_n 1, 1) := by decide +kernel
theorem dX8_findPairs_119 : decode cX8_findPairs 119 = .ok (.iaload, 1) := by decide +kernel
theorem dX8_findPairs_120 : decode cX8_findPairs 120 = .ok (.if_icmp .ne 15, 3) := by decide +kernel
theorem dX8_findPairs_123 : decode cX8_findPairs 123 = .ok (.aload_n 0, 1) := by decide +kernel
theorem dX8_findPairs_124 : decode cX8_findPairs 124 = .ok (.getfield 28, 3) := by decide +kernel
theorem dX8_findPairs_127 : decode cX8_findPairs 127 = .ok (.iload_n 1, 1) := by decide +kernel
theorem dX8_findPairs_128 : decode cX8_findPairs 128 = .ok (.iaload, 1) := by decide +kernel
theorem dX8_findPairs_129 : decode cX8_findPairs 129 = .ok (.iload 4, 2) := by decide +kernel
theorem dX8_findPairs_131 : decode cX8_findPairs 131 = .ok (.iadd, 1) := by decide +kernel
theorem dX8_findPairs_132 : decode cX8_findPairs 132 = .ok (.goto 9, 3) := by decide +kernel
theorem dX8_findPairs_135 : decode cX8_findPairs 135 = .ok (.aload_n 0, 1) := by decide +kernel
theorem dX8_findPairs_136 : decode cX8_findPairs 136 = .ok (.getfield 28, 3) := by decide +kernel
theorem dX8_findPairs_139 : decode cX8_findPairs 139 = .ok (.iload_n 1, 1) := by decide +kernel
theorem dX8_findPairs_140 : decode cX8_findPairs 140 = .ok (.iaload, 1) := by decide +kernel
theorem dX8_findPairs_141 : decode cX8_findPairs 141 = .ok (.iastore, 1) := by decide +kernel
theorem dX8_findPairs_142 : decode cX8_findPairs 142 = .ok (.aload_n 0, 1) := by decide +kernel
theorem dX8_findPairs_143 : decode cX8_findPairs 143 = .ok (.getfield 25, 3) := by decide +kernel
theorem dX8_findPairs_146 : decode cX8_findPairs 146 = .ok (.iload_n 1, 1) := by decide +kernel
theorem dX8_findPairs_147 : decode cX8_findPairs 147 = .ok (.aload_n 0, 1) := by decide +kernel
theorem dX8_findPairs_148 : decode cX8_findPairs 148 = .ok (.getfield 25, 3) := by decide +kernel
theorem dX8_findPairs_151 : decode cX8_findPairs 151 = .ok (.iload_n 1, 1) := by decide +kernel
theorem dX8_findPairs_152 : decode cX8_findPairs 152 = .ok (.iaload, 1) := by decide +kernel
theorem dX8_findPairs_153 : decode cX8_findPairs 153 = .ok (.iload_n 3, 1) := by decide +kernel
theorem dX8_findPairs_154 : decode cX8_findPairs 154 = .ok (.invokestatic 110, 3) := by decide +kernel
theorem dX8_findPairs_157 : decode cX8_findPairs 157 = .ok (.iastore, 1) := by decide +kernel
theorem dX8_findPairs_158 : decode cX8_findPairs 158 = .ok (.iinc 2 1, 3) := by decide +kernel
theorem dX8_findPairs_161 : decode cX8_findPairs 161 = .ok (.goto (-117), 3) := by decide +kernel
theorem dX8_findPairs_164 : decode cX8_findPairs 164 = .ok (.iinc 1 1, 3) := by decide +kernel
theorem dX8_findPairs_167 : decode cX8_findPairs 167 = .ok (.goto (-151), 3) := by decide +kernel
theorem dX8_findPairs_170 : decode cX8_findPairs 170 = .ok (.aload_n 0, 1) := by decide +kernel
theorem dX8_findPairs_171 : decode cX8_findPairs 171 = .ok (.getfield 25, 3) := by decide +kernel
theorem dX8_findPairs_174 : decode cX8_findPairs 174 = .ok (.iconst 1, 1) := by decide +kernel
theorem dX8_findPairs_175 : decode cX8_findPairs 175 = .ok (.aload_n 0, 1) := by decide +kernel
theorem dX8_findPairs_176 : decode cX8_findPairs 176 = .ok (.getfield 9, 3) := by decide +kernel
theorem dX8_findPairs_179 : decode cX8_findPairs 179 = .ok (.iconst 4, 1) := by decide +kernel
theorem dX8_findPairs_180 : decode cX8_findPairs 180 = .ok (.iaload, 1) := by decide +kernel
theorem dX8_findPairs_181 : decode cX8_findPairs 181 = .ok (.ishl, 1) := by decide +kernel
theorem dX8_findPairs_182 : decode cX8_findPairs 182 = .ok (.iconst 1, 1) := by decide +kernel
theorem dX8_findPairs_183 : decode cX8_findPairs 183 = .ok (.isub, 1) := by decide +kernel
theorem dX8_findPairs_184 : decode cX8_findPairs 184 = .ok (.iaload, 1) := by decide +kernel
theorem dX8_findPairs_185 : decode cX8_findPairs 185 = .ok (.ireturn, 1) := by decide +kernel
set_option maxRecDepth 20000 in
theorem ggX8_pairs_X8_findPairs : GoodIn wsX8_pairs wsX8_findPairs := goodIn_r _ [5, 6, 7, 8, 9, 10, 11, 12, 13, 14, 15, 4, 16, 17, 18, 19, 20, 21, 22, 23, 24, 25, 26, 27, 28, 29, 30, 31, 32, 33, 34, 35, 36, 37, 38, 39, 40, 41, 42, 43, 44, 45, 46, 47, 48, 49, 50, 51, 52, 53, 54, 55, 56, 57, 58, 59, 60, 61, 62, 63, 64, 65, 66, 67, 68, 69, 70, 71, 72, 73, 74, 75, 76, 77, 78] (by decide +kernel) (by decide +kernel)
set_option maxRecDepth 20000 in
theorem gX8_pairs_X8_findPairs : GoodIn wsX8_pairs (wsV RX8 223 RX8 yX8_findPairs wsX8_findPairs) := goodIn_app (goodIn_of _ (by decide +kernel)) ggX8_pairs_X8_findPairs
theorem dX8_pairs_0 : decode cX8_pairs 0 = .ok (.aload_n 0, 1) := by decide +kernel
theorem dX8_pairs_1 : decode cX8_pairs 1 = .ok (.invokevirtual 223, 3) := by decide +kernel
theorem dX8_pairs_4 : decode cX8_pairs 4 = .ok (.ireturn, 1) := by decide +kernel
set_option maxRecDepth 20000 in
theorem ggX8_mate_X8_isPerson : GoodIn wsX8_mate wsX8_isPerson := goodIn_r _ [8, 2, 9, 10, 7, 11, 63, 64, 65, 66, 67, 68, 69, 70, 71, 72, 73, 74, 75, 76, 77, 78, 79, 80, 81, 82, 83, 84, 85, 86, 87, 88, 89, 90, 91] (by decide +kernel) (by decide +kernel)
set_option maxRecDepth 20000 in
theorem gX8_mate_X8_isPerson : GoodIn wsX8_mate (wsV RX8 130 RX8 yX8_isPerson wsX8_isPerson) := goodIn_app (goodIn_of _ (by decide +kernel)) ggX8_mate_X8_isPerson
set_option maxRecDepth 20000 in
theorem ggX8_mate_X8_finding : GoodIn wsX8_mate wsX8_finding := goodIn_r _ [15, 16, 1, 63, 64, 65, 66, 67, 68, 69, 70, 71, 72, 73, 74, 75, 76, 77, 78, 79, 80, 81, 82, 83, 84, 85, 86, 87, 88, 89, 90, 91] (by decide +kernel) (by decide +kernel)
set_option maxRecDepth 20000 in
theorem gX8_mate_X8_finding : GoodIn wsX8_mate (wsV RX8 90 RX8 yX8_finding wsX8_finding) := goodIn_app (goodIn_of _ (by decide +kernel)) ggX8_mate_X8_finding
set_option maxRecDepth 20000 in
theorem ggX8_mate_X8_findPairs : GoodIn wsX8_mate wsX8_findPairs := goodIn_r _ [20, 3, 21, 2, 22, 23, 24, 25, 26, 27, 28, 7, 29, 30, 31, 32, 33, 34, 35, 36, 37, 38, 39, 40, 41, 42, 43, 44, 45, 46, 47, 48, 49, 50, 51, 52, 53, 54, 55, 56, 57, 58, 59, 60, 61, 62, 63, 64, 65, 66, 67, 68, 69, 70, 71, 72, 73, 74, 75, 76, 77, 78, 79, 80, 81, 82, 83, 84, 85, 86, 87, 88, 89, 90, 91] (by decide +kernel) (by decide +kernel)
set_option maxRecDepth 20000 in
theorem gX8_mate_X8_findPairs : GoodIn wsX8_mate (wsV RX8 223 RX8 yX8_findPairs wsX8_findPairs) := goodIn_app (goodIn_of _ (by decide +kernel)) ggX8_mate_X8_findPairs
set_option maxRecDepth 20000 in
theorem ggX8_mate_X8_lowest : GoodIn wsX8_mate wsX8_lowest := goodIn_r _ [35, 30, 31, 7, 32] (by decide +kernel) (by decide +kernel)
set_option maxRecDepth 20000 in
theorem gX8_mate_X8_lowest : GoodIn wsX8_mate (va_wsS RX8 214 yX8_lowest wsX8_lowest) := goodIn_app (goodIn_of _ (by decide +kernel)) ggX8_mate_X8_lowest
set_option maxRecDepth 20000 in
theorem ggX8_mate_X8_mayBe : GoodIn wsX8_mate wsX8_mayBe := goodIn_r _ [29, 30, 31, 7, 32, 33, 34, 35, 36, 37, 38] (by decide +kernel) (by decide +kernel)
set_option maxRecDepth 20000 in
theorem gX8_mate_X8_mayBe : GoodIn wsX8_mate (wsV RX8 217 RX8 yX8_mayBe wsX8_mayBe) := goodIn_app (goodIn_of _ (by decide +kernel)) ggX8_mate_X8_mayBe
set_option maxRecDepth 20000 in
theorem ggX8_mate_X8_mostWith : GoodIn wsX8_mate wsX8_mostWith := goodIn_r _ [42, 3, 33, 34, 7, 35, 30, 31, 32, 43, 44, 45, 46, 47, 2, 48, 49, 50, 51, 52, 53, 54, 55, 56, 57, 58, 36, 37, 38, 59, 60, 61, 62, 63, 64, 65, 66, 67, 68, 69, 70, 71, 72, 73, 74, 75, 76, 77, 78, 79, 80, 81, 82, 83, 84, 85, 86, 87, 88, 89, 90, 91] (by decide +kernel) (by decide +kernel)
set_option maxRecDepth 20000 in
theorem gX8_mate_X8_mostWith : GoodIn wsX8_mate (wsV RX8 220 RX8 yX8_mostWith wsX8_mostWith) := goodIn_app (goodIn_of _ (by decide +kernel)) ggX8_mate_X8_mostWith
theorem dX8_mate_0 : decode cX8_mate 0 = .ok (.aload_n 0, 1) := by decide +kernel
theorem dX8_mate_1 : decode cX8_mate 1 = .ok (.iload_n 1, 1) := by decide +kernel
theorem dX8_mate_2 : decode cX8_mate 2 = .ok (.invokevirtual 130, 3) := by decide +kernel
theorem dX8_mate_5 : decode cX8_mate 5 = .ok (.ifCond .ne 10, 3) := by decide +kernel
theorem dX8_mate_8 : decode cX8_mate 8 = .ok (.aload_n 0, 1) := by decide +kernel
theorem dX8_mate_9 : decode cX8_mate 9 = .ok (.ldc 73, 2) := by decide +kernel
theorem dX8_mate_11 : decode cX8_mate 11 = .ok (.invokevirtual 90, 3) := by decide +kernel
theorem dX8_mate_14 : decode cX8_mate 14 = .ok (.ireturn, 1) := by decide +kernel
theorem dX8_mate_15 : decode cX8_mate 15 = .ok (.aload_n 0, 1) := by decide +kernel
theorem dX8_mate_16 : decode cX8_mate 16 = .ok (.invokevirtual 223, 3) := by decide +kernel
theorem dX8_mate_19 : decode cX8_mate 19 = .ok (.ifCond .ge 7, 3) := by decide +kernel
theorem dX8_mate_22 : decode cX8_mate 22 = .ok (.iconst 0, 1) := by decide +kernel
theorem dX8_mate_23 : decode cX8_mate 23 = .ok (.goto 13, 3) := by decide +kernel
theorem dX8_mate_26 : decode cX8_mate 26 = .ok (.iconst 1, 1) := by decide +kernel
theorem dX8_mate_27 : decode cX8_mate 27 = .ok (.aload_n 0, 1) := by decide +kernel
theorem dX8_mate_28 : decode cX8_mate 28 = .ok (.getfield 9, 3) := by decide +kernel
theorem dX8_mate_31 : decode cX8_mate 31 = .ok (.iconst 4, 1) := by decide +kernel
theorem dX8_mate_32 : decode cX8_mate 32 = .ok (.iaload, 1) := by decide +kernel
theorem dX8_mate_33 : decode cX8_mate 33 = .ok (.ishl, 1) := by decide +kernel
theorem dX8_mate_34 : decode cX8_mate 34 = .ok (.iconst 1, 1) := by decide +kernel
theorem dX8_mate_35 : decode cX8_mate 35 = .ok (.isub, 1) := by decide +kernel
theorem dX8_mate_36 : decode cX8_mate 36 = .ok (.istore_n 2, 1) := by decide +kernel
theorem dX8_mate_37 : decode cX8_mate 37 = .ok (.bipush (-2), 2) := by decide +kernel
theorem dX8_mate_39 : decode cX8_mate 39 = .ok (.istore_n 3, 1) := by decide +kernel
theorem dX8_mate_40 : decode cX8_mate 40 = .ok (.iload_n 3, 1) := by decide +kernel
theorem dX8_mate_41 : decode cX8_mate 41 = .ok (.bipush (-2), 2) := by decide +kernel
theorem dX8_mate_43 : decode cX8_mate 43 = .ok (.if_icmp .ne 100, 3) := by decide +kernel
theorem dX8_mate_46 : decode cX8_mate 46 = .ok (.iload_n 2, 1) := by decide +kernel
theorem dX8_mate_47 : decode cX8_mate 47 = .ok (.invokestatic 214, 3) := by decide +kernel
theorem dX8_mate_50 : decode cX8_mate 50 = .ok (.istore 4, 2) := by decide +kernel
theorem dX8_mate_52 : decode cX8_mate 52 = .ok (.iload 4, 2) := by decide +kernel
theorem dX8_mate_54 : decode cX8_mate 54 = .ok (.istore 5, 2) := by decide +kernel
theorem dX8_mate_56 : decode cX8_mate 56 = .ok (.aload_n 0, 1) := by decide +kernel
theorem dX8_mate_57 : decode cX8_mate 57 = .ok (.iload_n 2, 1) := by decide +kernel
theorem dX8_mate_58 : decode cX8_mate 58 = .ok (.iload 5, 2) := by decide +kernel
theorem dX8_mate_60 : decode cX8_mate 60 = .ok (.invokevirtual 217, 3) := by decide +kernel
theorem dX8_mate_63 : decode cX8_mate 63 = .ok (.ifCond .eq 19, 3) := by decide +kernel
theorem dX8_mate_66 : decode cX8_mate 66 = .ok (.aload_n 0, 1) := by decide +kernel
theorem dX8_mate_67 : decode cX8_mate 67 = .ok (.iload_n 2, 1) := by decide +kernel
theorem dX8_mate_68 : decode cX8_mate 68 = .ok (.iload 5, 2) := by decide +kernel
theorem dX8_mate_70 : decode cX8_mate 70 = .ok (.invokevirtual 220, 3) := by decide +kernel
theorem dX8_mate_73 : decode cX8_mate 73 = .ok (.aload_n 0, 1) := by decide +kernel
theorem dX8_mate_74 : decode cX8_mate 74 = .ok (.getfield 25, 3) := by decide +kernel
theorem dX8_mate_77 : decode cX8_mate 77 = .ok (.iload_n 2, 1) := by decide +kernel
theorem dX8_mate_78 : decode cX8_mate 78 = .ok (.iaload, 1) := by decide +kernel
theorem dX8_mate_79 : decode cX8_mate 79 = .ok (.if_icmp .eq 9, 3) := by decide +kernel
theorem dX8_mate_82 : decode cX8_mate 82 = .ok (.iinc 5 1, 3) := by decide +kernel
theorem dX8_mate_85 : decode cX8_mate 85 = .ok (.goto (-29), 3) := by decide +kernel
theorem dX8_mate_88 : decode cX8_mate 88 = .ok (.iload 4, 2) := by decide +kernel
theorem dX8_mate_90 : decode cX8_mate 90 = .ok (.iload_n 1, 1) := by decide +kernel
theorem dX8_mate_91 : decode cX8_mate 91 = .ok (.if_icmp .ne 19, 3) := by decide +kernel
theorem dX8_mate_94 : decode cX8_mate 94 = .ok (.iload 5, 2) := by decide +kernel
theorem dX8_mate_96 : decode cX8_mate 96 = .ok (.iload 4, 2) := by decide +kernel
theorem dX8_mate_98 : decode cX8_mate 98 = .ok (.if_icmp .ne 7, 3) := by decide +kernel
theorem dX8_mate_101 : decode cX8_mate 101 = .ok (.iconst (-1), 1) := by decide +kernel
theorem dX8_mate_102 : decode cX8_mate 102 = .ok (.goto 21, 3) := by decide +kernel
theorem dX8_mate_105 : decode cX8_mate 105 = .ok (.iload 5, 2) := by decide +kernel
theorem dX8_mate_107 : decode cX8_mate 107 = .ok (.goto 16, 3) := by decide +kernel
theorem dX8_mate_110 : decode cX8_mate 110 = .ok (.iload 5, 2) := by decide +kernel
theorem dX8_mate_112 : decode cX8_mate 112 = .ok (.iload_n 1, 1) := by decide +kernel
theorem dX8_mate_113 : decode cX8_mate 113 = .ok (.if_icmp .ne 8, 3) := by decide +kernel
theorem dX8_mate_116 : decode cX8_mate 116 = .ok (.iload 4, 2) := by decide +kernel
theorem dX8_mate_118 : decode cX8_mate 118 = .ok (.goto 5, 3) := by decide +kernel
theorem dX8_mate_121 : decode cX8_mate 121 = .ok (.bipush (-2), 2) := by decide +kernel
theorem dX8_mate_123 : decode cX8_mate 123 = .ok (.istore_n 3, 1) := by decide +kernel
theorem dX8_mate_124 : decode cX8_mate 124 = .ok (.iload_n 2, 1) := by decide +kernel
theorem dX8_mate_125 : decode cX8_mate 125 = .ok (.iconst 1, 1) := by decide +kernel
theorem dX8_mate_126 : decode cX8_mate 126 = .ok (.iload 4, 2) := by decide +kernel
theorem dX8_mate_128 : decode cX8_mate 128 = .ok (.ishl, 1) := by decide +kernel
theorem dX8_mate_129 : decode cX8_mate 129 = .ok (.iconst (-1), 1) := by decide +kernel
theorem dX8_mate_130 : decode cX8_mate 130 = .ok (.ixor, 1) := by decide +kernel
theorem dX8_mate_131 : decode cX8_mate 131 = .ok (.iconst 1, 1) := by decide +kernel
theorem dX8_mate_132 : decode cX8_mate 132 = .ok (.iload 5, 2) := by decide +kernel
theorem dX8_mate_134 : decode cX8_mate 134 = .ok (.ishl, 1) := by decide +kernel
theorem dX8_mate_135 : decode cX8_mate 135 = .ok (.iconst (-1), 1) := by decide +kernel
theorem dX8_mate_136 : decode cX8_mate 136 = .ok (.ixor, 1) := by decide +kernel
theorem dX8_mate_137 : decode cX8_mate 137 = .ok (.iand, 1) := by decide +kernel
theorem dX8_mate_138 : decode cX8_mate 138 = .ok (.iand, 1) := by decide +kernel
theorem dX8_mate_139 : decode cX8_mate 139 = .ok (.istore_n 2, 1) := by decide +kernel
theorem dX8_mate_140 : decode cX8_mate 140 = .ok (.goto (-100), 3) := by decide +kernel
theorem dX8_mate_143 : decode cX8_mate 143 = .ok (.iload_n 3, 1) := by decide +kernel
theorem dX8_mate_144 : decode cX8_mate 144 = .ok (.ireturn, 1) := by decide +kernel
set_option maxRecDepth 20000 in
theorem ggX8_ways_X8_findPairs : GoodIn wsX8_ways wsX8_findPairs := goodIn_r _ [7, 8, 1, 2, 9, 10, 11, 12, 13, 14, 15, 6, 16, 17, 18, 19, 20, 21, 22, 23, 24, 25, 26, 27, 28, 29, 30, 31, 32, 33, 34, 35, 36, 37, 38, 39, 40, 41, 42, 43, 44, 45, 46, 47, 48, 49, 50, 51, 52, 53, 54, 55, 56, 57, 58, 59, 60, 61, 62, 63, 64, 65, 66, 67, 68, 69, 70, 71, 72, 73, 74, 75, 76, 77, 78] (by decide +kernel) (by decide +kernel)
set_option maxRecDepth 20000 in
theorem gX8_ways_X8_findPairs : GoodIn wsX8_ways (wsV RX8 223 RX8 yX8_findPairs wsX8_findPairs) := goodIn_app (goodIn_of _ (by decide +kernel)) ggX8_ways_X8_findPairs
theorem dX8_ways_0 : decode cX8_ways 0 = .ok (.aload_n 0, 1) := by decide +kernel
theorem dX8_ways_1 : decode cX8_ways 1 = .ok (.invokevirtual 223, 3) := by decide +kernel
theorem dX8_ways_4 : decode cX8_ways 4 = .ok (.ifCond .ge 7, 3) := by decide +kernel
theorem dX8_ways_7 : decode cX8_ways 7 = .ok (.iconst 0, 1) := by decide +kernel
theorem dX8_ways_8 : decode cX8_ways 8 = .ok (.goto 18, 3) := by decide +kernel
theorem dX8_ways_11 : decode cX8_ways 11 = .ok (.aload_n 0, 1) := by decide +kernel
theorem dX8_ways_12 : decode cX8_ways 12 = .ok (.getfield 28, 3) := by decide +kernel
theorem dX8_ways_15 : decode cX8_ways 15 = .ok (.iconst 1, 1) := by decide +kernel
theorem dX8_ways_16 : decode cX8_ways 16 = .ok (.aload_n 0, 1) := by decide +kernel
theorem dX8_ways_17 : decode cX8_ways 17 = .ok (.getfield 9, 3) := by decide +kernel
theorem dX8_ways_20 : decode cX8_ways 20 = .ok (.iconst 4, 1) := by decide +kernel
theorem dX8_ways_21 : decode cX8_ways 21 = .ok (.iaload, 1) := by decide +kernel
theorem dX8_ways_22 : decode cX8_ways 22 = .ok (.ishl, 1) := by decide +kernel
theorem dX8_ways_23 : decode cX8_ways 23 = .ok (.iconst 1, 1) := by decide +kernel
theorem dX8_ways_24 : decode cX8_ways 24 = .ok (.isub, 1) := by decide +kernel
theorem dX8_ways_25 : decode cX8_ways 25 = .ok (.iaload, 1) := by decide +kernel
theorem dX8_ways_26 : decode cX8_ways 26 = .ok (.ireturn, 1) := by decide +kernel
set_option maxRecDepth 20000 in
theorem ggX8_wouldBreak_X8_heldByLess : GoodIn wsX8_wouldBreak wsX8_heldByLess := goodIn_r _ [7, 1, 8, 9, 10, 11, 6, 12, 13, 14, 15, 16, 17, 18, 19, 20, 21, 22, 23, 24, 25, 26, 27, 28, 29, 30, 31, 32, 33, 34, 35, 36, 37, 38, 39, 90, 91, 92, 93, 94, 95, 96, 97, 98, 99, 100, 101, 102, 103, 104, 105, 106, 107, 108, 109, 110, 111, 112, 113, 114, 115, 116, 117, 118] (by decide +kernel) (by decide +kernel)
set_option maxRecDepth 20000 in
theorem gX8_wouldBreak_X8_heldByLess : GoodIn wsX8_wouldBreak (wsV RX8 211 RX8 yX8_heldByLess wsX8_heldByLess) := goodIn_app (goodIn_of _ (by decide +kernel)) ggX8_wouldBreak_X8_heldByLess
set_option maxRecDepth 20000 in
theorem ggX8_wouldBreak_X8_restHours : GoodIn wsX8_wouldBreak wsX8_restHours := goodIn_r _ [43, 44, 1, 90, 91, 92, 93, 94, 95, 96, 97, 98, 99, 100, 101, 102, 103, 104, 105, 106, 107, 108, 109, 110, 111, 112, 113, 114, 115, 116, 117, 118] (by decide +kernel) (by decide +kernel)
set_option maxRecDepth 20000 in
theorem gX8_wouldBreak_X8_restHours : GoodIn wsX8_wouldBreak (wsV RX8 184 RX8 yX8_restHours wsX8_restHours) := goodIn_app (goodIn_of _ (by decide +kernel)) ggX8_wouldBreak_X8_restHours
set_option maxRecDepth 20000 in
theorem ggX8_wouldBreak_X8_findRest : GoodIn wsX8_wouldBreak wsX8_findRest := goodIn_r _ [48, 1, 49, 50, 51, 52, 2, 53, 54, 6, 55, 56, 57, 58, 59, 60, 61, 62, 63, 29, 30, 31, 32, 33, 34, 35, 18, 19, 20, 21, 22, 23, 24, 64, 65, 66, 67, 14, 15, 16, 17, 68, 69, 70, 71, 72, 73, 74, 75, 76, 77, 78, 79, 80, 81, 82, 83, 84, 85, 90, 91, 92, 93, 94, 95, 96, 97, 98, 99, 100, 101, 102, 103, 104, 105, 106, 107, 108, 109, 110, 111, 112, 113, 114, 115, 116, 117, 118] (by decide +kernel) (by decide +kernel)
set_option maxRecDepth 20000 in
theorem gX8_wouldBreak_X8_findRest : GoodIn wsX8_wouldBreak (wsV RX8 179 RX8 yX8_findRest wsX8_findRest) := goodIn_app (goodIn_of _ (by decide +kernel)) ggX8_wouldBreak_X8_findRest
set_option maxRecDepth 20000 in
theorem ggX8_wouldBreak_X8_needsIn : GoodIn wsX8_wouldBreak wsX8_needsIn := goodIn_r _ [89, 29, 30, 31, 6, 32, 1, 33, 34, 35, 83, 84, 85, 90, 91, 92, 93, 94, 95, 96, 97, 98, 99, 100, 101, 102, 103, 104, 105, 106, 107, 108, 109, 110, 111, 112, 113, 114, 115, 116, 117, 118] (by decide +kernel) (by decide +kernel)
set_option maxRecDepth 20000 in
theorem gX8_wouldBreak_X8_needsIn : GoodIn wsX8_wouldBreak (wsV RX8 202 RX8 yX8_needsIn wsX8_needsIn) := goodIn_app (goodIn_of _ (by decide +kernel)) ggX8_wouldBreak_X8_needsIn
theorem dX8_wouldBreak_0 : decode cX8_wouldBreak 0 = .ok (.aload_n 0, 1) := by decide +kernel
theorem dX8_wouldBreak_1 : decode cX8_wouldBreak 1 = .ok (.iload_n 1, 1) := by decide +kernel
theorem dX8_wouldBreak_2 : decode cX8_wouldBreak 2 = .ok (.iload_n 2, 1) := by decide +kernel
theorem dX8_wouldBreak_3 : decode cX8_wouldBreak 3 = .ok (.invokevirtual 211, 3) := by decide +kernel
theorem dX8_wouldBreak_6 : decode cX8_wouldBreak 6 = .ok (.istore_n 3, 1) := by decide +kernel
theorem dX8_wouldBreak_7 : decode cX8_wouldBreak 7 = .ok (.aload_n 0, 1) := by decide +kernel
theorem dX8_wouldBreak_8 : decode cX8_wouldBreak 8 = .ok (.invokevirtual 184, 3) := by decide +kernel
theorem dX8_wouldBreak_11 : decode cX8_wouldBreak 11 = .ok (.aload_n 0, 1) := by decide +kernel
theorem dX8_wouldBreak_12 : decode cX8_wouldBreak 12 = .ok (.getfield 9, 3) := by decide +kernel
theorem dX8_wouldBreak_15 : decode cX8_wouldBreak 15 = .ok (.iconst 3, 1) := by decide +kernel
theorem dX8_wouldBreak_16 : decode cX8_wouldBreak 16 = .ok (.iaload, 1) := by decide +kernel
theorem dX8_wouldBreak_17 : decode cX8_wouldBreak 17 = .ok (.iand, 1) := by decide +kernel
theorem dX8_wouldBreak_18 : decode cX8_wouldBreak 18 = .ok (.istore 4, 2) := by decide +kernel
theorem dX8_wouldBreak_20 : decode cX8_wouldBreak 20 = .ok (.aload_n 0, 1) := by decide +kernel
theorem dX8_wouldBreak_21 : decode cX8_wouldBreak 21 = .ok (.invokevirtual 184, 3) := by decide +kernel
theorem dX8_wouldBreak_24 : decode cX8_wouldBreak 24 = .ok (.aload_n 0, 1) := by decide +kernel
theorem dX8_wouldBreak_25 : decode cX8_wouldBreak 25 = .ok (.getfield 9, 3) := by decide +kernel
theorem dX8_wouldBreak_28 : decode cX8_wouldBreak 28 = .ok (.iconst 3, 1) := by decide +kernel
theorem dX8_wouldBreak_29 : decode cX8_wouldBreak 29 = .ok (.iaload, 1) := by decide +kernel
theorem dX8_wouldBreak_30 : decode cX8_wouldBreak 30 = .ok (.iconst (-1), 1) := by decide +kernel
theorem dX8_wouldBreak_31 : decode cX8_wouldBreak 31 = .ok (.ixor, 1) := by decide +kernel
theorem dX8_wouldBreak_32 : decode cX8_wouldBreak 32 = .ok (.iand, 1) := by decide +kernel
theorem dX8_wouldBreak_33 : decode cX8_wouldBreak 33 = .ok (.istore 5, 2) := by decide +kernel
theorem dX8_wouldBreak_35 : decode cX8_wouldBreak 35 = .ok (.aload_n 0, 1) := by decide +kernel
theorem dX8_wouldBreak_36 : decode cX8_wouldBreak 36 = .ok (.iload_n 1, 1) := by decide +kernel
theorem dX8_wouldBreak_37 : decode cX8_wouldBreak 37 = .ok (.invokevirtual 179, 3) := by decide +kernel
theorem dX8_wouldBreak_40 : decode cX8_wouldBreak 40 = .ok (.aload_n 0, 1) := by decide +kernel
theorem dX8_wouldBreak_41 : decode cX8_wouldBreak 41 = .ok (.iload_n 1, 1) := by decide +kernel
theorem dX8_wouldBreak_42 : decode cX8_wouldBreak 42 = .ok (.iload_n 3, 1) := by decide +kernel
theorem dX8_wouldBreak_43 : decode cX8_wouldBreak 43 = .ok (.iload 5, 2) := by decide +kernel
theorem dX8_wouldBreak_45 : decode cX8_wouldBreak 45 = .ok (.ior, 1) := by decide +kernel
theorem dX8_wouldBreak_46 : decode cX8_wouldBreak 46 = .ok (.invokevirtual 202, 3) := by decide +kernel
theorem dX8_wouldBreak_49 : decode cX8_wouldBreak 49 = .ok (.aload_n 0, 1) := by decide +kernel
theorem dX8_wouldBreak_50 : decode cX8_wouldBreak 50 = .ok (.getfield 176, 3) := by decide +kernel
theorem dX8_wouldBreak_53 : decode cX8_wouldBreak 53 = .ok (.if_icmp .le 7, 3) := by decide +kernel
theorem dX8_wouldBreak_56 : decode cX8_wouldBreak 56 = .ok (.iconst 1, 1) := by decide +kernel
theorem dX8_wouldBreak_57 : decode cX8_wouldBreak 57 = .ok (.goto 4, 3) := by decide +kernel
theorem dX8_wouldBreak_60 : decode cX8_wouldBreak 60 = .ok (.iconst 0, 1) := by decide +kernel
theorem dX8_wouldBreak_61 : decode cX8_wouldBreak 61 = .ok (.istore 6, 2) := by decide +kernel
theorem dX8_wouldBreak_63 : decode cX8_wouldBreak 63 = .ok (.aload_n 0, 1) := by decide +kernel
theorem dX8_wouldBreak_64 : decode cX8_wouldBreak 64 = .ok (.iload_n 2, 1) := by decide +kernel
theorem dX8_wouldBreak_65 : decode cX8_wouldBreak 65 = .ok (.invokevirtual 179, 3) := by decide +kernel
theorem dX8_wouldBreak_68 : decode cX8_wouldBreak 68 = .ok (.iload 6, 2) := by decide +kernel
theorem dX8_wouldBreak_70 : decode cX8_wouldBreak 70 = .ok (.ifCond .eq 28, 3) := by decide +kernel
theorem dX8_wouldBreak_73 : decode cX8_wouldBreak 73 = .ok (.aload_n 0, 1) := by decide +kernel
theorem dX8_wouldBreak_74 : decode cX8_wouldBreak 74 = .ok (.iload_n 2, 1) := by decide +kernel
theorem dX8_wouldBreak_75 : decode cX8_wouldBreak 75 = .ok (.iload 4, 2) := by decide +kernel
theorem dX8_wouldBreak_77 : decode cX8_wouldBreak 77 = .ok (.iload_n 3, 1) := by decide +kernel
theorem dX8_wouldBreak_78 : decode cX8_wouldBreak 78 = .ok (.iconst (-1), 1) := by decide +kernel
theorem dX8_wouldBreak_79 : decode cX8_wouldBreak 79 = .ok (.ixor, 1) := by decide +kernel
theorem dX8_wouldBreak_80 : decode cX8_wouldBreak 80 = .ok (.iand, 1) := by decide +kernel
theorem dX8_wouldBreak_81 : decode cX8_wouldBreak 81 = .ok (.iload 5, 2) := by decide +kernel
theorem dX8_wouldBreak_83 : decode cX8_wouldBreak 83 = .ok (.ior, 1) := by decide +kernel
theorem dX8_wouldBreak_84 : decode cX8_wouldBreak 84 = .ok (.invokevirtual 202, 3) := by decide +kernel
theorem dX8_wouldBreak_87 : decode cX8_wouldBreak 87 = .ok (.aload_n 0, 1) := by decide +kernel
theorem dX8_wouldBreak_88 : decode cX8_wouldBreak 88 = .ok (.getfield 176, 3) := by decide +kernel
theorem dX8_wouldBreak_91 : decode cX8_wouldBreak 91 = .ok (.if_icmp .le 7, 3) := by decide +kernel
theorem dX8_wouldBreak_94 : decode cX8_wouldBreak 94 = .ok (.iconst 1, 1) := by decide +kernel
theorem dX8_wouldBreak_95 : decode cX8_wouldBreak 95 = .ok (.goto 4, 3) := by decide +kernel
theorem dX8_wouldBreak_98 : decode cX8_wouldBreak 98 = .ok (.iconst 0, 1) := by decide +kernel
theorem dX8_wouldBreak_99 : decode cX8_wouldBreak 99 = .ok (.ireturn, 1) := by decide +kernel
set_option maxRecDepth 20000 in
theorem ggX8_broken_X8_personIs : GoodIn wsX8_broken wsX8_personIs := goodIn_r _ [7, 1, 8, 9, 6, 10, 101, 102, 103, 104, 105, 106, 107, 108, 109, 110, 111, 112, 113, 114, 115, 116, 117, 118, 119, 120, 121, 122, 123, 124, 125, 126, 127, 128, 129] (by decide +kernel) (by decide +kernel)
set_option maxRecDepth 20000 in
theorem gX8_broken_X8_personIs : GoodIn wsX8_broken (wsV RX8 102 RX8 yX8_personIs wsX8_personIs) := goodIn_app (goodIn_of _ (by decide +kernel)) ggX8_broken_X8_personIs
set_option maxRecDepth 20000 in
theorem ggX8_broken_X8_wouldBreak : GoodIn wsX8_broken wsX8_wouldBreak := goodIn_r _ [14, 1, 15, 16, 17, 18, 6, 19, 20, 21, 22, 23, 24, 25, 26, 27, 28, 29, 30, 31, 32, 33, 34, 35, 36, 37, 38, 39, 40, 3, 4, 5, 7, 8, 9, 10, 41, 42, 43, 44, 45, 46, 47, 48, 49, 50, 51, 52, 53, 54, 55, 56, 57, 58, 59, 60, 61, 62, 63, 64, 65, 66, 67, 68, 69, 70, 71, 72, 73, 74, 75, 76, 77, 78, 79, 80, 81, 82, 83, 84, 85, 86, 87, 88, 89, 90, 91, 92, 93, 94, 101, 102, 103, 104, 105, 106, 107, 108, 109, 110, 111, 112, 113, 114, 115, 116, 117, 118, 119, 120, 121, 122, 123, 124, 125, 126, 127, 128, 129] (by decide +kernel) (by decide +kernel)
set_option maxRecDepth 20000 in
theorem gX8_broken_X8_wouldBreak : GoodIn wsX8_broken (wsV RX8 226 RX8 yX8_wouldBreak wsX8_wouldBreak) := goodIn_app (goodIn_of _ (by decide +kernel)) ggX8_broken_X8_wouldBreak
set_option maxRecDepth 20000 in
theorem ggX8_broken_X8_finding : GoodIn wsX8_broken wsX8_finding := goodIn_r _ [98, 99, 100, 101, 102, 103, 104, 105, 106, 107, 108, 109, 110, 111, 112, 113, 114, 115, 116, 117, 118, 119, 120, 121, 122, 123, 124, 125, 126, 127, 128, 129] (by decide +kernel) (by decide +kernel)
set_option maxRecDepth 20000 in
theorem gX8_broken_X8_finding : GoodIn wsX8_broken (wsV RX8 90 RX8 yX8_finding wsX8_finding) := goodIn_app (goodIn_of _ (by decide +kernel)) ggX8_broken_X8_finding
theorem dX8_broken_0 : decode cX8_broken 0 = .ok (.iconst (-1), 1) := by decide +kernel
theorem dX8_broken_1 : decode cX8_broken 1 = .ok (.istore_n 1, 1) := by decide +kernel
theorem dX8_broken_2 : decode cX8_broken 2 = .ok (.iconst 0, 1) := by decide +kernel
theorem dX8_broken_3 : decode cX8_broken 3 = .ok (.istore_n 2, 1) := by decide +kernel
theorem dX8_broken_4 : decode cX8_broken 4 = .ok (.iload_n 2, 1) := by decide +kernel
theorem dX8_broken_5 : decode cX8_broken 5 = .ok (.aload_n 0, 1) := by decide +kernel
theorem dX8_broken_6 : decode cX8_broken 6 = .ok (.getfield 9, 3) := by decide +kernel
theorem dX8_broken_9 : decode cX8_broken 9 = .ok (.iconst 4, 1) := by decide +kernel
theorem dX8_broken_10 : decode cX8_broken 10 = .ok (.iaload, 1) := by decide +kernel
theorem dX8_broken_11 : decode cX8_broken 11 = .ok (.if_icmp .ge 63, 3) := by decide +kernel
theorem dX8_broken_14 : decode cX8_broken 14 = .ok (.iload_n 2, 1) := by decide +kernel
theorem dX8_broken_15 : decode cX8_broken 15 = .ok (.iconst 1, 1) := by decide +kernel
theorem dX8_broken_16 : decode cX8_broken 16 = .ok (.iadd, 1) := by decide +kernel
theorem dX8_broken_17 : decode cX8_broken 17 = .ok (.istore_n 3, 1) := by decide +kernel
theorem dX8_broken_18 : decode cX8_broken 18 = .ok (.iload_n 3, 1) := by decide +kernel
theorem dX8_broken_19 : decode cX8_broken 19 = .ok (.aload_n 0, 1) := by decide +kernel
theorem dX8_broken_20 : decode cX8_broken 20 = .ok (.getfield 9, 3) := by decide +kernel
theorem dX8_broken_23 : decode cX8_broken 23 = .ok (.iconst 4, 1) := by decide +kernel
theorem dX8_broken_24 : decode cX8_broken 24 = .ok (.iaload, 1) := by decide +kernel
theorem dX8_broken_25 : decode cX8_broken 25 = .ok (.if_icmp .ge 43, 3) := by decide +kernel
theorem dX8_broken_28 : decode cX8_broken 28 = .ok (.iload_n 1, 1) := by decide +kernel
theorem dX8_broken_29 : decode cX8_broken 29 = .ok (.ifCond .ge 39, 3) := by decide +kernel
theorem dX8_broken_32 : decode cX8_broken 32 = .ok (.aload_n 0, 1) := by decide +kernel
theorem dX8_broken_33 : decode cX8_broken 33 = .ok (.iload_n 2, 1) := by decide +kernel
theorem dX8_broken_34 : decode cX8_broken 34 = .ok (.iconst 4, 1) := by decide +kernel
theorem dX8_broken_35 : decode cX8_broken 35 = .ok (.invokevirtual 102, 3) := by decide +kernel
theorem dX8_broken_38 : decode cX8_broken 38 = .ok (.iload_n 3, 1) := by decide +kernel
theorem dX8_broken_39 : decode cX8_broken 39 = .ok (.if_icmp .eq 21, 3) := by decide +kernel
theorem dX8_broken_42 : decode cX8_broken 42 = .ok (.aload_n 0, 1) := by decide +kernel
theorem dX8_broken_43 : decode cX8_broken 43 = .ok (.iload_n 2, 1) := by decide +kernel
theorem dX8_broken_44 : decode cX8_broken 44 = .ok (.iload_n 3, 1) := by decide +kernel
theorem dX8_broken_45 : decode cX8_broken 45 = .ok (.invokevirtual 226, 3) := by decide +kernel
theorem dX8_broken_48 : decode cX8_broken 48 = .ok (.ifCond .eq 12, 3) := by decide +kernel
theorem dX8_broken_51 : decode cX8_broken 51 = .ok (.bipush 10, 2) := by decide +kernel
theorem dX8_broken_53 : decode cX8_broken 53 = .ok (.iload_n 2, 1) := by decide +kernel
theorem dX8_broken_54 : decode cX8_broken 54 = .ok (.imul, 1) := by decide +kernel
theorem dX8_broken_55 : decode cX8_broken 55 = .ok (.iload_n 3, 1) := by decide +kernel
theorem dX8_broken_56 : decode cX8_broken 56 = .ok (.iadd, 1) := by decide +kernel
theorem dX8_broken_57 : decode cX8_broken 57 = .ok (.goto 4, 3) := by decide +kernel
theorem dX8_broken_60 : decode cX8_broken 60 = .ok (.iconst (-1), 1) := by decide +kernel
theorem dX8_broken_61 : decode cX8_broken 61 = .ok (.istore_n 1, 1) := by decide +kernel
theorem dX8_broken_62 : decode cX8_broken 62 = .ok (.iinc 3 1, 3) := by decide +kernel
theorem dX8_broken_65 : decode cX8_broken 65 = .ok (.goto (-47), 3) := by decide +kernel
theorem dX8_broken_68 : decode cX8_broken 68 = .ok (.iinc 2 1, 3) := by decide +kernel
theorem dX8_broken_71 : decode cX8_broken 71 = .ok (.goto (-67), 3) := by decide +kernel
theorem dX8_broken_74 : decode cX8_broken 74 = .ok (.iload_n 1, 1) := by decide +kernel
theorem dX8_broken_75 : decode cX8_broken 75 = .ok (.ifCond .ge 12, 3) := by decide +kernel
theorem dX8_broken_78 : decode cX8_broken 78 = .ok (.aload_n 0, 1) := by decide +kernel
theorem dX8_broken_79 : decode cX8_broken 79 = .ok (.ldc 152, 2) := by decide +kernel
theorem dX8_broken_81 : decode cX8_broken 81 = .ok (.invokevirtual 90, 3) := by decide +kernel
theorem dX8_broken_84 : decode cX8_broken 84 = .ok (.goto 4, 3) := by decide +kernel
theorem dX8_broken_87 : decode cX8_broken 87 = .ok (.iload_n 1, 1) := by decide +kernel
theorem dX8_broken_88 : decode cX8_broken 88 = .ok (.ireturn, 1) := by decide +kernel
set_option maxRecDepth 20000 in
theorem ggX8_isSeen_X8_copyRow : GoodIn wsX8_isSeen wsX8_copyRow := goodIn_r _ [8] (by decide +kernel) (by decide +kernel)
set_option maxRecDepth 20000 in
theorem gX8_isSeen_X8_copyRow : GoodIn wsX8_isSeen (va_wsS RX8 74 yX8_copyRow wsX8_copyRow) := goodIn_app (goodIn_of _ (by decide +kernel)) ggX8_isSeen_X8_copyRow
set_option maxRecDepth 20000 in
theorem ggX8_isSeen_X8_isOver : GoodIn wsX8_isSeen wsX8_isOver := goodIn_r _ [12, 1, 54, 55, 56, 57, 58, 59, 60, 61, 62, 63, 64, 65, 66, 67, 68, 69, 70, 71, 72, 73, 74, 75, 76, 77, 78, 79, 80, 81, 82] (by decide +kernel) (by decide +kernel)
set_option maxRecDepth 20000 in
theorem gX8_isSeen_X8_isOver : GoodIn wsX8_isSeen (wsV RX8 133 RX8 yX8_isOver wsX8_isOver) := goodIn_app (goodIn_of _ (by decide +kernel)) ggX8_isSeen_X8_isOver
set_option maxRecDepth 20000 in
theorem ggX8_isSeen_X8_whoHave : GoodIn wsX8_isSeen wsX8_whoHave := goodIn_r _ [16, 1, 17, 18, 19, 7, 20, 21, 22, 23, 24, 25, 26, 27, 28, 29, 30, 31, 32, 33, 34, 35, 36, 37, 38, 39, 40, 41, 42, 43, 44, 45, 46, 47, 48, 49, 54, 55, 56, 57, 58, 59, 60, 61, 62, 63, 64, 65, 66, 67, 68, 69, 70, 71, 72, 73, 74, 75, 76, 77, 78, 79, 80, 81, 82] (by decide +kernel) (by decide +kernel)
set_option maxRecDepth 20000 in
theorem gX8_isSeen_X8_whoHave : GoodIn wsX8_isSeen (wsV RX8 153 RX8 yX8_whoHave wsX8_whoHave) := goodIn_app (goodIn_of _ (by decide +kernel)) ggX8_isSeen_X8_whoHave
set_option maxRecDepth 20000 in
theorem ggX8_isSeen_X8_hour : GoodIn wsX8_isSeen wsX8_hour := goodIn_r _ [53, 1, 43, 44, 41, 45, 39, 40, 42, 13, 14, 15, 7, 16, 17, 18, 19, 20, 21, 22, 23, 24, 25, 26, 27, 28, 29, 30, 31, 32, 33, 34, 35, 36, 37, 38, 46, 47, 48, 49, 54, 55, 56, 57, 58, 59, 60, 61, 62, 63, 64, 65, 66, 67, 68, 69, 70, 71, 72, 73, 74, 75, 76, 77, 78, 79, 80, 81, 82] (by decide +kernel) (by decide +kernel)
set_option maxRecDepth 20000 in
theorem gX8_isSeen_X8_hour : GoodIn wsX8_isSeen (wsV RX8 156 RX8 yX8_hour wsX8_hour) := goodIn_app (goodIn_of _ (by decide +kernel)) ggX8_isSeen_X8_hour
theorem dX8_isSeen_0 : decode cX8_isSeen 0 = .ok (.aload_n 0, 1) := by decide +kernel
theorem dX8_isSeen_1 : decode cX8_isSeen 1 = .ok (.getfield 9, 3) := by decide +kernel
theorem dX8_isSeen_4 : decode cX8_isSeen 4 = .ok (.aload_n 0, 1) := by decide +kernel
theorem dX8_isSeen_5 : decode cX8_isSeen 5 = .ok (.getfield 16, 3) := by decide +kernel
theorem dX8_isSeen_8 : decode cX8_isSeen 8 = .ok (.invokestatic 74, 3) := by decide +kernel
theorem dX8_isSeen_11 : decode cX8_isSeen 11 = .ok (.iconst 1, 1) := by decide +kernel
theorem dX8_isSeen_12 : decode cX8_isSeen 12 = .ok (.istore_n 2, 1) := by decide +kernel
theorem dX8_isSeen_13 : decode cX8_isSeen 13 = .ok (.iconst 0, 1) := by decide +kernel
theorem dX8_isSeen_14 : decode cX8_isSeen 14 = .ok (.istore_n 3, 1) := by decide +kernel
theorem dX8_isSeen_15 : decode cX8_isSeen 15 = .ok (.iload_n 3, 1) := by decide +kernel
theorem dX8_isSeen_16 : decode cX8_isSeen 16 = .ok (.aload_n 0, 1) := by decide +kernel
theorem dX8_isSeen_17 : decode cX8_isSeen 17 = .ok (.getfield 63, 3) := by decide +kernel
theorem dX8_isSeen_20 : decode cX8_isSeen 20 = .ok (.iload_n 1, 1) := by decide +kernel
theorem dX8_isSeen_21 : decode cX8_isSeen 21 = .ok (.iaload, 1) := by decide +kernel
theorem dX8_isSeen_22 : decode cX8_isSeen 22 = .ok (.if_icmp .ge 54, 3) := by decide +kernel
theorem dX8_isSeen_25 : decode cX8_isSeen 25 = .ok (.iload_n 2, 1) := by decide +kernel
theorem dX8_isSeen_26 : decode cX8_isSeen 26 = .ok (.ifCond .eq 50, 3) := by decide +kernel
theorem dX8_isSeen_29 : decode cX8_isSeen 29 = .ok (.aload_n 0, 1) := by decide +kernel
theorem dX8_isSeen_30 : decode cX8_isSeen 30 = .ok (.invokevirtual 133, 3) := by decide +kernel
theorem dX8_isSeen_33 : decode cX8_isSeen 33 = .ok (.ifCond .ne 43, 3) := by decide +kernel
theorem dX8_isSeen_36 : decode cX8_isSeen 36 = .ok (.aload_n 0, 1) := by decide +kernel
theorem dX8_isSeen_37 : decode cX8_isSeen 37 = .ok (.getfield 66, 3) := by decide +kernel
theorem dX8_isSeen_40 : decode cX8_isSeen 40 = .ok (.bipush 40, 2) := by decide +kernel
theorem dX8_isSeen_42 : decode cX8_isSeen 42 = .ok (.iload_n 1, 1) := by decide +kernel
theorem dX8_isSeen_43 : decode cX8_isSeen 43 = .ok (.imul, 1) := by decide +kernel
theorem dX8_isSeen_44 : decode cX8_isSeen 44 = .ok (.iload_n 3, 1) := by decide +kernel
theorem dX8_isSeen_45 : decode cX8_isSeen 45 = .ok (.iadd, 1) := by decide +kernel
theorem dX8_isSeen_46 : decode cX8_isSeen 46 = .ok (.iaload, 1) := by decide +kernel
theorem dX8_isSeen_47 : decode cX8_isSeen 47 = .ok (.aload_n 0, 1) := by decide +kernel
theorem dX8_isSeen_48 : decode cX8_isSeen 48 = .ok (.aload_n 0, 1) := by decide +kernel
theorem dX8_isSeen_49 : decode cX8_isSeen 49 = .ok (.getfield 9, 3) := by decide +kernel
theorem dX8_isSeen_52 : decode cX8_isSeen 52 = .ok (.iconst 0, 1) := by decide +kernel
theorem dX8_isSeen_53 : decode cX8_isSeen 53 = .ok (.iaload, 1) := by decide +kernel
theorem dX8_isSeen_54 : decode cX8_isSeen 54 = .ok (.invokevirtual 153, 3) := by decide +kernel
theorem dX8_isSeen_57 : decode cX8_isSeen 57 = .ok (.if_icmp .ne 7, 3) := by decide +kernel
theorem dX8_isSeen_60 : decode cX8_isSeen 60 = .ok (.iconst 1, 1) := by decide +kernel
theorem dX8_isSeen_61 : decode cX8_isSeen 61 = .ok (.goto 4, 3) := by decide +kernel
theorem dX8_isSeen_64 : decode cX8_isSeen 64 = .ok (.iconst 0, 1) := by decide +kernel
theorem dX8_isSeen_65 : decode cX8_isSeen 65 = .ok (.istore_n 2, 1) := by decide +kernel
theorem dX8_isSeen_66 : decode cX8_isSeen 66 = .ok (.aload_n 0, 1) := by decide +kernel
theorem dX8_isSeen_67 : decode cX8_isSeen 67 = .ok (.invokevirtual 156, 3) := by decide +kernel
theorem dX8_isSeen_70 : decode cX8_isSeen 70 = .ok (.iinc 3 1, 3) := by decide +kernel
theorem dX8_isSeen_73 : decode cX8_isSeen 73 = .ok (.goto (-58), 3) := by decide +kernel
theorem dX8_isSeen_76 : decode cX8_isSeen 76 = .ok (.aload_n 0, 1) := by decide +kernel
theorem dX8_isSeen_77 : decode cX8_isSeen 77 = .ok (.getfield 16, 3) := by decide +kernel
theorem dX8_isSeen_80 : decode cX8_isSeen 80 = .ok (.aload_n 0, 1) := by decide +kernel
theorem dX8_isSeen_81 : decode cX8_isSeen 81 = .ok (.getfield 9, 3) := by decide +kernel
theorem dX8_isSeen_84 : decode cX8_isSeen 84 = .ok (.invokestatic 74, 3) := by decide +kernel
theorem dX8_isSeen_87 : decode cX8_isSeen 87 = .ok (.iload_n 2, 1) := by decide +kernel
theorem dX8_isSeen_88 : decode cX8_isSeen 88 = .ok (.ireturn, 1) := by decide +kernel
set_option maxRecDepth 20000 in
theorem ggX8_seenWays_X8_isSeen : GoodIn wsX8_seenWays wsX8_isSeen := goodIn_r _ [7, 2, 8, 9, 10, 11, 12, 6, 13, 14, 15, 16, 17, 18, 19, 20, 21, 22, 23, 24, 25, 26, 27, 28, 29, 30, 31, 32, 33, 34, 35, 36, 37, 38, 39, 40, 41, 42, 43, 44, 45, 46, 47, 48, 49, 50, 51, 52, 53, 54, 55, 56, 57, 58, 72, 73, 74, 75, 76, 77, 78, 79, 80, 81, 82, 83, 84, 85, 86, 87, 88, 89, 90, 91, 92, 93, 94, 95, 96, 97, 98, 99, 100] (by decide +kernel) (by decide +kernel)
set_option maxRecDepth 20000 in
theorem gX8_seenWays_X8_isSeen : GoodIn wsX8_seenWays (wsV RX8 229 RX8 yX8_isSeen wsX8_isSeen) := goodIn_app (goodIn_of _ (by decide +kernel)) ggX8_seenWays_X8_isSeen
set_option maxRecDepth 20000 in
theorem ggX8_seenWays_X8_personIs : GoodIn wsX8_seenWays wsX8_personIs := goodIn_r _ [29, 2, 30, 31, 6, 32, 72, 73, 74, 75, 76, 77, 78, 79, 80, 81, 82, 83, 84, 85, 86, 87, 88, 89, 90, 91, 92, 93, 94, 95, 96, 97, 98, 99, 100] (by decide +kernel) (by decide +kernel)
set_option maxRecDepth 20000 in
theorem gX8_seenWays_X8_personIs : GoodIn wsX8_seenWays (wsV RX8 102 RX8 yX8_personIs wsX8_personIs) := goodIn_app (goodIn_of _ (by decide +kernel)) ggX8_seenWays_X8_personIs
set_option maxRecDepth 20000 in
theorem ggX8_seenWays_X8_lowest : GoodIn wsX8_seenWays wsX8_lowest := goodIn_r _ [61, 37, 38, 6, 39] (by decide +kernel) (by decide +kernel)
set_option maxRecDepth 20000 in
theorem gX8_seenWays_X8_lowest : GoodIn wsX8_seenWays (va_wsS RX8 214 yX8_lowest wsX8_lowest) := goodIn_app (goodIn_of _ (by decide +kernel)) ggX8_seenWays_X8_lowest
set_option maxRecDepth 20000 in
theorem ggX8_seenWays_X8_mayBe : GoodIn wsX8_seenWays wsX8_mayBe := goodIn_r _ [65, 37, 38, 6, 39, 59, 60, 61, 66, 67, 68] (by decide +kernel) (by decide +kernel)
set_option maxRecDepth 20000 in
theorem gX8_seenWays_X8_mayBe : GoodIn wsX8_seenWays (wsV RX8 217 RX8 yX8_mayBe wsX8_mayBe) := goodIn_app (goodIn_of _ (by decide +kernel)) ggX8_seenWays_X8_mayBe
set_option maxRecDepth 20000 in
theorem ggX8_seenWays_X8_at : GoodIn wsX8_seenWays wsX8_at := goodIn_r _ [32] (by decide +kernel) (by decide +kernel)
set_option maxRecDepth 20000 in
theorem gX8_seenWays_X8_at : GoodIn wsX8_seenWays (va_wsS RX8 82 yX8_at wsX8_at) := goodIn_app (goodIn_of _ (by decide +kernel)) ggX8_seenWays_X8_at
set_option maxRecDepth 20000 in
theorem ggX8_seenWays_X8_seenWays : GoodIn wsX8_seenWays wsX8_seenWays := goodIn_r _ [0, 1, 2, 3, 4, 5, 6, 7, 8, 9, 10, 11, 12, 13, 14, 15, 16, 17, 18, 19, 20, 21, 22, 23, 24, 25, 26, 27, 28, 29, 30, 31, 32, 33, 34, 35, 36, 37, 38, 39, 40, 41, 42, 43, 44, 45, 46, 47, 48, 49, 50, 51, 52, 53, 54, 55, 56, 57, 58, 59, 60, 61, 62, 63, 64, 65, 66, 67, 68, 69, 70, 71, 72, 73, 74, 75, 76, 77, 78, 79, 80, 81, 82, 83, 84, 85, 86, 87, 88, 89, 90, 91, 92, 93, 94, 95, 96, 97, 98, 99, 100] (by decide +kernel) (by decide +kernel)
set_option maxRecDepth 20000 in
theorem gX8_seenWays_X8_seenWays : GoodIn wsX8_seenWays (wsV RX8 235 RX8 yX8_seenWays wsX8_seenWays) := goodIn_app (goodIn_of _ (by decide +kernel)) ggX8_seenWays_X8_seenWays
theorem dX8_seenWays_0 : decode cX8_seenWays 0 = .ok (.iload_n 2, 1) := by decide +kernel
theorem dX8_seenWays_1 : decode cX8_seenWays 1 = .ok (.ifCond .ne 72, 3) := by decide +kernel
theorem dX8_seenWays_4 : decode cX8_seenWays 4 = .ok (.aload_n 0, 1) := by decide +kernel
theorem dX8_seenWays_5 : decode cX8_seenWays 5 = .ok (.iload_n 1, 1) := by decide +kernel
theorem dX8_seenWays_6 : decode cX8_seenWays 6 = .ok (.invokevirtual 229, 3) := by decide +kernel
theorem dX8_seenWays_9 : decode cX8_seenWays 9 = .ok (.istore 4, 2) := by decide +kernel
theorem dX8_seenWays_11 : decode cX8_seenWays 11 = .ok (.iload_n 3, 1) := by decide +kernel
theorem dX8_seenWays_12 : decode cX8_seenWays 12 = .ok (.ifCond .ge 7, 3) := by decide +kernel
theorem dX8_seenWays_15 : decode cX8_seenWays 15 = .ok (.iconst (-1), 1) := by decide +kernel
theorem dX8_seenWays_16 : decode cX8_seenWays 16 = .ok (.goto 9, 3) := by decide +kernel
theorem dX8_seenWays_19 : decode cX8_seenWays 19 = .ok (.aload_n 0, 1) := by decide +kernel
theorem dX8_seenWays_20 : decode cX8_seenWays 20 = .ok (.iload_n 3, 1) := by decide +kernel
theorem dX8_seenWays_21 : decode cX8_seenWays 21 = .ok (.iconst 4, 1) := by decide +kernel
theorem dX8_seenWays_22 : decode cX8_seenWays 22 = .ok (.invokevirtual 102, 3) := by decide +kernel
theorem dX8_seenWays_25 : decode cX8_seenWays 25 = .ok (.istore 5, 2) := by decide +kernel
theorem dX8_seenWays_27 : decode cX8_seenWays 27 = .ok (.aload_n 0, 1) := by decide +kernel
theorem dX8_seenWays_28 : decode cX8_seenWays 28 = .ok (.dup, 1) := by decide +kernel
theorem dX8_seenWays_29 : decode cX8_seenWays 29 = .ok (.getfield 232, 3) := by decide +kernel
theorem dX8_seenWays_32 : decode cX8_seenWays 32 = .ok (.iload 4, 2) := by decide +kernel
theorem dX8_seenWays_34 : decode cX8_seenWays 34 = .ok (.ifCond .eq 23, 3) := by decide +kernel
theorem dX8_seenWays_37 : decode cX8_seenWays 37 = .ok (.iload_n 3, 1) := by decide +kernel
theorem dX8_seenWays_38 : decode cX8_seenWays 38 = .ok (.ifCond .lt 19, 3) := by decide +kernel
theorem dX8_seenWays_41 : decode cX8_seenWays 41 = .ok (.iconst 1, 1) := by decide +kernel
theorem dX8_seenWays_42 : decode cX8_seenWays 42 = .ok (.iload 5, 2) := by decide +kernel
theorem dX8_seenWays_44 : decode cX8_seenWays 44 = .ok (.ifCond .ge 7, 3) := by decide +kernel
theorem dX8_seenWays_47 : decode cX8_seenWays 47 = .ok (.iload_n 3, 1) := by decide +kernel
theorem dX8_seenWays_48 : decode cX8_seenWays 48 = .ok (.goto 5, 3) := by decide +kernel
theorem dX8_seenWays_51 : decode cX8_seenWays 51 = .ok (.iload 5, 2) := by decide +kernel
theorem dX8_seenWays_53 : decode cX8_seenWays 53 = .ok (.ishl, 1) := by decide +kernel
theorem dX8_seenWays_54 : decode cX8_seenWays 54 = .ok (.goto 4, 3) := by decide +kernel
theorem dX8_seenWays_57 : decode cX8_seenWays 57 = .ok (.iconst 0, 1) := by decide +kernel
theorem dX8_seenWays_58 : decode cX8_seenWays 58 = .ok (.ior, 1) := by decide +kernel
theorem dX8_seenWays_59 : decode cX8_seenWays 59 = .ok (.putfield 232, 3) := by decide +kernel
theorem dX8_seenWays_62 : decode cX8_seenWays 62 = .ok (.iload 4, 2) := by decide +kernel
theorem dX8_seenWays_64 : decode cX8_seenWays 64 = .ok (.ifCond .eq 7, 3) := by decide +kernel
theorem dX8_seenWays_67 : decode cX8_seenWays 67 = .ok (.iconst 1, 1) := by decide +kernel
theorem dX8_seenWays_68 : decode cX8_seenWays 68 = .ok (.goto 4, 3) := by decide +kernel
theorem dX8_seenWays_71 : decode cX8_seenWays 71 = .ok (.iconst 0, 1) := by decide +kernel
theorem dX8_seenWays_72 : decode cX8_seenWays 72 = .ok (.ireturn, 1) := by decide +kernel
theorem dX8_seenWays_73 : decode cX8_seenWays 73 = .ok (.iload_n 2, 1) := by decide +kernel
theorem dX8_seenWays_74 : decode cX8_seenWays 74 = .ok (.invokestatic 214, 3) := by decide +kernel
theorem dX8_seenWays_77 : decode cX8_seenWays 77 = .ok (.istore 4, 2) := by decide +kernel
theorem dX8_seenWays_79 : decode cX8_seenWays 79 = .ok (.iconst 0, 1) := by decide +kernel
theorem dX8_seenWays_80 : decode cX8_seenWays 80 = .ok (.istore 5, 2) := by decide +kernel
theorem dX8_seenWays_82 : decode cX8_seenWays 82 = .ok (.iconst 0, 1) := by decide +kernel
theorem dX8_seenWays_83 : decode cX8_seenWays 83 = .ok (.istore 6, 2) := by decide +kernel
theorem dX8_seenWays_85 : decode cX8_seenWays 85 = .ok (.iload 6, 2) := by decide +kernel
theorem dX8_seenWays_87 : decode cX8_seenWays 87 = .ok (.aload_n 0, 1) := by decide +kernel
theorem dX8_seenWays_88 : decode cX8_seenWays 88 = .ok (.getfield 9, 3) := by decide +kernel
theorem dX8_seenWays_91 : decode cX8_seenWays 91 = .ok (.iconst 4, 1) := by decide +kernel
theorem dX8_seenWays_92 : decode cX8_seenWays 92 = .ok (.iaload, 1) := by decide +kernel
theorem dX8_seenWays_93 : decode cX8_seenWays 93 = .ok (.if_icmp .ge 93, 3) := by decide +kernel
theorem dX8_seenWays_96 : decode cX8_seenWays 96 = .ok (.aload_n 0, 1) := by decide +kernel
theorem dX8_seenWays_97 : decode cX8_seenWays 97 = .ok (.iload_n 2, 1) := by decide +kernel
theorem dX8_seenWays_98 : decode cX8_seenWays 98 = .ok (.iload 6, 2) := by decide +kernel
theorem dX8_seenWays_100 : decode cX8_seenWays 100 = .ok (.invokevirtual 217, 3) := by decide +kernel
theorem dX8_seenWays_103 : decode cX8_seenWays 103 = .ok (.ifCond .eq 77, 3) := by decide +kernel
theorem dX8_seenWays_106 : decode cX8_seenWays 106 = .ok (.aload_n 0, 1) := by decide +kernel
theorem dX8_seenWays_107 : decode cX8_seenWays 107 = .ok (.getfield 9, 3) := by decide +kernel
theorem dX8_seenWays_110 : decode cX8_seenWays 110 = .ok (.iload 4, 2) := by decide +kernel
theorem dX8_seenWays_112 : decode cX8_seenWays 112 = .ok (.iconst 4, 1) := by decide +kernel
theorem dX8_seenWays_113 : decode cX8_seenWays 113 = .ok (.invokestatic 82, 3) := by decide +kernel
theorem dX8_seenWays_116 : decode cX8_seenWays 116 = .ok (.iload 6, 2) := by decide +kernel
theorem dX8_seenWays_118 : decode cX8_seenWays 118 = .ok (.iload 4, 2) := by decide +kernel
theorem dX8_seenWays_120 : decode cX8_seenWays 120 = .ok (.if_icmp .ne 7, 3) := by decide +kernel
theorem dX8_seenWays_123 : decode cX8_seenWays 123 = .ok (.iconst (-1), 1) := by decide +kernel
theorem dX8_seenWays_124 : decode cX8_seenWays 124 = .ok (.goto 5, 3) := by decide +kernel
theorem dX8_seenWays_127 : decode cX8_seenWays 127 = .ok (.iload 6, 2) := by decide +kernel
theorem dX8_seenWays_129 : decode cX8_seenWays 129 = .ok (.iastore, 1) := by decide +kernel
theorem dX8_seenWays_130 : decode cX8_seenWays 130 = .ok (.aload_n 0, 1) := by decide +kernel
theorem dX8_seenWays_131 : decode cX8_seenWays 131 = .ok (.getfield 9, 3) := by decide +kernel
theorem dX8_seenWays_134 : decode cX8_seenWays 134 = .ok (.iload 6, 2) := by decide +kernel
theorem dX8_seenWays_136 : decode cX8_seenWays 136 = .ok (.iconst 4, 1) := by decide +kernel
theorem dX8_seenWays_137 : decode cX8_seenWays 137 = .ok (.invokestatic 82, 3) := by decide +kernel
theorem dX8_seenWays_140 : decode cX8_seenWays 140 = .ok (.iload 6, 2) := by decide +kernel
theorem dX8_seenWays_142 : decode cX8_seenWays 142 = .ok (.iload 4, 2) := by decide +kernel
theorem dX8_seenWays_144 : decode cX8_seenWays 144 = .ok (.if_icmp .ne 7, 3) := by decide +kernel
theorem dX8_seenWays_147 : decode cX8_seenWays 147 = .ok (.iconst (-1), 1) := by decide +kernel
theorem dX8_seenWays_148 : decode cX8_seenWays 148 = .ok (.goto 5, 3) := by decide +kernel
theorem dX8_seenWays_151 : decode cX8_seenWays 151 = .ok (.iload 4, 2) := by decide +kernel
theorem dX8_seenWays_153 : decode cX8_seenWays 153 = .ok (.iastore, 1) := by decide +kernel
theorem dX8_seenWays_154 : decode cX8_seenWays 154 = .ok (.iload 5, 2) := by decide +kernel
theorem dX8_seenWays_156 : decode cX8_seenWays 156 = .ok (.aload_n 0, 1) := by decide +kernel
theorem dX8_seenWays_157 : decode cX8_seenWays 157 = .ok (.iload_n 1, 1) := by decide +kernel
theorem dX8_seenWays_158 : decode cX8_seenWays 158 = .ok (.iload_n 2, 1) := by decide +kernel
theorem dX8_seenWays_159 : decode cX8_seenWays 159 = .ok (.iconst 1, 1) := by decide +kernel
theorem dX8_seenWays_160 : decode cX8_seenWays 160 = .ok (.iload 4, 2) := by decide +kernel
theorem dX8_seenWays_162 : decode cX8_seenWays 162 = .ok (.ishl, 1) := by decide +kernel
theorem dX8_seenWays_163 : decode cX8_seenWays 163 = .ok (.iconst (-1), 1) := by decide +kernel
theorem dX8_seenWays_164 : decode cX8_seenWays 164 = .ok (.ixor, 1) := by decide +kernel
theorem dX8_seenWays_165 : decode cX8_seenWays 165 = .ok (.iand, 1) := by decide +kernel
theorem dX8_seenWays_166 : decode cX8_seenWays 166 = .ok (.iconst 1, 1) := by decide +kernel
theorem dX8_seenWays_167 : decode cX8_seenWays 167 = .ok (.iload 6, 2) := by decide +kernel
theorem dX8_seenWays_169 : decode cX8_seenWays 169 = .ok (.ishl, 1) := by decide +kernel
theorem dX8_seenWays_170 : decode cX8_seenWays 170 = .ok (.iconst (-1), 1) := by decide +kernel
theorem dX8_seenWays_171 : decode cX8_seenWays 171 = .ok (.ixor, 1) := by decide +kernel
theorem dX8_seenWays_172 : decode cX8_seenWays 172 = .ok (.iand, 1) := by decide +kernel
theorem dX8_seenWays_173 : decode cX8_seenWays 173 = .ok (.iload_n 3, 1) := by decide +kernel
theorem dX8_seenWays_174 : decode cX8_seenWays 174 = .ok (.invokevirtual 235, 3) := by decide +kernel
theorem dX8_seenWays_177 : decode cX8_seenWays 177 = .ok (.iadd, 1) := by decide +kernel
theorem dX8_seenWays_178 : decode cX8_seenWays 178 = .ok (.istore 5, 2) := by decide +kernel
theorem dX8_seenWays_180 : decode cX8_seenWays 180 = .ok (.iinc 6 1, 3) := by decide +kernel
theorem dX8_seenWays_183 : decode cX8_seenWays 183 = .ok (.goto (-98), 3) := by decide +kernel
theorem dX8_seenWays_186 : decode cX8_seenWays 186 = .ok (.iload 5, 2) := by decide +kernel
theorem dX8_seenWays_188 : decode cX8_seenWays 188 = .ok (.ireturn, 1) := by decide +kernel
set_option maxRecDepth 20000 in
theorem ggX8_findSeen_X8_personIs : GoodIn wsX8_findSeen wsX8_personIs := goodIn_r _ [8, 2, 9, 10, 7, 11, 74, 75, 76, 77, 78, 79, 80, 81, 82, 83, 84, 85, 86, 87, 88, 89, 90, 91, 92, 93, 94, 95, 96, 97, 98, 99, 100, 101, 102] (by decide +kernel) (by decide +kernel)
set_option maxRecDepth 20000 in
theorem gX8_findSeen_X8_personIs : GoodIn wsX8_findSeen (wsV RX8 102 RX8 yX8_personIs wsX8_personIs) := goodIn_app (goodIn_of _ (by decide +kernel)) ggX8_findSeen_X8_personIs
set_option maxRecDepth 20000 in
theorem ggX8_findSeen_X8_seenWays : GoodIn wsX8_findSeen wsX8_seenWays := goodIn_r _ [15, 1, 2, 16, 17, 18, 7, 19, 20, 21, 22, 23, 24, 25, 26, 27, 28, 29, 30, 31, 32, 33, 34, 35, 36, 37, 4, 5, 6, 8, 9, 10, 11, 38, 39, 40, 41, 42, 43, 44, 45, 46, 47, 48, 49, 50, 51, 52, 53, 54, 55, 56, 57, 58, 59, 60, 61, 62, 63, 64, 65, 66, 67, 68, 69, 70, 71, 72, 73, 12, 13, 14, 74, 75, 76, 77, 78, 79, 80, 81, 82, 83, 84, 85, 86, 87, 88, 89, 90, 91, 92, 93, 94, 95, 96, 97, 98, 99, 100, 101, 102] (by decide +kernel) (by decide +kernel)
set_option maxRecDepth 20000 in
theorem gX8_findSeen_X8_seenWays : GoodIn wsX8_findSeen (wsV RX8 235 RX8 yX8_seenWays wsX8_seenWays) := goodIn_app (goodIn_of _ (by decide +kernel)) ggX8_findSeen_X8_seenWays
set_option maxRecDepth 20000 in
theorem ggX8_findSeen_X8_at : GoodIn wsX8_findSeen wsX8_at := goodIn_r _ [11] (by decide +kernel) (by decide +kernel)
set_option maxRecDepth 20000 in
theorem gX8_findSeen_X8_at : GoodIn wsX8_findSeen (va_wsS RX8 82 yX8_at wsX8_at) := goodIn_app (goodIn_of _ (by decide +kernel)) ggX8_findSeen_X8_at
theorem dX8_findSeen_0 : decode cX8_findSeen 0 = .ok (.aload_n 0, 1) := by decide +kernel
theorem dX8_findSeen_1 : decode cX8_findSeen 1 = .ok (.iconst 0, 1) := by decide +kernel
theorem dX8_findSeen_2 : decode cX8_findSeen 2 = .ok (.putfield 232, 3) := by decide +kernel
theorem dX8_findSeen_5 : decode cX8_findSeen 5 = .ok (.iconst 0, 1) := by decide +kernel
theorem dX8_findSeen_6 : decode cX8_findSeen 6 = .ok (.istore_n 3, 1) := by decide +kernel
theorem dX8_findSeen_7 : decode cX8_findSeen 7 = .ok (.iload_n 3, 1) := by decide +kernel
theorem dX8_findSeen_8 : decode cX8_findSeen 8 = .ok (.aload_n 0, 1) := by decide +kernel
theorem dX8_findSeen_9 : decode cX8_findSeen 9 = .ok (.getfield 9, 3) := by decide +kernel
theorem dX8_findSeen_12 : decode cX8_findSeen 12 = .ok (.iconst 4, 1) := by decide +kernel
theorem dX8_findSeen_13 : decode cX8_findSeen 13 = .ok (.iaload, 1) := by decide +kernel
theorem dX8_findSeen_14 : decode cX8_findSeen 14 = .ok (.if_icmp .ge 21, 3) := by decide +kernel
theorem dX8_findSeen_17 : decode cX8_findSeen 17 = .ok (.aload_n 0, 1) := by decide +kernel
theorem dX8_findSeen_18 : decode cX8_findSeen 18 = .ok (.getfield 31, 3) := by decide +kernel
theorem dX8_findSeen_21 : decode cX8_findSeen 21 = .ok (.iload_n 3, 1) := by decide +kernel
theorem dX8_findSeen_22 : decode cX8_findSeen 22 = .ok (.aload_n 0, 1) := by decide +kernel
theorem dX8_findSeen_23 : decode cX8_findSeen 23 = .ok (.iload_n 3, 1) := by decide +kernel
theorem dX8_findSeen_24 : decode cX8_findSeen 24 = .ok (.iconst 4, 1) := by decide +kernel
theorem dX8_findSeen_25 : decode cX8_findSeen 25 = .ok (.invokevirtual 102, 3) := by decide +kernel
theorem dX8_findSeen_28 : decode cX8_findSeen 28 = .ok (.iastore, 1) := by decide +kernel
theorem dX8_findSeen_29 : decode cX8_findSeen 29 = .ok (.iinc 3 1, 3) := by decide +kernel
theorem dX8_findSeen_32 : decode cX8_findSeen 32 = .ok (.goto (-25), 3) := by decide +kernel
theorem dX8_findSeen_35 : decode cX8_findSeen 35 = .ok (.aload_n 0, 1) := by decide +kernel
theorem dX8_findSeen_36 : decode cX8_findSeen 36 = .ok (.iload_n 1, 1) := by decide +kernel
theorem dX8_findSeen_37 : decode cX8_findSeen 37 = .ok (.iconst 1, 1) := by decide +kernel
theorem dX8_findSeen_38 : decode cX8_findSeen 38 = .ok (.aload_n 0, 1) := by decide +kernel
theorem dX8_findSeen_39 : decode cX8_findSeen 39 = .ok (.getfield 9, 3) := by decide +kernel
theorem dX8_findSeen_42 : decode cX8_findSeen 42 = .ok (.iconst 4, 1) := by decide +kernel
theorem dX8_findSeen_43 : decode cX8_findSeen 43 = .ok (.iaload, 1) := by decide +kernel
theorem dX8_findSeen_44 : decode cX8_findSeen 44 = .ok (.ishl, 1) := by decide +kernel
theorem dX8_findSeen_45 : decode cX8_findSeen 45 = .ok (.iconst 1, 1) := by decide +kernel
theorem dX8_findSeen_46 : decode cX8_findSeen 46 = .ok (.isub, 1) := by decide +kernel
theorem dX8_findSeen_47 : decode cX8_findSeen 47 = .ok (.iload_n 2, 1) := by decide +kernel
theorem dX8_findSeen_48 : decode cX8_findSeen 48 = .ok (.invokevirtual 235, 3) := by decide +kernel
theorem dX8_findSeen_51 : decode cX8_findSeen 51 = .ok (.istore_n 3, 1) := by decide +kernel
theorem dX8_findSeen_52 : decode cX8_findSeen 52 = .ok (.iconst 0, 1) := by decide +kernel
theorem dX8_findSeen_53 : decode cX8_findSeen 53 = .ok (.istore 4, 2) := by decide +kernel
theorem dX8_findSeen_55 : decode cX8_findSeen 55 = .ok (.iload 4, 2) := by decide +kernel
theorem dX8_findSeen_57 : decode cX8_findSeen 57 = .ok (.aload_n 0, 1) := by decide +kernel
theorem dX8_findSeen_58 : decode cX8_findSeen 58 = .ok (.getfield 9, 3) := by decide +kernel
theorem dX8_findSeen_61 : decode cX8_findSeen 61 = .ok (.iconst 4, 1) := by decide +kernel
theorem dX8_findSeen_62 : decode cX8_findSeen 62 = .ok (.iaload, 1) := by decide +kernel
theorem dX8_findSeen_63 : decode cX8_findSeen 63 = .ok (.if_icmp .ge 27, 3) := by decide +kernel
theorem dX8_findSeen_66 : decode cX8_findSeen 66 = .ok (.aload_n 0, 1) := by decide +kernel
theorem dX8_findSeen_67 : decode cX8_findSeen 67 = .ok (.getfield 9, 3) := by decide +kernel
theorem dX8_findSeen_70 : decode cX8_findSeen 70 = .ok (.iload 4, 2) := by decide +kernel
theorem dX8_findSeen_72 : decode cX8_findSeen 72 = .ok (.iconst 4, 1) := by decide +kernel
theorem dX8_findSeen_73 : decode cX8_findSeen 73 = .ok (.invokestatic 82, 3) := by decide +kernel
theorem dX8_findSeen_76 : decode cX8_findSeen 76 = .ok (.aload_n 0, 1) := by decide +kernel
theorem dX8_findSeen_77 : decode cX8_findSeen 77 = .ok (.getfield 31, 3) := by decide +kernel
theorem dX8_findSeen_80 : decode cX8_findSeen 80 = .ok (.iload 4, 2) := by decide +kernel
theorem dX8_findSeen_82 : decode cX8_findSeen 82 = .ok (.iaload, 1) := by decide +kernel
theorem dX8_findSeen_83 : decode cX8_findSeen 83 = .ok (.iastore, 1) := by decide +kernel
theorem dX8_findSeen_84 : decode cX8_findSeen 84 = .ok (.iinc 4 1, 3) := by decide +kernel
theorem dX8_findSeen_87 : decode cX8_findSeen 87 = .ok (.goto (-32), 3) := by decide +kernel
theorem dX8_findSeen_90 : decode cX8_findSeen 90 = .ok (.iload_n 3, 1) := by decide +kernel
theorem dX8_findSeen_91 : decode cX8_findSeen 91 = .ok (.ireturn, 1) := by decide +kernel
set_option maxRecDepth 20000 in
theorem ggX8_fits_X8_isSheet : GoodIn wsX8_fits wsX8_isSheet := goodIn_r _ [7, 8, 9, 6, 10] (by decide +kernel) (by decide +kernel)
set_option maxRecDepth 20000 in
theorem gX8_fits_X8_isSheet : GoodIn wsX8_fits (va_wsS RX8 238 yX8_isSheet wsX8_isSheet) := goodIn_app (goodIn_of _ (by decide +kernel)) ggX8_fits_X8_isSheet
set_option maxRecDepth 20000 in
theorem ggX8_fits_X8_finding : GoodIn wsX8_fits wsX8_finding := goodIn_r _ [14, 15, 1, 92, 93, 94, 95, 96, 97, 98, 99, 100, 101, 102, 103, 104, 105, 106, 107, 108, 109, 110, 111, 112, 113, 114, 115, 116, 117, 118, 119, 120] (by decide +kernel) (by decide +kernel)
set_option maxRecDepth 20000 in
theorem gX8_fits_X8_finding : GoodIn wsX8_fits (wsV RX8 90 RX8 yX8_finding wsX8_finding) := goodIn_app (goodIn_of _ (by decide +kernel)) ggX8_fits_X8_finding
set_option maxRecDepth 20000 in
theorem ggX8_fits_X8_findSeen : GoodIn wsX8_fits wsX8_findSeen := goodIn_r _ [19, 20, 21, 22, 23, 24, 25, 6, 26, 27, 28, 29, 30, 31, 32, 33, 34, 35, 36, 37, 38, 39, 40, 41, 42, 43, 44, 45, 46, 47, 48, 49, 50, 51, 52, 53, 54, 55, 56, 57, 58, 59, 60, 61, 62, 63, 64, 65, 66, 67, 68, 69, 70, 71, 72, 73, 74, 75, 76, 77, 78, 79, 80, 81, 82, 83, 84, 85, 86, 87, 88, 89, 90, 91, 92, 93, 94, 95, 96, 97, 98, 99, 100, 101, 102, 103, 104, 105, 106, 107, 108, 109, 110, 111, 112, 113, 114, 115, 116, 117, 118, 119, 120] (by decide +kernel) (by decide +kernel)
set_option maxRecDepth 20000 in
theorem gX8_fits_X8_findSeen : GoodIn wsX8_fits (wsV RX8 242 RX8 yX8_findSeen wsX8_findSeen) := goodIn_app (goodIn_of _ (by decide +kernel)) ggX8_fits_X8_findSeen
theorem dX8_fits_0 : decode cX8_fits 0 = .ok (.iload_n 1, 1) := by decide +kernel
theorem dX8_fits_1 : decode cX8_fits 1 = .ok (.invokestatic 238, 3) := by decide +kernel
theorem dX8_fits_4 : decode cX8_fits 4 = .ok (.ifCond .ne 10, 3) := by decide +kernel
theorem dX8_fits_7 : decode cX8_fits 7 = .ok (.aload_n 0, 1) := by decide +kernel
theorem dX8_fits_8 : decode cX8_fits 8 = .ok (.ldc 73, 2) := by decide +kernel
theorem dX8_fits_10 : decode cX8_fits 10 = .ok (.invokevirtual 90, 3) := by decide +kernel
theorem dX8_fits_13 : decode cX8_fits 13 = .ok (.ireturn, 1) := by decide +kernel
theorem dX8_fits_14 : decode cX8_fits 14 = .ok (.aload_n 0, 1) := by decide +kernel
theorem dX8_fits_15 : decode cX8_fits 15 = .ok (.getfield 60, 3) := by decide +kernel
theorem dX8_fits_18 : decode cX8_fits 18 = .ok (.iload_n 1, 1) := by decide +kernel
theorem dX8_fits_19 : decode cX8_fits 19 = .ok (.iaload, 1) := by decide +kernel
theorem dX8_fits_20 : decode cX8_fits 20 = .ok (.ifCond .ne 12, 3) := by decide +kernel
theorem dX8_fits_23 : decode cX8_fits 23 = .ok (.aload_n 0, 1) := by decide +kernel
theorem dX8_fits_24 : decode cX8_fits 24 = .ok (.ldc 241, 2) := by decide +kernel
theorem dX8_fits_26 : decode cX8_fits 26 = .ok (.invokevirtual 90, 3) := by decide +kernel
theorem dX8_fits_29 : decode cX8_fits 29 = .ok (.goto 9, 3) := by decide +kernel
theorem dX8_fits_32 : decode cX8_fits 32 = .ok (.aload_n 0, 1) := by decide +kernel
theorem dX8_fits_33 : decode cX8_fits 33 = .ok (.iload_n 1, 1) := by decide +kernel
theorem dX8_fits_34 : decode cX8_fits 34 = .ok (.iconst (-1), 1) := by decide +kernel
theorem dX8_fits_35 : decode cX8_fits 35 = .ok (.invokevirtual 242, 3) := by decide +kernel
theorem dX8_fits_38 : decode cX8_fits 38 = .ok (.ireturn, 1) := by decide +kernel
set_option maxRecDepth 20000 in
theorem ggX8_may_X8_isSheet : GoodIn wsX8_may wsX8_isSheet := goodIn_r _ [8, 9, 10, 7, 11] (by decide +kernel) (by decide +kernel)
set_option maxRecDepth 20000 in
theorem gX8_may_X8_isSheet : GoodIn wsX8_may (va_wsS RX8 238 yX8_isSheet wsX8_isSheet) := goodIn_app (goodIn_of _ (by decide +kernel)) ggX8_may_X8_isSheet
set_option maxRecDepth 20000 in
theorem ggX8_may_X8_finding : GoodIn wsX8_may wsX8_finding := goodIn_r _ [15, 16, 1, 96, 97, 98, 99, 100, 101, 102, 103, 104, 105, 106, 107, 108, 109, 110, 111, 112, 113, 114, 115, 116, 117, 118, 119, 120, 121, 122, 123, 124] (by decide +kernel) (by decide +kernel)
set_option maxRecDepth 20000 in
theorem gX8_may_X8_finding : GoodIn wsX8_may (wsV RX8 90 RX8 yX8_finding wsX8_finding) := goodIn_app (goodIn_of _ (by decide +kernel)) ggX8_may_X8_finding
set_option maxRecDepth 20000 in
theorem ggX8_may_X8_isPerson : GoodIn wsX8_may wsX8_isPerson := goodIn_r _ [20, 21, 9, 10, 7, 11, 96, 97, 98, 99, 100, 101, 102, 103, 104, 105, 106, 107, 108, 109, 110, 111, 112, 113, 114, 115, 116, 117, 118, 119, 120, 121, 122, 123, 124] (by decide +kernel) (by decide +kernel)
set_option maxRecDepth 20000 in
theorem gX8_may_X8_isPerson : GoodIn wsX8_may (wsV RX8 130 RX8 yX8_isPerson wsX8_isPerson) := goodIn_app (goodIn_of _ (by decide +kernel)) ggX8_may_X8_isPerson
set_option maxRecDepth 20000 in
theorem ggX8_may_X8_findSeen : GoodIn wsX8_may wsX8_findSeen := goodIn_r _ [25, 4, 21, 26, 27, 28, 29, 7, 30, 31, 32, 33, 34, 35, 36, 37, 38, 39, 40, 41, 42, 43, 44, 45, 46, 47, 48, 49, 50, 51, 52, 53, 54, 55, 56, 57, 58, 59, 60, 61, 62, 63, 64, 65, 66, 67, 68, 69, 70, 71, 72, 73, 74, 75, 76, 77, 78, 79, 80, 81, 82, 83, 84, 85, 86, 87, 88, 89, 90, 91, 92, 93, 94, 95, 96, 97, 98, 99, 100, 101, 102, 103, 104, 105, 106, 107, 108, 109, 110, 111, 112, 113, 114, 115, 116, 117, 118, 119, 120, 121, 122, 123, 124] (by decide +kernel) (by decide +kernel)
set_option maxRecDepth 20000 in
theorem gX8_may_X8_findSeen : GoodIn wsX8_may (wsV RX8 242 RX8 yX8_findSeen wsX8_findSeen) := goodIn_app (goodIn_of _ (by decide +kernel)) ggX8_may_X8_findSeen
theorem dX8_may_0 : decode cX8_may 0 = .ok (.iload_n 1, 1) := by decide +kernel
theorem dX8_may_1 : decode cX8_may 1 = .ok (.invokestatic 238, 3) := by decide +kernel
theorem dX8_may_4 : decode cX8_may 4 = .ok (.ifCond .ne 10, 3) := by decide +kernel
theorem dX8_may_7 : decode cX8_may 7 = .ok (.aload_n 0, 1) := by decide +kernel
theorem dX8_may_8 : decode cX8_may 8 = .ok (.ldc 73, 2) := by decide +kernel
theorem dX8_may_10 : decode cX8_may 10 = .ok (.invokevirtual 90, 3) := by decide +kernel
theorem dX8_may_13 : decode cX8_may 13 = .ok (.ireturn, 1) := by decide +kernel
theorem dX8_may_14 : decode cX8_may 14 = .ok (.aload_n 0, 1) := by decide +kernel
theorem dX8_may_15 : decode cX8_may 15 = .ok (.getfield 60, 3) := by decide +kernel
theorem dX8_may_18 : decode cX8_may 18 = .ok (.iload_n 1, 1) := by decide +kernel
theorem dX8_may_19 : decode cX8_may 19 = .ok (.iaload, 1) := by decide +kernel
theorem dX8_may_20 : decode cX8_may 20 = .ok (.ifCond .ne 10, 3) := by decide +kernel
theorem dX8_may_23 : decode cX8_may 23 = .ok (.aload_n 0, 1) := by decide +kernel
theorem dX8_may_24 : decode cX8_may 24 = .ok (.ldc 241, 2) := by decide +kernel
theorem dX8_may_26 : decode cX8_may 26 = .ok (.invokevirtual 90, 3) := by decide +kernel
theorem dX8_may_29 : decode cX8_may 29 = .ok (.ireturn, 1) := by decide +kernel
theorem dX8_may_30 : decode cX8_may 30 = .ok (.aload_n 0, 1) := by decide +kernel
theorem dX8_may_31 : decode cX8_may 31 = .ok (.iload_n 2, 1) := by decide +kernel
theorem dX8_may_32 : decode cX8_may 32 = .ok (.invokevirtual 130, 3) := by decide +kernel
theorem dX8_may_35 : decode cX8_may 35 = .ok (.ifCond .ne 10, 3) := by decide +kernel
theorem dX8_may_38 : decode cX8_may 38 = .ok (.aload_n 0, 1) := by decide +kernel
theorem dX8_may_39 : decode cX8_may 39 = .ok (.ldc 73, 2) := by decide +kernel
theorem dX8_may_41 : decode cX8_may 41 = .ok (.invokevirtual 90, 3) := by decide +kernel
theorem dX8_may_44 : decode cX8_may 44 = .ok (.ireturn, 1) := by decide +kernel
theorem dX8_may_45 : decode cX8_may 45 = .ok (.aload_n 0, 1) := by decide +kernel
theorem dX8_may_46 : decode cX8_may 46 = .ok (.iload_n 1, 1) := by decide +kernel
theorem dX8_may_47 : decode cX8_may 47 = .ok (.iload_n 2, 1) := by decide +kernel
theorem dX8_may_48 : decode cX8_may 48 = .ok (.invokevirtual 242, 3) := by decide +kernel
theorem dX8_may_51 : decode cX8_may 51 = .ok (.ifCond .ne 7, 3) := by decide +kernel
theorem dX8_may_54 : decode cX8_may 54 = .ok (.iconst 0, 1) := by decide +kernel
theorem dX8_may_55 : decode cX8_may 55 = .ok (.goto 7, 3) := by decide +kernel
theorem dX8_may_58 : decode cX8_may 58 = .ok (.aload_n 0, 1) := by decide +kernel
theorem dX8_may_59 : decode cX8_may 59 = .ok (.getfield 232, 3) := by decide +kernel
theorem dX8_may_62 : decode cX8_may 62 = .ok (.ireturn, 1) := by decide +kernel
set_option maxRecDepth 20000 in
theorem ggX8_mightOf_X8_personIs : GoodIn wsX8_mightOf wsX8_personIs := goodIn_r _ [5, 6, 7, 8, 4, 9, 17, 18, 19, 20, 21, 22, 23, 24, 25, 26, 27, 28, 29, 30, 31, 32, 33, 34, 35, 36, 37, 38, 39, 40, 41, 42, 43, 44, 45] (by decide +kernel) (by decide +kernel)
set_option maxRecDepth 20000 in
theorem gX8_mightOf_X8_personIs : GoodIn wsX8_mightOf (wsV RX8 102 RX8 yX8_personIs wsX8_personIs) := goodIn_app (goodIn_of _ (by decide +kernel)) ggX8_mightOf_X8_personIs
set_option maxRecDepth 20000 in
theorem ggX8_mightOf_X8_isLit : GoodIn wsX8_mightOf wsX8_isLit := goodIn_r _ [13, 6, 14, 15, 4, 16, 17, 18, 19, 20, 21, 22, 23, 24, 25, 26, 27, 28, 29, 30, 31, 32, 33, 34, 35, 36, 37, 38, 39, 40, 41, 42, 43, 44, 45] (by decide +kernel) (by decide +kernel)
set_option maxRecDepth 20000 in
theorem gX8_mightOf_X8_isLit : GoodIn wsX8_mightOf (wsV RX8 120 RX8 yX8_isLit wsX8_isLit) := goodIn_app (goodIn_of _ (by decide +kernel)) ggX8_mightOf_X8_isLit
theorem dX8_mightOf_0 : decode cX8_mightOf 0 = .ok (.aload_n 0, 1) := by decide +kernel
theorem dX8_mightOf_1 : decode cX8_mightOf 1 = .ok (.iload_n 1, 1) := by decide +kernel
theorem dX8_mightOf_2 : decode cX8_mightOf 2 = .ok (.iconst 2, 1) := by decide +kernel
theorem dX8_mightOf_3 : decode cX8_mightOf 3 = .ok (.invokevirtual 102, 3) := by decide +kernel
theorem dX8_mightOf_6 : decode cX8_mightOf 6 = .ok (.aload_n 0, 1) := by decide +kernel
theorem dX8_mightOf_7 : decode cX8_mightOf 7 = .ok (.bipush 8, 2) := by decide +kernel
theorem dX8_mightOf_9 : decode cX8_mightOf 9 = .ok (.invokevirtual 120, 3) := by decide +kernel
theorem dX8_mightOf_12 : decode cX8_mightOf 12 = .ok (.ifCond .eq 12, 3) := by decide +kernel
theorem dX8_mightOf_15 : decode cX8_mightOf 15 = .ok (.iload_n 2, 1) := by decide +kernel
theorem dX8_mightOf_16 : decode cX8_mightOf 16 = .ok (.iload_n 1, 1) := by decide +kernel
theorem dX8_mightOf_17 : decode cX8_mightOf 17 = .ok (.if_icmp .ne 7, 3) := by decide +kernel
theorem dX8_mightOf_20 : decode cX8_mightOf 20 = .ok (.iconst 3, 1) := by decide +kernel
theorem dX8_mightOf_21 : decode cX8_mightOf 21 = .ok (.goto 4, 3) := by decide +kernel
theorem dX8_mightOf_24 : decode cX8_mightOf 24 = .ok (.iconst 0, 1) := by decide +kernel
theorem dX8_mightOf_25 : decode cX8_mightOf 25 = .ok (.iadd, 1) := by decide +kernel
theorem dX8_mightOf_26 : decode cX8_mightOf 26 = .ok (.ireturn, 1) := by decide +kernel
set_option maxRecDepth 20000 in
theorem ggX8_duel_X8_areTwo : GoodIn wsX8_duel wsX8_areTwo := goodIn_r _ [13, 14, 15, 16, 12, 17, 18, 19, 20, 21, 53, 54, 55, 56, 57, 58, 59, 60, 61, 62, 63, 64, 65, 66, 67, 68, 69, 70, 71, 72, 73, 74, 75, 76, 77, 78, 79, 80, 81] (by decide +kernel) (by decide +kernel)
set_option maxRecDepth 20000 in
theorem gX8_duel_X8_areTwo : GoodIn wsX8_duel (wsV RX8 146 RX8 yX8_areTwo wsX8_areTwo) := goodIn_app (goodIn_of _ (by decide +kernel)) ggX8_duel_X8_areTwo
set_option maxRecDepth 20000 in
theorem ggX8_duel_X8_finding : GoodIn wsX8_duel wsX8_finding := goodIn_r _ [25, 26, 1, 53, 54, 55, 56, 57, 58, 59, 60, 61, 62, 63, 64, 65, 66, 67, 68, 69, 70, 71, 72, 73, 74, 75, 76, 77, 78, 79, 80, 81] (by decide +kernel) (by decide +kernel)
set_option maxRecDepth 20000 in
theorem gX8_duel_X8_finding : GoodIn wsX8_duel (wsV RX8 90 RX8 yX8_finding wsX8_finding) := goodIn_app (goodIn_of _ (by decide +kernel)) ggX8_duel_X8_finding
set_option maxRecDepth 20000 in
theorem ggX8_duel_X8_firstOf : GoodIn wsX8_duel wsX8_firstOf := goodIn_r _ [30, 2, 3, 4, 5, 6, 7, 8, 31, 32, 33, 12, 34, 35, 36, 37, 38, 18, 39, 40, 41, 53, 54, 55, 56, 57, 58, 59, 60, 61, 62, 63, 64, 65, 66, 67, 68, 69, 70, 71, 72, 73, 74, 75, 76, 77, 78, 79, 80, 81] (by decide +kernel) (by decide +kernel)
set_option maxRecDepth 20000 in
theorem gX8_duel_X8_firstOf : GoodIn wsX8_duel (wsV RX8 123 RX8 yX8_firstOf wsX8_firstOf) := goodIn_app (goodIn_of _ (by decide +kernel)) ggX8_duel_X8_firstOf
set_option maxRecDepth 20000 in
theorem ggX8_duel_X8_mightOf : GoodIn wsX8_duel wsX8_mightOf := goodIn_r _ [45, 35, 36, 37, 12, 38, 18, 39, 40, 41, 46, 47, 48, 49, 50, 51, 52, 53, 54, 55, 56, 57, 58, 59, 60, 61, 62, 63, 64, 65, 66, 67, 68, 69, 70, 71, 72, 73, 74, 75, 76, 77, 78, 79, 80, 81] (by decide +kernel) (by decide +kernel)
set_option maxRecDepth 20000 in
theorem gX8_duel_X8_mightOf : GoodIn wsX8_duel (wsV RX8 245 RX8 yX8_mightOf wsX8_mightOf) := goodIn_app (goodIn_of _ (by decide +kernel)) ggX8_duel_X8_mightOf
theorem dX8_duel_0 : decode cX8_duel 0 = .ok (.aload_n 0, 1) := by decide +kernel
theorem dX8_duel_1 : decode cX8_duel 1 = .ok (.iload_n 1, 1) := by decide +kernel
theorem dX8_duel_2 : decode cX8_duel 2 = .ok (.iload_n 2, 1) := by decide +kernel
theorem dX8_duel_3 : decode cX8_duel 3 = .ok (.invokevirtual 146, 3) := by decide +kernel
theorem dX8_duel_6 : decode cX8_duel 6 = .ok (.ifCond .ne 10, 3) := by decide +kernel
theorem dX8_duel_9 : decode cX8_duel 9 = .ok (.aload_n 0, 1) := by decide +kernel
theorem dX8_duel_10 : decode cX8_duel 10 = .ok (.ldc 73, 2) := by decide +kernel
theorem dX8_duel_12 : decode cX8_duel 12 = .ok (.invokevirtual 90, 3) := by decide +kernel
theorem dX8_duel_15 : decode cX8_duel 15 = .ok (.ireturn, 1) := by decide +kernel
theorem dX8_duel_16 : decode cX8_duel 16 = .ok (.aload_n 0, 1) := by decide +kernel
theorem dX8_duel_17 : decode cX8_duel 17 = .ok (.iload_n 1, 1) := by decide +kernel
theorem dX8_duel_18 : decode cX8_duel 18 = .ok (.iload_n 2, 1) := by decide +kernel
theorem dX8_duel_19 : decode cX8_duel 19 = .ok (.bipush 8, 2) := by decide +kernel
theorem dX8_duel_21 : decode cX8_duel 21 = .ok (.invokevirtual 123, 3) := by decide +kernel
theorem dX8_duel_24 : decode cX8_duel 24 = .ok (.istore_n 3, 1) := by decide +kernel
theorem dX8_duel_25 : decode cX8_duel 25 = .ok (.iload_n 1, 1) := by decide +kernel
theorem dX8_duel_26 : decode cX8_duel 26 = .ok (.iload_n 2, 1) := by decide +kernel
theorem dX8_duel_27 : decode cX8_duel 27 = .ok (.invokestatic 105, 3) := by decide +kernel
theorem dX8_duel_30 : decode cX8_duel 30 = .ok (.istore 4, 2) := by decide +kernel
theorem dX8_duel_32 : decode cX8_duel 32 = .ok (.iload_n 1, 1) := by decide +kernel
theorem dX8_duel_33 : decode cX8_duel 33 = .ok (.iload_n 2, 1) := by decide +kernel
theorem dX8_duel_34 : decode cX8_duel 34 = .ok (.invokestatic 110, 3) := by decide +kernel
theorem dX8_duel_37 : decode cX8_duel 37 = .ok (.istore 5, 2) := by decide +kernel
theorem dX8_duel_39 : decode cX8_duel 39 = .ok (.aload_n 0, 1) := by decide +kernel
theorem dX8_duel_40 : decode cX8_duel 40 = .ok (.iload 5, 2) := by decide +kernel
theorem dX8_duel_42 : decode cX8_duel 42 = .ok (.iload_n 3, 1) := by decide +kernel
theorem dX8_duel_43 : decode cX8_duel 43 = .ok (.invokevirtual 245, 3) := by decide +kernel
theorem dX8_duel_46 : decode cX8_duel 46 = .ok (.aload_n 0, 1) := by decide +kernel
theorem dX8_duel_47 : decode cX8_duel 47 = .ok (.iload 4, 2) := by decide +kernel
theorem dX8_duel_49 : decode cX8_duel 49 = .ok (.iload_n 3, 1) := by decide +kernel
theorem dX8_duel_50 : decode cX8_duel 50 = .ok (.invokevirtual 245, 3) := by decide +kernel
theorem dX8_duel_53 : decode cX8_duel 53 = .ok (.if_icmp .le 8, 3) := by decide +kernel
theorem dX8_duel_56 : decode cX8_duel 56 = .ok (.iload 5, 2) := by decide +kernel
theorem dX8_duel_58 : decode cX8_duel 58 = .ok (.goto 5, 3) := by decide +kernel
theorem dX8_duel_61 : decode cX8_duel 61 = .ok (.iload 4, 2) := by decide +kernel
theorem dX8_duel_63 : decode cX8_duel 63 = .ok (.ireturn, 1) := by decide +kernel
theorem dX8_common_0 : decode cX8_common 0 = .ok (.iload_n 0, 1) := by decide +kernel
theorem dX8_common_1 : decode cX8_common 1 = .ok (.istore_n 2, 1) := by decide +kernel
theorem dX8_common_2 : decode cX8_common 2 = .ok (.iload_n 1, 1) := by decide +kernel
theorem dX8_common_3 : decode cX8_common 3 = .ok (.istore_n 3, 1) := by decide +kernel
theorem dX8_common_4 : decode cX8_common 4 = .ok (.iload_n 3, 1) := by decide +kernel
theorem dX8_common_5 : decode cX8_common 5 = .ok (.ifCond .eq 16, 3) := by decide +kernel
theorem dX8_common_8 : decode cX8_common 8 = .ok (.iload_n 2, 1) := by decide +kernel
theorem dX8_common_9 : decode cX8_common 9 = .ok (.iload_n 3, 1) := by decide +kernel
theorem dX8_common_10 : decode cX8_common 10 = .ok (.irem, 1) := by decide +kernel
theorem dX8_common_11 : decode cX8_common 11 = .ok (.istore 4, 2) := by decide +kernel
theorem dX8_common_13 : decode cX8_common 13 = .ok (.iload_n 3, 1) := by decide +kernel
theorem dX8_common_14 : decode cX8_common 14 = .ok (.istore_n 2, 1) := by decide +kernel
theorem dX8_common_15 : decode cX8_common 15 = .ok (.iload 4, 2) := by decide +kernel
theorem dX8_common_17 : decode cX8_common 17 = .ok (.istore_n 3, 1) := by decide +kernel
theorem dX8_common_18 : decode cX8_common 18 = .ok (.goto (-14), 3) := by decide +kernel
theorem dX8_common_21 : decode cX8_common 21 = .ok (.iload_n 2, 1) := by decide +kernel
theorem dX8_common_22 : decode cX8_common 22 = .ok (.ireturn, 1) := by decide +kernel
set_option maxRecDepth 20000 in
theorem ggX8_lanterns_X8_within : GoodIn wsX8_lanterns wsX8_within := goodIn_r _ [5] (by decide +kernel) (by decide +kernel)
set_option maxRecDepth 20000 in
theorem gX8_lanterns_X8_within : GoodIn wsX8_lanterns (va_wsS RX8 78 yX8_within wsX8_within) := goodIn_app (goodIn_of _ (by decide +kernel)) ggX8_lanterns_X8_within
set_option maxRecDepth 20000 in
theorem ggX8_lanterns_X8_finding : GoodIn wsX8_lanterns wsX8_finding := goodIn_r _ [9, 10, 1, 14, 15, 16, 17, 18, 19, 20, 21, 22, 23, 24, 25, 26, 27, 28, 29, 30, 31, 32, 33, 34, 35, 36, 37, 38, 39, 40, 41, 42] (by decide +kernel) (by decide +kernel)
set_option maxRecDepth 20000 in
theorem gX8_lanterns_X8_finding : GoodIn wsX8_lanterns (wsV RX8 90 RX8 yX8_finding wsX8_finding) := goodIn_app (goodIn_of _ (by decide +kernel)) ggX8_lanterns_X8_finding
set_option maxRecDepth 20000 in
theorem ggX8_lanterns_X8_common : GoodIn wsX8_lanterns wsX8_common := goodIn_r _ [13] (by decide +kernel) (by decide +kernel)
set_option maxRecDepth 20000 in
theorem gX8_lanterns_X8_common : GoodIn wsX8_lanterns (va_wsS RX8 248 yX8_common wsX8_common) := goodIn_app (goodIn_of _ (by decide +kernel)) ggX8_lanterns_X8_common
theorem dX8_lanterns_0 : decode cX8_lanterns 0 = .ok (.iload_n 1, 1) := by decide +kernel
theorem dX8_lanterns_1 : decode cX8_lanterns 1 = .ok (.iconst 0, 1) := by decide +kernel
theorem dX8_lanterns_2 : decode cX8_lanterns 2 = .ok (.bipush 15, 2) := by decide +kernel
theorem dX8_lanterns_4 : decode cX8_lanterns 4 = .ok (.invokestatic 78, 3) := by decide +kernel
theorem dX8_lanterns_7 : decode cX8_lanterns 7 = .ok (.ifCond .eq 22, 3) := by decide +kernel
theorem dX8_lanterns_10 : decode cX8_lanterns 10 = .ok (.iload_n 2, 1) := by decide +kernel
theorem dX8_lanterns_11 : decode cX8_lanterns 11 = .ok (.iconst 0, 1) := by decide +kernel
theorem dX8_lanterns_12 : decode cX8_lanterns 12 = .ok (.bipush 10, 2) := by decide +kernel
theorem dX8_lanterns_14 : decode cX8_lanterns 14 = .ok (.invokestatic 78, 3) := by decide +kernel
theorem dX8_lanterns_17 : decode cX8_lanterns 17 = .ok (.ifCond .eq 12, 3) := by decide +kernel
theorem dX8_lanterns_20 : decode cX8_lanterns 20 = .ok (.iload_n 3, 1) := by decide +kernel
theorem dX8_lanterns_21 : decode cX8_lanterns 21 = .ok (.iconst 0, 1) := by decide +kernel
theorem dX8_lanterns_22 : decode cX8_lanterns 22 = .ok (.iconst 1, 1) := by decide +kernel
theorem dX8_lanterns_23 : decode cX8_lanterns 23 = .ok (.invokestatic 78, 3) := by decide +kernel
theorem dX8_lanterns_26 : decode cX8_lanterns 26 = .ok (.ifCond .ne 11, 3) := by decide +kernel
theorem dX8_lanterns_29 : decode cX8_lanterns 29 = .ok (.aload_n 0, 1) := by decide +kernel
theorem dX8_lanterns_30 : decode cX8_lanterns 30 = .ok (.ldc 73, 2) := by decide +kernel
theorem dX8_lanterns_32 : decode cX8_lanterns 32 = .ok (.invokevirtual 90, 3) := by decide +kernel
theorem dX8_lanterns_35 : decode cX8_lanterns 35 = .ok (.i2l, 1) := by decide +kernel
theorem dX8_lanterns_36 : decode cX8_lanterns 36 = .ok (.lreturn, 1) := by decide +kernel
theorem dX8_lanterns_37 : decode cX8_lanterns 37 = .ok (.bipush 10, 2) := by decide +kernel
theorem dX8_lanterns_39 : decode cX8_lanterns 39 = .ok (.iload_n 2, 1) := by decide +kernel
theorem dX8_lanterns_40 : decode cX8_lanterns 40 = .ok (.isub, 1) := by decide +kernel
theorem dX8_lanterns_41 : decode cX8_lanterns 41 = .ok (.bipush 10, 2) := by decide +kernel
theorem dX8_lanterns_43 : decode cX8_lanterns 43 = .ok (.invokestatic 248, 3) := by decide +kernel
theorem dX8_lanterns_46 : decode cX8_lanterns 46 = .ok (.istore 4, 2) := by decide +kernel
theorem dX8_lanterns_48 : decode cX8_lanterns 48 = .ok (.lconst 1, 1) := by decide +kernel
theorem dX8_lanterns_49 : decode cX8_lanterns 49 = .ok (.lstore 5, 2) := by decide +kernel
theorem dX8_lanterns_51 : decode cX8_lanterns 51 = .ok (.lconst 1, 1) := by decide +kernel
theorem dX8_lanterns_52 : decode cX8_lanterns 52 = .ok (.lstore 7, 2) := by decide +kernel
theorem dX8_lanterns_54 : decode cX8_lanterns 54 = .ok (.iconst 0, 1) := by decide +kernel
theorem dX8_lanterns_55 : decode cX8_lanterns 55 = .ok (.istore 9, 2) := by decide +kernel
theorem dX8_lanterns_57 : decode cX8_lanterns 57 = .ok (.iload 9, 2) := by decide +kernel
theorem dX8_lanterns_59 : decode cX8_lanterns 59 = .ok (.iload_n 1, 1) := by decide +kernel
theorem dX8_lanterns_60 : decode cX8_lanterns 60 = .ok (.if_icmp .ge 33, 3) := by decide +kernel
theorem dX8_lanterns_63 : decode cX8_lanterns 63 = .ok (.lload 5, 2) := by decide +kernel
theorem dX8_lanterns_65 : decode cX8_lanterns 65 = .ok (.bipush 10, 2) := by decide +kernel
theorem dX8_lanterns_67 : decode cX8_lanterns 67 = .ok (.iload_n 2, 1) := by decide +kernel
theorem dX8_lanterns_68 : decode cX8_lanterns 68 = .ok (.isub, 1) := by decide +kernel
theorem dX8_lanterns_69 : decode cX8_lanterns 69 = .ok (.iload 4, 2) := by decide +kernel
theorem dX8_lanterns_71 : decode cX8_lanterns 71 = .ok (.idiv, 1) := by decide +kernel
theorem dX8_lanterns_72 : decode cX8_lanterns 72 = .ok (.i2l, 1) := by decide +kernel
theorem dX8_lanterns_73 : decode cX8_lanterns 73 = .ok (.lmul, 1) := by decide +kernel
theorem dX8_lanterns_74 : decode cX8_lanterns 74 = .ok (.lstore 5, 2) := by decide +kernel
theorem dX8_lanterns_76 : decode cX8_lanterns 76 = .ok (.lload 7, 2) := by decide +kernel
theorem dX8_lanterns_78 : decode cX8_lanterns 78 = .ok (.bipush 10, 2) := by decide +kernel
theorem dX8_lanterns_80 : decode cX8_lanterns 80 = .ok (.iload 4, 2) := by decide +kernel
theorem dX8_lanterns_82 : decode cX8_lanterns 82 = .ok (.idiv, 1) := by decide +kernel
theorem dX8_lanterns_83 : decode cX8_lanterns 83 = .ok (.i2l, 1) := by decide +kernel
theorem dX8_lanterns_84 : decode cX8_lanterns 84 = .ok (.lmul, 1) := by decide +kernel
theorem dX8_lanterns_85 : decode cX8_lanterns 85 = .ok (.lstore 7, 2) := by decide +kernel
theorem dX8_lanterns_87 : decode cX8_lanterns 87 = .ok (.iinc 9 1, 3) := by decide +kernel
theorem dX8_lanterns_90 : decode cX8_lanterns 90 = .ok (.goto (-33), 3) := by decide +kernel
theorem dX8_lanterns_93 : decode cX8_lanterns 93 = .ok (.iload_n 3, 1) := by decide +kernel
theorem dX8_lanterns_94 : decode cX8_lanterns 94 = .ok (.ifCond .ne 8, 3) := by decide +kernel
theorem dX8_lanterns_97 : decode cX8_lanterns 97 = .ok (.lload 5, 2) := by decide +kernel
theorem dX8_lanterns_99 : decode cX8_lanterns 99 = .ok (.goto 5, 3) := by decide +kernel
theorem dX8_lanterns_102 : decode cX8_lanterns 102 = .ok (.lload 7, 2) := by decide +kernel
theorem dX8_lanterns_104 : decode cX8_lanterns 104 = .ok (.lreturn, 1) := by decide +kernel
theorem dX8_drawn_0 : decode cX8_drawn 0 = .ok (.aload_n 0, 1) := by decide +kernel
theorem dX8_drawn_1 : decode cX8_drawn 1 = .ok (.getfield 9, 3) := by decide +kernel
theorem dX8_drawn_4 : decode cX8_drawn 4 = .ok (.iconst 5, 1) := by decide +kernel
theorem dX8_drawn_5 : decode cX8_drawn 5 = .ok (.aload_n 0, 1) := by decide +kernel
theorem dX8_drawn_6 : decode cX8_drawn 6 = .ok (.getfield 9, 3) := by decide +kernel
theorem dX8_drawn_9 : decode cX8_drawn 9 = .ok (.iconst 5, 1) := by decide +kernel
theorem dX8_drawn_10 : decode cX8_drawn 10 = .ok (.iaload, 1) := by decide +kernel
theorem dX8_drawn_11 : decode cX8_drawn 11 = .ok (.ldc 251, 2) := by decide +kernel
theorem dX8_drawn_13 : decode cX8_drawn 13 = .ok (.imul, 1) := by decide +kernel
theorem dX8_drawn_14 : decode cX8_drawn 14 = .ok (.sipush 12345, 3) := by decide +kernel
theorem dX8_drawn_17 : decode cX8_drawn 17 = .ok (.iadd, 1) := by decide +kernel
theorem dX8_drawn_18 : decode cX8_drawn 18 = .ok (.iastore, 1) := by decide +kernel
theorem dX8_drawn_19 : decode cX8_drawn 19 = .ok (.aload_n 0, 1) := by decide +kernel
theorem dX8_drawn_20 : decode cX8_drawn 20 = .ok (.getfield 9, 3) := by decide +kernel
theorem dX8_drawn_23 : decode cX8_drawn 23 = .ok (.iconst 5, 1) := by decide +kernel
theorem dX8_drawn_24 : decode cX8_drawn 24 = .ok (.iaload, 1) := by decide +kernel
theorem dX8_drawn_25 : decode cX8_drawn 25 = .ok (.bipush 8, 2) := by decide +kernel
theorem dX8_drawn_27 : decode cX8_drawn 27 = .ok (.iushr, 1) := by decide +kernel
theorem dX8_drawn_28 : decode cX8_drawn 28 = .ok (.ireturn, 1) := by decide +kernel
set_option maxRecDepth 20000 in
theorem ggX8_days_X8_within : GoodIn wsX8_days wsX8_within := goodIn_r _ [9] (by decide +kernel) (by decide +kernel)
set_option maxRecDepth 20000 in
theorem gX8_days_X8_within : GoodIn wsX8_days (va_wsS RX8 78 yX8_within wsX8_within) := goodIn_app (goodIn_of _ (by decide +kernel)) ggX8_days_X8_within
set_option maxRecDepth 20000 in
theorem ggX8_days_X8_finding : GoodIn wsX8_days wsX8_finding := goodIn_r _ [13, 14, 1, 65, 66, 67, 68, 69, 70, 71, 72, 73, 74, 75, 76, 77, 78, 79, 80, 81, 82, 83, 84, 85, 86, 87, 88, 89, 90, 91, 92, 93] (by decide +kernel) (by decide +kernel)
set_option maxRecDepth 20000 in
theorem gX8_days_X8_finding : GoodIn wsX8_days (wsV RX8 90 RX8 yX8_finding wsX8_finding) := goodIn_app (goodIn_of _ (by decide +kernel)) ggX8_days_X8_finding
set_option maxRecDepth 20000 in
theorem ggX8_days_X8_drawn : GoodIn wsX8_days wsX8_drawn := goodIn_r _ [18, 2, 19, 65, 66, 67, 68, 69, 70, 71, 72, 73, 74, 75, 76, 77, 78, 79, 80, 81, 82, 83, 84, 85, 86, 87, 88, 89, 90, 91, 92, 93] (by decide +kernel) (by decide +kernel)
set_option maxRecDepth 20000 in
theorem gX8_days_X8_drawn : GoodIn wsX8_days (wsV RX8 253 RX8 yX8_drawn wsX8_drawn) := goodIn_app (goodIn_of _ (by decide +kernel)) ggX8_days_X8_drawn
set_option maxRecDepth 20000 in
theorem ggX8_days_X8_hoursGo : GoodIn wsX8_days wsX8_hoursGo := goodIn_r _ [23, 2, 24, 25, 26, 8, 27, 28, 29, 30, 31, 32, 33, 34, 35, 36, 37, 38, 39, 40, 41, 42, 43, 44, 45, 46, 47, 48, 49, 50, 51, 52, 53, 54, 55, 56, 57, 58, 59, 60, 61, 62, 63, 64, 65, 66, 67, 68, 69, 70, 71, 72, 73, 74, 75, 76, 77, 78, 79, 80, 81, 82, 83, 84, 85, 86, 87, 88, 89, 90, 91, 92, 93] (by decide +kernel) (by decide +kernel)
set_option maxRecDepth 20000 in
theorem gX8_days_X8_hoursGo : GoodIn wsX8_days (wsV RX8 160 RX8 yX8_hoursGo wsX8_hoursGo) := goodIn_app (goodIn_of _ (by decide +kernel)) ggX8_days_X8_hoursGo
theorem dX8_days_0 : decode cX8_days 0 = .ok (.iload_n 1, 1) := by decide +kernel
theorem dX8_days_1 : decode cX8_days 1 = .ok (.iconst 1, 1) := by decide +kernel
theorem dX8_days_2 : decode cX8_days 2 = .ok (.bipush 20, 2) := by decide +kernel
theorem dX8_days_4 : decode cX8_days 4 = .ok (.invokestatic 78, 3) := by decide +kernel
theorem dX8_days_7 : decode cX8_days 7 = .ok (.ifCond .ne 10, 3) := by decide +kernel
theorem dX8_days_10 : decode cX8_days 10 = .ok (.aload_n 0, 1) := by decide +kernel
theorem dX8_days_11 : decode cX8_days 11 = .ok (.ldc 73, 2) := by decide +kernel
theorem dX8_days_13 : decode cX8_days 13 = .ok (.invokevirtual 90, 3) := by decide +kernel
theorem dX8_days_16 : decode cX8_days 16 = .ok (.ireturn, 1) := by decide +kernel
theorem dX8_days_17 : decode cX8_days 17 = .ok (.aload_n 0, 1) := by decide +kernel
theorem dX8_days_18 : decode cX8_days 18 = .ok (.getfield 9, 3) := by decide +kernel
theorem dX8_days_21 : decode cX8_days 21 = .ok (.iconst 1, 1) := by decide +kernel
theorem dX8_days_22 : decode cX8_days 22 = .ok (.iaload, 1) := by decide +kernel
theorem dX8_days_23 : decode cX8_days 23 = .ok (.ldc 252, 2) := by decide +kernel
theorem dX8_days_25 : decode cX8_days 25 = .ok (.if_icmp .gt 14, 3) := by decide +kernel
theorem dX8_days_28 : decode cX8_days 28 = .ok (.aload_n 0, 1) := by decide +kernel
theorem dX8_days_29 : decode cX8_days 29 = .ok (.getfield 9, 3) := by decide +kernel
theorem dX8_days_32 : decode cX8_days 32 = .ok (.iconst 2, 1) := by decide +kernel
theorem dX8_days_33 : decode cX8_days 33 = .ok (.iaload, 1) := by decide +kernel
theorem dX8_days_34 : decode cX8_days 34 = .ok (.ldc 252, 2) := by decide +kernel
theorem dX8_days_36 : decode cX8_days 36 = .ok (.if_icmp .le 10, 3) := by decide +kernel
theorem dX8_days_39 : decode cX8_days 39 = .ok (.aload_n 0, 1) := by decide +kernel
theorem dX8_days_40 : decode cX8_days 40 = .ok (.ldc 159, 2) := by decide +kernel
theorem dX8_days_42 : decode cX8_days 42 = .ok (.invokevirtual 90, 3) := by decide +kernel
theorem dX8_days_45 : decode cX8_days 45 = .ok (.ireturn, 1) := by decide +kernel
theorem dX8_days_46 : decode cX8_days 46 = .ok (.iconst 0, 1) := by decide +kernel
theorem dX8_days_47 : decode cX8_days 47 = .ok (.istore_n 2, 1) := by decide +kernel
theorem dX8_days_48 : decode cX8_days 48 = .ok (.iconst 0, 1) := by decide +kernel
theorem dX8_days_49 : decode cX8_days 49 = .ok (.istore_n 3, 1) := by decide +kernel
theorem dX8_days_50 : decode cX8_days 50 = .ok (.iload_n 3, 1) := by decide +kernel
theorem dX8_days_51 : decode cX8_days 51 = .ok (.iload_n 1, 1) := by decide +kernel
theorem dX8_days_52 : decode cX8_days 52 = .ok (.if_icmp .ge 36, 3) := by decide +kernel
theorem dX8_days_55 : decode cX8_days 55 = .ok (.aload_n 0, 1) := by decide +kernel
theorem dX8_days_56 : decode cX8_days 56 = .ok (.getfield 9, 3) := by decide +kernel
theorem dX8_days_59 : decode cX8_days 59 = .ok (.iconst 3, 1) := by decide +kernel
theorem dX8_days_60 : decode cX8_days 60 = .ok (.aload_n 0, 1) := by decide +kernel
theorem dX8_days_61 : decode cX8_days 61 = .ok (.invokevirtual 253, 3) := by decide +kernel
theorem dX8_days_64 : decode cX8_days 64 = .ok (.ldc 72, 2) := by decide +kernel
theorem dX8_days_66 : decode cX8_days 66 = .ok (.iand, 1) := by decide +kernel
theorem dX8_days_67 : decode cX8_days 67 = .ok (.iastore, 1) := by decide +kernel
theorem dX8_days_68 : decode cX8_days 68 = .ok (.aload_n 0, 1) := by decide +kernel
theorem dX8_days_69 : decode cX8_days 69 = .ok (.getfield 9, 3) := by decide +kernel
theorem dX8_days_72 : decode cX8_days 72 = .ok (.iconst 0, 1) := by decide +kernel
theorem dX8_days_73 : decode cX8_days 73 = .ok (.iconst 0, 1) := by decide +kernel
theorem dX8_days_74 : decode cX8_days 74 = .ok (.iastore, 1) := by decide +kernel
theorem dX8_days_75 : decode cX8_days 75 = .ok (.aload_n 0, 1) := by decide +kernel
theorem dX8_days_76 : decode cX8_days 76 = .ok (.bipush 16, 2) := by decide +kernel
theorem dX8_days_78 : decode cX8_days 78 = .ok (.invokevirtual 160, 3) := by decide +kernel
theorem dX8_days_81 : decode cX8_days 81 = .ok (.istore_n 2, 1) := by decide +kernel
theorem dX8_days_82 : decode cX8_days 82 = .ok (.iinc 3 1, 3) := by decide +kernel
theorem dX8_days_85 : decode cX8_days 85 = .ok (.goto (-35), 3) := by decide +kernel
theorem dX8_days_88 : decode cX8_days 88 = .ok (.iload_n 2, 1) := by decide +kernel
theorem dX8_days_89 : decode cX8_days 89 = .ok (.ireturn, 1) := by decide +kernel
set_option maxRecDepth 20000 in
theorem ggX8_seed_X8_become : GoodIn wsX8_seed wsX8_become := goodIn_r _ [5, 6, 7, 8, 9, 10, 11, 12, 13, 14, 15, 16, 17, 18, 19, 20, 21, 22, 23, 24, 25, 26, 27, 28, 29, 30, 31, 32, 33, 34, 35] (by decide +kernel) (by decide +kernel)
set_option maxRecDepth 20000 in
theorem gX8_seed_X8_become : GoodIn wsX8_seed (wsV RX8 140 RX8 yX8_become wsX8_become) := goodIn_app (goodIn_of _ (by decide +kernel)) ggX8_seed_X8_become
theorem dX8_seed_0 : decode cX8_seed 0 = .ok (.aload_n 0, 1) := by decide +kernel
theorem dX8_seed_1 : decode cX8_seed 1 = .ok (.iconst 5, 1) := by decide +kernel
theorem dX8_seed_2 : decode cX8_seed 2 = .ok (.iload_n 1, 1) := by decide +kernel
theorem dX8_seed_3 : decode cX8_seed 3 = .ok (.invokevirtual 140, 3) := by decide +kernel
theorem dX8_seed_6 : decode cX8_seed 6 = .ok (.ireturn, 1) := by decide +kernel
set_option maxRecDepth 20000 in
theorem ggX8_feed_X8_within : GoodIn wsX8_feed wsX8_within := goodIn_r _ [8] (by decide +kernel) (by decide +kernel)
set_option maxRecDepth 20000 in
theorem gX8_feed_X8_within : GoodIn wsX8_feed (va_wsS RX8 78 yX8_within wsX8_within) := goodIn_app (goodIn_of _ (by decide +kernel)) ggX8_feed_X8_within
set_option maxRecDepth 20000 in
theorem ggX8_feed_X8_finding : GoodIn wsX8_feed wsX8_finding := goodIn_r _ [12, 13, 1, 14, 15, 16, 17, 18, 19, 20, 21, 22, 23, 24, 25, 26, 27, 28, 29, 30, 31, 32, 33, 34, 35, 36, 37, 38, 39, 40, 41, 42] (by decide +kernel) (by decide +kernel)
set_option maxRecDepth 20000 in
theorem gX8_feed_X8_finding : GoodIn wsX8_feed (wsV RX8 90 RX8 yX8_finding wsX8_finding) := goodIn_app (goodIn_of _ (by decide +kernel)) ggX8_feed_X8_finding
theorem dX8_feed_0 : decode cX8_feed 0 = .ok (.iload_n 2, 1) := by decide +kernel
theorem dX8_feed_1 : decode cX8_feed 1 = .ok (.iconst 1, 1) := by decide +kernel
theorem dX8_feed_2 : decode cX8_feed 2 = .ok (.iconst 4, 1) := by decide +kernel
theorem dX8_feed_3 : decode cX8_feed 3 = .ok (.invokestatic 78, 3) := by decide +kernel
theorem dX8_feed_6 : decode cX8_feed 6 = .ok (.ifCond .ne 10, 3) := by decide +kernel
theorem dX8_feed_9 : decode cX8_feed 9 = .ok (.aload_n 0, 1) := by decide +kernel
theorem dX8_feed_10 : decode cX8_feed 10 = .ok (.ldc 73, 2) := by decide +kernel
theorem dX8_feed_12 : decode cX8_feed 12 = .ok (.invokevirtual 90, 3) := by decide +kernel
theorem dX8_feed_15 : decode cX8_feed 15 = .ok (.ireturn, 1) := by decide +kernel
theorem dX8_feed_16 : decode cX8_feed 16 = .ok (.aload_n 0, 1) := by decide +kernel
theorem dX8_feed_17 : decode cX8_feed 17 = .ok (.getfield 256, 3) := by decide +kernel
theorem dX8_feed_20 : decode cX8_feed 20 = .ok (.iload_n 2, 1) := by decide +kernel
theorem dX8_feed_21 : decode cX8_feed 21 = .ok (.iadd, 1) := by decide +kernel
theorem dX8_feed_22 : decode cX8_feed 22 = .ok (.bipush 120, 2) := by decide +kernel
theorem dX8_feed_24 : decode cX8_feed 24 = .ok (.if_icmp .le 10, 3) := by decide +kernel
theorem dX8_feed_27 : decode cX8_feed 27 = .ok (.aload_n 0, 1) := by decide +kernel
theorem dX8_feed_28 : decode cX8_feed 28 = .ok (.ldc 94, 2) := by decide +kernel
theorem dX8_feed_30 : decode cX8_feed 30 = .ok (.invokevirtual 90, 3) := by decide +kernel
theorem dX8_feed_33 : decode cX8_feed 33 = .ok (.ireturn, 1) := by decide +kernel
theorem dX8_feed_34 : decode cX8_feed 34 = .ok (.iload_n 2, 1) := by decide +kernel
theorem dX8_feed_35 : decode cX8_feed 35 = .ok (.iconst 1, 1) := by decide +kernel
theorem dX8_feed_36 : decode cX8_feed 36 = .ok (.isub, 1) := by decide +kernel
theorem dX8_feed_37 : decode cX8_feed 37 = .ok (.istore_n 3, 1) := by decide +kernel
theorem dX8_feed_38 : decode cX8_feed 38 = .ok (.iload_n 3, 1) := by decide +kernel
theorem dX8_feed_39 : decode cX8_feed 39 = .ok (.ifCond .lt 38, 3) := by decide +kernel
theorem dX8_feed_42 : decode cX8_feed 42 = .ok (.aload_n 0, 1) := by decide +kernel
theorem dX8_feed_43 : decode cX8_feed 43 = .ok (.getfield 34, 3) := by decide +kernel
theorem dX8_feed_46 : decode cX8_feed 46 = .ok (.aload_n 0, 1) := by decide +kernel
theorem dX8_feed_47 : decode cX8_feed 47 = .ok (.getfield 256, 3) := by decide +kernel
theorem dX8_feed_50 : decode cX8_feed 50 = .ok (.iload_n 1, 1) := by decide +kernel
theorem dX8_feed_51 : decode cX8_feed 51 = .ok (.bipush 8, 2) := by decide +kernel
theorem dX8_feed_53 : decode cX8_feed 53 = .ok (.iload_n 3, 1) := by decide +kernel
theorem dX8_feed_54 : decode cX8_feed 54 = .ok (.imul, 1) := by decide +kernel
theorem dX8_feed_55 : decode cX8_feed 55 = .ok (.ishr, 1) := by decide +kernel
theorem dX8_feed_56 : decode cX8_feed 56 = .ok (.sipush 255, 3) := by decide +kernel
theorem dX8_feed_59 : decode cX8_feed 59 = .ok (.iand, 1) := by decide +kernel
theorem dX8_feed_60 : decode cX8_feed 60 = .ok (.iastore, 1) := by decide +kernel
theorem dX8_feed_61 : decode cX8_feed 61 = .ok (.aload_n 0, 1) := by decide +kernel
theorem dX8_feed_62 : decode cX8_feed 62 = .ok (.dup, 1) := by decide +kernel
theorem dX8_feed_63 : decode cX8_feed 63 = .ok (.getfield 256, 3) := by decide +kernel
theorem dX8_feed_66 : decode cX8_feed 66 = .ok (.iconst 1, 1) := by decide +kernel
theorem dX8_feed_67 : decode cX8_feed 67 = .ok (.iadd, 1) := by decide +kernel
theorem dX8_feed_68 : decode cX8_feed 68 = .ok (.putfield 256, 3) := by decide +kernel
theorem dX8_feed_71 : decode cX8_feed 71 = .ok (.iinc 3 (-1), 3) := by decide +kernel
theorem dX8_feed_74 : decode cX8_feed 74 = .ok (.goto (-36), 3) := by decide +kernel
theorem dX8_feed_77 : decode cX8_feed 77 = .ok (.aload_n 0, 1) := by decide +kernel
theorem dX8_feed_78 : decode cX8_feed 78 = .ok (.getfield 256, 3) := by decide +kernel
theorem dX8_feed_81 : decode cX8_feed 81 = .ok (.ireturn, 1) := by decide +kernel
theorem dX8_wipe_0 : decode cX8_wipe 0 = .ok (.aload_n 0, 1) := by decide +kernel
theorem dX8_wipe_1 : decode cX8_wipe 1 = .ok (.getfield 256, 3) := by decide +kernel
theorem dX8_wipe_4 : decode cX8_wipe 4 = .ok (.istore_n 1, 1) := by decide +kernel
theorem dX8_wipe_5 : decode cX8_wipe 5 = .ok (.aload_n 0, 1) := by decide +kernel
theorem dX8_wipe_6 : decode cX8_wipe 6 = .ok (.iconst 0, 1) := by decide +kernel
theorem dX8_wipe_7 : decode cX8_wipe 7 = .ok (.putfield 256, 3) := by decide +kernel
theorem dX8_wipe_10 : decode cX8_wipe 10 = .ok (.iload_n 1, 1) := by decide +kernel
theorem dX8_wipe_11 : decode cX8_wipe 11 = .ok (.ireturn, 1) := by decide +kernel
theorem dX8_byteAt_0 : decode cX8_byteAt 0 = .ok (.iload_n 1, 1) := by decide +kernel
theorem dX8_byteAt_1 : decode cX8_byteAt 1 = .ok (.aload_n 0, 1) := by decide +kernel
theorem dX8_byteAt_2 : decode cX8_byteAt 2 = .ok (.getfield 256, 3) := by decide +kernel
theorem dX8_byteAt_5 : decode cX8_byteAt 5 = .ok (.if_icmp .ge 12, 3) := by decide +kernel
theorem dX8_byteAt_8 : decode cX8_byteAt 8 = .ok (.aload_n 0, 1) := by decide +kernel
theorem dX8_byteAt_9 : decode cX8_byteAt 9 = .ok (.getfield 34, 3) := by decide +kernel
theorem dX8_byteAt_12 : decode cX8_byteAt 12 = .ok (.iload_n 1, 1) := by decide +kernel
theorem dX8_byteAt_13 : decode cX8_byteAt 13 = .ok (.iaload, 1) := by decide +kernel
theorem dX8_byteAt_14 : decode cX8_byteAt 14 = .ok (.goto 4, 3) := by decide +kernel
theorem dX8_byteAt_17 : decode cX8_byteAt 17 = .ok (.iconst (-1), 1) := by decide +kernel
theorem dX8_byteAt_18 : decode cX8_byteAt 18 = .ok (.ireturn, 1) := by decide +kernel
set_option maxRecDepth 20000 in
theorem ggX8_next_X8_byteAt : GoodIn wsX8_next wsX8_byteAt := goodIn_r _ [14, 15, 16, 20, 21, 22, 23, 24, 25, 26, 27, 28, 29, 30, 31, 32, 33, 34, 35, 36, 37, 38, 39, 40, 41, 42, 43, 44, 45, 46, 47, 48] (by decide +kernel) (by decide +kernel)
set_option maxRecDepth 20000 in
theorem gX8_next_X8_byteAt : GoodIn wsX8_next (wsV RX8 265 RX8 yX8_byteAt wsX8_byteAt) := goodIn_app (goodIn_of _ (by decide +kernel)) ggX8_next_X8_byteAt
set_option maxRecDepth 20000 in
theorem ggX8_next_X8_within : GoodIn wsX8_next wsX8_within := goodIn_r _ [19] (by decide +kernel) (by decide +kernel)
set_option maxRecDepth 20000 in
theorem gX8_next_X8_within : GoodIn wsX8_next (va_wsS RX8 78 yX8_within wsX8_within) := goodIn_app (goodIn_of _ (by decide +kernel)) ggX8_next_X8_within
theorem dX8_next_0 : decode cX8_next 0 = .ok (.aload_n 0, 1) := by decide +kernel
theorem dX8_next_1 : decode cX8_next 1 = .ok (.aload_n 0, 1) := by decide +kernel
theorem dX8_next_2 : decode cX8_next 2 = .ok (.getfield 259, 3) := by decide +kernel
theorem dX8_next_5 : decode cX8_next 5 = .ok (.putfield 262, 3) := by decide +kernel
theorem dX8_next_8 : decode cX8_next 8 = .ok (.aload_n 0, 1) := by decide +kernel
theorem dX8_next_9 : decode cX8_next 9 = .ok (.aload_n 0, 1) := by decide +kernel
theorem dX8_next_10 : decode cX8_next 10 = .ok (.getfield 262, 3) := by decide +kernel
theorem dX8_next_13 : decode cX8_next 13 = .ok (.invokevirtual 265, 3) := by decide +kernel
theorem dX8_next_16 : decode cX8_next 16 = .ok (.bipush 32, 2) := by decide +kernel
theorem dX8_next_18 : decode cX8_next 18 = .ok (.if_icmp .ne 16, 3) := by decide +kernel
theorem dX8_next_21 : decode cX8_next 21 = .ok (.aload_n 0, 1) := by decide +kernel
theorem dX8_next_22 : decode cX8_next 22 = .ok (.dup, 1) := by decide +kernel
theorem dX8_next_23 : decode cX8_next 23 = .ok (.getfield 262, 3) := by decide +kernel
theorem dX8_next_26 : decode cX8_next 26 = .ok (.iconst 1, 1) := by decide +kernel
theorem dX8_next_27 : decode cX8_next 27 = .ok (.iadd, 1) := by decide +kernel
theorem dX8_next_28 : decode cX8_next 28 = .ok (.putfield 262, 3) := by decide +kernel
theorem dX8_next_31 : decode cX8_next 31 = .ok (.goto (-23), 3) := by decide +kernel
theorem dX8_next_34 : decode cX8_next 34 = .ok (.aload_n 0, 1) := by decide +kernel
theorem dX8_next_35 : decode cX8_next 35 = .ok (.aload_n 0, 1) := by decide +kernel
theorem dX8_next_36 : decode cX8_next 36 = .ok (.getfield 262, 3) := by decide +kernel
theorem dX8_next_39 : decode cX8_next 39 = .ok (.invokevirtual 265, 3) := by decide +kernel
theorem dX8_next_42 : decode cX8_next 42 = .ok (.istore_n 1, 1) := by decide +kernel
theorem dX8_next_43 : decode cX8_next 43 = .ok (.aload_n 0, 1) := by decide +kernel
theorem dX8_next_44 : decode cX8_next 44 = .ok (.aload_n 0, 1) := by decide +kernel
theorem dX8_next_45 : decode cX8_next 45 = .ok (.getfield 262, 3) := by decide +kernel
theorem dX8_next_48 : decode cX8_next 48 = .ok (.putfield 259, 3) := by decide +kernel
theorem dX8_next_51 : decode cX8_next 51 = .ok (.aload_n 0, 1) := by decide +kernel
theorem dX8_next_52 : decode cX8_next 52 = .ok (.iconst 0, 1) := by decide +kernel
theorem dX8_next_53 : decode cX8_next 53 = .ok (.putfield 268, 3) := by decide +kernel
theorem dX8_next_56 : decode cX8_next 56 = .ok (.iload_n 1, 1) := by decide +kernel
theorem dX8_next_57 : decode cX8_next 57 = .ok (.ifCond .ge 11, 3) := by decide +kernel
theorem dX8_next_60 : decode cX8_next 60 = .ok (.aload_n 0, 1) := by decide +kernel
theorem dX8_next_61 : decode cX8_next 61 = .ok (.iconst 0, 1) := by decide +kernel
theorem dX8_next_62 : decode cX8_next 62 = .ok (.putfield 271, 3) := by decide +kernel
theorem dX8_next_65 : decode cX8_next 65 = .ok (.goto 141, 3) := by decide +kernel
theorem dX8_next_68 : decode cX8_next 68 = .ok (.iload_n 1, 1) := by decide +kernel
theorem dX8_next_69 : decode cX8_next 69 = .ok (.bipush 97, 2) := by decide +kernel
theorem dX8_next_71 : decode cX8_next 71 = .ok (.bipush 122, 2) := by decide +kernel
theorem dX8_next_73 : decode cX8_next 73 = .ok (.invokestatic 78, 3) := by decide +kernel
theorem dX8_next_76 : decode cX8_next 76 = .ok (.ifCond .eq 39, 3) := by decide +kernel
theorem dX8_next_79 : decode cX8_next 79 = .ok (.aload_n 0, 1) := by decide +kernel
theorem dX8_next_80 : decode cX8_next 80 = .ok (.iconst 1, 1) := by decide +kernel
theorem dX8_next_81 : decode cX8_next 81 = .ok (.putfield 271, 3) := by decide +kernel
theorem dX8_next_84 : decode cX8_next 84 = .ok (.aload_n 0, 1) := by decide +kernel
theorem dX8_next_85 : decode cX8_next 85 = .ok (.aload_n 0, 1) := by decide +kernel
theorem dX8_next_86 : decode cX8_next 86 = .ok (.getfield 259, 3) := by decide +kernel
theorem dX8_next_89 : decode cX8_next 89 = .ok (.invokevirtual 265, 3) := by decide +kernel
theorem dX8_next_92 : decode cX8_next 92 = .ok (.bipush 97, 2) := by decide +kernel
theorem dX8_next_94 : decode cX8_next 94 = .ok (.bipush 122, 2) := by decide +kernel
theorem dX8_next_96 : decode cX8_next 96 = .ok (.invokestatic 78, 3) := by decide +kernel
theorem dX8_next_99 : decode cX8_next 99 = .ok (.ifCond .eq 107, 3) := by decide +kernel
theorem dX8_next_102 : decode cX8_next 102 = .ok (.aload_n 0, 1) := by decide +kernel
theorem dX8_next_103 : decode cX8_next 103 = .ok (.dup, 1) := by decide +kernel
theorem dX8_next_104 : decode cX8_next 104 = .ok (.getfield 259, 3) := by decide +kernel
theorem dX8_next_107 : decode cX8_next 107 = .ok (.iconst 1, 1) := by decide +kernel
theorem dX8_next_108 : decode cX8_next 108 = .ok (.iadd, 1) := by decide +kernel
theorem dX8_next_109 : decode cX8_next 109 = .ok (.putfield 259, 3) := by decide +kernel
theorem dX8_next_112 : decode cX8_next 112 = .ok (.goto (-28), 3) := by decide +kernel
theorem dX8_next_115 : decode cX8_next 115 = .ok (.iload_n 1, 1) := by decide +kernel
theorem dX8_next_116 : decode cX8_next 116 = .ok (.bipush 48, 2) := by decide +kernel
theorem dX8_next_118 : decode cX8_next 118 = .ok (.bipush 57, 2) := by decide +kernel
theorem dX8_next_120 : decode cX8_next 120 = .ok (.invokestatic 78, 3) := by decide +kernel
theorem dX8_next_123 : decode cX8_next 123 = .ok (.ifCond .eq 68, 3) := by decide +kernel
theorem dX8_next_126 : decode cX8_next 126 = .ok (.aload_n 0, 1) := by decide +kernel
theorem dX8_next_127 : decode cX8_next 127 = .ok (.iconst 2, 1) := by decide +kernel
theorem dX8_next_128 : decode cX8_next 128 = .ok (.putfield 271, 3) := by decide +kernel
theorem dX8_next_131 : decode cX8_next 131 = .ok (.aload_n 0, 1) := by decide +kernel
theorem dX8_next_132 : decode cX8_next 132 = .ok (.aload_n 0, 1) := by decide +kernel
theorem dX8_next_133 : decode cX8_next 133 = .ok (.getfield 259, 3) := by decide +kernel
theorem dX8_next_136 : decode cX8_next 136 = .ok (.invokevirtual 265, 3) := by decide +kernel
theorem dX8_next_139 : decode cX8_next 139 = .ok (.bipush 48, 2) := by decide +kernel
theorem dX8_next_141 : decode cX8_next 141 = .ok (.bipush 57, 2) := by decide +kernel
theorem dX8_next_143 : decode cX8_next 143 = .ok (.invokestatic 78, 3) := by decide +kernel
theorem dX8_next_146 : decode cX8_next 146 = .ok (.ifCond .eq 60, 3) := by decide +kernel
theorem dX8_next_149 : decode cX8_next 149 = .ok (.aload_n 0, 1) := by decide +kernel
theorem dX8_next_150 : decode cX8_next 150 = .ok (.ldc_w 274, 3) := by decide +kernel
theorem dX8_next_153 : decode cX8_next 153 = .ok (.bipush 10, 2) := by decide +kernel
theorem dX8_next_155 : decode cX8_next 155 = .ok (.aload_n 0, 1) := by decide +kernel
theorem dX8_next_156 : decode cX8_next 156 = .ok (.getfield 268, 3) := by decide +kernel
theorem dX8_next_159 : decode cX8_next 159 = .ok (.imul, 1) := by decide +kernel
theorem dX8_next_160 : decode cX8_next 160 = .ok (.aload_n 0, 1) := by decide +kernel
theorem dX8_next_161 : decode cX8_next 161 = .ok (.aload_n 0, 1) := by decide +kernel
theorem dX8_next_162 : decode cX8_next 162 = .ok (.getfield 259, 3) := by decide +kernel
theorem dX8_next_165 : decode cX8_next 165 = .ok (.invokevirtual 265, 3) := by decide +kernel
theorem dX8_next_168 : decode cX8_next 168 = .ok (.iadd, 1) := by decide +kernel
theorem dX8_next_169 : decode cX8_next 169 = .ok (.bipush 48, 2) := by decide +kernel
theorem dX8_next_171 : decode cX8_next 171 = .ok (.isub, 1) := by decide +kernel
theorem dX8_next_172 : decode cX8_next 172 = .ok (.invokestatic 105, 3) := by decide +kernel
theorem dX8_next_175 : decode cX8_next 175 = .ok (.putfield 268, 3) := by decide +kernel
theorem dX8_next_178 : decode cX8_next 178 = .ok (.aload_n 0, 1) := by decide +kernel
theorem dX8_next_179 : decode cX8_next 179 = .ok (.dup, 1) := by decide +kernel
theorem dX8_next_180 : decode cX8_next 180 = .ok (.getfield 259, 3) := by decide +kernel
theorem dX8_next_183 : decode cX8_next 183 = .ok (.iconst 1, 1) := by decide +kernel
theorem dX8_next_184 : decode cX8_next 184 = .ok (.iadd, 1) := by decide +kernel
theorem dX8_next_185 : decode cX8_next 185 = .ok (.putfield 259, 3) := by decide +kernel
theorem dX8_next_188 : decode cX8_next 188 = .ok (.goto (-57), 3) := by decide +kernel
theorem dX8_next_191 : decode cX8_next 191 = .ok (.aload_n 0, 1) := by decide +kernel
theorem dX8_next_192 : decode cX8_next 192 = .ok (.iconst 3, 1) := by decide +kernel
theorem dX8_next_193 : decode cX8_next 193 = .ok (.putfield 271, 3) := by decide +kernel
theorem dX8_next_196 : decode cX8_next 196 = .ok (.aload_n 0, 1) := by decide +kernel
theorem dX8_next_197 : decode cX8_next 197 = .ok (.dup, 1) := by decide +kernel
theorem dX8_next_198 : decode cX8_next 198 = .ok (.getfield 259, 3) := by decide +kernel
theorem dX8_next_201 : decode cX8_next 201 = .ok (.iconst 1, 1) := by decide +kernel
theorem dX8_next_202 : decode cX8_next 202 = .ok (.iadd, 1) := by decide +kernel
theorem dX8_next_203 : decode cX8_next 203 = .ok (.putfield 259, 3) := by decide +kernel
theorem dX8_next_206 : decode cX8_next 206 = .ok (.return_, 1) := by decide +kernel
set_option maxRecDepth 20000 in
theorem ggX8_isWord_J0_length_8abf5 : GoodIn wsX8_isWord wsJ0_length_8abf5 := goodIn_r _ [9, 10, 11, 12, 13, 8, 14, 15, 16] (by decide +kernel) (by decide +kernel)
set_option maxRecDepth 20000 in
theorem gX8_isWord_J0_length_8abf5 : GoodIn wsX8_isWord (wsV RX8 275 RJ0 yJ0_length_8abf5 wsJ0_length_8abf5) := goodIn_app (goodIn_of _ (by decide +kernel)) ggX8_isWord_J0_length_8abf5
set_option maxRecDepth 20000 in
theorem ggX8_isWord_J0_charAt_5068e : GoodIn wsX8_isWord wsJ0_charAt_5068e := goodIn_r _ [20, 10, 21, 22, 23, 8, 24, 15, 16, 25, 26, 27, 28, 29, 30, 31, 32, 33, 34, 35, 36, 37, 38, 39, 40, 41, 42, 43, 44, 45, 46, 47, 48, 49, 50, 51, 52, 53] (by decide +kernel) (by decide +kernel)
set_option maxRecDepth 20000 in
theorem gX8_isWord_J0_charAt_5068e : GoodIn wsX8_isWord (wsV RX8 278 RJ0 yJ0_charAt_5068e wsJ0_charAt_5068e) := goodIn_app (goodIn_of _ (by decide +kernel)) ggX8_isWord_J0_charAt_5068e
theorem dX8_isWord_0 : decode cX8_isWord 0 = .ok (.aload_n 0, 1) := by decide +kernel
theorem dX8_isWord_1 : decode cX8_isWord 1 = .ok (.getfield 271, 3) := by decide +kernel
theorem dX8_isWord_4 : decode cX8_isWord 4 = .ok (.iconst 1, 1) := by decide +kernel
theorem dX8_isWord_5 : decode cX8_isWord 5 = .ok (.if_icmp .ne 23, 3) := by decide +kernel
theorem dX8_isWord_8 : decode cX8_isWord 8 = .ok (.aload_n 0, 1) := by decide +kernel
theorem dX8_isWord_9 : decode cX8_isWord 9 = .ok (.getfield 259, 3) := by decide +kernel
theorem dX8_isWord_12 : decode cX8_isWord 12 = .ok (.aload_n 0, 1) := by decide +kernel
theorem dX8_isWord_13 : decode cX8_isWord 13 = .ok (.getfield 262, 3) := by decide +kernel
theorem dX8_isWord_16 : decode cX8_isWord 16 = .ok (.isub, 1) := by decide +kernel
theorem dX8_isWord_17 : decode cX8_isWord 17 = .ok (.aload_n 1, 1) := by decide +kernel
theorem dX8_isWord_18 : decode cX8_isWord 18 = .ok (.invokevirtual 275, 3) := by decide +kernel
theorem dX8_isWord_21 : decode cX8_isWord 21 = .ok (.if_icmp .ne 7, 3) := by decide +kernel
theorem dX8_isWord_24 : decode cX8_isWord 24 = .ok (.iconst 1, 1) := by decide +kernel
theorem dX8_isWord_25 : decode cX8_isWord 25 = .ok (.goto 4, 3) := by decide +kernel
theorem dX8_isWord_28 : decode cX8_isWord 28 = .ok (.iconst 0, 1) := by decide +kernel
theorem dX8_isWord_29 : decode cX8_isWord 29 = .ok (.istore_n 2, 1) := by decide +kernel
theorem dX8_isWord_30 : decode cX8_isWord 30 = .ok (.iconst 0, 1) := by decide +kernel
theorem dX8_isWord_31 : decode cX8_isWord 31 = .ok (.istore_n 3, 1) := by decide +kernel
theorem dX8_isWord_32 : decode cX8_isWord 32 = .ok (.iload_n 3, 1) := by decide +kernel
theorem dX8_isWord_33 : decode cX8_isWord 33 = .ok (.aload_n 1, 1) := by decide +kernel
theorem dX8_isWord_34 : decode cX8_isWord 34 = .ok (.invokevirtual 275, 3) := by decide +kernel
theorem dX8_isWord_37 : decode cX8_isWord 37 = .ok (.if_icmp .ge 38, 3) := by decide +kernel
theorem dX8_isWord_40 : decode cX8_isWord 40 = .ok (.iload_n 2, 1) := by decide +kernel
theorem dX8_isWord_41 : decode cX8_isWord 41 = .ok (.ifCond .eq 34, 3) := by decide +kernel
theorem dX8_isWord_44 : decode cX8_isWord 44 = .ok (.aload_n 0, 1) := by decide +kernel
theorem dX8_isWord_45 : decode cX8_isWord 45 = .ok (.getfield 34, 3) := by decide +kernel
theorem dX8_isWord_48 : decode cX8_isWord 48 = .ok (.aload_n 0, 1) := by decide +kernel
theorem dX8_isWord_49 : decode cX8_isWord 49 = .ok (.getfield 262, 3) := by decide +kernel
theorem dX8_isWord_52 : decode cX8_isWord 52 = .ok (.iload_n 3, 1) := by decide +kernel
theorem dX8_isWord_53 : decode cX8_isWord 53 = .ok (.iadd, 1) := by decide +kernel
theorem dX8_isWord_54 : decode cX8_isWord 54 = .ok (.iaload, 1) := by decide +kernel
theorem dX8_isWord_55 : decode cX8_isWord 55 = .ok (.aload_n 1, 1) := by decide +kernel
theorem dX8_isWord_56 : decode cX8_isWord 56 = .ok (.iload_n 3, 1) := by decide +kernel
theorem dX8_isWord_57 : decode cX8_isWord 57 = .ok (.invokevirtual 278, 3) := by decide +kernel
theorem dX8_isWord_60 : decode cX8_isWord 60 = .ok (.if_icmp .ne 7, 3) := by decide +kernel
theorem dX8_isWord_63 : decode cX8_isWord 63 = .ok (.iconst 1, 1) := by decide +kernel
theorem dX8_isWord_64 : decode cX8_isWord 64 = .ok (.goto 4, 3) := by decide +kernel
theorem dX8_isWord_67 : decode cX8_isWord 67 = .ok (.iconst 0, 1) := by decide +kernel
theorem dX8_isWord_68 : decode cX8_isWord 68 = .ok (.istore_n 2, 1) := by decide +kernel
theorem dX8_isWord_69 : decode cX8_isWord 69 = .ok (.iinc 3 1, 3) := by decide +kernel
theorem dX8_isWord_72 : decode cX8_isWord 72 = .ok (.goto (-40), 3) := by decide +kernel
theorem dX8_isWord_75 : decode cX8_isWord 75 = .ok (.iload_n 2, 1) := by decide +kernel
