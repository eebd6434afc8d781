theorem dX3_readShare_56 : decode cX3_readShare 56 = .ok (.isub, 1) := by decide +kernel
theorem dX3_readShare_57 : decode cX3_readShare 57 = .ok (.invokevirtual 115, 3) := by decide +kernel
theorem dX3_readShare_60 : decode cX3_readShare 60 = .ok (.ifCond .ne 5, 3) := by decide +kernel
theorem dX3_readShare_63 : decode cX3_readShare 63 = .ok (.iconst 0, 1) := by decide +kernel
theorem dX3_readShare_64 : decode cX3_readShare 64 = .ok (.ireturn, 1) := by decide +kernel
theorem dX3_readShare_65 : decode cX3_readShare 65 = .ok (.aload_n 0, 1) := by decide +kernel
theorem dX3_readShare_66 : decode cX3_readShare 66 = .ok (.getfield 21, 3) := by decide +kernel
theorem dX3_readShare_69 : decode cX3_readShare 69 = .ok (.iload_n 1, 1) := by decide +kernel
theorem dX3_readShare_70 : decode cX3_readShare 70 = .ok (.iload_n 2, 1) := by decide +kernel
theorem dX3_readShare_71 : decode cX3_readShare 71 = .ok (.invokevirtual 152, 3) := by decide +kernel
theorem dX3_readShare_74 : decode cX3_readShare 74 = .ok (.iconst 1, 1) := by decide +kernel
theorem dX3_readShare_75 : decode cX3_readShare 75 = .ok (.ireturn, 1) := by decide +kernel
theorem dX3_step_0 : decode cX3_step 0 = .ok (.aload_n 0, 1) := by decide +kernel
theorem dX3_step_1 : decode cX3_step 1 = .ok (.getfield 42, 3) := by decide +kernel
theorem dX3_step_4 : decode cX3_step 4 = .ok (.aload_n 0, 1) := by decide +kernel
theorem dX3_step_5 : decode cX3_step 5 = .ok (.getfield 38, 3) := by decide +kernel
theorem dX3_step_8 : decode cX3_step 8 = .ok (.iconst 1, 1) := by decide +kernel
theorem dX3_step_9 : decode cX3_step 9 = .ok (.isub, 1) := by decide +kernel
theorem dX3_step_10 : decode cX3_step 10 = .ok (.if_icmp .ge 13, 3) := by decide +kernel
theorem dX3_step_13 : decode cX3_step 13 = .ok (.aload_n 0, 1) := by decide +kernel
theorem dX3_step_14 : decode cX3_step 14 = .ok (.dup, 1) := by decide +kernel
theorem dX3_step_15 : decode cX3_step 15 = .ok (.getfield 42, 3) := by decide +kernel
theorem dX3_step_18 : decode cX3_step 18 = .ok (.iconst 1, 1) := by decide +kernel
theorem dX3_step_19 : decode cX3_step 19 = .ok (.iadd, 1) := by decide +kernel
theorem dX3_step_20 : decode cX3_step 20 = .ok (.putfield 42, 3) := by decide +kernel
theorem dX3_step_23 : decode cX3_step 23 = .ok (.return_, 1) := by decide +kernel
theorem dX3_isNext_0 : decode cX3_isNext 0 = .ok (.aload_n 0, 1) := by decide +kernel
theorem dX3_isNext_1 : decode cX3_isNext 1 = .ok (.getfield 25, 3) := by decide +kernel
theorem dX3_isNext_4 : decode cX3_isNext 4 = .ok (.aload_n 0, 1) := by decide +kernel
theorem dX3_isNext_5 : decode cX3_isNext 5 = .ok (.getfield 42, 3) := by decide +kernel
theorem dX3_isNext_8 : decode cX3_isNext 8 = .ok (.iaload, 1) := by decide +kernel
theorem dX3_isNext_9 : decode cX3_isNext 9 = .ok (.iload_n 1, 1) := by decide +kernel
theorem dX3_isNext_10 : decode cX3_isNext 10 = .ok (.if_icmp .ne 7, 3) := by decide +kernel
theorem dX3_isNext_13 : decode cX3_isNext 13 = .ok (.iconst 1, 1) := by decide +kernel
theorem dX3_isNext_14 : decode cX3_isNext 14 = .ok (.goto 4, 3) := by decide +kernel
theorem dX3_isNext_17 : decode cX3_isNext 17 = .ok (.iconst 0, 1) := by decide +kernel
theorem dX3_isNext_18 : decode cX3_isNext 18 = .ok (.ireturn, 1) := by decide +kernel
set_option maxRecDepth 20000 in
theorem ggX3_takeNumber_X3_isNext : GoodIn wsX3_takeNumber wsX3_isNext := goodIn_r _ [7, 8, 2, 14, 15, 16, 17, 18, 19, 20, 21] (by decide +kernel) (by decide +kernel)
set_option maxRecDepth 20000 in
theorem gX3_takeNumber_X3_isNext : GoodIn wsX3_takeNumber (wsV RX3 56 RX3 yX3_isNext wsX3_isNext) := goodIn_app (goodIn_of _ (by decide +kernel)) ggX3_takeNumber_X3_isNext
set_option maxRecDepth 20000 in
theorem ggX3_takeNumber_X3_step : GoodIn wsX3_takeNumber wsX3_step := goodIn_r _ [12, 2, 13, 14, 15, 16, 17, 18, 19, 20, 21] (by decide +kernel) (by decide +kernel)
set_option maxRecDepth 20000 in
theorem gX3_takeNumber_X3_step : GoodIn wsX3_takeNumber (wsV RX3 60 RX3 yX3_step wsX3_step) := goodIn_app (goodIn_of _ (by decide +kernel)) ggX3_takeNumber_X3_step
theorem dX3_takeNumber_0 : decode cX3_takeNumber 0 = .ok (.aload_n 0, 1) := by decide +kernel
theorem dX3_takeNumber_1 : decode cX3_takeNumber 1 = .ok (.iconst 2, 1) := by decide +kernel
theorem dX3_takeNumber_2 : decode cX3_takeNumber 2 = .ok (.invokevirtual 56, 3) := by decide +kernel
theorem dX3_takeNumber_5 : decode cX3_takeNumber 5 = .ok (.ifCond .eq 16, 3) := by decide +kernel
theorem dX3_takeNumber_8 : decode cX3_takeNumber 8 = .ok (.aload_n 0, 1) := by decide +kernel
theorem dX3_takeNumber_9 : decode cX3_takeNumber 9 = .ok (.getfield 35, 3) := by decide +kernel
theorem dX3_takeNumber_12 : decode cX3_takeNumber 12 = .ok (.aload_n 0, 1) := by decide +kernel
theorem dX3_takeNumber_13 : decode cX3_takeNumber 13 = .ok (.getfield 42, 3) := by decide +kernel
theorem dX3_takeNumber_16 : decode cX3_takeNumber 16 = .ok (.iaload, 1) := by decide +kernel
theorem dX3_takeNumber_17 : decode cX3_takeNumber 17 = .ok (.iload_n 1, 1) := by decide +kernel
theorem dX3_takeNumber_18 : decode cX3_takeNumber 18 = .ok (.if_icmp .le 5, 3) := by decide +kernel
theorem dX3_takeNumber_21 : decode cX3_takeNumber 21 = .ok (.iconst 0, 1) := by decide +kernel
theorem dX3_takeNumber_22 : decode cX3_takeNumber 22 = .ok (.ireturn, 1) := by decide +kernel
theorem dX3_takeNumber_23 : decode cX3_takeNumber 23 = .ok (.aload_n 0, 1) := by decide +kernel
theorem dX3_takeNumber_24 : decode cX3_takeNumber 24 = .ok (.invokevirtual 60, 3) := by decide +kernel
theorem dX3_takeNumber_27 : decode cX3_takeNumber 27 = .ok (.iconst 1, 1) := by decide +kernel
theorem dX3_takeNumber_28 : decode cX3_takeNumber 28 = .ok (.ireturn, 1) := by decide +kernel
set_option maxRecDepth 20000 in
theorem ggX3_isWord_X3_isNext : GoodIn wsX3_isWord wsX3_isNext := goodIn_r _ [9, 10, 2, 67, 68, 69, 70, 71, 72, 73, 74] (by decide +kernel) (by decide +kernel)
set_option maxRecDepth 20000 in
theorem gX3_isWord_X3_isNext : GoodIn wsX3_isWord (wsV RX3 56 RX3 yX3_isNext wsX3_isNext) := goodIn_app (goodIn_of _ (by decide +kernel)) ggX3_isWord_X3_isNext
set_option maxRecDepth 20000 in
theorem ggX3_isWord_J0_length_8abf5 : GoodIn wsX3_isWord wsJ0_length_8abf5 := goodIn_r _ [15, 16, 17, 18, 19, 14, 20, 21, 22] (by decide +kernel) (by decide +kernel)
set_option maxRecDepth 20000 in
theorem gX3_isWord_J0_length_8abf5 : GoodIn wsX3_isWord (wsV RX3 155 RJ0 yJ0_length_8abf5 wsJ0_length_8abf5) := goodIn_app (goodIn_of _ (by decide +kernel)) ggX3_isWord_J0_length_8abf5
set_option maxRecDepth 20000 in
theorem ggX3_isWord_X6_byteAt : GoodIn wsX3_isWord wsX6_byteAt := goodIn_r _ [27, 28, 29, 75, 76] (by decide +kernel) (by decide +kernel)
set_option maxRecDepth 20000 in
theorem gX3_isWord_X6_byteAt : GoodIn wsX3_isWord (wsV RX3 66 RX6 yX6_byteAt wsX6_byteAt) := goodIn_app (goodIn_of _ (by decide +kernel)) ggX3_isWord_X6_byteAt
set_option maxRecDepth 20000 in
theorem ggX3_isWord_J0_charAt_5068e : GoodIn wsX3_isWord wsJ0_charAt_5068e := goodIn_r _ [33, 16, 34, 35, 36, 14, 37, 21, 22, 38, 39, 40, 41, 42, 43, 44, 45, 46, 47, 48, 49, 50, 51, 52, 53, 54, 55, 56, 57, 58, 59, 60, 61, 62, 63, 64, 65, 66] (by decide +kernel) (by decide +kernel)
set_option maxRecDepth 20000 in
theorem gX3_isWord_J0_charAt_5068e : GoodIn wsX3_isWord (wsV RX3 159 RJ0 yJ0_charAt_5068e wsJ0_charAt_5068e) := goodIn_app (goodIn_of _ (by decide +kernel)) ggX3_isWord_J0_charAt_5068e
theorem dX3_isWord_0 : decode cX3_isWord 0 = .ok (.aload_n 0, 1) := by decide +kernel
theorem dX3_isWord_1 : decode cX3_isWord 1 = .ok (.iconst 1, 1) := by decide +kernel
theorem dX3_isWord_2 : decode cX3_isWord 2 = .ok (.invokevirtual 56, 3) := by decide +kernel
theorem dX3_isWord_5 : decode cX3_isWord 5 = .ok (.ifCond .eq 29, 3) := by decide +kernel
theorem dX3_isWord_8 : decode cX3_isWord 8 = .ok (.aload_n 0, 1) := by decide +kernel
theorem dX3_isWord_9 : decode cX3_isWord 9 = .ok (.getfield 32, 3) := by decide +kernel
theorem dX3_isWord_12 : decode cX3_isWord 12 = .ok (.aload_n 0, 1) := by decide +kernel
theorem dX3_isWord_13 : decode cX3_isWord 13 = .ok (.getfield 42, 3) := by decide +kernel
theorem dX3_isWord_16 : decode cX3_isWord 16 = .ok (.iaload, 1) := by decide +kernel
theorem dX3_isWord_17 : decode cX3_isWord 17 = .ok (.aload_n 0, 1) := by decide +kernel
theorem dX3_isWord_18 : decode cX3_isWord 18 = .ok (.getfield 29, 3) := by decide +kernel
theorem dX3_isWord_21 : decode cX3_isWord 21 = .ok (.aload_n 0, 1) := by decide +kernel
theorem dX3_isWord_22 : decode cX3_isWord 22 = .ok (.getfield 42, 3) := by decide +kernel
theorem dX3_isWord_25 : decode cX3_isWord 25 = .ok (.iaload, 1) := by decide +kernel
theorem dX3_isWord_26 : decode cX3_isWord 26 = .ok (.isub, 1) := by decide +kernel
theorem dX3_isWord_27 : decode cX3_isWord 27 = .ok (.aload_n 1, 1) := by decide +kernel
theorem dX3_isWord_28 : decode cX3_isWord 28 = .ok (.invokevirtual 155, 3) := by decide +kernel
theorem dX3_isWord_31 : decode cX3_isWord 31 = .ok (.if_icmp .eq 5, 3) := by decide +kernel
theorem dX3_isWord_34 : decode cX3_isWord 34 = .ok (.iconst 0, 1) := by decide +kernel
theorem dX3_isWord_35 : decode cX3_isWord 35 = .ok (.ireturn, 1) := by decide +kernel
theorem dX3_isWord_36 : decode cX3_isWord 36 = .ok (.iconst 0, 1) := by decide +kernel
theorem dX3_isWord_37 : decode cX3_isWord 37 = .ok (.istore_n 2, 1) := by decide +kernel
theorem dX3_isWord_38 : decode cX3_isWord 38 = .ok (.iload_n 2, 1) := by decide +kernel
theorem dX3_isWord_39 : decode cX3_isWord 39 = .ok (.aload_n 1, 1) := by decide +kernel
theorem dX3_isWord_40 : decode cX3_isWord 40 = .ok (.invokevirtual 155, 3) := by decide +kernel
theorem dX3_isWord_43 : decode cX3_isWord 43 = .ok (.if_icmp .ge 37, 3) := by decide +kernel
theorem dX3_isWord_46 : decode cX3_isWord 46 = .ok (.aload_n 0, 1) := by decide +kernel
theorem dX3_isWord_47 : decode cX3_isWord 47 = .ok (.getfield 12, 3) := by decide +kernel
theorem dX3_isWord_50 : decode cX3_isWord 50 = .ok (.aload_n 0, 1) := by decide +kernel
theorem dX3_isWord_51 : decode cX3_isWord 51 = .ok (.getfield 29, 3) := by decide +kernel
theorem dX3_isWord_54 : decode cX3_isWord 54 = .ok (.aload_n 0, 1) := by decide +kernel
theorem dX3_isWord_55 : decode cX3_isWord 55 = .ok (.getfield 42, 3) := by decide +kernel
theorem dX3_isWord_58 : decode cX3_isWord 58 = .ok (.iaload, 1) := by decide +kernel
theorem dX3_isWord_59 : decode cX3_isWord 59 = .ok (.iload_n 2, 1) := by decide +kernel
theorem dX3_isWord_60 : decode cX3_isWord 60 = .ok (.iadd, 1) := by decide +kernel
theorem dX3_isWord_61 : decode cX3_isWord 61 = .ok (.invokevirtual 66, 3) := by decide +kernel
theorem dX3_isWord_64 : decode cX3_isWord 64 = .ok (.aload_n 1, 1) := by decide +kernel
theorem dX3_isWord_65 : decode cX3_isWord 65 = .ok (.iload_n 2, 1) := by decide +kernel
theorem dX3_isWord_66 : decode cX3_isWord 66 = .ok (.invokevirtual 159, 3) := by decide +kernel
theorem dX3_isWord_69 : decode cX3_isWord 69 = .ok (.if_icmp .eq 5, 3) := by decide +kernel
theorem dX3_isWord_72 : decode cX3_isWord 72 = .ok (.iconst 0, 1) := by decide +kernel
theorem dX3_isWord_73 : decode cX3_isWord 73 = .ok (.ireturn, 1) := by decide +kernel
theorem dX3_isWord_74 : decode cX3_isWord 74 = .ok (.iinc 2 1, 3) := by decide +kernel
theorem dX3_isWord_77 : decode cX3_isWord 77 = .ok (.goto (-39), 3) := by decide +kernel
theorem dX3_isWord_80 : decode cX3_isWord 80 = .ok (.iconst 1, 1) := by decide +kernel
theorem dX3_isWord_81 : decode cX3_isWord 81 = .ok (.ireturn, 1) := by decide +kernel
set_option maxRecDepth 20000 in
theorem ggX3_kindOfWord_X3_isWord : GoodIn wsX3_kindOfWord wsX3_isWord := goodIn_r _ [5, 6, 7, 8, 9, 10, 11, 12, 4, 13, 14, 15, 16, 17, 18, 19, 20, 21, 22, 23, 24, 25, 26, 27, 28, 29, 30, 31, 32, 33, 34, 35, 36, 37, 38, 39, 40, 41, 42, 43, 44, 45, 46, 47, 48, 49, 50, 51, 52, 53, 54, 55, 56, 57, 58, 59, 60, 61, 62, 63, 64, 65, 66, 67, 68, 69, 70, 71, 72, 73, 74, 75, 76, 77, 78, 79, 80] (by decide +kernel) (by decide +kernel)
set_option maxRecDepth 20000 in
theorem gX3_kindOfWord_X3_isWord : GoodIn wsX3_kindOfWord (wsV RX3 97 RX3 yX3_isWord wsX3_isWord) := goodIn_app (goodIn_of _ (by decide +kernel)) ggX3_kindOfWord_X3_isWord
theorem dX3_kindOfWord_0 : decode cX3_kindOfWord 0 = .ok (.aload_n 0, 1) := by decide +kernel
theorem dX3_kindOfWord_1 : decode cX3_kindOfWord 1 = .ok (.ldc 163, 2) := by decide +kernel
theorem dX3_kindOfWord_3 : decode cX3_kindOfWord 3 = .ok (.invokevirtual 97, 3) := by decide +kernel
theorem dX3_kindOfWord_6 : decode cX3_kindOfWord 6 = .ok (.ifCond .eq 5, 3) := by decide +kernel
theorem dX3_kindOfWord_9 : decode cX3_kindOfWord 9 = .ok (.iconst 0, 1) := by decide +kernel
theorem dX3_kindOfWord_10 : decode cX3_kindOfWord 10 = .ok (.ireturn, 1) := by decide +kernel
theorem dX3_kindOfWord_11 : decode cX3_kindOfWord 11 = .ok (.aload_n 0, 1) := by decide +kernel
theorem dX3_kindOfWord_12 : decode cX3_kindOfWord 12 = .ok (.ldc 165, 2) := by decide +kernel
theorem dX3_kindOfWord_14 : decode cX3_kindOfWord 14 = .ok (.invokevirtual 97, 3) := by decide +kernel
theorem dX3_kindOfWord_17 : decode cX3_kindOfWord 17 = .ok (.ifCond .eq 5, 3) := by decide +kernel
theorem dX3_kindOfWord_20 : decode cX3_kindOfWord 20 = .ok (.iconst 1, 1) := by decide +kernel
theorem dX3_kindOfWord_21 : decode cX3_kindOfWord 21 = .ok (.ireturn, 1) := by decide +kernel
theorem dX3_kindOfWord_22 : decode cX3_kindOfWord 22 = .ok (.aload_n 0, 1) := by decide +kernel
theorem dX3_kindOfWord_23 : decode cX3_kindOfWord 23 = .ok (.ldc 167, 2) := by decide +kernel
theorem dX3_kindOfWord_25 : decode cX3_kindOfWord 25 = .ok (.invokevirtual 97, 3) := by decide +kernel
theorem dX3_kindOfWord_28 : decode cX3_kindOfWord 28 = .ok (.ifCond .eq 5, 3) := by decide +kernel
theorem dX3_kindOfWord_31 : decode cX3_kindOfWord 31 = .ok (.iconst 2, 1) := by decide +kernel
theorem dX3_kindOfWord_32 : decode cX3_kindOfWord 32 = .ok (.ireturn, 1) := by decide +kernel
theorem dX3_kindOfWord_33 : decode cX3_kindOfWord 33 = .ok (.aload_n 0, 1) := by decide +kernel
theorem dX3_kindOfWord_34 : decode cX3_kindOfWord 34 = .ok (.ldc 169, 2) := by decide +kernel
theorem dX3_kindOfWord_36 : decode cX3_kindOfWord 36 = .ok (.invokevirtual 97, 3) := by decide +kernel
theorem dX3_kindOfWord_39 : decode cX3_kindOfWord 39 = .ok (.ifCond .eq 5, 3) := by decide +kernel
theorem dX3_kindOfWord_42 : decode cX3_kindOfWord 42 = .ok (.iconst 3, 1) := by decide +kernel
theorem dX3_kindOfWord_43 : decode cX3_kindOfWord 43 = .ok (.ireturn, 1) := by decide +kernel
theorem dX3_kindOfWord_44 : decode cX3_kindOfWord 44 = .ok (.aload_n 0, 1) := by decide +kernel
theorem dX3_kindOfWord_45 : decode cX3_kindOfWord 45 = .ok (.ldc 171, 2) := by decide +kernel
theorem dX3_kindOfWord_47 : decode cX3_kindOfWord 47 = .ok (.invokevirtual 97, 3) := by decide +kernel
theorem dX3_kindOfWord_50 : decode cX3_kindOfWord 50 = .ok (.ifCond .eq 5, 3) := by decide +kernel
theorem dX3_kindOfWord_53 : decode cX3_kindOfWord 53 = .ok (.iconst 4, 1) := by decide +kernel
theorem dX3_kindOfWord_54 : decode cX3_kindOfWord 54 = .ok (.ireturn, 1) := by decide +kernel
theorem dX3_kindOfWord_55 : decode cX3_kindOfWord 55 = .ok (.aload_n 0, 1) := by decide +kernel
theorem dX3_kindOfWord_56 : decode cX3_kindOfWord 56 = .ok (.ldc 173, 2) := by decide +kernel
theorem dX3_kindOfWord_58 : decode cX3_kindOfWord 58 = .ok (.invokevirtual 97, 3) := by decide +kernel
theorem dX3_kindOfWord_61 : decode cX3_kindOfWord 61 = .ok (.ifCond .eq 5, 3) := by decide +kernel
theorem dX3_kindOfWord_64 : decode cX3_kindOfWord 64 = .ok (.iconst 5, 1) := by decide +kernel
theorem dX3_kindOfWord_65 : decode cX3_kindOfWord 65 = .ok (.ireturn, 1) := by decide +kernel
theorem dX3_kindOfWord_66 : decode cX3_kindOfWord 66 = .ok (.aload_n 0, 1) := by decide +kernel
theorem dX3_kindOfWord_67 : decode cX3_kindOfWord 67 = .ok (.ldc 175, 2) := by decide +kernel
theorem dX3_kindOfWord_69 : decode cX3_kindOfWord 69 = .ok (.invokevirtual 97, 3) := by decide +kernel
theorem dX3_kindOfWord_72 : decode cX3_kindOfWord 72 = .ok (.ifCond .eq 8, 3) := by decide +kernel
theorem dX3_kindOfWord_75 : decode cX3_kindOfWord 75 = .ok (.bipush 6, 2) := by decide +kernel
theorem dX3_kindOfWord_77 : decode cX3_kindOfWord 77 = .ok (.goto 4, 3) := by decide +kernel
theorem dX3_kindOfWord_80 : decode cX3_kindOfWord 80 = .ok (.iconst (-1), 1) := by decide +kernel
theorem dX3_kindOfWord_81 : decode cX3_kindOfWord 81 = .ok (.ireturn, 1) := by decide +kernel
set_option maxRecDepth 20000 in
theorem ggX4_init_X1_init : GoodIn wsX4_init wsX1_init := goodIn_r _ [14, 15, 2, 3, 8, 16, 17, 18, 19, 20, 21, 22, 23, 24, 25, 26, 27, 28, 29, 30, 31, 32, 33, 34, 35, 36, 37, 38, 39, 40] (by decide +kernel) (by decide +kernel)
set_option maxRecDepth 20000 in
theorem gX4_init_X1_init : GoodIn wsX4_init (wsX1_init) := ggX4_init_X1_init
theorem dX4_init_0 : decode cX4_init 0 = .ok (.aload_n 0, 1) := by decide +kernel
theorem dX4_init_1 : decode cX4_init 1 = .ok (.invokespecial 3, 3) := by decide +kernel
theorem dX4_init_4 : decode cX4_init 4 = .ok (.aload_n 0, 1) := by decide +kernel
theorem dX4_init_5 : decode cX4_init 5 = .ok (.new 9, 3) := by decide +kernel
theorem dX4_init_8 : decode cX4_init 8 = .ok (.dup, 1) := by decide +kernel
theorem dX4_init_9 : decode cX4_init 9 = .ok (.invokespecial 11, 3) := by decide +kernel
theorem dX4_init_12 : decode cX4_init 12 = .ok (.putfield 12, 3) := by decide +kernel
theorem dX4_init_15 : decode cX4_init 15 = .ok (.aload_n 0, 1) := by decide +kernel
theorem dX4_init_16 : decode cX4_init 16 = .ok (.bipush 16, 2) := by decide +kernel
theorem dX4_init_18 : decode cX4_init 18 = .ok (.newarray .int, 2) := by decide +kernel
theorem dX4_init_20 : decode cX4_init 20 = .ok (.putfield 18, 3) := by decide +kernel
theorem dX4_init_23 : decode cX4_init 23 = .ok (.aload_n 0, 1) := by decide +kernel
theorem dX4_init_24 : decode cX4_init 24 = .ok (.iconst 0, 1) := by decide +kernel
theorem dX4_init_25 : decode cX4_init 25 = .ok (.putfield 22, 3) := by decide +kernel
theorem dX4_init_28 : decode cX4_init 28 = .ok (.aload_n 0, 1) := by decide +kernel
theorem dX4_init_29 : decode cX4_init 29 = .ok (.iconst 0, 1) := by decide +kernel
theorem dX4_init_30 : decode cX4_init 30 = .ok (.putfield 26, 3) := by decide +kernel
theorem dX4_init_33 : decode cX4_init 33 = .ok (.return_, 1) := by decide +kernel
set_option maxRecDepth 20000 in
theorem ggX4_see_X4_begin : GoodIn wsX4_see wsX4_begin := goodIn_r _ [5, 6, 7, 8, 9, 10, 11, 12, 13, 14, 15, 16, 17, 18, 19, 20, 21, 22, 23, 24, 25, 26, 27, 28, 29, 30, 31, 32, 33, 34, 35, 71, 72, 73, 74, 75, 76, 77, 78, 79, 80, 81, 82, 83, 84, 85, 86] (by decide +kernel) (by decide +kernel)
set_option maxRecDepth 20000 in
theorem gX4_see_X4_begin : GoodIn wsX4_see (wsV RX4 29 RX4 yX4_begin wsX4_begin) := goodIn_app (goodIn_of _ (by decide +kernel)) ggX4_see_X4_begin
set_option maxRecDepth 20000 in
theorem ggX4_see_X4_run : GoodIn wsX4_see wsX4_run := goodIn_r _ [39, 8, 40, 6, 41, 42, 43, 13, 44, 27, 26, 25, 23, 45, 46, 47, 48, 49, 50, 51, 52, 53, 54, 55, 56, 57, 58, 59, 60, 61, 62, 20, 15, 21, 63, 64, 65, 66, 22, 67, 68, 69, 70, 28, 29, 71, 72, 73, 74, 75, 76, 77, 78, 79, 80, 81, 82, 83, 84, 85, 86] (by decide +kernel) (by decide +kernel)
set_option maxRecDepth 20000 in
theorem gX4_see_X4_run : GoodIn wsX4_see (wsV RX4 33 RX4 yX4_run wsX4_run) := goodIn_app (goodIn_of _ (by decide +kernel)) ggX4_see_X4_run
theorem dX4_see_0 : decode cX4_see 0 = .ok (.aload_n 0, 1) := by decide +kernel
theorem dX4_see_1 : decode cX4_see 1 = .ok (.aload_n 1, 1) := by decide +kernel
theorem dX4_see_2 : decode cX4_see 2 = .ok (.invokevirtual 29, 3) := by decide +kernel
theorem dX4_see_5 : decode cX4_see 5 = .ok (.aload_n 0, 1) := by decide +kernel
theorem dX4_see_6 : decode cX4_see 6 = .ok (.invokevirtual 33, 3) := by decide +kernel
theorem dX4_see_9 : decode cX4_see 9 = .ok (.return_, 1) := by decide +kernel
set_option maxRecDepth 20000 in
theorem ggX4_begin_X1_become : GoodIn wsX4_begin wsX1_become := goodIn_r _ [9, 10, 11, 12, 13, 14, 15, 16, 17, 18, 19, 20, 21, 22, 23, 24, 25, 35, 36, 37, 38, 39, 40, 41, 42, 43, 44, 45, 46] (by decide +kernel) (by decide +kernel)
set_option maxRecDepth 20000 in
theorem gX4_begin_X1_become : GoodIn wsX4_begin (wsV RX4 36 RX1 yX1_become wsX1_become) := goodIn_app (goodIn_of _ (by decide +kernel)) ggX4_begin_X1_become
set_option maxRecDepth 20000 in
theorem ggX4_begin_X1_hoursLeft : GoodIn wsX4_begin wsX1_hoursLeft := goodIn_r _ [29, 30, 22, 35, 36, 37, 38, 39, 40, 41, 42, 43, 44, 45, 46] (by decide +kernel) (by decide +kernel)
set_option maxRecDepth 20000 in
theorem gX4_begin_X1_hoursLeft : GoodIn wsX4_begin (wsV RX4 42 RX1 yX1_hoursLeft wsX1_hoursLeft) := goodIn_app (goodIn_of _ (by decide +kernel)) ggX4_begin_X1_hoursLeft
theorem dX4_begin_0 : decode cX4_begin 0 = .ok (.aload_n 0, 1) := by decide +kernel
theorem dX4_begin_1 : decode cX4_begin 1 = .ok (.getfield 12, 3) := by decide +kernel
theorem dX4_begin_4 : decode cX4_begin 4 = .ok (.aload_n 1, 1) := by decide +kernel
theorem dX4_begin_5 : decode cX4_begin 5 = .ok (.invokevirtual 36, 3) := by decide +kernel
theorem dX4_begin_8 : decode cX4_begin 8 = .ok (.aload_n 0, 1) := by decide +kernel
theorem dX4_begin_9 : decode cX4_begin 9 = .ok (.aload_n 1, 1) := by decide +kernel
theorem dX4_begin_10 : decode cX4_begin 10 = .ok (.getfield 39, 3) := by decide +kernel
theorem dX4_begin_13 : decode cX4_begin 13 = .ok (.putfield 22, 3) := by decide +kernel
theorem dX4_begin_16 : decode cX4_begin 16 = .ok (.aload_n 0, 1) := by decide +kernel
theorem dX4_begin_17 : decode cX4_begin 17 = .ok (.aload_n 1, 1) := by decide +kernel
theorem dX4_begin_18 : decode cX4_begin 18 = .ok (.invokevirtual 42, 3) := by decide +kernel
theorem dX4_begin_21 : decode cX4_begin 21 = .ok (.putfield 26, 3) := by decide +kernel
theorem dX4_begin_24 : decode cX4_begin 24 = .ok (.return_, 1) := by decide +kernel
set_option maxRecDepth 20000 in
theorem ggX4_run_X1_havers : GoodIn wsX4_run wsX1_havers := goodIn_r _ [8, 9, 10, 11, 12, 13, 14, 15, 16, 17, 18, 7, 19, 20, 21, 22, 23, 24, 25, 26, 27, 28, 29, 30, 31, 32, 33, 49, 50, 51, 52, 53, 54, 55, 56, 57, 58, 59, 60] (by decide +kernel) (by decide +kernel)
set_option maxRecDepth 20000 in
theorem gX4_run_X1_havers : GoodIn wsX4_run (wsV RX4 46 RX1 yX1_havers wsX1_havers) := goodIn_app (goodIn_of _ (by decide +kernel)) ggX4_run_X1_havers
set_option maxRecDepth 20000 in
theorem ggX4_run_X1_passHour : GoodIn wsX4_run wsX1_passHour := goodIn_r _ [37, 10, 9, 11, 38, 31, 24, 25, 22, 26, 20, 21, 23, 13, 14, 15, 39, 40, 41, 7, 42, 43, 44, 49, 50, 51, 52, 53, 54, 55, 56, 57, 58, 59, 60] (by decide +kernel) (by decide +kernel)
set_option maxRecDepth 20000 in
theorem gX4_run_X1_passHour : GoodIn wsX4_run (wsV RX4 49 RX1 yX1_passHour wsX1_passHour) := goodIn_app (goodIn_of _ (by decide +kernel)) ggX4_run_X1_passHour
theorem dX4_run_0 : decode cX4_run 0 = .ok (.aload_n 0, 1) := by decide +kernel
theorem dX4_run_1 : decode cX4_run 1 = .ok (.getfield 22, 3) := by decide +kernel
theorem dX4_run_4 : decode cX4_run 4 = .ok (.istore_n 1, 1) := by decide +kernel
theorem dX4_run_5 : decode cX4_run 5 = .ok (.iload_n 1, 1) := by decide +kernel
theorem dX4_run_6 : decode cX4_run 6 = .ok (.bipush 16, 2) := by decide +kernel
theorem dX4_run_8 : decode cX4_run 8 = .ok (.if_icmp .ge 35, 3) := by decide +kernel
theorem dX4_run_11 : decode cX4_run 11 = .ok (.aload_n 0, 1) := by decide +kernel
theorem dX4_run_12 : decode cX4_run 12 = .ok (.getfield 18, 3) := by decide +kernel
theorem dX4_run_15 : decode cX4_run 15 = .ok (.iload_n 1, 1) := by decide +kernel
theorem dX4_run_16 : decode cX4_run 16 = .ok (.aload_n 0, 1) := by decide +kernel
theorem dX4_run_17 : decode cX4_run 17 = .ok (.getfield 12, 3) := by decide +kernel
theorem dX4_run_20 : decode cX4_run 20 = .ok (.invokevirtual 46, 3) := by decide +kernel
theorem dX4_run_23 : decode cX4_run 23 = .ok (.iastore, 1) := by decide +kernel
theorem dX4_run_24 : decode cX4_run 24 = .ok (.aload_n 0, 1) := by decide +kernel
theorem dX4_run_25 : decode cX4_run 25 = .ok (.getfield 12, 3) := by decide +kernel
theorem dX4_run_28 : decode cX4_run 28 = .ok (.aload_n 0, 1) := by decide +kernel
theorem dX4_run_29 : decode cX4_run 29 = .ok (.getfield 18, 3) := by decide +kernel
theorem dX4_run_32 : decode cX4_run 32 = .ok (.iload_n 1, 1) := by decide +kernel
theorem dX4_run_33 : decode cX4_run 33 = .ok (.iaload, 1) := by decide +kernel
theorem dX4_run_34 : decode cX4_run 34 = .ok (.invokevirtual 49, 3) := by decide +kernel
theorem dX4_run_37 : decode cX4_run 37 = .ok (.iinc 1 1, 3) := by decide +kernel
theorem dX4_run_40 : decode cX4_run 40 = .ok (.goto (-35), 3) := by decide +kernel
theorem dX4_run_43 : decode cX4_run 43 = .ok (.return_, 1) := by decide +kernel
set_option maxRecDepth 20000 in
theorem ggX4_shadeOf_X7_bit : GoodIn wsX4_shadeOf wsX7_bit := goodIn_r _ [5] (by decide +kernel) (by decide +kernel)
set_option maxRecDepth 20000 in
theorem gX4_shadeOf_X7_bit_n53 : GoodIn wsX4_shadeOf (wsX7_bit) := ggX4_shadeOf_X7_bit
theorem dX4_shadeOf_0 : decode cX4_shadeOf 0 = .ok (.iconst 0, 1) := by decide +kernel
theorem dX4_shadeOf_1 : decode cX4_shadeOf 1 = .ok (.istore_n 2, 1) := by decide +kernel
theorem dX4_shadeOf_2 : decode cX4_shadeOf 2 = .ok (.iconst 0, 1) := by decide +kernel
theorem dX4_shadeOf_3 : decode cX4_shadeOf 3 = .ok (.istore_n 3, 1) := by decide +kernel
theorem dX4_shadeOf_4 : decode cX4_shadeOf 4 = .ok (.iload_n 3, 1) := by decide +kernel
theorem dX4_shadeOf_5 : decode cX4_shadeOf 5 = .ok (.bipush 16, 2) := by decide +kernel
theorem dX4_shadeOf_7 : decode cX4_shadeOf 7 = .ok (.if_icmp .ge 41, 3) := by decide +kernel
theorem dX4_shadeOf_10 : decode cX4_shadeOf 10 = .ok (.aload_n 0, 1) := by decide +kernel
theorem dX4_shadeOf_11 : decode cX4_shadeOf 11 = .ok (.getfield 26, 3) := by decide +kernel
theorem dX4_shadeOf_14 : decode cX4_shadeOf 14 = .ok (.iload_n 3, 1) := by decide +kernel
theorem dX4_shadeOf_15 : decode cX4_shadeOf 15 = .ok (.invokestatic 53, 3) := by decide +kernel
theorem dX4_shadeOf_18 : decode cX4_shadeOf 18 = .ok (.iconst 1, 1) := by decide +kernel
theorem dX4_shadeOf_19 : decode cX4_shadeOf 19 = .ok (.if_icmp .ne 23, 3) := by decide +kernel
theorem dX4_shadeOf_22 : decode cX4_shadeOf 22 = .ok (.aload_n 0, 1) := by decide +kernel
theorem dX4_shadeOf_23 : decode cX4_shadeOf 23 = .ok (.getfield 18, 3) := by decide +kernel
theorem dX4_shadeOf_26 : decode cX4_shadeOf 26 = .ok (.iload_n 3, 1) := by decide +kernel
theorem dX4_shadeOf_27 : decode cX4_shadeOf 27 = .ok (.iaload, 1) := by decide +kernel
theorem dX4_shadeOf_28 : decode cX4_shadeOf 28 = .ok (.iload_n 1, 1) := by decide +kernel
theorem dX4_shadeOf_29 : decode cX4_shadeOf 29 = .ok (.invokestatic 53, 3) := by decide +kernel
theorem dX4_shadeOf_32 : decode cX4_shadeOf 32 = .ok (.iconst 1, 1) := by decide +kernel
theorem dX4_shadeOf_33 : decode cX4_shadeOf 33 = .ok (.if_icmp .ne 9, 3) := by decide +kernel
theorem dX4_shadeOf_36 : decode cX4_shadeOf 36 = .ok (.iload_n 2, 1) := by decide +kernel
theorem dX4_shadeOf_37 : decode cX4_shadeOf 37 = .ok (.iconst 1, 1) := by decide +kernel
theorem dX4_shadeOf_38 : decode cX4_shadeOf 38 = .ok (.iload_n 3, 1) := by decide +kernel
theorem dX4_shadeOf_39 : decode cX4_shadeOf 39 = .ok (.ishl, 1) := by decide +kernel
theorem dX4_shadeOf_40 : decode cX4_shadeOf 40 = .ok (.ior, 1) := by decide +kernel
theorem dX4_shadeOf_41 : decode cX4_shadeOf 41 = .ok (.istore_n 2, 1) := by decide +kernel
theorem dX4_shadeOf_42 : decode cX4_shadeOf 42 = .ok (.iinc 3 1, 3) := by decide +kernel
theorem dX4_shadeOf_45 : decode cX4_shadeOf 45 = .ok (.goto (-41), 3) := by decide +kernel
theorem dX4_shadeOf_48 : decode cX4_shadeOf 48 = .ok (.iload_n 2, 1) := by decide +kernel
theorem dX4_shadeOf_49 : decode cX4_shadeOf 49 = .ok (.ireturn, 1) := by decide +kernel
set_option maxRecDepth 20000 in
theorem ggX4_servedOf_X4_shadeOf : GoodIn wsX4_servedOf wsX4_shadeOf := goodIn_r _ [9, 4, 10, 11, 12, 13, 14, 15, 16, 17] (by decide +kernel) (by decide +kernel)
set_option maxRecDepth 20000 in
theorem gX4_servedOf_X4_shadeOf : GoodIn wsX4_servedOf (wsV RX4 63 RX4 yX4_shadeOf wsX4_shadeOf) := goodIn_app (goodIn_of _ (by decide +kernel)) ggX4_servedOf_X4_shadeOf
theorem dX4_servedOf_0 : decode cX4_servedOf 0 = .ok (.aload_n 0, 1) := by decide +kernel
theorem dX4_servedOf_1 : decode cX4_servedOf 1 = .ok (.getfield 12, 3) := by decide +kernel
theorem dX4_servedOf_4 : decode cX4_servedOf 4 = .ok (.getfield 57, 3) := by decide +kernel
theorem dX4_servedOf_7 : decode cX4_servedOf 7 = .ok (.iload_n 1, 1) := by decide +kernel
theorem dX4_servedOf_8 : decode cX4_servedOf 8 = .ok (.iaload, 1) := by decide +kernel
theorem dX4_servedOf_9 : decode cX4_servedOf 9 = .ok (.iconst (-1), 1) := by decide +kernel
theorem dX4_servedOf_10 : decode cX4_servedOf 10 = .ok (.ixor, 1) := by decide +kernel
theorem dX4_servedOf_11 : decode cX4_servedOf 11 = .ok (.aload_n 0, 1) := by decide +kernel
theorem dX4_servedOf_12 : decode cX4_servedOf 12 = .ok (.getfield 12, 3) := by decide +kernel
theorem dX4_servedOf_15 : decode cX4_servedOf 15 = .ok (.getfield 60, 3) := by decide +kernel
theorem dX4_servedOf_18 : decode cX4_servedOf 18 = .ok (.iconst (-1), 1) := by decide +kernel
theorem dX4_servedOf_19 : decode cX4_servedOf 19 = .ok (.ixor, 1) := by decide +kernel
theorem dX4_servedOf_20 : decode cX4_servedOf 20 = .ok (.ior, 1) := by decide +kernel
theorem dX4_servedOf_21 : decode cX4_servedOf 21 = .ok (.aload_n 0, 1) := by decide +kernel
theorem dX4_servedOf_22 : decode cX4_servedOf 22 = .ok (.iload_n 1, 1) := by decide +kernel
theorem dX4_servedOf_23 : decode cX4_servedOf 23 = .ok (.invokevirtual 63, 3) := by decide +kernel
theorem dX4_servedOf_26 : decode cX4_servedOf 26 = .ok (.ior, 1) := by decide +kernel
theorem dX4_servedOf_27 : decode cX4_servedOf 27 = .ok (.aload_n 0, 1) := by decide +kernel
theorem dX4_servedOf_28 : decode cX4_servedOf 28 = .ok (.getfield 26, 3) := by decide +kernel
theorem dX4_servedOf_31 : decode cX4_servedOf 31 = .ok (.iand, 1) := by decide +kernel
theorem dX4_servedOf_32 : decode cX4_servedOf 32 = .ok (.ireturn, 1) := by decide +kernel
set_option maxRecDepth 20000 in
theorem ggX4_metOf_X1_isPerson : GoodIn wsX4_metOf wsX1_isPerson := goodIn_r _ [7, 8, 35, 36, 37, 38, 39, 40, 41, 42, 43, 44, 45, 46] (by decide +kernel) (by decide +kernel)
set_option maxRecDepth 20000 in
theorem gX4_metOf_X1_isPerson : GoodIn wsX4_metOf (wsV RX4 67 RX1 yX1_isPerson wsX1_isPerson) := goodIn_app (goodIn_of _ (by decide +kernel)) ggX4_metOf_X1_isPerson
set_option maxRecDepth 20000 in
theorem ggX4_metOf_X4_servedOf : GoodIn wsX4_metOf wsX4_servedOf := goodIn_r _ [13, 1, 2, 14, 15, 16, 17, 18, 12, 19, 20, 21, 22, 23, 31, 32, 33, 34, 35, 36, 37, 38, 39, 40, 41, 42, 43, 44, 45, 46] (by decide +kernel) (by decide +kernel)
set_option maxRecDepth 20000 in
theorem gX4_metOf_X4_servedOf : GoodIn wsX4_metOf (wsV RX4 71 RX4 yX4_servedOf wsX4_servedOf) := goodIn_app (goodIn_of _ (by decide +kernel)) ggX4_metOf_X4_servedOf
set_option maxRecDepth 20000 in
theorem ggX4_metOf_J6_bitCount_0f7a4 : GoodIn wsX4_metOf wsJ6_bitCount_0f7a4 := goodIn_r _ [27, 28, 29, 30] (by decide +kernel) (by decide +kernel)
set_option maxRecDepth 20000 in
theorem gX4_metOf_J6_bitCount_0f7a4 : GoodIn wsX4_metOf (va_wsS RX4 74 yJ6_bitCount_0f7a4 wsJ6_bitCount_0f7a4) := goodIn_app (goodIn_of _ (by decide +kernel)) ggX4_metOf_J6_bitCount_0f7a4
theorem dX4_metOf_0 : decode cX4_metOf 0 = .ok (.aload_n 0, 1) := by decide +kernel
theorem dX4_metOf_1 : decode cX4_metOf 1 = .ok (.getfield 12, 3) := by decide +kernel
theorem dX4_metOf_4 : decode cX4_metOf 4 = .ok (.iload_n 1, 1) := by decide +kernel
theorem dX4_metOf_5 : decode cX4_metOf 5 = .ok (.invokevirtual 67, 3) := by decide +kernel
theorem dX4_metOf_8 : decode cX4_metOf 8 = .ok (.ifCond .eq 24, 3) := by decide +kernel
theorem dX4_metOf_11 : decode cX4_metOf 11 = .ok (.aload_n 0, 1) := by decide +kernel
theorem dX4_metOf_12 : decode cX4_metOf 12 = .ok (.getfield 12, 3) := by decide +kernel
theorem dX4_metOf_15 : decode cX4_metOf 15 = .ok (.getfield 57, 3) := by decide +kernel
theorem dX4_metOf_18 : decode cX4_metOf 18 = .ok (.iload_n 1, 1) := by decide +kernel
theorem dX4_metOf_19 : decode cX4_metOf 19 = .ok (.iaload, 1) := by decide +kernel
theorem dX4_metOf_20 : decode cX4_metOf 20 = .ok (.aload_n 0, 1) := by decide +kernel
theorem dX4_metOf_21 : decode cX4_metOf 21 = .ok (.iload_n 1, 1) := by decide +kernel
theorem dX4_metOf_22 : decode cX4_metOf 22 = .ok (.invokevirtual 71, 3) := by decide +kernel
theorem dX4_metOf_25 : decode cX4_metOf 25 = .ok (.iand, 1) := by decide +kernel
theorem dX4_metOf_26 : decode cX4_metOf 26 = .ok (.invokestatic 74, 3) := by decide +kernel
theorem dX4_metOf_29 : decode cX4_metOf 29 = .ok (.goto 4, 3) := by decide +kernel
theorem dX4_metOf_32 : decode cX4_metOf 32 = .ok (.iconst 0, 1) := by decide +kernel
theorem dX4_metOf_33 : decode cX4_metOf 33 = .ok (.ireturn, 1) := by decide +kernel
set_option maxRecDepth 20000 in
theorem ggX4_metOfAll_X4_metOf : GoodIn wsX4_metOfAll wsX4_metOf := goodIn_r _ [7, 1, 8, 9, 10, 11, 12, 13, 14, 15, 16, 17, 6, 18, 19, 20, 21, 22, 23, 24, 25, 26, 27, 28, 29, 30, 31, 32, 33, 34, 35, 36, 37, 38, 39, 40, 41, 42, 43, 44, 45, 46, 47, 48, 49, 50, 51] (by decide +kernel) (by decide +kernel)
set_option maxRecDepth 20000 in
theorem gX4_metOfAll_X4_metOf : GoodIn wsX4_metOfAll (wsV RX4 82 RX4 yX4_metOf wsX4_metOf) := goodIn_app (goodIn_of _ (by decide +kernel)) ggX4_metOfAll_X4_metOf
theorem dX4_metOfAll_0 : decode cX4_metOfAll 0 = .ok (.iconst 0, 1) := by decide +kernel
theorem dX4_metOfAll_1 : decode cX4_metOfAll 1 = .ok (.istore_n 1, 1) := by decide +kernel
theorem dX4_metOfAll_2 : decode cX4_metOfAll 2 = .ok (.iconst 0, 1) := by decide +kernel
theorem dX4_metOfAll_3 : decode cX4_metOfAll 3 = .ok (.istore_n 2, 1) := by decide +kernel
theorem dX4_metOfAll_4 : decode cX4_metOfAll 4 = .ok (.iload_n 2, 1) := by decide +kernel
theorem dX4_metOfAll_5 : decode cX4_metOfAll 5 = .ok (.aload_n 0, 1) := by decide +kernel
theorem dX4_metOfAll_6 : decode cX4_metOfAll 6 = .ok (.getfield 12, 3) := by decide +kernel
theorem dX4_metOfAll_9 : decode cX4_metOfAll 9 = .ok (.getfield 79, 3) := by decide +kernel
theorem dX4_metOfAll_12 : decode cX4_metOfAll 12 = .ok (.if_icmp .ge 17, 3) := by decide +kernel
theorem dX4_metOfAll_15 : decode cX4_metOfAll 15 = .ok (.iload_n 1, 1) := by decide +kernel
theorem dX4_metOfAll_16 : decode cX4_metOfAll 16 = .ok (.aload_n 0, 1) := by decide +kernel
theorem dX4_metOfAll_17 : decode cX4_metOfAll 17 = .ok (.iload_n 2, 1) := by decide +kernel
theorem dX4_metOfAll_18 : decode cX4_metOfAll 18 = .ok (.invokevirtual 82, 3) := by decide +kernel
theorem dX4_metOfAll_21 : decode cX4_metOfAll 21 = .ok (.iadd, 1) := by decide +kernel
theorem dX4_metOfAll_22 : decode cX4_metOfAll 22 = .ok (.istore_n 1, 1) := by decide +kernel
theorem dX4_metOfAll_23 : decode cX4_metOfAll 23 = .ok (.iinc 2 1, 3) := by decide +kernel
theorem dX4_metOfAll_26 : decode cX4_metOfAll 26 = .ok (.goto (-22), 3) := by decide +kernel
theorem dX4_metOfAll_29 : decode cX4_metOfAll 29 = .ok (.iload_n 1, 1) := by decide +kernel
theorem dX4_metOfAll_30 : decode cX4_metOfAll 30 = .ok (.ireturn, 1) := by decide +kernel
set_option maxRecDepth 20000 in
theorem ggX4_firstCold_X1_isPerson : GoodIn wsX4_firstCold wsX1_isPerson := goodIn_r _ [7, 8, 28, 29, 30, 31, 32, 33, 34, 35, 36, 37, 38, 39] (by decide +kernel) (by decide +kernel)
set_option maxRecDepth 20000 in
theorem gX4_firstCold_X1_isPerson : GoodIn wsX4_firstCold (wsV RX4 67 RX1 yX1_isPerson wsX1_isPerson) := goodIn_app (goodIn_of _ (by decide +kernel)) ggX4_firstCold_X1_isPerson
set_option maxRecDepth 20000 in
theorem ggX4_firstCold_X4_servedOf : GoodIn wsX4_firstCold wsX4_servedOf := goodIn_r _ [13, 1, 14, 15, 2, 16, 17, 18, 12, 19, 20, 21, 22, 23, 24, 25, 26, 27, 28, 29, 30, 31, 32, 33, 34, 35, 36, 37, 38, 39] (by decide +kernel) (by decide +kernel)
set_option maxRecDepth 20000 in
theorem gX4_firstCold_X4_servedOf : GoodIn wsX4_firstCold (wsV RX4 71 RX4 yX4_servedOf wsX4_servedOf) := goodIn_app (goodIn_of _ (by decide +kernel)) ggX4_firstCold_X4_servedOf
set_option maxRecDepth 20000 in
theorem ggX4_firstCold_X7_bit : GoodIn wsX4_firstCold wsX7_bit := goodIn_r _ [23] (by decide +kernel) (by decide +kernel)
set_option maxRecDepth 20000 in
theorem gX4_firstCold_X7_bit_n53 : GoodIn wsX4_firstCold (wsX7_bit) := ggX4_firstCold_X7_bit
theorem dX4_firstCold_0 : decode cX4_firstCold 0 = .ok (.aload_n 0, 1) := by decide +kernel
theorem dX4_firstCold_1 : decode cX4_firstCold 1 = .ok (.getfield 12, 3) := by decide +kernel
theorem dX4_firstCold_4 : decode cX4_firstCold 4 = .ok (.iload_n 1, 1) := by decide +kernel
theorem dX4_firstCold_5 : decode cX4_firstCold 5 = .ok (.invokevirtual 67, 3) := by decide +kernel
theorem dX4_firstCold_8 : decode cX4_firstCold 8 = .ok (.ifCond .ne 6, 3) := by decide +kernel
theorem dX4_firstCold_11 : decode cX4_firstCold 11 = .ok (.bipush 16, 2) := by decide +kernel
theorem dX4_firstCold_13 : decode cX4_firstCold 13 = .ok (.ireturn, 1) := by decide +kernel
theorem dX4_firstCold_14 : decode cX4_firstCold 14 = .ok (.aload_n 0, 1) := by decide +kernel
theorem dX4_firstCold_15 : decode cX4_firstCold 15 = .ok (.getfield 26, 3) := by decide +kernel
theorem dX4_firstCold_18 : decode cX4_firstCold 18 = .ok (.aload_n 0, 1) := by decide +kernel
theorem dX4_firstCold_19 : decode cX4_firstCold 19 = .ok (.iload_n 1, 1) := by decide +kernel
theorem dX4_firstCold_20 : decode cX4_firstCold 20 = .ok (.invokevirtual 71, 3) := by decide +kernel
theorem dX4_firstCold_23 : decode cX4_firstCold 23 = .ok (.iconst (-1), 1) := by decide +kernel
theorem dX4_firstCold_24 : decode cX4_firstCold 24 = .ok (.ixor, 1) := by decide +kernel
theorem dX4_firstCold_25 : decode cX4_firstCold 25 = .ok (.iand, 1) := by decide +kernel
theorem dX4_firstCold_26 : decode cX4_firstCold 26 = .ok (.istore_n 2, 1) := by decide +kernel
theorem dX4_firstCold_27 : decode cX4_firstCold 27 = .ok (.iconst 0, 1) := by decide +kernel
theorem dX4_firstCold_28 : decode cX4_firstCold 28 = .ok (.istore_n 3, 1) := by decide +kernel
theorem dX4_firstCold_29 : decode cX4_firstCold 29 = .ok (.iload_n 3, 1) := by decide +kernel
theorem dX4_firstCold_30 : decode cX4_firstCold 30 = .ok (.bipush 16, 2) := by decide +kernel
theorem dX4_firstCold_32 : decode cX4_firstCold 32 = .ok (.if_icmp .ge 20, 3) := by decide +kernel
theorem dX4_firstCold_35 : decode cX4_firstCold 35 = .ok (.iload_n 2, 1) := by decide +kernel
theorem dX4_firstCold_36 : decode cX4_firstCold 36 = .ok (.iload_n 3, 1) := by decide +kernel
theorem dX4_firstCold_37 : decode cX4_firstCold 37 = .ok (.invokestatic 53, 3) := by decide +kernel
theorem dX4_firstCold_40 : decode cX4_firstCold 40 = .ok (.iconst 1, 1) := by decide +kernel
theorem dX4_firstCold_41 : decode cX4_firstCold 41 = .ok (.if_icmp .ne 5, 3) := by decide +kernel
theorem dX4_firstCold_44 : decode cX4_firstCold 44 = .ok (.iload_n 3, 1) := by decide +kernel
theorem dX4_firstCold_45 : decode cX4_firstCold 45 = .ok (.ireturn, 1) := by decide +kernel
theorem dX4_firstCold_46 : decode cX4_firstCold 46 = .ok (.iinc 3 1, 3) := by decide +kernel
theorem dX4_firstCold_49 : decode cX4_firstCold 49 = .ok (.goto (-20), 3) := by decide +kernel
theorem dX4_firstCold_52 : decode cX4_firstCold 52 = .ok (.bipush 16, 2) := by decide +kernel
theorem dX4_firstCold_54 : decode cX4_firstCold 54 = .ok (.ireturn, 1) := by decide +kernel
set_option maxRecDepth 20000 in
theorem ggX4_sunOf_X1_isPerson : GoodIn wsX4_sunOf wsX1_isPerson := goodIn_r _ [7, 8, 13, 14, 15, 16, 17, 18, 19, 20, 21, 22, 23, 24] (by decide +kernel) (by decide +kernel)
set_option maxRecDepth 20000 in
theorem gX4_sunOf_X1_isPerson : GoodIn wsX4_sunOf (wsV RX4 67 RX1 yX1_isPerson wsX1_isPerson) := goodIn_app (goodIn_of _ (by decide +kernel)) ggX4_sunOf_X1_isPerson
theorem dX4_sunOf_0 : decode cX4_sunOf 0 = .ok (.aload_n 0, 1) := by decide +kernel
theorem dX4_sunOf_1 : decode cX4_sunOf 1 = .ok (.getfield 12, 3) := by decide +kernel
theorem dX4_sunOf_4 : decode cX4_sunOf 4 = .ok (.iload_n 1, 1) := by decide +kernel
theorem dX4_sunOf_5 : decode cX4_sunOf 5 = .ok (.invokevirtual 67, 3) := by decide +kernel
theorem dX4_sunOf_8 : decode cX4_sunOf 8 = .ok (.ifCond .eq 15, 3) := by decide +kernel
theorem dX4_sunOf_11 : decode cX4_sunOf 11 = .ok (.aload_n 0, 1) := by decide +kernel
theorem dX4_sunOf_12 : decode cX4_sunOf 12 = .ok (.getfield 12, 3) := by decide +kernel
theorem dX4_sunOf_15 : decode cX4_sunOf 15 = .ok (.getfield 85, 3) := by decide +kernel
theorem dX4_sunOf_18 : decode cX4_sunOf 18 = .ok (.iload_n 1, 1) := by decide +kernel
theorem dX4_sunOf_19 : decode cX4_sunOf 19 = .ok (.iaload, 1) := by decide +kernel
theorem dX4_sunOf_20 : decode cX4_sunOf 20 = .ok (.goto 4, 3) := by decide +kernel
theorem dX4_sunOf_23 : decode cX4_sunOf 23 = .ok (.iconst 0, 1) := by decide +kernel
theorem dX4_sunOf_24 : decode cX4_sunOf 24 = .ok (.ireturn, 1) := by decide +kernel
theorem dX4_isShadowSet_0 : decode cX4_isShadowSet 0 = .ok (.iload_n 1, 1) := by decide +kernel
theorem dX4_isShadowSet_1 : decode cX4_isShadowSet 1 = .ok (.aload_n 0, 1) := by decide +kernel
theorem dX4_isShadowSet_2 : decode cX4_isShadowSet 2 = .ok (.getfield 22, 3) := by decide +kernel
theorem dX4_isShadowSet_5 : decode cX4_isShadowSet 5 = .ok (.if_icmp .lt 23, 3) := by decide +kernel
theorem dX4_isShadowSet_8 : decode cX4_isShadowSet 8 = .ok (.iload_n 1, 1) := by decide +kernel
theorem dX4_isShadowSet_9 : decode cX4_isShadowSet 9 = .ok (.bipush 16, 2) := by decide +kernel
theorem dX4_isShadowSet_11 : decode cX4_isShadowSet 11 = .ok (.if_icmp .ge 17, 3) := by decide +kernel
theorem dX4_isShadowSet_14 : decode cX4_isShadowSet 14 = .ok (.aload_n 0, 1) := by decide +kernel
theorem dX4_isShadowSet_15 : decode cX4_isShadowSet 15 = .ok (.getfield 18, 3) := by decide +kernel
theorem dX4_isShadowSet_18 : decode cX4_isShadowSet 18 = .ok (.iload_n 1, 1) := by decide +kernel
theorem dX4_isShadowSet_19 : decode cX4_isShadowSet 19 = .ok (.iaload, 1) := by decide +kernel
theorem dX4_isShadowSet_20 : decode cX4_isShadowSet 20 = .ok (.iload_n 2, 1) := by decide +kernel
theorem dX4_isShadowSet_21 : decode cX4_isShadowSet 21 = .ok (.if_icmp .ne 7, 3) := by decide +kernel
theorem dX4_isShadowSet_24 : decode cX4_isShadowSet 24 = .ok (.iconst 1, 1) := by decide +kernel
theorem dX4_isShadowSet_25 : decode cX4_isShadowSet 25 = .ok (.goto 4, 3) := by decide +kernel
theorem dX4_isShadowSet_28 : decode cX4_isShadowSet 28 = .ok (.iconst 0, 1) := by decide +kernel
theorem dX4_isShadowSet_29 : decode cX4_isShadowSet 29 = .ok (.ireturn, 1) := by decide +kernel
set_option maxRecDepth 20000 in
theorem ggX4_isShadeOf_X7_bit : GoodIn wsX4_isShadeOf wsX7_bit := goodIn_r _ [7] (by decide +kernel) (by decide +kernel)
set_option maxRecDepth 20000 in
theorem gX4_isShadeOf_X7_bit_n53 : GoodIn wsX4_isShadeOf (wsX7_bit) := ggX4_isShadeOf_X7_bit
theorem dX4_isShadeOf_0 : decode cX4_isShadeOf 0 = .ok (.aload_n 0, 1) := by decide +kernel
theorem dX4_isShadeOf_1 : decode cX4_isShadeOf 1 = .ok (.getfield 22, 3) := by decide +kernel
theorem dX4_isShadeOf_4 : decode cX4_isShadeOf 4 = .ok (.istore_n 3, 1) := by decide +kernel
theorem dX4_isShadeOf_5 : decode cX4_isShadeOf 5 = .ok (.iload_n 3, 1) := by decide +kernel
theorem dX4_isShadeOf_6 : decode cX4_isShadeOf 6 = .ok (.bipush 16, 2) := by decide +kernel
theorem dX4_isShadeOf_8 : decode cX4_isShadeOf 8 = .ok (.if_icmp .ge 52, 3) := by decide +kernel
theorem dX4_isShadeOf_11 : decode cX4_isShadeOf 11 = .ok (.iload_n 3, 1) := by decide +kernel
theorem dX4_isShadeOf_12 : decode cX4_isShadeOf 12 = .ok (.aload_n 0, 1) := by decide +kernel
theorem dX4_isShadeOf_13 : decode cX4_isShadeOf 13 = .ok (.getfield 22, 3) := by decide +kernel
theorem dX4_isShadeOf_16 : decode cX4_isShadeOf 16 = .ok (.isub, 1) := by decide +kernel
theorem dX4_isShadeOf_17 : decode cX4_isShadeOf 17 = .ok (.aload_n 2, 1) := by decide +kernel
theorem dX4_isShadeOf_18 : decode cX4_isShadeOf 18 = .ok (.getfield 88, 3) := by decide +kernel
theorem dX4_isShadeOf_21 : decode cX4_isShadeOf 21 = .ok (.if_icmp .ge 39, 3) := by decide +kernel
theorem dX4_isShadeOf_24 : decode cX4_isShadeOf 24 = .ok (.aload_n 0, 1) := by decide +kernel
theorem dX4_isShadeOf_25 : decode cX4_isShadeOf 25 = .ok (.getfield 18, 3) := by decide +kernel
theorem dX4_isShadeOf_28 : decode cX4_isShadeOf 28 = .ok (.iload_n 3, 1) := by decide +kernel
theorem dX4_isShadeOf_29 : decode cX4_isShadeOf 29 = .ok (.iaload, 1) := by decide +kernel
theorem dX4_isShadeOf_30 : decode cX4_isShadeOf 30 = .ok (.iload_n 1, 1) := by decide +kernel
theorem dX4_isShadeOf_31 : decode cX4_isShadeOf 31 = .ok (.invokestatic 53, 3) := by decide +kernel
theorem dX4_isShadeOf_34 : decode cX4_isShadeOf 34 = .ok (.aload_n 2, 1) := by decide +kernel
theorem dX4_isShadeOf_35 : decode cX4_isShadeOf 35 = .ok (.getfield 93, 3) := by decide +kernel
theorem dX4_isShadeOf_38 : decode cX4_isShadeOf 38 = .ok (.iload_n 3, 1) := by decide +kernel
theorem dX4_isShadeOf_39 : decode cX4_isShadeOf 39 = .ok (.aload_n 0, 1) := by decide +kernel
theorem dX4_isShadeOf_40 : decode cX4_isShadeOf 40 = .ok (.getfield 22, 3) := by decide +kernel
theorem dX4_isShadeOf_43 : decode cX4_isShadeOf 43 = .ok (.isub, 1) := by decide +kernel
theorem dX4_isShadeOf_44 : decode cX4_isShadeOf 44 = .ok (.iaload, 1) := by decide +kernel
theorem dX4_isShadeOf_45 : decode cX4_isShadeOf 45 = .ok (.iload_n 1, 1) := by decide +kernel
theorem dX4_isShadeOf_46 : decode cX4_isShadeOf 46 = .ok (.invokestatic 53, 3) := by decide +kernel
theorem dX4_isShadeOf_49 : decode cX4_isShadeOf 49 = .ok (.if_icmp .eq 5, 3) := by decide +kernel
theorem dX4_isShadeOf_52 : decode cX4_isShadeOf 52 = .ok (.iconst 0, 1) := by decide +kernel
theorem dX4_isShadeOf_53 : decode cX4_isShadeOf 53 = .ok (.ireturn, 1) := by decide +kernel
theorem dX4_isShadeOf_54 : decode cX4_isShadeOf 54 = .ok (.iinc 3 1, 3) := by decide +kernel
theorem dX4_isShadeOf_57 : decode cX4_isShadeOf 57 = .ok (.goto (-52), 3) := by decide +kernel
theorem dX4_isShadeOf_60 : decode cX4_isShadeOf 60 = .ok (.iconst 1, 1) := by decide +kernel
theorem dX4_isShadeOf_61 : decode cX4_isShadeOf 61 = .ok (.ireturn, 1) := by decide +kernel
theorem dX5_init_0 : decode cX5_init 0 = .ok (.aload_n 0, 1) := by decide +kernel
theorem dX5_init_1 : decode cX5_init 1 = .ok (.invokespecial 3, 3) := by decide +kernel
theorem dX5_init_4 : decode cX5_init 4 = .ok (.aload_n 0, 1) := by decide +kernel
theorem dX5_init_5 : decode cX5_init 5 = .ok (.bipush 40, 2) := by decide +kernel
theorem dX5_init_7 : decode cX5_init 7 = .ok (.newarray .int, 2) := by decide +kernel
theorem dX5_init_9 : decode cX5_init 9 = .ok (.putfield 9, 3) := by decide +kernel
theorem dX5_init_12 : decode cX5_init 12 = .ok (.aload_n 0, 1) := by decide +kernel
theorem dX5_init_13 : decode cX5_init 13 = .ok (.iconst 0, 1) := by decide +kernel
theorem dX5_init_14 : decode cX5_init 14 = .ok (.putfield 15, 3) := by decide +kernel
theorem dX5_init_17 : decode cX5_init 17 = .ok (.aload_n 0, 1) := by decide +kernel
theorem dX5_init_18 : decode cX5_init 18 = .ok (.iconst 0, 1) := by decide +kernel
theorem dX5_init_19 : decode cX5_init 19 = .ok (.putfield 19, 3) := by decide +kernel
theorem dX5_init_22 : decode cX5_init 22 = .ok (.return_, 1) := by decide +kernel
theorem dX5_isMissing_0 : decode cX5_isMissing 0 = .ok (.aload_n 0, 1) := by decide +kernel
theorem dX5_isMissing_1 : decode cX5_isMissing 1 = .ok (.getfield 15, 3) := by decide +kernel
theorem dX5_isMissing_4 : decode cX5_isMissing 4 = .ok (.ifCond .ne 7, 3) := by decide +kernel
theorem dX5_isMissing_7 : decode cX5_isMissing 7 = .ok (.iconst 1, 1) := by decide +kernel
theorem dX5_isMissing_8 : decode cX5_isMissing 8 = .ok (.goto 4, 3) := by decide +kernel
theorem dX5_isMissing_11 : decode cX5_isMissing 11 = .ok (.iconst 0, 1) := by decide +kernel
theorem dX5_isMissing_12 : decode cX5_isMissing 12 = .ok (.ireturn, 1) := by decide +kernel
theorem dX5_renew_0 : decode cX5_renew 0 = .ok (.aload_n 0, 1) := by decide +kernel
theorem dX5_renew_1 : decode cX5_renew 1 = .ok (.iload_n 1, 1) := by decide +kernel
theorem dX5_renew_2 : decode cX5_renew 2 = .ok (.putfield 15, 3) := by decide +kernel
theorem dX5_renew_5 : decode cX5_renew 5 = .ok (.aload_n 0, 1) := by decide +kernel
theorem dX5_renew_6 : decode cX5_renew 6 = .ok (.iload_n 1, 1) := by decide +kernel
theorem dX5_renew_7 : decode cX5_renew 7 = .ok (.ifCond .ne 7, 3) := by decide +kernel
theorem dX5_renew_10 : decode cX5_renew 10 = .ok (.iconst 0, 1) := by decide +kernel
theorem dX5_renew_11 : decode cX5_renew 11 = .ok (.goto 13, 3) := by decide +kernel
theorem dX5_renew_14 : decode cX5_renew 14 = .ok (.iconst 0, 1) := by decide +kernel
theorem dX5_renew_15 : decode cX5_renew 15 = .ok (.iload_n 2, 1) := by decide +kernel
theorem dX5_renew_16 : decode cX5_renew 16 = .ok (.bipush 40, 2) := by decide +kernel
theorem dX5_renew_18 : decode cX5_renew 18 = .ok (.invokestatic 22, 3) := by decide +kernel
theorem dX5_renew_21 : decode cX5_renew 21 = .ok (.invokestatic 28, 3) := by decide +kernel
theorem dX5_renew_24 : decode cX5_renew 24 = .ok (.putfield 19, 3) := by decide +kernel
theorem dX5_renew_27 : decode cX5_renew 27 = .ok (.iconst 0, 1) := by decide +kernel
theorem dX5_renew_28 : decode cX5_renew 28 = .ok (.istore_n 3, 1) := by decide +kernel
theorem dX5_renew_29 : decode cX5_renew 29 = .ok (.iload_n 3, 1) := by decide +kernel
theorem dX5_renew_30 : decode cX5_renew 30 = .ok (.bipush 40, 2) := by decide +kernel
theorem dX5_renew_32 : decode cX5_renew 32 = .ok (.if_icmp .ge 16, 3) := by decide +kernel
theorem dX5_renew_35 : decode cX5_renew 35 = .ok (.aload_n 0, 1) := by decide +kernel
theorem dX5_renew_36 : decode cX5_renew 36 = .ok (.getfield 9, 3) := by decide +kernel
theorem dX5_renew_39 : decode cX5_renew 39 = .ok (.iload_n 3, 1) := by decide +kernel
theorem dX5_renew_40 : decode cX5_renew 40 = .ok (.iconst 0, 1) := by decide +kernel
theorem dX5_renew_41 : decode cX5_renew 41 = .ok (.iastore, 1) := by decide +kernel
theorem dX5_renew_42 : decode cX5_renew 42 = .ok (.iinc 3 1, 3) := by decide +kernel
theorem dX5_renew_45 : decode cX5_renew 45 = .ok (.goto (-16), 3) := by decide +kernel
theorem dX5_renew_48 : decode cX5_renew 48 = .ok (.return_, 1) := by decide +kernel
set_option maxRecDepth 20000 in
theorem ggX5_put_X7_isWithin : GoodIn wsX5_put wsX7_isWithin := goodIn_r _ [6] (by decide +kernel) (by decide +kernel)
set_option maxRecDepth 20000 in
theorem gX5_put_X7_isWithin_n31 : GoodIn wsX5_put (wsX7_isWithin) := ggX5_put_X7_isWithin
theorem dX5_put_0 : decode cX5_put 0 = .ok (.iload_n 1, 1) := by decide +kernel
theorem dX5_put_1 : decode cX5_put 1 = .ok (.aload_n 0, 1) := by decide +kernel
theorem dX5_put_2 : decode cX5_put 2 = .ok (.getfield 19, 3) := by decide +kernel
theorem dX5_put_5 : decode cX5_put 5 = .ok (.iconst 1, 1) := by decide +kernel
theorem dX5_put_6 : decode cX5_put 6 = .ok (.isub, 1) := by decide +kernel
theorem dX5_put_7 : decode cX5_put 7 = .ok (.invokestatic 31, 3) := by decide +kernel
theorem dX5_put_10 : decode cX5_put 10 = .ok (.ifCond .eq 38, 3) := by decide +kernel
theorem dX5_put_13 : decode cX5_put 13 = .ok (.aload_n 0, 1) := by decide +kernel
theorem dX5_put_14 : decode cX5_put 14 = .ok (.getfield 9, 3) := by decide +kernel
theorem dX5_put_17 : decode cX5_put 17 = .ok (.iload_n 1, 1) := by decide +kernel
theorem dX5_put_18 : decode cX5_put 18 = .ok (.aload_n 0, 1) := by decide +kernel
theorem dX5_put_19 : decode cX5_put 19 = .ok (.getfield 15, 3) := by decide +kernel
theorem dX5_put_22 : decode cX5_put 22 = .ok (.bipush 8, 2) := by decide +kernel
theorem dX5_put_24 : decode cX5_put 24 = .ok (.if_icmp .ne 8, 3) := by decide +kernel
theorem dX5_put_27 : decode cX5_put 27 = .ok (.iload_n 2, 1) := by decide +kernel
theorem dX5_put_28 : decode cX5_put 28 = .ok (.i2b, 1) := by decide +kernel
theorem dX5_put_29 : decode cX5_put 29 = .ok (.goto 18, 3) := by decide +kernel
theorem dX5_put_32 : decode cX5_put 32 = .ok (.aload_n 0, 1) := by decide +kernel
theorem dX5_put_33 : decode cX5_put 33 = .ok (.getfield 15, 3) := by decide +kernel
theorem dX5_put_36 : decode cX5_put 36 = .ok (.bipush 16, 2) := by decide +kernel
theorem dX5_put_38 : decode cX5_put 38 = .ok (.if_icmp .ne 8, 3) := by decide +kernel
theorem dX5_put_41 : decode cX5_put 41 = .ok (.iload_n 2, 1) := by decide +kernel
theorem dX5_put_42 : decode cX5_put 42 = .ok (.i2s, 1) := by decide +kernel
theorem dX5_put_43 : decode cX5_put 43 = .ok (.goto 4, 3) := by decide +kernel
theorem dX5_put_46 : decode cX5_put 46 = .ok (.iload_n 2, 1) := by decide +kernel
theorem dX5_put_47 : decode cX5_put 47 = .ok (.iastore, 1) := by decide +kernel
theorem dX5_put_48 : decode cX5_put 48 = .ok (.return_, 1) := by decide +kernel
theorem dX5_hasRun_0 : decode cX5_hasRun 0 = .ok (.iload_n 1, 1) := by decide +kernel
theorem dX5_hasRun_1 : decode cX5_hasRun 1 = .ok (.ifCond .lt 29, 3) := by decide +kernel
theorem dX5_hasRun_4 : decode cX5_hasRun 4 = .ok (.iload_n 2, 1) := by decide +kernel
theorem dX5_hasRun_5 : decode cX5_hasRun 5 = .ok (.ifCond .lt 25, 3) := by decide +kernel
theorem dX5_hasRun_8 : decode cX5_hasRun 8 = .ok (.iload_n 2, 1) := by decide +kernel
theorem dX5_hasRun_9 : decode cX5_hasRun 9 = .ok (.aload_n 0, 1) := by decide +kernel
theorem dX5_hasRun_10 : decode cX5_hasRun 10 = .ok (.getfield 19, 3) := by decide +kernel
theorem dX5_hasRun_13 : decode cX5_hasRun 13 = .ok (.if_icmp .gt 17, 3) := by decide +kernel
theorem dX5_hasRun_16 : decode cX5_hasRun 16 = .ok (.iload_n 1, 1) := by decide +kernel
theorem dX5_hasRun_17 : decode cX5_hasRun 17 = .ok (.aload_n 0, 1) := by decide +kernel
theorem dX5_hasRun_18 : decode cX5_hasRun 18 = .ok (.getfield 19, 3) := by decide +kernel
theorem dX5_hasRun_21 : decode cX5_hasRun 21 = .ok (.iload_n 2, 1) := by decide +kernel
theorem dX5_hasRun_22 : decode cX5_hasRun 22 = .ok (.isub, 1) := by decide +kernel
theorem dX5_hasRun_23 : decode cX5_hasRun 23 = .ok (.if_icmp .gt 7, 3) := by decide +kernel
theorem dX5_hasRun_26 : decode cX5_hasRun 26 = .ok (.iconst 1, 1) := by decide +kernel
theorem dX5_hasRun_27 : decode cX5_hasRun 27 = .ok (.goto 4, 3) := by decide +kernel
theorem dX5_hasRun_30 : decode cX5_hasRun 30 = .ok (.iconst 0, 1) := by decide +kernel
theorem dX5_hasRun_31 : decode cX5_hasRun 31 = .ok (.ireturn, 1) := by decide +kernel
theorem dX5_tellsSetsOf_0 : decode cX5_tellsSetsOf 0 = .ok (.iconst 0, 1) := by decide +kernel
theorem dX5_tellsSetsOf_1 : decode cX5_tellsSetsOf 1 = .ok (.istore_n 3, 1) := by decide +kernel
theorem dX5_tellsSetsOf_2 : decode cX5_tellsSetsOf 2 = .ok (.iload_n 3, 1) := by decide +kernel
theorem dX5_tellsSetsOf_3 : decode cX5_tellsSetsOf 3 = .ok (.aload_n 0, 1) := by decide +kernel
theorem dX5_tellsSetsOf_4 : decode cX5_tellsSetsOf 4 = .ok (.getfield 19, 3) := by decide +kernel
theorem dX5_tellsSetsOf_7 : decode cX5_tellsSetsOf 7 = .ok (.if_icmp .ge 29, 3) := by decide +kernel
theorem dX5_tellsSetsOf_10 : decode cX5_tellsSetsOf 10 = .ok (.iload_n 3, 1) := by decide +kernel
theorem dX5_tellsSetsOf_11 : decode cX5_tellsSetsOf 11 = .ok (.iload_n 2, 1) := by decide +kernel
theorem dX5_tellsSetsOf_12 : decode cX5_tellsSetsOf 12 = .ok (.if_icmp .ge 24, 3) := by decide +kernel
theorem dX5_tellsSetsOf_15 : decode cX5_tellsSetsOf 15 = .ok (.aload_n 0, 1) := by decide +kernel
theorem dX5_tellsSetsOf_16 : decode cX5_tellsSetsOf 16 = .ok (.getfield 9, 3) := by decide +kernel
theorem dX5_tellsSetsOf_19 : decode cX5_tellsSetsOf 19 = .ok (.iload_n 3, 1) := by decide +kernel
theorem dX5_tellsSetsOf_20 : decode cX5_tellsSetsOf 20 = .ok (.iaload, 1) := by decide +kernel
theorem dX5_tellsSetsOf_21 : decode cX5_tellsSetsOf 21 = .ok (.iload_n 1, 1) := by decide +kernel
theorem dX5_tellsSetsOf_22 : decode cX5_tellsSetsOf 22 = .ok (.iconst (-1), 1) := by decide +kernel
theorem dX5_tellsSetsOf_23 : decode cX5_tellsSetsOf 23 = .ok (.ixor, 1) := by decide +kernel
theorem dX5_tellsSetsOf_24 : decode cX5_tellsSetsOf 24 = .ok (.iand, 1) := by decide +kernel
theorem dX5_tellsSetsOf_25 : decode cX5_tellsSetsOf 25 = .ok (.ifCond .eq 5, 3) := by decide +kernel
theorem dX5_tellsSetsOf_28 : decode cX5_tellsSetsOf 28 = .ok (.iconst 0, 1) := by decide +kernel
theorem dX5_tellsSetsOf_29 : decode cX5_tellsSetsOf 29 = .ok (.ireturn, 1) := by decide +kernel
theorem dX5_tellsSetsOf_30 : decode cX5_tellsSetsOf 30 = .ok (.iinc 3 1, 3) := by decide +kernel
theorem dX5_tellsSetsOf_33 : decode cX5_tellsSetsOf 33 = .ok (.goto (-31), 3) := by decide +kernel
theorem dX5_tellsSetsOf_36 : decode cX5_tellsSetsOf 36 = .ok (.iconst 1, 1) := by decide +kernel
theorem dX5_tellsSetsOf_37 : decode cX5_tellsSetsOf 37 = .ok (.ireturn, 1) := by decide +kernel
theorem dX6_init_0 : decode cX6_init 0 = .ok (.aload_n 0, 1) := by decide +kernel
theorem dX6_init_1 : decode cX6_init 1 = .ok (.invokespecial 1, 3) := by decide +kernel
theorem dX6_init_4 : decode cX6_init 4 = .ok (.aload_n 0, 1) := by decide +kernel
theorem dX6_init_5 : decode cX6_init 5 = .ok (.bipush 120, 2) := by decide +kernel
theorem dX6_init_7 : decode cX6_init 7 = .ok (.newarray .int, 2) := by decide +kernel
theorem dX6_init_9 : decode cX6_init 9 = .ok (.putfield 9, 3) := by decide +kernel
theorem dX6_init_12 : decode cX6_init 12 = .ok (.aload_n 0, 1) := by decide +kernel
theorem dX6_init_13 : decode cX6_init 13 = .ok (.iconst 0, 1) := by decide +kernel
theorem dX6_init_14 : decode cX6_init 14 = .ok (.putfield 13, 3) := by decide +kernel
theorem dX6_init_17 : decode cX6_init 17 = .ok (.return_, 1) := by decide +kernel
theorem dX6_append_0 : decode cX6_append 0 = .ok (.aload_n 0, 1) := by decide +kernel
theorem dX6_append_1 : decode cX6_append 1 = .ok (.getfield 13, 3) := by decide +kernel
theorem dX6_append_4 : decode cX6_append 4 = .ok (.bipush 120, 2) := by decide +kernel
theorem dX6_append_6 : decode cX6_append 6 = .ok (.if_icmp .ge 27, 3) := by decide +kernel
theorem dX6_append_9 : decode cX6_append 9 = .ok (.aload_n 0, 1) := by decide +kernel
theorem dX6_append_10 : decode cX6_append 10 = .ok (.getfield 9, 3) := by decide +kernel
theorem dX6_append_13 : decode cX6_append 13 = .ok (.aload_n 0, 1) := by decide +kernel
theorem dX6_append_14 : decode cX6_append 14 = .ok (.getfield 13, 3) := by decide +kernel
theorem dX6_append_17 : decode cX6_append 17 = .ok (.iload_n 1, 1) := by decide +kernel
theorem dX6_append_18 : decode cX6_append 18 = .ok (.sipush 255, 3) := by decide +kernel
theorem dX6_append_21 : decode cX6_append 21 = .ok (.iand, 1) := by decide +kernel
theorem dX6_append_22 : decode cX6_append 22 = .ok (.iastore, 1) := by decide +kernel
theorem dX6_append_23 : decode cX6_append 23 = .ok (.aload_n 0, 1) := by decide +kernel
theorem dX6_append_24 : decode cX6_append 24 = .ok (.dup, 1) := by decide +kernel
theorem dX6_append_25 : decode cX6_append 25 = .ok (.getfield 13, 3) := by decide +kernel
theorem dX6_append_28 : decode cX6_append 28 = .ok (.iconst 1, 1) := by decide +kernel
theorem dX6_append_29 : decode cX6_append 29 = .ok (.iadd, 1) := by decide +kernel
theorem dX6_append_30 : decode cX6_append 30 = .ok (.putfield 13, 3) := by decide +kernel
theorem dX6_append_33 : decode cX6_append 33 = .ok (.return_, 1) := by decide +kernel
theorem dX6_byteAt_0 : decode cX6_byteAt 0 = .ok (.iload_n 1, 1) := by decide +kernel
theorem dX6_byteAt_1 : decode cX6_byteAt 1 = .ok (.ifCond .lt 20, 3) := by decide +kernel
theorem dX6_byteAt_4 : decode cX6_byteAt 4 = .ok (.iload_n 1, 1) := by decide +kernel
theorem dX6_byteAt_5 : decode cX6_byteAt 5 = .ok (.aload_n 0, 1) := by decide +kernel
theorem dX6_byteAt_6 : decode cX6_byteAt 6 = .ok (.getfield 13, 3) := by decide +kernel
theorem dX6_byteAt_9 : decode cX6_byteAt 9 = .ok (.if_icmp .ge 12, 3) := by decide +kernel
theorem dX6_byteAt_12 : decode cX6_byteAt 12 = .ok (.aload_n 0, 1) := by decide +kernel
theorem dX6_byteAt_13 : decode cX6_byteAt 13 = .ok (.getfield 9, 3) := by decide +kernel
theorem dX6_byteAt_16 : decode cX6_byteAt 16 = .ok (.iload_n 1, 1) := by decide +kernel
theorem dX6_byteAt_17 : decode cX6_byteAt 17 = .ok (.iaload, 1) := by decide +kernel
theorem dX6_byteAt_18 : decode cX6_byteAt 18 = .ok (.goto 4, 3) := by decide +kernel
theorem dX6_byteAt_21 : decode cX6_byteAt 21 = .ok (.iconst (-1), 1) := by decide +kernel
theorem dX6_byteAt_22 : decode cX6_byteAt 22 = .ok (.ireturn, 1) := by decide +kernel
set_option maxRecDepth 20000 in
theorem ggX7_init_X1_init : GoodIn wsX7_init wsX1_init := goodIn_r _ [36, 37, 2, 3, 29, 38, 39, 40, 41, 42, 43, 44, 45, 46, 47, 48, 49, 50, 102, 103, 104, 105, 106, 107, 108, 109, 110, 111, 112, 113] (by decide +kernel) (by decide +kernel)
set_option maxRecDepth 20000 in
theorem gX7_init_X1_init : GoodIn wsX7_init (wsX1_init) := ggX7_init_X1_init
set_option maxRecDepth 20000 in
theorem ggX7_init_X4_init : GoodIn wsX7_init wsX4_init := goodIn_r _ [52, 53, 2, 3, 54, 5, 6, 55, 29, 56, 57, 58, 59, 35, 36, 37, 38, 39, 40, 41, 42, 43, 44, 45, 46, 47, 48, 49, 50, 102, 103, 104, 105, 106, 107, 108, 109, 110, 111, 112, 113, 124, 125, 126, 127] (by decide +kernel) (by decide +kernel)
set_option maxRecDepth 20000 in
theorem gX7_init_X4_init_n21 : GoodIn wsX7_init (wsX4_init) := ggX7_init_X4_init
set_option maxRecDepth 20000 in
theorem ggX7_init_X0_init : GoodIn wsX7_init wsX0_init := goodIn_r _ [61, 62, 2, 3, 29, 63, 64, 65, 66, 67, 68, 128, 129, 130, 131, 132, 133] (by decide +kernel) (by decide +kernel)
set_option maxRecDepth 20000 in
theorem gX7_init_X0_init_n28 : GoodIn wsX7_init (wsX0_init) := ggX7_init_X0_init
set_option maxRecDepth 20000 in
theorem ggX7_init_X2_init : GoodIn wsX7_init wsX2_init := goodIn_r _ [70, 71, 2, 3, 29, 72, 73, 74, 134, 135, 136] (by decide +kernel) (by decide +kernel)
set_option maxRecDepth 20000 in
theorem gX7_init_X2_init_n35 : GoodIn wsX7_init (wsX2_init) := ggX7_init_X2_init
set_option maxRecDepth 20000 in
theorem ggX7_init_X3_init : GoodIn wsX7_init wsX3_init := goodIn_r _ [76, 77, 2, 3, 78, 79, 80, 81, 82, 5, 6, 83, 29, 84, 85, 86, 87, 88, 89, 90, 91, 92, 93, 94, 95, 35, 36, 37, 38, 39, 40, 41, 42, 43, 44, 45, 46, 47, 48, 49, 50, 148, 149, 137, 138, 139, 140, 141, 142, 143, 144, 102, 103, 104, 105, 106, 107, 108, 109, 110, 111, 112, 113] (by decide +kernel) (by decide +kernel)
set_option maxRecDepth 20000 in
theorem gX7_init_X3_init_n42 : GoodIn wsX7_init (wsX3_init) := ggX7_init_X3_init
set_option maxRecDepth 20000 in
theorem ggX7_init_X5_init : GoodIn wsX7_init wsX5_init := goodIn_r _ [97, 98, 2, 3, 29, 99, 100, 101, 145, 146, 147] (by decide +kernel) (by decide +kernel)
set_option maxRecDepth 20000 in
theorem gX7_init_X5_init_n66 : GoodIn wsX7_init (wsX5_init) := ggX7_init_X5_init
theorem dX7_init_0 : decode cX7_init 0 = .ok (.aload_n 0, 1) := by decide +kernel
theorem dX7_init_1 : decode cX7_init 1 = .ok (.invokespecial 1, 3) := by decide +kernel
theorem dX7_init_4 : decode cX7_init 4 = .ok (.aload_n 0, 1) := by decide +kernel
theorem dX7_init_5 : decode cX7_init 5 = .ok (.new 7, 3) := by decide +kernel
theorem dX7_init_8 : decode cX7_init 8 = .ok (.dup, 1) := by decide +kernel
theorem dX7_init_9 : decode cX7_init 9 = .ok (.invokespecial 9, 3) := by decide +kernel
theorem dX7_init_12 : decode cX7_init 12 = .ok (.putfield 10, 3) := by decide +kernel
theorem dX7_init_15 : decode cX7_init 15 = .ok (.aload_n 0, 1) := by decide +kernel
theorem dX7_init_16 : decode cX7_init 16 = .ok (.new 7, 3) := by decide +kernel
theorem dX7_init_19 : decode cX7_init 19 = .ok (.dup, 1) := by decide +kernel
theorem dX7_init_20 : decode cX7_init 20 = .ok (.invokespecial 9, 3) := by decide +kernel
theorem dX7_init_23 : decode cX7_init 23 = .ok (.putfield 16, 3) := by decide +kernel
theorem dX7_init_26 : decode cX7_init 26 = .ok (.aload_n 0, 1) := by decide +kernel
theorem dX7_init_27 : decode cX7_init 27 = .ok (.new 19, 3) := by decide +kernel
theorem dX7_init_30 : decode cX7_init 30 = .ok (.dup, 1) := by decide +kernel
theorem dX7_init_31 : decode cX7_init 31 = .ok (.invokespecial 21, 3) := by decide +kernel
theorem dX7_init_34 : decode cX7_init 34 = .ok (.putfield 22, 3) := by decide +kernel
theorem dX7_init_37 : decode cX7_init 37 = .ok (.aload_n 0, 1) := by decide +kernel
theorem dX7_init_38 : decode cX7_init 38 = .ok (.new 26, 3) := by decide +kernel
theorem dX7_init_41 : decode cX7_init 41 = .ok (.dup, 1) := by decide +kernel
theorem dX7_init_42 : decode cX7_init 42 = .ok (.invokespecial 28, 3) := by decide +kernel
theorem dX7_init_45 : decode cX7_init 45 = .ok (.putfield 29, 3) := by decide +kernel
theorem dX7_init_48 : decode cX7_init 48 = .ok (.aload_n 0, 1) := by decide +kernel
theorem dX7_init_49 : decode cX7_init 49 = .ok (.new 33, 3) := by decide +kernel
theorem dX7_init_52 : decode cX7_init 52 = .ok (.dup, 1) := by decide +kernel
theorem dX7_init_53 : decode cX7_init 53 = .ok (.invokespecial 35, 3) := by decide +kernel
theorem dX7_init_56 : decode cX7_init 56 = .ok (.putfield 36, 3) := by decide +kernel
theorem dX7_init_59 : decode cX7_init 59 = .ok (.aload_n 0, 1) := by decide +kernel
theorem dX7_init_60 : decode cX7_init 60 = .ok (.new 40, 3) := by decide +kernel
theorem dX7_init_63 : decode cX7_init 63 = .ok (.dup, 1) := by decide +kernel
theorem dX7_init_64 : decode cX7_init 64 = .ok (.invokespecial 42, 3) := by decide +kernel
theorem dX7_init_67 : decode cX7_init 67 = .ok (.putfield 43, 3) := by decide +kernel
theorem dX7_init_70 : decode cX7_init 70 = .ok (.aload_n 0, 1) := by decide +kernel
theorem dX7_init_71 : decode cX7_init 71 = .ok (.aload_n 0, 1) := by decide +kernel
theorem dX7_init_72 : decode cX7_init 72 = .ok (.getfield 43, 3) := by decide +kernel
theorem dX7_init_75 : decode cX7_init 75 = .ok (.getfield 47, 3) := by decide +kernel
theorem dX7_init_78 : decode cX7_init 78 = .ok (.putfield 51, 3) := by decide +kernel
theorem dX7_init_81 : decode cX7_init 81 = .ok (.aload_n 0, 1) := by decide +kernel
theorem dX7_init_82 : decode cX7_init 82 = .ok (.iconst 4, 1) := by decide +kernel
theorem dX7_init_83 : decode cX7_init 83 = .ok (.anewarray 52, 3) := by decide +kernel
theorem dX7_init_86 : decode cX7_init 86 = .ok (.putfield 54, 3) := by decide +kernel
theorem dX7_init_89 : decode cX7_init 89 = .ok (.aload_n 0, 1) := by decide +kernel
theorem dX7_init_90 : decode cX7_init 90 = .ok (.bipush 7, 2) := by decide +kernel
theorem dX7_init_92 : decode cX7_init 92 = .ok (.newarray .int, 2) := by decide +kernel
theorem dX7_init_94 : decode cX7_init 94 = .ok (.putfield 58, 3) := by decide +kernel
theorem dX7_init_97 : decode cX7_init 97 = .ok (.aload_n 0, 1) := by decide +kernel
theorem dX7_init_98 : decode cX7_init 98 = .ok (.iconst 0, 1) := by decide +kernel
theorem dX7_init_99 : decode cX7_init 99 = .ok (.putfield 62, 3) := by decide +kernel
theorem dX7_init_102 : decode cX7_init 102 = .ok (.iconst 0, 1) := by decide +kernel
theorem dX7_init_103 : decode cX7_init 103 = .ok (.istore_n 1, 1) := by decide +kernel
theorem dX7_init_104 : decode cX7_init 104 = .ok (.iload_n 1, 1) := by decide +kernel
theorem dX7_init_105 : decode cX7_init 105 = .ok (.iconst 4, 1) := by decide +kernel
theorem dX7_init_106 : decode cX7_init 106 = .ok (.if_icmp .ge 22, 3) := by decide +kernel
theorem dX7_init_109 : decode cX7_init 109 = .ok (.aload_n 0, 1) := by decide +kernel
theorem dX7_init_110 : decode cX7_init 110 = .ok (.getfield 54, 3) := by decide +kernel
theorem dX7_init_113 : decode cX7_init 113 = .ok (.iload_n 1, 1) := by decide +kernel
theorem dX7_init_114 : decode cX7_init 114 = .ok (.new 52, 3) := by decide +kernel
theorem dX7_init_117 : decode cX7_init 117 = .ok (.dup, 1) := by decide +kernel
theorem dX7_init_118 : decode cX7_init 118 = .ok (.invokespecial 66, 3) := by decide +kernel
theorem dX7_init_121 : decode cX7_init 121 = .ok (.aastore, 1) := by decide +kernel
theorem dX7_init_122 : decode cX7_init 122 = .ok (.iinc 1 1, 3) := by decide +kernel
theorem dX7_init_125 : decode cX7_init 125 = .ok (.goto (-21), 3) := by decide +kernel
theorem dX7_init_128 : decode cX7_init 128 = .ok (.return_, 1) := by decide +kernel
set_option maxRecDepth 20000 in
theorem ggX7_person_X7_isWithin : GoodIn wsX7_person wsX7_isWithin := goodIn_r _ [5] (by decide +kernel) (by decide +kernel)
set_option maxRecDepth 20000 in
theorem gX7_person_X7_isWithin : GoodIn wsX7_person (va_wsS RX7 67 yX7_isWithin wsX7_isWithin) := goodIn_app (goodIn_of _ (by decide +kernel)) ggX7_person_X7_isWithin
set_option maxRecDepth 20000 in
theorem ggX7_person_X7_found : GoodIn wsX7_person wsX7_found := goodIn_r _ [9, 10, 11, 28, 29, 30, 31, 32, 33, 34, 35, 36, 37] (by decide +kernel) (by decide +kernel)
set_option maxRecDepth 20000 in
theorem gX7_person_X7_found : GoodIn wsX7_person (wsV RX7 71 RX7 yX7_found wsX7_found) := goodIn_app (goodIn_of _ (by decide +kernel)) ggX7_person_X7_found
set_option maxRecDepth 20000 in
theorem ggX7_person_X1_isFull : GoodIn wsX7_person wsX1_isFull := goodIn_r _ [16, 17, 38, 39, 40, 41, 42, 43, 44, 45, 46, 47, 48, 49] (by decide +kernel) (by decide +kernel)
set_option maxRecDepth 20000 in
theorem gX7_person_X1_isFull : GoodIn wsX7_person (wsV RX7 75 RX1 yX1_isFull wsX1_isFull) := goodIn_app (goodIn_of _ (by decide +kernel)) ggX7_person_X1_isFull
set_option maxRecDepth 20000 in
theorem ggX7_person_X1_add : GoodIn wsX7_person wsX1_add := goodIn_r _ [21, 22, 17, 23, 24, 25, 26, 27, 13, 14, 15, 16, 38, 39, 40, 41, 42, 43, 44, 45, 46, 47, 48, 49] (by decide +kernel) (by decide +kernel)
set_option maxRecDepth 20000 in
theorem gX7_person_X1_add : GoodIn wsX7_person (wsV RX7 79 RX1 yX1_add wsX1_add) := goodIn_app (goodIn_of _ (by decide +kernel)) ggX7_person_X1_add
theorem dX7_person_0 : decode cX7_person 0 = .ok (.iload_n 1, 1) := by decide +kernel
theorem dX7_person_1 : decode cX7_person 1 = .ok (.bipush 6, 2) := by decide +kernel
theorem dX7_person_3 : decode cX7_person 3 = .ok (.invokestatic 67, 3) := by decide +kernel
theorem dX7_person_6 : decode cX7_person 6 = .ok (.ifCond .ne 9, 3) := by decide +kernel
theorem dX7_person_9 : decode cX7_person 9 = .ok (.aload_n 0, 1) := by decide +kernel
theorem dX7_person_10 : decode cX7_person 10 = .ok (.iconst 0, 1) := by decide +kernel
theorem dX7_person_11 : decode cX7_person 11 = .ok (.invokevirtual 71, 3) := by decide +kernel
theorem dX7_person_14 : decode cX7_person 14 = .ok (.ireturn, 1) := by decide +kernel
theorem dX7_person_15 : decode cX7_person 15 = .ok (.aload_n 0, 1) := by decide +kernel
theorem dX7_person_16 : decode cX7_person 16 = .ok (.getfield 10, 3) := by decide +kernel
theorem dX7_person_19 : decode cX7_person 19 = .ok (.invokevirtual 75, 3) := by decide +kernel
theorem dX7_person_22 : decode cX7_person 22 = .ok (.ifCond .eq 9, 3) := by decide +kernel
theorem dX7_person_25 : decode cX7_person 25 = .ok (.aload_n 0, 1) := by decide +kernel
theorem dX7_person_26 : decode cX7_person 26 = .ok (.iconst 1, 1) := by decide +kernel
theorem dX7_person_27 : decode cX7_person 27 = .ok (.invokevirtual 71, 3) := by decide +kernel
theorem dX7_person_30 : decode cX7_person 30 = .ok (.ireturn, 1) := by decide +kernel
theorem dX7_person_31 : decode cX7_person 31 = .ok (.aload_n 0, 1) := by decide +kernel
theorem dX7_person_32 : decode cX7_person 32 = .ok (.getfield 10, 3) := by decide +kernel
theorem dX7_person_35 : decode cX7_person 35 = .ok (.iload_n 1, 1) := by decide +kernel
theorem dX7_person_36 : decode cX7_person 36 = .ok (.invokevirtual 79, 3) := by decide +kernel
theorem dX7_person_39 : decode cX7_person 39 = .ok (.ireturn, 1) := by decide +kernel
set_option maxRecDepth 20000 in
theorem ggX7_of_X1_isPerson : GoodIn wsX7_of wsX1_isPerson := goodIn_r _ [12, 13, 60, 61, 62, 63, 64, 65, 66, 67, 68, 69, 70, 71] (by decide +kernel) (by decide +kernel)
set_option maxRecDepth 20000 in
theorem gX7_of_X1_isPerson : GoodIn wsX7_of (wsV RX7 82 RX1 yX1_isPerson wsX1_isPerson) := goodIn_app (goodIn_of _ (by decide +kernel)) ggX7_of_X1_isPerson
set_option maxRecDepth 20000 in
theorem ggX7_of_X7_found : GoodIn wsX7_of wsX7_found := goodIn_r _ [18, 19, 20, 50, 51, 52, 53, 54, 55, 56, 57, 58, 59] (by decide +kernel) (by decide +kernel)
set_option maxRecDepth 20000 in
theorem gX7_of_X7_found : GoodIn wsX7_of (wsV RX7 71 RX7 yX7_found wsX7_found) := goodIn_app (goodIn_of _ (by decide +kernel)) ggX7_of_X7_found
set_option maxRecDepth 20000 in
theorem ggX7_of_X1_claimOf : GoodIn wsX7_of wsX1_claimOf := goodIn_r _ [24, 13, 25, 26, 27, 60, 61, 62, 63, 64, 65, 66, 67, 68, 69, 70, 71] (by decide +kernel) (by decide +kernel)
set_option maxRecDepth 20000 in
theorem gX7_of_X1_claimOf : GoodIn wsX7_of (wsV RX7 105 RX1 yX1_claimOf wsX1_claimOf) := goodIn_app (goodIn_of _ (by decide +kernel)) ggX7_of_X1_claimOf
set_option maxRecDepth 20000 in
theorem ggX7_of_X1_havers : GoodIn wsX7_of wsX1_havers := goodIn_r _ [31, 32, 33, 13, 34, 35, 17, 36, 37, 38, 39, 11, 40, 41, 42, 43, 44, 45, 46, 47, 48, 22, 23, 24, 25, 26, 27, 60, 61, 62, 63, 64, 65, 66, 67, 68, 69, 70, 71] (by decide +kernel) (by decide +kernel)
set_option maxRecDepth 20000 in
theorem gX7_of_X1_havers : GoodIn wsX7_of (wsV RX7 109 RX1 yX1_havers wsX1_havers) := goodIn_app (goodIn_of _ (by decide +kernel)) ggX7_of_X1_havers
set_option maxRecDepth 20000 in
theorem ggX7_of_X7_bit : GoodIn wsX7_of wsX7_bit := goodIn_r _ [36] (by decide +kernel) (by decide +kernel)
set_option maxRecDepth 20000 in
theorem gX7_of_X7_bit : GoodIn wsX7_of (va_wsS RX7 113 yX7_bit wsX7_bit) := goodIn_app (goodIn_of _ (by decide +kernel)) ggX7_of_X7_bit
theorem dX7_of_0 : decode cX7_of 0 = .ok (.aload_n 0, 1) := by decide +kernel
theorem dX7_of_1 : decode cX7_of 1 = .ok (.getfield 10, 3) := by decide +kernel
theorem dX7_of_4 : decode cX7_of 4 = .ok (.iload_n 1, 1) := by decide +kernel
theorem dX7_of_5 : decode cX7_of 5 = .ok (.invokevirtual 82, 3) := by decide +kernel
theorem dX7_of_8 : decode cX7_of 8 = .ok (.ifCond .ne 9, 3) := by decide +kernel
theorem dX7_of_11 : decode cX7_of 11 = .ok (.aload_n 0, 1) := by decide +kernel
theorem dX7_of_12 : decode cX7_of 12 = .ok (.iconst 0, 1) := by decide +kernel
theorem dX7_of_13 : decode cX7_of 13 = .ok (.invokevirtual 71, 3) := by decide +kernel
theorem dX7_of_16 : decode cX7_of 16 = .ok (.ireturn, 1) := by decide +kernel
theorem dX7_of_17 : decode cX7_of 17 = .ok (.iload_n 2, 1) := by decide +kernel
theorem dX7_of_18 : decode cX7_of 18 = .ok (.tableswitch 136 0 6 #[42, 52, 62, 72, 82, 92, 124], 42) := by decide +kernel
theorem dX7_of_60 : decode cX7_of 60 = .ok (.aload_n 0, 1) := by decide +kernel
theorem dX7_of_61 : decode cX7_of 61 = .ok (.getfield 10, 3) := by decide +kernel
theorem dX7_of_64 : decode cX7_of 64 = .ok (.getfield 86, 3) := by decide +kernel
theorem dX7_of_67 : decode cX7_of 67 = .ok (.iload_n 1, 1) := by decide +kernel
theorem dX7_of_68 : decode cX7_of 68 = .ok (.iaload, 1) := by decide +kernel
theorem dX7_of_69 : decode cX7_of 69 = .ok (.ireturn, 1) := by decide +kernel
theorem dX7_of_70 : decode cX7_of 70 = .ok (.aload_n 0, 1) := by decide +kernel
theorem dX7_of_71 : decode cX7_of 71 = .ok (.getfield 10, 3) := by decide +kernel
theorem dX7_of_74 : decode cX7_of 74 = .ok (.getfield 89, 3) := by decide +kernel
theorem dX7_of_77 : decode cX7_of 77 = .ok (.iload_n 1, 1) := by decide +kernel
theorem dX7_of_78 : decode cX7_of 78 = .ok (.iaload, 1) := by decide +kernel
theorem dX7_of_79 : decode cX7_of 79 = .ok (.ireturn, 1) := by decide +kernel
theorem dX7_of_80 : decode cX7_of 80 = .ok (.aload_n 0, 1) := by decide +kernel
theorem dX7_of_81 : decode cX7_of 81 = .ok (.getfield 10, 3) := by decide +kernel
theorem dX7_of_84 : decode cX7_of 84 = .ok (.getfield 92, 3) := by decide +kernel
theorem dX7_of_87 : decode cX7_of 87 = .ok (.iload_n 1, 1) := by decide +kernel
theorem dX7_of_88 : decode cX7_of 88 = .ok (.iaload, 1) := by decide +kernel
theorem dX7_of_89 : decode cX7_of 89 = .ok (.ireturn, 1) := by decide +kernel
theorem dX7_of_90 : decode cX7_of 90 = .ok (.aload_n 0, 1) := by decide +kernel
theorem dX7_of_91 : decode cX7_of 91 = .ok (.getfield 10, 3) := by decide +kernel
theorem dX7_of_94 : decode cX7_of 94 = .ok (.getfield 95, 3) := by decide +kernel
theorem dX7_of_97 : decode cX7_of 97 = .ok (.iload_n 1, 1) := by decide +kernel
theorem dX7_of_98 : decode cX7_of 98 = .ok (.iaload, 1) := by decide +kernel
theorem dX7_of_99 : decode cX7_of 99 = .ok (.ireturn, 1) := by decide +kernel
theorem dX7_of_100 : decode cX7_of 100 = .ok (.aload_n 0, 1) := by decide +kernel
theorem dX7_of_101 : decode cX7_of 101 = .ok (.getfield 10, 3) := by decide +kernel
theorem dX7_of_104 : decode cX7_of 104 = .ok (.getfield 98, 3) := by decide +kernel
theorem dX7_of_107 : decode cX7_of 107 = .ok (.iload_n 1, 1) := by decide +kernel
theorem dX7_of_108 : decode cX7_of 108 = .ok (.iaload, 1) := by decide +kernel
theorem dX7_of_109 : decode cX7_of 109 = .ok (.ireturn, 1) := by decide +kernel
theorem dX7_of_110 : decode cX7_of 110 = .ok (.aload_n 0, 1) := by decide +kernel
theorem dX7_of_111 : decode cX7_of 111 = .ok (.getfield 10, 3) := by decide +kernel
theorem dX7_of_114 : decode cX7_of 114 = .ok (.getfield 101, 3) := by decide +kernel
theorem dX7_of_117 : decode cX7_of 117 = .ok (.bipush 16, 2) := by decide +kernel
theorem dX7_of_119 : decode cX7_of 119 = .ok (.if_icmp .ge 21, 3) := by decide +kernel
theorem dX7_of_122 : decode cX7_of 122 = .ok (.aload_n 0, 1) := by decide +kernel
theorem dX7_of_123 : decode cX7_of 123 = .ok (.getfield 10, 3) := by decide +kernel
theorem dX7_of_126 : decode cX7_of 126 = .ok (.iload_n 1, 1) := by decide +kernel
theorem dX7_of_127 : decode cX7_of 127 = .ok (.aload_n 0, 1) := by decide +kernel
theorem dX7_of_128 : decode cX7_of 128 = .ok (.getfield 10, 3) := by decide +kernel
theorem dX7_of_131 : decode cX7_of 131 = .ok (.getfield 101, 3) := by decide +kernel
theorem dX7_of_134 : decode cX7_of 134 = .ok (.invokevirtual 105, 3) := by decide +kernel
theorem dX7_of_137 : decode cX7_of 137 = .ok (.goto 4, 3) := by decide +kernel
theorem dX7_of_140 : decode cX7_of 140 = .ok (.iconst 0, 1) := by decide +kernel
theorem dX7_of_141 : decode cX7_of 141 = .ok (.ireturn, 1) := by decide +kernel
theorem dX7_of_142 : decode cX7_of 142 = .ok (.aload_n 0, 1) := by decide +kernel
theorem dX7_of_143 : decode cX7_of 143 = .ok (.getfield 10, 3) := by decide +kernel
theorem dX7_of_146 : decode cX7_of 146 = .ok (.invokevirtual 109, 3) := by decide +kernel
theorem dX7_of_149 : decode cX7_of 149 = .ok (.iload_n 1, 1) := by decide +kernel
theorem dX7_of_150 : decode cX7_of 150 = .ok (.invokestatic 113, 3) := by decide +kernel
theorem dX7_of_153 : decode cX7_of 153 = .ok (.ireturn, 1) := by decide +kernel
theorem dX7_of_154 : decode cX7_of 154 = .ok (.aload_n 0, 1) := by decide +kernel
theorem dX7_of_155 : decode cX7_of 155 = .ok (.iconst 0, 1) := by decide +kernel
theorem dX7_of_156 : decode cX7_of 156 = .ok (.invokevirtual 71, 3) := by decide +kernel
theorem dX7_of_159 : decode cX7_of 159 = .ok (.ireturn, 1) := by decide +kernel
set_option maxRecDepth 20000 in
theorem ggX7_change_X1_isPerson : GoodIn wsX7_change wsX1_isPerson := goodIn_r _ [11, 12, 37, 38, 39, 40, 41, 42, 43, 44, 45, 46, 47, 48] (by decide +kernel) (by decide +kernel)
set_option maxRecDepth 20000 in
theorem gX7_change_X1_isPerson : GoodIn wsX7_change (wsV RX7 82 RX1 yX1_isPerson wsX1_isPerson) := goodIn_app (goodIn_of _ (by decide +kernel)) ggX7_change_X1_isPerson
set_option maxRecDepth 20000 in
theorem ggX7_change_X7_found : GoodIn wsX7_change wsX7_found := goodIn_r _ [17, 18, 19, 27, 28, 29, 30, 31, 32, 33, 34, 35, 36] (by decide +kernel) (by decide +kernel)
set_option maxRecDepth 20000 in
theorem gX7_change_X7_found : GoodIn wsX7_change (wsV RX7 71 RX7 yX7_found wsX7_found) := goodIn_app (goodIn_of _ (by decide +kernel)) ggX7_change_X7_found
set_option maxRecDepth 20000 in
theorem ggX7_change_X7_replace : GoodIn wsX7_change wsX7_replace := goodIn_r _ [23, 24, 25, 16, 26, 13, 14, 15, 17, 18, 19, 27, 28, 29, 30, 31, 32, 33, 34, 35, 36] (by decide +kernel) (by decide +kernel)
set_option maxRecDepth 20000 in
theorem gX7_change_X7_replace : GoodIn wsX7_change (wsV RX7 116 RX7 yX7_replace wsX7_replace) := goodIn_app (goodIn_of _ (by decide +kernel)) ggX7_change_X7_replace
theorem dX7_change_0 : decode cX7_change 0 = .ok (.aload_n 0, 1) := by decide +kernel
theorem dX7_change_1 : decode cX7_change 1 = .ok (.getfield 10, 3) := by decide +kernel
theorem dX7_change_4 : decode cX7_change 4 = .ok (.iload_n 1, 1) := by decide +kernel
theorem dX7_change_5 : decode cX7_change 5 = .ok (.invokevirtual 82, 3) := by decide +kernel
theorem dX7_change_8 : decode cX7_change 8 = .ok (.ifCond .ne 9, 3) := by decide +kernel
theorem dX7_change_11 : decode cX7_change 11 = .ok (.aload_n 0, 1) := by decide +kernel
theorem dX7_change_12 : decode cX7_change 12 = .ok (.iconst 0, 1) := by decide +kernel
theorem dX7_change_13 : decode cX7_change 13 = .ok (.invokevirtual 71, 3) := by decide +kernel
theorem dX7_change_16 : decode cX7_change 16 = .ok (.ireturn, 1) := by decide +kernel
theorem dX7_change_17 : decode cX7_change 17 = .ok (.iload_n 2, 1) := by decide +kernel
theorem dX7_change_18 : decode cX7_change 18 = .ok (.tableswitch 94 0 3 #[30, 46, 62, 78], 30) := by decide +kernel
theorem dX7_change_48 : decode cX7_change 48 = .ok (.aload_n 0, 1) := by decide +kernel
theorem dX7_change_49 : decode cX7_change 49 = .ok (.aload_n 0, 1) := by decide +kernel
theorem dX7_change_50 : decode cX7_change 50 = .ok (.getfield 10, 3) := by decide +kernel
theorem dX7_change_53 : decode cX7_change 53 = .ok (.getfield 86, 3) := by decide +kernel
theorem dX7_change_56 : decode cX7_change 56 = .ok (.iload_n 1, 1) := by decide +kernel
theorem dX7_change_57 : decode cX7_change 57 = .ok (.iload_n 3, 1) := by decide +kernel
theorem dX7_change_58 : decode cX7_change 58 = .ok (.bipush 6, 2) := by decide +kernel
theorem dX7_change_60 : decode cX7_change 60 = .ok (.invokevirtual 116, 3) := by decide +kernel
theorem dX7_change_63 : decode cX7_change 63 = .ok (.ireturn, 1) := by decide +kernel
theorem dX7_change_64 : decode cX7_change 64 = .ok (.aload_n 0, 1) := by decide +kernel
theorem dX7_change_65 : decode cX7_change 65 = .ok (.aload_n 0, 1) := by decide +kernel
theorem dX7_change_66 : decode cX7_change 66 = .ok (.getfield 10, 3) := by decide +kernel
theorem dX7_change_69 : decode cX7_change 69 = .ok (.getfield 89, 3) := by decide +kernel
theorem dX7_change_72 : decode cX7_change 72 = .ok (.iload_n 1, 1) := by decide +kernel
theorem dX7_change_73 : decode cX7_change 73 = .ok (.iload_n 3, 1) := by decide +kernel
theorem dX7_change_74 : decode cX7_change 74 = .ok (.bipush 99, 2) := by decide +kernel
theorem dX7_change_76 : decode cX7_change 76 = .ok (.invokevirtual 116, 3) := by decide +kernel
theorem dX7_change_79 : decode cX7_change 79 = .ok (.ireturn, 1) := by decide +kernel
theorem dX7_change_80 : decode cX7_change 80 = .ok (.aload_n 0, 1) := by decide +kernel
theorem dX7_change_81 : decode cX7_change 81 = .ok (.aload_n 0, 1) := by decide +kernel
theorem dX7_change_82 : decode cX7_change 82 = .ok (.getfield 10, 3) := by decide +kernel
theorem dX7_change_85 : decode cX7_change 85 = .ok (.getfield 92, 3) := by decide +kernel
theorem dX7_change_88 : decode cX7_change 88 = .ok (.iload_n 1, 1) := by decide +kernel
theorem dX7_change_89 : decode cX7_change 89 = .ok (.iload_n 3, 1) := by decide +kernel
theorem dX7_change_90 : decode cX7_change 90 = .ok (.bipush 9, 2) := by decide +kernel
theorem dX7_change_92 : decode cX7_change 92 = .ok (.invokevirtual 116, 3) := by decide +kernel
theorem dX7_change_95 : decode cX7_change 95 = .ok (.ireturn, 1) := by decide +kernel
theorem dX7_change_96 : decode cX7_change 96 = .ok (.aload_n 0, 1) := by decide +kernel
theorem dX7_change_97 : decode cX7_change 97 = .ok (.aload_n 0, 1) := by decide +kernel
theorem dX7_change_98 : decode cX7_change 98 = .ok (.getfield 10, 3) := by decide +kernel
theorem dX7_change_101 : decode cX7_change 101 = .ok (.getfield 95, 3) := by decide +kernel
theorem dX7_change_104 : decode cX7_change 104 = .ok (.iload_n 1, 1) := by decide +kernel
theorem dX7_change_105 : decode cX7_change 105 = .ok (.iload_n 3, 1) := by decide +kernel
theorem dX7_change_106 : decode cX7_change 106 = .ok (.ldc 120, 2) := by decide +kernel
theorem dX7_change_108 : decode cX7_change 108 = .ok (.invokevirtual 116, 3) := by decide +kernel
theorem dX7_change_111 : decode cX7_change 111 = .ok (.ireturn, 1) := by decide +kernel
theorem dX7_change_112 : decode cX7_change 112 = .ok (.aload_n 0, 1) := by decide +kernel
theorem dX7_change_113 : decode cX7_change 113 = .ok (.iconst 0, 1) := by decide +kernel
theorem dX7_change_114 : decode cX7_change 114 = .ok (.invokevirtual 71, 3) := by decide +kernel
theorem dX7_change_117 : decode cX7_change 117 = .ok (.ireturn, 1) := by decide +kernel
set_option maxRecDepth 20000 in
theorem ggX7_share_X1_areTwo : GoodIn wsX7_share wsX1_areTwo := goodIn_r _ [7, 8, 9, 10, 6, 11, 12, 40, 41, 42, 43, 44, 45, 46, 47, 48, 49, 50, 51] (by decide +kernel) (by decide +kernel)
set_option maxRecDepth 20000 in
theorem gX7_share_X1_areTwo : GoodIn wsX7_share (wsV RX7 121 RX1 yX1_areTwo wsX1_areTwo) := goodIn_app (goodIn_of _ (by decide +kernel)) ggX7_share_X1_areTwo
set_option maxRecDepth 20000 in
theorem ggX7_share_X7_found : GoodIn wsX7_share wsX7_found := goodIn_r _ [17, 18, 19, 30, 31, 32, 33, 34, 35, 36, 37, 38, 39] (by decide +kernel) (by decide +kernel)
set_option maxRecDepth 20000 in
theorem gX7_share_X7_found : GoodIn wsX7_share (wsV RX7 71 RX7 yX7_found wsX7_found) := goodIn_app (goodIn_of _ (by decide +kernel)) ggX7_share_X7_found
set_option maxRecDepth 20000 in
theorem ggX7_share_X1_join : GoodIn wsX7_share wsX1_join := goodIn_r _ [23, 24, 25, 4, 5, 6, 7, 8, 9, 10, 11, 12, 26, 27, 28, 29, 40, 41, 42, 43, 44, 45, 46, 47, 48, 49, 50, 51] (by decide +kernel) (by decide +kernel)
set_option maxRecDepth 20000 in
theorem gX7_share_X1_join : GoodIn wsX7_share (wsV RX7 124 RX1 yX1_join wsX1_join) := goodIn_app (goodIn_of _ (by decide +kernel)) ggX7_share_X1_join
theorem dX7_share_0 : decode cX7_share 0 = .ok (.aload_n 0, 1) := by decide +kernel
theorem dX7_share_1 : decode cX7_share 1 = .ok (.getfield 10, 3) := by decide +kernel
theorem dX7_share_4 : decode cX7_share 4 = .ok (.iload_n 1, 1) := by decide +kernel
theorem dX7_share_5 : decode cX7_share 5 = .ok (.iload_n 2, 1) := by decide +kernel
theorem dX7_share_6 : decode cX7_share 6 = .ok (.invokevirtual 121, 3) := by decide +kernel
theorem dX7_share_9 : decode cX7_share 9 = .ok (.ifCond .ne 9, 3) := by decide +kernel
theorem dX7_share_12 : decode cX7_share 12 = .ok (.aload_n 0, 1) := by decide +kernel
theorem dX7_share_13 : decode cX7_share 13 = .ok (.iconst 0, 1) := by decide +kernel
theorem dX7_share_14 : decode cX7_share 14 = .ok (.invokevirtual 71, 3) := by decide +kernel
theorem dX7_share_17 : decode cX7_share 17 = .ok (.ireturn, 1) := by decide +kernel
theorem dX7_share_18 : decode cX7_share 18 = .ok (.aload_n 0, 1) := by decide +kernel
theorem dX7_share_19 : decode cX7_share 19 = .ok (.getfield 10, 3) := by decide +kernel
theorem dX7_share_22 : decode cX7_share 22 = .ok (.getfield 98, 3) := by decide +kernel
theorem dX7_share_25 : decode cX7_share 25 = .ok (.iload_n 1, 1) := by decide +kernel
theorem dX7_share_26 : decode cX7_share 26 = .ok (.iaload, 1) := by decide +kernel
theorem dX7_share_27 : decode cX7_share 27 = .ok (.iload_n 2, 1) := by decide +kernel
theorem dX7_share_28 : decode cX7_share 28 = .ok (.if_icmp .ne 5, 3) := by decide +kernel
theorem dX7_share_31 : decode cX7_share 31 = .ok (.iconst 0, 1) := by decide +kernel
theorem dX7_share_32 : decode cX7_share 32 = .ok (.ireturn, 1) := by decide +kernel
theorem dX7_share_33 : decode cX7_share 33 = .ok (.aload_n 0, 1) := by decide +kernel
theorem dX7_share_34 : decode cX7_share 34 = .ok (.getfield 10, 3) := by decide +kernel
theorem dX7_share_37 : decode cX7_share 37 = .ok (.iload_n 1, 1) := by decide +kernel
theorem dX7_share_38 : decode cX7_share 38 = .ok (.iload_n 2, 1) := by decide +kernel
theorem dX7_share_39 : decode cX7_share 39 = .ok (.invokevirtual 124, 3) := by decide +kernel
theorem dX7_share_42 : decode cX7_share 42 = .ok (.iconst 1, 1) := by decide +kernel
theorem dX7_share_43 : decode cX7_share 43 = .ok (.ireturn, 1) := by decide +kernel
set_option maxRecDepth 20000 in
theorem ggX7_part_X1_isPerson : GoodIn wsX7_part wsX1_isPerson := goodIn_r _ [7, 8, 32, 33, 34, 35, 36, 37, 38, 39, 40, 41, 42, 43] (by decide +kernel) (by decide +kernel)
set_option maxRecDepth 20000 in
theorem gX7_part_X1_isPerson : GoodIn wsX7_part (wsV RX7 82 RX1 yX1_isPerson wsX1_isPerson) := goodIn_app (goodIn_of _ (by decide +kernel)) ggX7_part_X1_isPerson
set_option maxRecDepth 20000 in
theorem ggX7_part_X7_found : GoodIn wsX7_part wsX7_found := goodIn_r _ [13, 14, 15, 22, 23, 24, 25, 26, 27, 28, 29, 30, 31] (by decide +kernel) (by decide +kernel)
set_option maxRecDepth 20000 in
theorem gX7_part_X7_found : GoodIn wsX7_part (wsV RX7 71 RX7 yX7_found wsX7_found) := goodIn_app (goodIn_of _ (by decide +kernel)) ggX7_part_X7_found
set_option maxRecDepth 20000 in
theorem ggX7_part_X1_separate : GoodIn wsX7_part wsX1_separate := goodIn_r _ [19, 20, 21, 4, 5, 6, 7, 8, 32, 33, 34, 35, 36, 37, 38, 39, 40, 41, 42, 43] (by decide +kernel) (by decide +kernel)
set_option maxRecDepth 20000 in
theorem gX7_part_X1_separate : GoodIn wsX7_part (wsV RX7 128 RX1 yX1_separate wsX1_separate) := goodIn_app (goodIn_of _ (by decide +kernel)) ggX7_part_X1_separate
theorem dX7_part_0 : decode cX7_part 0 = .ok (.aload_n 0, 1) := by decide +kernel
theorem dX7_part_1 : decode cX7_part 1 = .ok (.getfield 10, 3) := by decide +kernel
theorem dX7_part_4 : decode cX7_part 4 = .ok (.iload_n 1, 1) := by decide +kernel
theorem dX7_part_5 : decode cX7_part 5 = .ok (.invokevirtual 82, 3) := by decide +kernel
theorem dX7_part_8 : decode cX7_part 8 = .ok (.ifCond .ne 9, 3) := by decide +kernel
theorem dX7_part_11 : decode cX7_part 11 = .ok (.aload_n 0, 1) := by decide +kernel
theorem dX7_part_12 : decode cX7_part 12 = .ok (.iconst 0, 1) := by decide +kernel
theorem dX7_part_13 : decode cX7_part 13 = .ok (.invokevirtual 71, 3) := by decide +kernel
theorem dX7_part_16 : decode cX7_part 16 = .ok (.ireturn, 1) := by decide +kernel
theorem dX7_part_17 : decode cX7_part 17 = .ok (.aload_n 0, 1) := by decide +kernel
theorem dX7_part_18 : decode cX7_part 18 = .ok (.getfield 10, 3) := by decide +kernel
theorem dX7_part_21 : decode cX7_part 21 = .ok (.getfield 98, 3) := by decide +kernel
theorem dX7_part_24 : decode cX7_part 24 = .ok (.iload_n 1, 1) := by decide +kernel
theorem dX7_part_25 : decode cX7_part 25 = .ok (.iaload, 1) := by decide +kernel
theorem dX7_part_26 : decode cX7_part 26 = .ok (.istore_n 2, 1) := by decide +kernel
theorem dX7_part_27 : decode cX7_part 27 = .ok (.iload_n 2, 1) := by decide +kernel
theorem dX7_part_28 : decode cX7_part 28 = .ok (.iconst (-1), 1) := by decide +kernel
theorem dX7_part_29 : decode cX7_part 29 = .ok (.if_icmp .ne 9, 3) := by decide +kernel
theorem dX7_part_32 : decode cX7_part 32 = .ok (.aload_n 0, 1) := by decide +kernel
theorem dX7_part_33 : decode cX7_part 33 = .ok (.iconst 3, 1) := by decide +kernel
theorem dX7_part_34 : decode cX7_part 34 = .ok (.invokevirtual 71, 3) := by decide +kernel
theorem dX7_part_37 : decode cX7_part 37 = .ok (.ireturn, 1) := by decide +kernel
theorem dX7_part_38 : decode cX7_part 38 = .ok (.aload_n 0, 1) := by decide +kernel
theorem dX7_part_39 : decode cX7_part 39 = .ok (.getfield 10, 3) := by decide +kernel
theorem dX7_part_42 : decode cX7_part 42 = .ok (.iload_n 1, 1) := by decide +kernel
theorem dX7_part_43 : decode cX7_part 43 = .ok (.invokevirtual 128, 3) := by decide +kernel
theorem dX7_part_46 : decode cX7_part 46 = .ok (.iload_n 2, 1) := by decide +kernel
theorem dX7_part_47 : decode cX7_part 47 = .ok (.ireturn, 1) := by decide +kernel
set_option maxRecDepth 20000 in
theorem ggX7_light_X7_isWithin : GoodIn wsX7_light wsX7_isWithin := goodIn_r _ [7] (by decide +kernel) (by decide +kernel)
set_option maxRecDepth 20000 in
theorem gX7_light_X7_isWithin : GoodIn wsX7_light (va_wsS RX7 67 yX7_isWithin wsX7_isWithin) := goodIn_app (goodIn_of _ (by decide +kernel)) ggX7_light_X7_isWithin
set_option maxRecDepth 20000 in
theorem ggX7_light_X7_found : GoodIn wsX7_light wsX7_found := goodIn_r _ [11, 12, 13, 14, 15, 16, 17, 18, 19, 20, 21, 22, 23] (by decide +kernel) (by decide +kernel)
set_option maxRecDepth 20000 in
theorem gX7_light_X7_found : GoodIn wsX7_light (wsV RX7 71 RX7 yX7_found wsX7_found) := goodIn_app (goodIn_of _ (by decide +kernel)) ggX7_light_X7_found
theorem dX7_light_0 : decode cX7_light 0 = .ok (.iload_n 1, 1) := by decide +kernel
theorem dX7_light_1 : decode cX7_light 1 = .ok (.ldc 120, 2) := by decide +kernel
theorem dX7_light_3 : decode cX7_light 3 = .ok (.invokestatic 67, 3) := by decide +kernel
theorem dX7_light_6 : decode cX7_light 6 = .ok (.ifCond .ne 9, 3) := by decide +kernel
theorem dX7_light_9 : decode cX7_light 9 = .ok (.aload_n 0, 1) := by decide +kernel
theorem dX7_light_10 : decode cX7_light 10 = .ok (.iconst 0, 1) := by decide +kernel
theorem dX7_light_11 : decode cX7_light 11 = .ok (.invokevirtual 71, 3) := by decide +kernel
theorem dX7_light_14 : decode cX7_light 14 = .ok (.ireturn, 1) := by decide +kernel
theorem dX7_light_15 : decode cX7_light 15 = .ok (.aload_n 0, 1) := by decide +kernel
theorem dX7_light_16 : decode cX7_light 16 = .ok (.getfield 10, 3) := by decide +kernel
theorem dX7_light_19 : decode cX7_light 19 = .ok (.getfield 132, 3) := by decide +kernel
theorem dX7_light_22 : decode cX7_light 22 = .ok (.istore_n 2, 1) := by decide +kernel
theorem dX7_light_23 : decode cX7_light 23 = .ok (.aload_n 0, 1) := by decide +kernel
theorem dX7_light_24 : decode cX7_light 24 = .ok (.getfield 10, 3) := by decide +kernel
theorem dX7_light_27 : decode cX7_light 27 = .ok (.iload_n 1, 1) := by decide +kernel
theorem dX7_light_28 : decode cX7_light 28 = .ok (.putfield 132, 3) := by decide +kernel
theorem dX7_light_31 : decode cX7_light 31 = .ok (.iload_n 2, 1) := by decide +kernel
theorem dX7_light_32 : decode cX7_light 32 = .ok (.ireturn, 1) := by decide +kernel
set_option maxRecDepth 20000 in
theorem ggX7_claim_X1_isPerson : GoodIn wsX7_claim wsX1_isPerson := goodIn_r _ [6, 7, 35, 36, 37, 38, 39, 40, 41, 42, 43, 44, 45, 46] (by decide +kernel) (by decide +kernel)
set_option maxRecDepth 20000 in
theorem gX7_claim_X1_isPerson : GoodIn wsX7_claim (wsV RX7 82 RX1 yX1_isPerson wsX1_isPerson) := goodIn_app (goodIn_of _ (by decide +kernel)) ggX7_claim_X1_isPerson
set_option maxRecDepth 20000 in
theorem ggX7_claim_X7_isWithin : GoodIn wsX7_claim wsX7_isWithin := goodIn_r _ [11] (by decide +kernel) (by decide +kernel)
set_option maxRecDepth 20000 in
theorem gX7_claim_X7_isWithin : GoodIn wsX7_claim (va_wsS RX7 67 yX7_isWithin wsX7_isWithin) := goodIn_app (goodIn_of _ (by decide +kernel)) ggX7_claim_X7_isWithin
set_option maxRecDepth 20000 in
theorem ggX7_claim_X7_found : GoodIn wsX7_claim wsX7_found := goodIn_r _ [15, 16, 17, 25, 26, 27, 28, 29, 30, 31, 32, 33, 34] (by decide +kernel) (by decide +kernel)
set_option maxRecDepth 20000 in
theorem gX7_claim_X7_found : GoodIn wsX7_claim (wsV RX7 71 RX7 yX7_found wsX7_found) := goodIn_app (goodIn_of _ (by decide +kernel)) ggX7_claim_X7_found
set_option maxRecDepth 20000 in
theorem ggX7_claim_X1_claimOf : GoodIn wsX7_claim wsX1_claimOf := goodIn_r _ [21, 7, 22, 23, 24, 35, 36, 37, 38, 39, 40, 41, 42, 43, 44, 45, 46] (by decide +kernel) (by decide +kernel)
set_option maxRecDepth 20000 in
theorem gX7_claim_X1_claimOf : GoodIn wsX7_claim (wsV RX7 105 RX1 yX1_claimOf wsX1_claimOf) := goodIn_app (goodIn_of _ (by decide +kernel)) ggX7_claim_X1_claimOf
theorem dX7_claim_0 : decode cX7_claim 0 = .ok (.aload_n 0, 1) := by decide +kernel
theorem dX7_claim_1 : decode cX7_claim 1 = .ok (.getfield 10, 3) := by decide +kernel
theorem dX7_claim_4 : decode cX7_claim 4 = .ok (.iload_n 1, 1) := by decide +kernel
theorem dX7_claim_5 : decode cX7_claim 5 = .ok (.invokevirtual 82, 3) := by decide +kernel
theorem dX7_claim_8 : decode cX7_claim 8 = .ok (.ifCond .eq 12, 3) := by decide +kernel
theorem dX7_claim_11 : decode cX7_claim 11 = .ok (.iload_n 2, 1) := by decide +kernel
theorem dX7_claim_12 : decode cX7_claim 12 = .ok (.bipush 15, 2) := by decide +kernel
theorem dX7_claim_14 : decode cX7_claim 14 = .ok (.invokestatic 67, 3) := by decide +kernel
theorem dX7_claim_17 : decode cX7_claim 17 = .ok (.ifCond .ne 9, 3) := by decide +kernel
theorem dX7_claim_20 : decode cX7_claim 20 = .ok (.aload_n 0, 1) := by decide +kernel
theorem dX7_claim_21 : decode cX7_claim 21 = .ok (.iconst 0, 1) := by decide +kernel
theorem dX7_claim_22 : decode cX7_claim 22 = .ok (.invokevirtual 71, 3) := by decide +kernel
theorem dX7_claim_25 : decode cX7_claim 25 = .ok (.ireturn, 1) := by decide +kernel
theorem dX7_claim_26 : decode cX7_claim 26 = .ok (.aload_n 0, 1) := by decide +kernel
theorem dX7_claim_27 : decode cX7_claim 27 = .ok (.getfield 10, 3) := by decide +kernel
theorem dX7_claim_30 : decode cX7_claim 30 = .ok (.iload_n 1, 1) := by decide +kernel
theorem dX7_claim_31 : decode cX7_claim 31 = .ok (.iload_n 2, 1) := by decide +kernel
theorem dX7_claim_32 : decode cX7_claim 32 = .ok (.invokevirtual 105, 3) := by decide +kernel
theorem dX7_claim_35 : decode cX7_claim 35 = .ok (.ireturn, 1) := by decide +kernel
set_option maxRecDepth 20000 in
theorem ggX7_go_X7_found : GoodIn wsX7_go wsX7_found := goodIn_r _ [8, 9, 10, 55, 56, 57, 58, 59, 60, 61, 62, 63, 64] (by decide +kernel) (by decide +kernel)
set_option maxRecDepth 20000 in
theorem gX7_go_X7_found : GoodIn wsX7_go (wsV RX7 71 RX7 yX7_found wsX7_found) := goodIn_app (goodIn_of _ (by decide +kernel)) ggX7_go_X7_found
set_option maxRecDepth 20000 in
theorem ggX7_go_X1_passHours : GoodIn wsX7_go wsX1_passHours := goodIn_r _ [15, 16, 17, 18, 19, 14, 20, 21, 22, 23, 24, 7, 25, 26, 27, 28, 29, 30, 31, 32, 33, 34, 35, 36, 37, 38, 39, 40, 41, 42, 43, 44, 45, 46, 47, 48, 49, 50, 51, 52, 53, 54, 65, 66, 67, 68, 69, 70, 71, 72, 73, 74, 75, 76] (by decide +kernel) (by decide +kernel)
set_option maxRecDepth 20000 in
theorem gX7_go_X1_passHours : GoodIn wsX7_go (wsV RX7 135 RX1 yX1_passHours wsX1_passHours) := goodIn_app (goodIn_of _ (by decide +kernel)) ggX7_go_X1_passHours
theorem dX7_go_0 : decode cX7_go 0 = .ok (.iload_n 1, 1) := by decide +kernel
theorem dX7_go_1 : decode cX7_go 1 = .ok (.iconst 1, 1) := by decide +kernel
theorem dX7_go_2 : decode cX7_go 2 = .ok (.if_icmp .lt 9, 3) := by decide +kernel
theorem dX7_go_5 : decode cX7_go 5 = .ok (.iload_n 1, 1) := by decide +kernel
theorem dX7_go_6 : decode cX7_go 6 = .ok (.bipush 16, 2) := by decide +kernel
theorem dX7_go_8 : decode cX7_go 8 = .ok (.if_icmp .le 9, 3) := by decide +kernel
theorem dX7_go_11 : decode cX7_go 11 = .ok (.aload_n 0, 1) := by decide +kernel
theorem dX7_go_12 : decode cX7_go 12 = .ok (.iconst 0, 1) := by decide +kernel
theorem dX7_go_13 : decode cX7_go 13 = .ok (.invokevirtual 71, 3) := by decide +kernel
theorem dX7_go_16 : decode cX7_go 16 = .ok (.ireturn, 1) := by decide +kernel
theorem dX7_go_17 : decode cX7_go 17 = .ok (.iload_n 1, 1) := by decide +kernel
theorem dX7_go_18 : decode cX7_go 18 = .ok (.bipush 16, 2) := by decide +kernel
theorem dX7_go_20 : decode cX7_go 20 = .ok (.aload_n 0, 1) := by decide +kernel
theorem dX7_go_21 : decode cX7_go 21 = .ok (.getfield 10, 3) := by decide +kernel
theorem dX7_go_24 : decode cX7_go 24 = .ok (.getfield 101, 3) := by decide +kernel
theorem dX7_go_27 : decode cX7_go 27 = .ok (.isub, 1) := by decide +kernel
theorem dX7_go_28 : decode cX7_go 28 = .ok (.if_icmp .le 9, 3) := by decide +kernel
theorem dX7_go_31 : decode cX7_go 31 = .ok (.aload_n 0, 1) := by decide +kernel
theorem dX7_go_32 : decode cX7_go 32 = .ok (.iconst 4, 1) := by decide +kernel
theorem dX7_go_33 : decode cX7_go 33 = .ok (.invokevirtual 71, 3) := by decide +kernel
theorem dX7_go_36 : decode cX7_go 36 = .ok (.ireturn, 1) := by decide +kernel
theorem dX7_go_37 : decode cX7_go 37 = .ok (.aload_n 0, 1) := by decide +kernel
theorem dX7_go_38 : decode cX7_go 38 = .ok (.getfield 10, 3) := by decide +kernel
theorem dX7_go_41 : decode cX7_go 41 = .ok (.iload_n 1, 1) := by decide +kernel
theorem dX7_go_42 : decode cX7_go 42 = .ok (.invokevirtual 135, 3) := by decide +kernel
theorem dX7_go_45 : decode cX7_go 45 = .ok (.aload_n 0, 1) := by decide +kernel
theorem dX7_go_46 : decode cX7_go 46 = .ok (.getfield 10, 3) := by decide +kernel
theorem dX7_go_49 : decode cX7_go 49 = .ok (.getfield 138, 3) := by decide +kernel
theorem dX7_go_52 : decode cX7_go 52 = .ok (.ireturn, 1) := by decide +kernel
set_option maxRecDepth 20000 in
theorem ggX7_at_X7_isWithin : GoodIn wsX7_at wsX7_isWithin := goodIn_r _ [6] (by decide +kernel) (by decide +kernel)
set_option maxRecDepth 20000 in
theorem gX7_at_X7_isWithin : GoodIn wsX7_at (va_wsS RX7 67 yX7_isWithin wsX7_isWithin) := goodIn_app (goodIn_of _ (by decide +kernel)) ggX7_at_X7_isWithin
set_option maxRecDepth 20000 in
theorem ggX7_at_X7_found : GoodIn wsX7_at wsX7_found := goodIn_r _ [10, 11, 12, 13, 14, 15, 16, 17, 18, 19, 20, 21, 22] (by decide +kernel) (by decide +kernel)
set_option maxRecDepth 20000 in
theorem gX7_at_X7_found : GoodIn wsX7_at (wsV RX7 71 RX7 yX7_found wsX7_found) := goodIn_app (goodIn_of _ (by decide +kernel)) ggX7_at_X7_found
theorem dX7_at_0 : decode cX7_at 0 = .ok (.iload_n 1, 1) := by decide +kernel
theorem dX7_at_1 : decode cX7_at 1 = .ok (.bipush 16, 2) := by decide +kernel
theorem dX7_at_3 : decode cX7_at 3 = .ok (.invokestatic 67, 3) := by decide +kernel
theorem dX7_at_6 : decode cX7_at 6 = .ok (.ifCond .ne 9, 3) := by decide +kernel
theorem dX7_at_9 : decode cX7_at 9 = .ok (.aload_n 0, 1) := by decide +kernel
theorem dX7_at_10 : decode cX7_at 10 = .ok (.iconst 0, 1) := by decide +kernel
theorem dX7_at_11 : decode cX7_at 11 = .ok (.invokevirtual 71, 3) := by decide +kernel
theorem dX7_at_14 : decode cX7_at 14 = .ok (.ireturn, 1) := by decide +kernel
theorem dX7_at_15 : decode cX7_at 15 = .ok (.aload_n 0, 1) := by decide +kernel
theorem dX7_at_16 : decode cX7_at 16 = .ok (.getfield 10, 3) := by decide +kernel
theorem dX7_at_19 : decode cX7_at 19 = .ok (.getfield 101, 3) := by decide +kernel
theorem dX7_at_22 : decode cX7_at 22 = .ok (.istore_n 2, 1) := by decide +kernel
theorem dX7_at_23 : decode cX7_at 23 = .ok (.aload_n 0, 1) := by decide +kernel
theorem dX7_at_24 : decode cX7_at 24 = .ok (.getfield 10, 3) := by decide +kernel
theorem dX7_at_27 : decode cX7_at 27 = .ok (.iload_n 1, 1) := by decide +kernel
theorem dX7_at_28 : decode cX7_at 28 = .ok (.putfield 101, 3) := by decide +kernel
theorem dX7_at_31 : decode cX7_at 31 = .ok (.iload_n 2, 1) := by decide +kernel
theorem dX7_at_32 : decode cX7_at 32 = .ok (.ireturn, 1) := by decide +kernel
set_option maxRecDepth 20000 in
theorem ggX7_now_X1_havers : GoodIn wsX7_now wsX1_havers := goodIn_r _ [10, 11, 12, 13, 14, 15, 16, 17, 18, 19, 20, 9, 21, 22, 23, 24, 25, 26, 27, 28, 29, 30, 31, 32, 33, 34, 35, 52, 53, 54, 55, 56, 57, 58, 59, 60, 61, 62, 63] (by decide +kernel) (by decide +kernel)
set_option maxRecDepth 20000 in
theorem gX7_now_X1_havers : GoodIn wsX7_now (wsV RX7 109 RX1 yX1_havers wsX1_havers) := goodIn_app (goodIn_of _ (by decide +kernel)) ggX7_now_X1_havers
set_option maxRecDepth 20000 in
theorem ggX7_now_X7_found : GoodIn wsX7_now wsX7_found := goodIn_r _ [39, 40, 41, 42, 43, 44, 45, 46, 47, 48, 49, 50, 51] (by decide +kernel) (by decide +kernel)
set_option maxRecDepth 20000 in
theorem gX7_now_X7_found : GoodIn wsX7_now (wsV RX7 71 RX7 yX7_found wsX7_found) := goodIn_app (goodIn_of _ (by decide +kernel)) ggX7_now_X7_found
theorem dX7_now_0 : decode cX7_now 0 = .ok (.iload_n 1, 1) := by decide +kernel
theorem dX7_now_1 : decode cX7_now 1 = .ok (.tableswitch 75 0 4 #[35, 43, 51, 59, 67], 35) := by decide +kernel
theorem dX7_now_36 : decode cX7_now 36 = .ok (.aload_n 0, 1) := by decide +kernel
theorem dX7_now_37 : decode cX7_now 37 = .ok (.getfield 10, 3) := by decide +kernel
theorem dX7_now_40 : decode cX7_now 40 = .ok (.getfield 101, 3) := by decide +kernel
theorem dX7_now_43 : decode cX7_now 43 = .ok (.ireturn, 1) := by decide +kernel
theorem dX7_now_44 : decode cX7_now 44 = .ok (.aload_n 0, 1) := by decide +kernel
theorem dX7_now_45 : decode cX7_now 45 = .ok (.getfield 10, 3) := by decide +kernel
theorem dX7_now_48 : decode cX7_now 48 = .ok (.getfield 138, 3) := by decide +kernel
theorem dX7_now_51 : decode cX7_now 51 = .ok (.ireturn, 1) := by decide +kernel
theorem dX7_now_52 : decode cX7_now 52 = .ok (.aload_n 0, 1) := by decide +kernel
theorem dX7_now_53 : decode cX7_now 53 = .ok (.getfield 10, 3) := by decide +kernel
theorem dX7_now_56 : decode cX7_now 56 = .ok (.getfield 141, 3) := by decide +kernel
theorem dX7_now_59 : decode cX7_now 59 = .ok (.ireturn, 1) := by decide +kernel
theorem dX7_now_60 : decode cX7_now 60 = .ok (.aload_n 0, 1) := by decide +kernel
theorem dX7_now_61 : decode cX7_now 61 = .ok (.getfield 10, 3) := by decide +kernel
theorem dX7_now_64 : decode cX7_now 64 = .ok (.getfield 132, 3) := by decide +kernel
theorem dX7_now_67 : decode cX7_now 67 = .ok (.ireturn, 1) := by decide +kernel
theorem dX7_now_68 : decode cX7_now 68 = .ok (.aload_n 0, 1) := by decide +kernel
theorem dX7_now_69 : decode cX7_now 69 = .ok (.getfield 10, 3) := by decide +kernel
theorem dX7_now_72 : decode cX7_now 72 = .ok (.invokevirtual 109, 3) := by decide +kernel
theorem dX7_now_75 : decode cX7_now 75 = .ok (.ireturn, 1) := by decide +kernel
theorem dX7_now_76 : decode cX7_now 76 = .ok (.aload_n 0, 1) := by decide +kernel
theorem dX7_now_77 : decode cX7_now 77 = .ok (.iconst 0, 1) := by decide +kernel
theorem dX7_now_78 : decode cX7_now 78 = .ok (.invokevirtual 71, 3) := by decide +kernel
theorem dX7_now_81 : decode cX7_now 81 = .ok (.ireturn, 1) := by decide +kernel
set_option maxRecDepth 20000 in
theorem ggX7_met_X1_isPerson : GoodIn wsX7_met wsX1_isPerson := goodIn_r _ [7, 8, 119, 120, 121, 122, 123, 124, 125, 126, 127, 128, 129, 130] (by decide +kernel) (by decide +kernel)
set_option maxRecDepth 20000 in
theorem gX7_met_X1_isPerson : GoodIn wsX7_met (wsV RX7 82 RX1 yX1_isPerson wsX1_isPerson) := goodIn_app (goodIn_of _ (by decide +kernel)) ggX7_met_X1_isPerson
set_option maxRecDepth 20000 in
theorem ggX7_met_X7_found : GoodIn wsX7_met wsX7_found := goodIn_r _ [13, 14, 15, 109, 110, 111, 112, 113, 114, 115, 116, 117, 118] (by decide +kernel) (by decide +kernel)
set_option maxRecDepth 20000 in
theorem gX7_met_X7_found : GoodIn wsX7_met (wsV RX7 71 RX7 yX7_found wsX7_found) := goodIn_app (goodIn_of _ (by decide +kernel)) ggX7_met_X7_found
set_option maxRecDepth 20000 in
theorem ggX7_met_X4_see : GoodIn wsX7_met wsX4_see := goodIn_r _ [20, 21, 22, 23, 19, 24, 25, 26, 27, 28, 29, 30, 31, 6, 32, 33, 34, 35, 36, 37, 38, 39, 40, 41, 42, 8, 43, 44, 45, 46, 47, 48, 49, 50, 51, 52, 53, 54, 55, 56, 57, 58, 59, 60, 61, 62, 12, 63, 64, 65, 66, 67, 68, 69, 70, 71, 72, 73, 74, 75, 76, 77, 78, 79, 80, 81, 82, 83, 84, 85, 86, 131, 132, 133, 134, 119, 120, 121, 122, 123, 124, 125, 126, 127, 128, 129, 130] (by decide +kernel) (by decide +kernel)
set_option maxRecDepth 20000 in
theorem gX7_met_X4_see : GoodIn wsX7_met (wsV RX7 144 RX4 yX4_see wsX4_see) := goodIn_app (goodIn_of _ (by decide +kernel)) ggX7_met_X4_see
set_option maxRecDepth 20000 in
theorem ggX7_met_X4_metOf : GoodIn wsX7_met wsX4_metOf := goodIn_r _ [90, 25, 91, 92, 4, 5, 6, 7, 8, 93, 94, 95, 19, 96, 97, 28, 98, 99, 100, 101, 57, 62, 12, 63, 102, 103, 104, 105, 106, 107, 108, 131, 132, 133, 134, 119, 120, 121, 122, 123, 124, 125, 126, 127, 128, 129, 130] (by decide +kernel) (by decide +kernel)
set_option maxRecDepth 20000 in
theorem gX7_met_X4_metOf : GoodIn wsX7_met (wsV RX7 148 RX4 yX4_metOf wsX4_metOf) := goodIn_app (goodIn_of _ (by decide +kernel)) ggX7_met_X4_metOf
theorem dX7_met_0 : decode cX7_met 0 = .ok (.aload_n 0, 1) := by decide +kernel
theorem dX7_met_1 : decode cX7_met 1 = .ok (.getfield 10, 3) := by decide +kernel
theorem dX7_met_4 : decode cX7_met 4 = .ok (.iload_n 1, 1) := by decide +kernel
theorem dX7_met_5 : decode cX7_met 5 = .ok (.invokevirtual 82, 3) := by decide +kernel
theorem dX7_met_8 : decode cX7_met 8 = .ok (.ifCond .ne 9, 3) := by decide +kernel
theorem dX7_met_11 : decode cX7_met 11 = .ok (.aload_n 0, 1) := by decide +kernel
theorem dX7_met_12 : decode cX7_met 12 = .ok (.iconst 0, 1) := by decide +kernel
theorem dX7_met_13 : decode cX7_met 13 = .ok (.invokevirtual 71, 3) := by decide +kernel
theorem dX7_met_16 : decode cX7_met 16 = .ok (.ireturn, 1) := by decide +kernel
theorem dX7_met_17 : decode cX7_met 17 = .ok (.aload_n 0, 1) := by decide +kernel
theorem dX7_met_18 : decode cX7_met 18 = .ok (.getfield 22, 3) := by decide +kernel
theorem dX7_met_21 : decode cX7_met 21 = .ok (.aload_n 0, 1) := by decide +kernel
theorem dX7_met_22 : decode cX7_met 22 = .ok (.getfield 10, 3) := by decide +kernel
theorem dX7_met_25 : decode cX7_met 25 = .ok (.invokevirtual 144, 3) := by decide +kernel
theorem dX7_met_28 : decode cX7_met 28 = .ok (.aload_n 0, 1) := by decide +kernel
theorem dX7_met_29 : decode cX7_met 29 = .ok (.getfield 22, 3) := by decide +kernel
theorem dX7_met_32 : decode cX7_met 32 = .ok (.iload_n 1, 1) := by decide +kernel
theorem dX7_met_33 : decode cX7_met 33 = .ok (.invokevirtual 148, 3) := by decide +kernel
theorem dX7_met_36 : decode cX7_met 36 = .ok (.ireturn, 1) := by decide +kernel
set_option maxRecDepth 20000 in
theorem ggX7_cold_X1_isPerson : GoodIn wsX7_cold wsX1_isPerson := goodIn_r _ [7, 8, 112, 113, 114, 115, 116, 117, 118, 119, 120, 121, 122, 123] (by decide +kernel) (by decide +kernel)
set_option maxRecDepth 20000 in
theorem gX7_cold_X1_isPerson : GoodIn wsX7_cold (wsV RX7 82 RX1 yX1_isPerson wsX1_isPerson) := goodIn_app (goodIn_of _ (by decide +kernel)) ggX7_cold_X1_isPerson
set_option maxRecDepth 20000 in
theorem ggX7_cold_X7_found : GoodIn wsX7_cold wsX7_found := goodIn_r _ [13, 14, 15, 102, 103, 104, 105, 106, 107, 108, 109, 110, 111] (by decide +kernel) (by decide +kernel)
set_option maxRecDepth 20000 in
theorem gX7_cold_X7_found : GoodIn wsX7_cold (wsV RX7 71 RX7 yX7_found wsX7_found) := goodIn_app (goodIn_of _ (by decide +kernel)) ggX7_cold_X7_found
set_option maxRecDepth 20000 in
theorem ggX7_cold_X4_see : GoodIn wsX7_cold wsX4_see := goodIn_r _ [20, 21, 22, 23, 19, 24, 25, 26, 27, 28, 29, 30, 31, 6, 32, 33, 34, 35, 36, 37, 38, 39, 40, 41, 42, 8, 43, 44, 45, 46, 47, 48, 49, 50, 51, 52, 53, 54, 55, 56, 57, 58, 59, 60, 61, 62, 12, 63, 64, 65, 66, 67, 68, 69, 70, 71, 72, 73, 74, 75, 76, 77, 78, 79, 80, 81, 82, 83, 84, 85, 86, 124, 125, 126, 127, 112, 113, 114, 115, 116, 117, 118, 119, 120, 121, 122, 123] (by decide +kernel) (by decide +kernel)
set_option maxRecDepth 20000 in
theorem gX7_cold_X4_see : GoodIn wsX7_cold (wsV RX7 144 RX4 yX4_see wsX4_see) := goodIn_app (goodIn_of _ (by decide +kernel)) ggX7_cold_X4_see
set_option maxRecDepth 20000 in
theorem ggX7_cold_X4_firstCold : GoodIn wsX7_cold wsX4_firstCold := goodIn_r _ [90, 25, 28, 91, 4, 5, 6, 7, 8, 92, 93, 94, 19, 95, 96, 97, 98, 99, 100, 101, 57, 62, 12, 63, 124, 125, 126, 127, 112, 113, 114, 115, 116, 117, 118, 119, 120, 121, 122, 123] (by decide +kernel) (by decide +kernel)
set_option maxRecDepth 20000 in
theorem gX7_cold_X4_firstCold : GoodIn wsX7_cold (wsV RX7 151 RX4 yX4_firstCold wsX4_firstCold) := goodIn_app (goodIn_of _ (by decide +kernel)) ggX7_cold_X4_firstCold
theorem dX7_cold_0 : decode cX7_cold 0 = .ok (.aload_n 0, 1) := by decide +kernel
theorem dX7_cold_1 : decode cX7_cold 1 = .ok (.getfield 10, 3) := by decide +kernel
theorem dX7_cold_4 : decode cX7_cold 4 = .ok (.iload_n 1, 1) := by decide +kernel
theorem dX7_cold_5 : decode cX7_cold 5 = .ok (.invokevirtual 82, 3) := by decide +kernel
theorem dX7_cold_8 : decode cX7_cold 8 = .ok (.ifCond .ne 9, 3) := by decide +kernel
theorem dX7_cold_11 : decode cX7_cold 11 = .ok (.aload_n 0, 1) := by decide +kernel
theorem dX7_cold_12 : decode cX7_cold 12 = .ok (.iconst 0, 1) := by decide +kernel
theorem dX7_cold_13 : decode cX7_cold 13 = .ok (.invokevirtual 71, 3) := by decide +kernel
theorem dX7_cold_16 : decode cX7_cold 16 = .ok (.ireturn, 1) := by decide +kernel
theorem dX7_cold_17 : decode cX7_cold 17 = .ok (.aload_n 0, 1) := by decide +kernel
theorem dX7_cold_18 : decode cX7_cold 18 = .ok (.getfield 22, 3) := by decide +kernel
theorem dX7_cold_21 : decode cX7_cold 21 = .ok (.aload_n 0, 1) := by decide +kernel
theorem dX7_cold_22 : decode cX7_cold 22 = .ok (.getfield 10, 3) := by decide +kernel
theorem dX7_cold_25 : decode cX7_cold 25 = .ok (.invokevirtual 144, 3) := by decide +kernel
theorem dX7_cold_28 : decode cX7_cold 28 = .ok (.aload_n 0, 1) := by decide +kernel
theorem dX7_cold_29 : decode cX7_cold 29 = .ok (.getfield 22, 3) := by decide +kernel
theorem dX7_cold_32 : decode cX7_cold 32 = .ok (.iload_n 1, 1) := by decide +kernel
theorem dX7_cold_33 : decode cX7_cold 33 = .ok (.invokevirtual 151, 3) := by decide +kernel
theorem dX7_cold_36 : decode cX7_cold 36 = .ok (.istore_n 2, 1) := by decide +kernel
theorem dX7_cold_37 : decode cX7_cold 37 = .ok (.iload_n 2, 1) := by decide +kernel
theorem dX7_cold_38 : decode cX7_cold 38 = .ok (.bipush 16, 2) := by decide +kernel
theorem dX7_cold_40 : decode cX7_cold 40 = .ok (.if_icmp .ge 7, 3) := by decide +kernel
theorem dX7_cold_43 : decode cX7_cold 43 = .ok (.iload_n 2, 1) := by decide +kernel
theorem dX7_cold_44 : decode cX7_cold 44 = .ok (.goto 8, 3) := by decide +kernel
theorem dX7_cold_47 : decode cX7_cold 47 = .ok (.aload_n 0, 1) := by decide +kernel
theorem dX7_cold_48 : decode cX7_cold 48 = .ok (.iconst 3, 1) := by decide +kernel
theorem dX7_cold_49 : decode cX7_cold 49 = .ok (.invokevirtual 71, 3) := by decide +kernel
theorem dX7_cold_52 : decode cX7_cold 52 = .ok (.ireturn, 1) := by decide +kernel
set_option maxRecDepth 20000 in
theorem ggX7_shade_X1_isPerson : GoodIn wsX7_shade wsX1_isPerson := goodIn_r _ [7, 8, 101, 102, 103, 104, 105, 106, 107, 108, 109, 110, 111, 112] (by decide +kernel) (by decide +kernel)
set_option maxRecDepth 20000 in
theorem gX7_shade_X1_isPerson : GoodIn wsX7_shade (wsV RX7 82 RX1 yX1_isPerson wsX1_isPerson) := goodIn_app (goodIn_of _ (by decide +kernel)) ggX7_shade_X1_isPerson
set_option maxRecDepth 20000 in
theorem ggX7_shade_X7_found : GoodIn wsX7_shade wsX7_found := goodIn_r _ [13, 14, 15, 91, 92, 93, 94, 95, 96, 97, 98, 99, 100] (by decide +kernel) (by decide +kernel)
set_option maxRecDepth 20000 in
theorem gX7_shade_X7_found : GoodIn wsX7_shade (wsV RX7 71 RX7 yX7_found wsX7_found) := goodIn_app (goodIn_of _ (by decide +kernel)) ggX7_shade_X7_found
set_option maxRecDepth 20000 in
theorem ggX7_shade_X4_see : GoodIn wsX7_shade wsX4_see := goodIn_r _ [20, 21, 22, 23, 19, 24, 25, 26, 27, 28, 29, 30, 31, 6, 32, 33, 34, 35, 36, 37, 38, 39, 40, 41, 42, 8, 43, 44, 45, 46, 47, 48, 49, 50, 51, 52, 53, 54, 55, 56, 57, 58, 59, 60, 61, 62, 12, 63, 64, 65, 66, 67, 68, 69, 70, 71, 72, 73, 74, 75, 76, 77, 78, 79, 80, 81, 82, 83, 84, 85, 86, 113, 114, 115, 116, 101, 102, 103, 104, 105, 106, 107, 108, 109, 110, 111, 112] (by decide +kernel) (by decide +kernel)
set_option maxRecDepth 20000 in
theorem gX7_shade_X4_see : GoodIn wsX7_shade (wsV RX7 144 RX4 yX4_see wsX4_see) := goodIn_app (goodIn_of _ (by decide +kernel)) ggX7_shade_X4_see
set_option maxRecDepth 20000 in
theorem ggX7_shade_X4_shadeOf : GoodIn wsX7_shade wsX4_shadeOf := goodIn_r _ [90, 28, 57, 62, 12, 63, 113, 114, 115, 116] (by decide +kernel) (by decide +kernel)
set_option maxRecDepth 20000 in
theorem gX7_shade_X4_shadeOf : GoodIn wsX7_shade (wsV RX7 154 RX4 yX4_shadeOf wsX4_shadeOf) := goodIn_app (goodIn_of _ (by decide +kernel)) ggX7_shade_X4_shadeOf
theorem dX7_shade_0 : decode cX7_shade 0 = .ok (.aload_n 0, 1) := by decide +kernel
theorem dX7_shade_1 : decode cX7_shade 1 = .ok (.getfield 10, 3) := by decide +kernel
theorem dX7_shade_4 : decode cX7_shade 4 = .ok (.iload_n 1, 1) := by decide +kernel
theorem dX7_shade_5 : decode cX7_shade 5 = .ok (.invokevirtual 82, 3) := by decide +kernel
theorem dX7_shade_8 : decode cX7_shade 8 = .ok (.ifCond .ne 9, 3) := by decide +kernel
theorem dX7_shade_11 : decode cX7_shade 11 = .ok (.aload_n 0, 1) := by decide +kernel
theorem dX7_shade_12 : decode cX7_shade 12 = .ok (.iconst 0, 1) := by decide +kernel
theorem dX7_shade_13 : decode cX7_shade 13 = .ok (.invokevirtual 71, 3) := by decide +kernel
theorem dX7_shade_16 : decode cX7_shade 16 = .ok (.ireturn, 1) := by decide +kernel
theorem dX7_shade_17 : decode cX7_shade 17 = .ok (.aload_n 0, 1) := by decide +kernel
theorem dX7_shade_18 : decode cX7_shade 18 = .ok (.getfield 22, 3) := by decide +kernel
theorem dX7_shade_21 : decode cX7_shade 21 = .ok (.aload_n 0, 1) := by decide +kernel
theorem dX7_shade_22 : decode cX7_shade 22 = .ok (.getfield 10, 3) := by decide +kernel
theorem dX7_shade_25 : decode cX7_shade 25 = .ok (.invokevirtual 144, 3) := by decide +kernel
theorem dX7_shade_28 : decode cX7_shade 28 = .ok (.aload_n 0, 1) := by decide +kernel
theorem dX7_shade_29 : decode cX7_shade 29 = .ok (.getfield 22, 3) := by decide +kernel
theorem dX7_shade_32 : decode cX7_shade 32 = .ok (.iload_n 1, 1) := by decide +kernel
theorem dX7_shade_33 : decode cX7_shade 33 = .ok (.invokevirtual 154, 3) := by decide +kernel
theorem dX7_shade_36 : decode cX7_shade 36 = .ok (.ireturn, 1) := by decide +kernel
set_option maxRecDepth 20000 in
theorem ggX7_all_X4_see : GoodIn wsX7_all wsX4_see := goodIn_r _ [7, 8, 9, 10, 6, 11, 12, 13, 14, 15, 16, 17, 18, 19, 20, 21, 22, 23, 24, 25, 26, 27, 28, 29, 30, 31, 32, 33, 34, 35, 36, 37, 38, 39, 40, 41, 42, 43, 44, 45, 46, 47, 48, 49, 50, 51, 52, 53, 54, 55, 56, 57, 58, 59, 60, 61, 62, 63, 64, 65, 66, 67, 68, 69, 70, 71, 72, 73, 74, 75, 76, 117, 118, 119, 120, 121, 122, 123, 124, 125, 126, 127, 128, 129, 130, 131, 132] (by decide +kernel) (by decide +kernel)
set_option maxRecDepth 20000 in
theorem gX7_all_X4_see : GoodIn wsX7_all (wsV RX7 144 RX4 yX4_see wsX4_see) := goodIn_app (goodIn_of _ (by decide +kernel)) ggX7_all_X4_see
set_option maxRecDepth 20000 in
theorem ggX7_all_X4_metOfAll : GoodIn wsX7_all wsX4_metOfAll := goodIn_r _ [80, 12, 81, 82, 83, 84, 6, 85, 86, 87, 88, 89, 19, 90, 31, 91, 92, 93, 94, 95, 15, 96, 97, 98, 99, 46, 51, 52, 53, 100, 101, 102, 103, 104, 105, 106, 117, 118, 119, 120, 121, 122, 123, 124, 125, 126, 127, 128, 129, 130, 131, 132] (by decide +kernel) (by decide +kernel)
set_option maxRecDepth 20000 in
theorem gX7_all_X4_metOfAll : GoodIn wsX7_all (wsV RX7 157 RX4 yX4_metOfAll wsX4_metOfAll) := goodIn_app (goodIn_of _ (by decide +kernel)) ggX7_all_X4_metOfAll
theorem dX7_all_0 : decode cX7_all 0 = .ok (.aload_n 0, 1) := by decide +kernel
theorem dX7_all_1 : decode cX7_all 1 = .ok (.getfield 22, 3) := by decide +kernel
theorem dX7_all_4 : decode cX7_all 4 = .ok (.aload_n 0, 1) := by decide +kernel
theorem dX7_all_5 : decode cX7_all 5 = .ok (.getfield 10, 3) := by decide +kernel
theorem dX7_all_8 : decode cX7_all 8 = .ok (.invokevirtual 144, 3) := by decide +kernel
theorem dX7_all_11 : decode cX7_all 11 = .ok (.aload_n 0, 1) := by decide +kernel
theorem dX7_all_12 : decode cX7_all 12 = .ok (.getfield 22, 3) := by decide +kernel
theorem dX7_all_15 : decode cX7_all 15 = .ok (.invokevirtual 157, 3) := by decide +kernel
theorem dX7_all_18 : decode cX7_all 18 = .ok (.ireturn, 1) := by decide +kernel
set_option maxRecDepth 20000 in
theorem ggX7_tan_X1_isPerson : GoodIn wsX7_tan wsX1_isPerson := goodIn_r _ [7, 8, 103, 104, 105, 106, 107, 108, 109, 110, 111, 112, 113, 114] (by decide +kernel) (by decide +kernel)
set_option maxRecDepth 20000 in
theorem gX7_tan_X1_isPerson : GoodIn wsX7_tan (wsV RX7 82 RX1 yX1_isPerson wsX1_isPerson) := goodIn_app (goodIn_of _ (by decide +kernel)) ggX7_tan_X1_isPerson
set_option maxRecDepth 20000 in
theorem ggX7_tan_X7_found : GoodIn wsX7_tan wsX7_found := goodIn_r _ [13, 14, 15, 93, 94, 95, 96, 97, 98, 99, 100, 101, 102] (by decide +kernel) (by decide +kernel)
set_option maxRecDepth 20000 in
theorem gX7_tan_X7_found : GoodIn wsX7_tan (wsV RX7 71 RX7 yX7_found wsX7_found) := goodIn_app (goodIn_of _ (by decide +kernel)) ggX7_tan_X7_found
set_option maxRecDepth 20000 in
theorem ggX7_tan_X4_see : GoodIn wsX7_tan wsX4_see := goodIn_r _ [20, 21, 22, 23, 19, 24, 25, 26, 27, 28, 29, 30, 31, 6, 32, 33, 34, 35, 36, 37, 38, 39, 40, 41, 42, 8, 43, 44, 45, 46, 47, 48, 49, 50, 51, 52, 53, 54, 55, 56, 57, 58, 59, 60, 61, 62, 12, 63, 64, 65, 66, 67, 68, 69, 70, 71, 72, 73, 74, 75, 76, 77, 78, 79, 80, 81, 82, 83, 84, 85, 86, 115, 116, 117, 118, 103, 104, 105, 106, 107, 108, 109, 110, 111, 112, 113, 114] (by decide +kernel) (by decide +kernel)
set_option maxRecDepth 20000 in
theorem gX7_tan_X4_see : GoodIn wsX7_tan (wsV RX7 144 RX4 yX4_see wsX4_see) := goodIn_app (goodIn_of _ (by decide +kernel)) ggX7_tan_X4_see
set_option maxRecDepth 20000 in
theorem ggX7_tan_X4_sunOf : GoodIn wsX7_tan wsX4_sunOf := goodIn_r _ [90, 25, 91, 92, 4, 5, 6, 7, 8, 115, 116, 117, 118, 103, 104, 105, 106, 107, 108, 109, 110, 111, 112, 113, 114] (by decide +kernel) (by decide +kernel)
set_option maxRecDepth 20000 in
theorem gX7_tan_X4_sunOf : GoodIn wsX7_tan (wsV RX7 160 RX4 yX4_sunOf wsX4_sunOf) := goodIn_app (goodIn_of _ (by decide +kernel)) ggX7_tan_X4_sunOf
theorem dX7_tan_0 : decode cX7_tan 0 = .ok (.aload_n 0, 1) := by decide +kernel
theorem dX7_tan_1 : decode cX7_tan 1 = .ok (.getfield 10, 3) := by decide +kernel
theorem dX7_tan_4 : decode cX7_tan 4 = .ok (.iload_n 1, 1) := by decide +kernel
theorem dX7_tan_5 : decode cX7_tan 5 = .ok (.invokevirtual 82, 3) := by decide +kernel
theorem dX7_tan_8 : decode cX7_tan 8 = .ok (.ifCond .ne 9, 3) := by decide +kernel
theorem dX7_tan_11 : decode cX7_tan 11 = .ok (.aload_n 0, 1) := by decide +kernel
theorem dX7_tan_12 : decode cX7_tan 12 = .ok (.iconst 0, 1) := by decide +kernel
theorem dX7_tan_13 : decode cX7_tan 13 = .ok (.invokevirtual 71, 3) := by decide +kernel
theorem dX7_tan_16 : decode cX7_tan 16 = .ok (.ireturn, 1) := by decide +kernel
theorem dX7_tan_17 : decode cX7_tan 17 = .ok (.aload_n 0, 1) := by decide +kernel
theorem dX7_tan_18 : decode cX7_tan 18 = .ok (.getfield 22, 3) := by decide +kernel
theorem dX7_tan_21 : decode cX7_tan 21 = .ok (.aload_n 0, 1) := by decide +kernel
theorem dX7_tan_22 : decode cX7_tan 22 = .ok (.getfield 10, 3) := by decide +kernel
theorem dX7_tan_25 : decode cX7_tan 25 = .ok (.invokevirtual 144, 3) := by decide +kernel
theorem dX7_tan_28 : decode cX7_tan 28 = .ok (.aload_n 0, 1) := by decide +kernel
theorem dX7_tan_29 : decode cX7_tan 29 = .ok (.getfield 22, 3) := by decide +kernel
theorem dX7_tan_32 : decode cX7_tan 32 = .ok (.iload_n 1, 1) := by decide +kernel
theorem dX7_tan_33 : decode cX7_tan 33 = .ok (.invokevirtual 160, 3) := by decide +kernel
theorem dX7_tan_36 : decode cX7_tan 36 = .ok (.ireturn, 1) := by decide +kernel
set_option maxRecDepth 20000 in
theorem ggX7_strong_X1_isPerson : GoodIn wsX7_strong wsX1_isPerson := goodIn_r _ [9, 10, 114, 115, 116, 117, 118, 119, 120, 121, 122, 123, 124, 125] (by decide +kernel) (by decide +kernel)
set_option maxRecDepth 20000 in
theorem gX7_strong_X1_isPerson : GoodIn wsX7_strong (wsV RX7 82 RX1 yX1_isPerson wsX1_isPerson) := goodIn_app (goodIn_of _ (by decide +kernel)) ggX7_strong_X1_isPerson
set_option maxRecDepth 20000 in
theorem ggX7_strong_X7_found : GoodIn wsX7_strong wsX7_found := goodIn_r _ [15, 16, 17, 100, 101, 102, 103, 104, 105, 106, 107, 108, 109] (by decide +kernel) (by decide +kernel)
set_option maxRecDepth 20000 in
theorem gX7_strong_X7_found : GoodIn wsX7_strong (wsV RX7 71 RX7 yX7_found wsX7_found) := goodIn_app (goodIn_of _ (by decide +kernel)) ggX7_strong_X7_found
set_option maxRecDepth 20000 in
theorem ggX7_strong_X4_begin : GoodIn wsX7_strong wsX4_begin := goodIn_r _ [22, 23, 24, 25, 26, 27, 28, 29, 8, 30, 31, 32, 33, 34, 35, 36, 37, 38, 39, 40, 10, 41, 42, 43, 44, 45, 46, 47, 48, 49, 50, 110, 111, 112, 113, 114, 115, 116, 117, 118, 119, 120, 121, 122, 123, 124, 125] (by decide +kernel) (by decide +kernel)
set_option maxRecDepth 20000 in
theorem gX7_strong_X4_begin : GoodIn wsX7_strong (wsV RX7 163 RX4 yX4_begin wsX4_begin) := goodIn_app (goodIn_of _ (by decide +kernel)) ggX7_strong_X4_begin
set_option maxRecDepth 20000 in
theorem ggX7_strong_X4_run : GoodIn wsX7_strong wsX4_run := goodIn_r _ [54, 25, 55, 23, 56, 57, 58, 8, 59, 42, 41, 10, 39, 60, 14, 61, 62, 63, 64, 65, 66, 67, 68, 69, 70, 71, 72, 73, 74, 75, 76, 36, 31, 37, 77, 78, 79, 80, 38, 81, 82, 83, 84, 43, 44, 110, 111, 112, 113, 114, 115, 116, 117, 118, 119, 120, 121, 122, 123, 124, 125] (by decide +kernel) (by decide +kernel)
set_option maxRecDepth 20000 in
theorem gX7_strong_X4_run : GoodIn wsX7_strong (wsV RX7 169 RX4 yX4_run wsX4_run) := goodIn_app (goodIn_of _ (by decide +kernel)) ggX7_strong_X4_run
set_option maxRecDepth 20000 in
theorem ggX7_strong_X4_firstCold : GoodIn wsX7_strong wsX4_firstCold := goodIn_r _ [88, 23, 26, 89, 6, 7, 8, 9, 10, 90, 91, 92, 21, 93, 94, 95, 96, 97, 98, 99, 55, 60, 14, 61, 110, 111, 112, 113, 114, 115, 116, 117, 118, 119, 120, 121, 122, 123, 124, 125] (by decide +kernel) (by decide +kernel)
set_option maxRecDepth 20000 in
theorem gX7_strong_X4_firstCold : GoodIn wsX7_strong (wsV RX7 151 RX4 yX4_firstCold wsX4_firstCold) := goodIn_app (goodIn_of _ (by decide +kernel)) ggX7_strong_X4_firstCold
theorem dX7_strong_0 : decode cX7_strong 0 = .ok (.aload_n 0, 1) := by decide +kernel
theorem dX7_strong_1 : decode cX7_strong 1 = .ok (.getfield 10, 3) := by decide +kernel
theorem dX7_strong_4 : decode cX7_strong 4 = .ok (.iload_n 1, 1) := by decide +kernel
theorem dX7_strong_5 : decode cX7_strong 5 = .ok (.invokevirtual 82, 3) := by decide +kernel
theorem dX7_strong_8 : decode cX7_strong 8 = .ok (.ifCond .ne 9, 3) := by decide +kernel
theorem dX7_strong_11 : decode cX7_strong 11 = .ok (.aload_n 0, 1) := by decide +kernel
theorem dX7_strong_12 : decode cX7_strong 12 = .ok (.iconst 0, 1) := by decide +kernel
theorem dX7_strong_13 : decode cX7_strong 13 = .ok (.invokevirtual 71, 3) := by decide +kernel
theorem dX7_strong_16 : decode cX7_strong 16 = .ok (.ireturn, 1) := by decide +kernel
theorem dX7_strong_17 : decode cX7_strong 17 = .ok (.iconst 0, 1) := by decide +kernel
theorem dX7_strong_18 : decode cX7_strong 18 = .ok (.istore_n 2, 1) := by decide +kernel
theorem dX7_strong_19 : decode cX7_strong 19 = .ok (.iload_n 2, 1) := by decide +kernel
theorem dX7_strong_20 : decode cX7_strong 20 = .ok (.bipush 9, 2) := by decide +kernel
theorem dX7_strong_22 : decode cX7_strong 22 = .ok (.if_icmp .gt 55, 3) := by decide +kernel
theorem dX7_strong_25 : decode cX7_strong 25 = .ok (.aload_n 0, 1) := by decide +kernel
theorem dX7_strong_26 : decode cX7_strong 26 = .ok (.getfield 22, 3) := by decide +kernel
theorem dX7_strong_29 : decode cX7_strong 29 = .ok (.aload_n 0, 1) := by decide +kernel
theorem dX7_strong_30 : decode cX7_strong 30 = .ok (.getfield 10, 3) := by decide +kernel
theorem dX7_strong_33 : decode cX7_strong 33 = .ok (.invokevirtual 163, 3) := by decide +kernel
theorem dX7_strong_36 : decode cX7_strong 36 = .ok (.aload_n 0, 1) := by decide +kernel
theorem dX7_strong_37 : decode cX7_strong 37 = .ok (.getfield 22, 3) := by decide +kernel
theorem dX7_strong_40 : decode cX7_strong 40 = .ok (.getfield 166, 3) := by decide +kernel
theorem dX7_strong_43 : decode cX7_strong 43 = .ok (.getfield 92, 3) := by decide +kernel
theorem dX7_strong_46 : decode cX7_strong 46 = .ok (.iload_n 1, 1) := by decide +kernel
theorem dX7_strong_47 : decode cX7_strong 47 = .ok (.iload_n 2, 1) := by decide +kernel
theorem dX7_strong_48 : decode cX7_strong 48 = .ok (.iastore, 1) := by decide +kernel
theorem dX7_strong_49 : decode cX7_strong 49 = .ok (.aload_n 0, 1) := by decide +kernel
theorem dX7_strong_50 : decode cX7_strong 50 = .ok (.getfield 22, 3) := by decide +kernel
theorem dX7_strong_53 : decode cX7_strong 53 = .ok (.invokevirtual 169, 3) := by decide +kernel
theorem dX7_strong_56 : decode cX7_strong 56 = .ok (.aload_n 0, 1) := by decide +kernel
theorem dX7_strong_57 : decode cX7_strong 57 = .ok (.getfield 22, 3) := by decide +kernel
theorem dX7_strong_60 : decode cX7_strong 60 = .ok (.iload_n 1, 1) := by decide +kernel
theorem dX7_strong_61 : decode cX7_strong 61 = .ok (.invokevirtual 151, 3) := by decide +kernel
theorem dX7_strong_64 : decode cX7_strong 64 = .ok (.bipush 16, 2) := by decide +kernel
theorem dX7_strong_66 : decode cX7_strong 66 = .ok (.if_icmp .ne 5, 3) := by decide +kernel
theorem dX7_strong_69 : decode cX7_strong 69 = .ok (.iload_n 2, 1) := by decide +kernel
theorem dX7_strong_70 : decode cX7_strong 70 = .ok (.ireturn, 1) := by decide +kernel
theorem dX7_strong_71 : decode cX7_strong 71 = .ok (.iinc 2 1, 3) := by decide +kernel
theorem dX7_strong_74 : decode cX7_strong 74 = .ok (.goto (-55), 3) := by decide +kernel
theorem dX7_strong_77 : decode cX7_strong 77 = .ok (.aload_n 0, 1) := by decide +kernel
theorem dX7_strong_78 : decode cX7_strong 78 = .ok (.iconst 3, 1) := by decide +kernel
theorem dX7_strong_79 : decode cX7_strong 79 = .ok (.invokevirtual 71, 3) := by decide +kernel
theorem dX7_strong_82 : decode cX7_strong 82 = .ok (.ireturn, 1) := by decide +kernel
set_option maxRecDepth 20000 in
theorem ggX7_kindFor_X1_isPerson : GoodIn wsX7_kindFor wsX1_isPerson := goodIn_r _ [9, 10, 121, 122, 123, 124, 125, 126, 127, 128, 129, 130, 131, 132] (by decide +kernel) (by decide +kernel)
set_option maxRecDepth 20000 in
theorem gX7_kindFor_X1_isPerson : GoodIn wsX7_kindFor (wsV RX7 82 RX1 yX1_isPerson wsX1_isPerson) := goodIn_app (goodIn_of _ (by decide +kernel)) ggX7_kindFor_X1_isPerson
set_option maxRecDepth 20000 in
theorem ggX7_kindFor_X7_found : GoodIn wsX7_kindFor wsX7_found := goodIn_r _ [15, 16, 17, 107, 108, 109, 110, 111, 112, 113, 114, 115, 116] (by decide +kernel) (by decide +kernel)
set_option maxRecDepth 20000 in
theorem gX7_kindFor_X7_found : GoodIn wsX7_kindFor (wsV RX7 71 RX7 yX7_found wsX7_found) := goodIn_app (goodIn_of _ (by decide +kernel)) ggX7_kindFor_X7_found
set_option maxRecDepth 20000 in
theorem ggX7_kindFor_X4_begin : GoodIn wsX7_kindFor wsX4_begin := goodIn_r _ [22, 23, 24, 25, 26, 27, 28, 29, 8, 30, 31, 32, 33, 34, 35, 36, 37, 38, 39, 40, 10, 41, 42, 43, 44, 45, 46, 47, 48, 49, 50, 117, 118, 119, 120, 121, 122, 123, 124, 125, 126, 127, 128, 129, 130, 131, 132] (by decide +kernel) (by decide +kernel)
set_option maxRecDepth 20000 in
theorem gX7_kindFor_X4_begin : GoodIn wsX7_kindFor (wsV RX7 163 RX4 yX4_begin wsX4_begin) := goodIn_app (goodIn_of _ (by decide +kernel)) ggX7_kindFor_X4_begin
set_option maxRecDepth 20000 in
theorem ggX7_kindFor_X4_run : GoodIn wsX7_kindFor wsX4_run := goodIn_r _ [54, 25, 55, 23, 56, 57, 58, 8, 59, 42, 41, 10, 39, 60, 14, 61, 62, 63, 64, 65, 66, 67, 68, 69, 70, 71, 72, 73, 74, 75, 76, 36, 31, 37, 77, 78, 79, 80, 38, 81, 82, 83, 84, 43, 44, 117, 118, 119, 120, 121, 122, 123, 124, 125, 126, 127, 128, 129, 130, 131, 132] (by decide +kernel) (by decide +kernel)
set_option maxRecDepth 20000 in
theorem gX7_kindFor_X4_run : GoodIn wsX7_kindFor (wsV RX7 169 RX4 yX4_run wsX4_run) := goodIn_app (goodIn_of _ (by decide +kernel)) ggX7_kindFor_X4_run
set_option maxRecDepth 20000 in
theorem ggX7_kindFor_X4_metOf : GoodIn wsX7_kindFor wsX4_metOf := goodIn_r _ [88, 23, 89, 90, 6, 7, 8, 9, 10, 91, 92, 93, 21, 94, 95, 26, 96, 97, 98, 99, 55, 60, 14, 61, 100, 101, 102, 103, 104, 105, 106, 117, 118, 119, 120, 121, 122, 123, 124, 125, 126, 127, 128, 129, 130, 131, 132] (by decide +kernel) (by decide +kernel)
set_option maxRecDepth 20000 in
theorem gX7_kindFor_X4_metOf : GoodIn wsX7_kindFor (wsV RX7 148 RX4 yX4_metOf wsX4_metOf) := goodIn_app (goodIn_of _ (by decide +kernel)) ggX7_kindFor_X4_metOf
theorem dX7_kindFor_0 : decode cX7_kindFor 0 = .ok (.aload_n 0, 1) := by decide +kernel
theorem dX7_kindFor_1 : decode cX7_kindFor 1 = .ok (.getfield 10, 3) := by decide +kernel
theorem dX7_kindFor_4 : decode cX7_kindFor 4 = .ok (.iload_n 1, 1) := by decide +kernel
theorem dX7_kindFor_5 : decode cX7_kindFor 5 = .ok (.invokevirtual 82, 3) := by decide +kernel
theorem dX7_kindFor_8 : decode cX7_kindFor 8 = .ok (.ifCond .ne 9, 3) := by decide +kernel
theorem dX7_kindFor_11 : decode cX7_kindFor 11 = .ok (.aload_n 0, 1) := by decide +kernel
theorem dX7_kindFor_12 : decode cX7_kindFor 12 = .ok (.iconst 0, 1) := by decide +kernel
theorem dX7_kindFor_13 : decode cX7_kindFor 13 = .ok (.invokevirtual 71, 3) := by decide +kernel
theorem dX7_kindFor_16 : decode cX7_kindFor 16 = .ok (.ireturn, 1) := by decide +kernel
theorem dX7_kindFor_17 : decode cX7_kindFor 17 = .ok (.iconst 0, 1) := by decide +kernel
theorem dX7_kindFor_18 : decode cX7_kindFor 18 = .ok (.istore_n 2, 1) := by decide +kernel
theorem dX7_kindFor_19 : decode cX7_kindFor 19 = .ok (.iconst (-1), 1) := by decide +kernel
theorem dX7_kindFor_20 : decode cX7_kindFor 20 = .ok (.istore_n 3, 1) := by decide +kernel
theorem dX7_kindFor_21 : decode cX7_kindFor 21 = .ok (.iconst 0, 1) := by decide +kernel
theorem dX7_kindFor_22 : decode cX7_kindFor 22 = .ok (.istore 4, 2) := by decide +kernel
theorem dX7_kindFor_24 : decode cX7_kindFor 24 = .ok (.iload 4, 2) := by decide +kernel
theorem dX7_kindFor_26 : decode cX7_kindFor 26 = .ok (.bipush 7, 2) := by decide +kernel
theorem dX7_kindFor_28 : decode cX7_kindFor 28 = .ok (.if_icmp .ge 65, 3) := by decide +kernel
theorem dX7_kindFor_31 : decode cX7_kindFor 31 = .ok (.aload_n 0, 1) := by decide +kernel
theorem dX7_kindFor_32 : decode cX7_kindFor 32 = .ok (.getfield 22, 3) := by decide +kernel
theorem dX7_kindFor_35 : decode cX7_kindFor 35 = .ok (.aload_n 0, 1) := by decide +kernel
theorem dX7_kindFor_36 : decode cX7_kindFor 36 = .ok (.getfield 10, 3) := by decide +kernel
theorem dX7_kindFor_39 : decode cX7_kindFor 39 = .ok (.invokevirtual 163, 3) := by decide +kernel
theorem dX7_kindFor_42 : decode cX7_kindFor 42 = .ok (.aload_n 0, 1) := by decide +kernel
theorem dX7_kindFor_43 : decode cX7_kindFor 43 = .ok (.getfield 22, 3) := by decide +kernel
theorem dX7_kindFor_46 : decode cX7_kindFor 46 = .ok (.getfield 166, 3) := by decide +kernel
theorem dX7_kindFor_49 : decode cX7_kindFor 49 = .ok (.getfield 86, 3) := by decide +kernel
theorem dX7_kindFor_52 : decode cX7_kindFor 52 = .ok (.iload_n 1, 1) := by decide +kernel
theorem dX7_kindFor_53 : decode cX7_kindFor 53 = .ok (.iload 4, 2) := by decide +kernel
theorem dX7_kindFor_55 : decode cX7_kindFor 55 = .ok (.iastore, 1) := by decide +kernel
theorem dX7_kindFor_56 : decode cX7_kindFor 56 = .ok (.aload_n 0, 1) := by decide +kernel
theorem dX7_kindFor_57 : decode cX7_kindFor 57 = .ok (.getfield 22, 3) := by decide +kernel
theorem dX7_kindFor_60 : decode cX7_kindFor 60 = .ok (.invokevirtual 169, 3) := by decide +kernel
theorem dX7_kindFor_63 : decode cX7_kindFor 63 = .ok (.aload_n 0, 1) := by decide +kernel
theorem dX7_kindFor_64 : decode cX7_kindFor 64 = .ok (.getfield 22, 3) := by decide +kernel
theorem dX7_kindFor_67 : decode cX7_kindFor 67 = .ok (.iload_n 1, 1) := by decide +kernel
theorem dX7_kindFor_68 : decode cX7_kindFor 68 = .ok (.invokevirtual 148, 3) := by decide +kernel
theorem dX7_kindFor_71 : decode cX7_kindFor 71 = .ok (.iload_n 3, 1) := by decide +kernel
theorem dX7_kindFor_72 : decode cX7_kindFor 72 = .ok (.if_icmp .le 15, 3) := by decide +kernel
theorem dX7_kindFor_75 : decode cX7_kindFor 75 = .ok (.aload_n 0, 1) := by decide +kernel
theorem dX7_kindFor_76 : decode cX7_kindFor 76 = .ok (.getfield 22, 3) := by decide +kernel
theorem dX7_kindFor_79 : decode cX7_kindFor 79 = .ok (.iload_n 1, 1) := by decide +kernel
theorem dX7_kindFor_80 : decode cX7_kindFor 80 = .ok (.invokevirtual 148, 3) := by decide +kernel
theorem dX7_kindFor_83 : decode cX7_kindFor 83 = .ok (.istore_n 3, 1) := by decide +kernel
theorem dX7_kindFor_84 : decode cX7_kindFor 84 = .ok (.iload 4, 2) := by decide +kernel
theorem dX7_kindFor_86 : decode cX7_kindFor 86 = .ok (.istore_n 2, 1) := by decide +kernel
theorem dX7_kindFor_87 : decode cX7_kindFor 87 = .ok (.iinc 4 1, 3) := by decide +kernel
theorem dX7_kindFor_90 : decode cX7_kindFor 90 = .ok (.goto (-66), 3) := by decide +kernel
theorem dX7_kindFor_93 : decode cX7_kindFor 93 = .ok (.iload_n 2, 1) := by decide +kernel
theorem dX7_kindFor_94 : decode cX7_kindFor 94 = .ok (.ireturn, 1) := by decide +kernel
set_option maxRecDepth 20000 in
theorem ggX7_cloud_X4_see : GoodIn wsX7_cloud wsX4_see := goodIn_r _ [9, 10, 11, 12, 8, 13, 14, 15, 16, 17, 18, 19, 20, 21, 22, 23, 24, 25, 26, 27, 28, 29, 30, 31, 32, 33, 34, 35, 36, 37, 38, 39, 40, 41, 42, 43, 44, 45, 46, 47, 48, 49, 50, 51, 52, 53, 54, 55, 56, 57, 58, 59, 60, 61, 62, 63, 64, 65, 66, 67, 68, 69, 70, 71, 72, 73, 74, 75, 76, 77, 78, 121, 122, 123, 124, 125, 126, 127, 128, 129, 130, 131, 132, 133, 134, 135, 136] (by decide +kernel) (by decide +kernel)
set_option maxRecDepth 20000 in
theorem gX7_cloud_X4_see : GoodIn wsX7_cloud (wsV RX7 144 RX4 yX4_see wsX4_see) := goodIn_app (goodIn_of _ (by decide +kernel)) ggX7_cloud_X4_see
set_option maxRecDepth 20000 in
theorem ggX7_cloud_X4_metOfAll : GoodIn wsX7_cloud wsX4_metOfAll := goodIn_r _ [82, 14, 83, 84, 85, 86, 8, 87, 88, 89, 90, 91, 21, 92, 33, 93, 94, 95, 96, 97, 17, 98, 99, 100, 101, 48, 53, 54, 55, 102, 103, 104, 105, 106, 107, 108, 121, 122, 123, 124, 125, 126, 127, 128, 129, 130, 131, 132, 133, 134, 135, 136] (by decide +kernel) (by decide +kernel)
set_option maxRecDepth 20000 in
theorem gX7_cloud_X4_metOfAll : GoodIn wsX7_cloud (wsV RX7 157 RX4 yX4_metOfAll wsX4_metOfAll) := goodIn_app (goodIn_of _ (by decide +kernel)) ggX7_cloud_X4_metOfAll
set_option maxRecDepth 20000 in
theorem ggX7_cloud_X4_begin : GoodIn wsX7_cloud wsX4_begin := goodIn_r _ [13, 14, 15, 16, 17, 18, 19, 20, 21, 22, 23, 24, 25, 26, 27, 28, 29, 30, 31, 32, 33, 34, 35, 36, 37, 38, 39, 40, 41, 42, 43, 121, 122, 123, 124, 125, 126, 127, 128, 129, 130, 131, 132, 133, 134, 135, 136] (by decide +kernel) (by decide +kernel)
set_option maxRecDepth 20000 in
theorem gX7_cloud_X4_begin : GoodIn wsX7_cloud (wsV RX7 163 RX4 yX4_begin wsX4_begin) := goodIn_app (goodIn_of _ (by decide +kernel)) ggX7_cloud_X4_begin
set_option maxRecDepth 20000 in
theorem ggX7_cloud_X4_run : GoodIn wsX7_cloud wsX4_run := goodIn_r _ [47, 16, 48, 14, 49, 50, 51, 21, 52, 35, 34, 33, 31, 53, 54, 55, 56, 57, 58, 59, 60, 61, 62, 63, 64, 65, 66, 67, 68, 69, 70, 28, 23, 29, 71, 72, 73, 74, 30, 75, 76, 77, 78, 36, 37, 121, 122, 123, 124, 125, 126, 127, 128, 129, 130, 131, 132, 133, 134, 135, 136] (by decide +kernel) (by decide +kernel)
set_option maxRecDepth 20000 in
theorem gX7_cloud_X4_run : GoodIn wsX7_cloud (wsV RX7 169 RX4 yX4_run wsX4_run) := goodIn_app (goodIn_of _ (by decide +kernel)) ggX7_cloud_X4_run
theorem dX7_cloud_0 : decode cX7_cloud 0 = .ok (.aload_n 0, 1) := by decide +kernel
theorem dX7_cloud_1 : decode cX7_cloud 1 = .ok (.getfield 22, 3) := by decide +kernel
theorem dX7_cloud_4 : decode cX7_cloud 4 = .ok (.aload_n 0, 1) := by decide +kernel
theorem dX7_cloud_5 : decode cX7_cloud 5 = .ok (.getfield 10, 3) := by decide +kernel
theorem dX7_cloud_8 : decode cX7_cloud 8 = .ok (.invokevirtual 144, 3) := by decide +kernel
theorem dX7_cloud_11 : decode cX7_cloud 11 = .ok (.aload_n 0, 1) := by decide +kernel
theorem dX7_cloud_12 : decode cX7_cloud 12 = .ok (.getfield 22, 3) := by decide +kernel
theorem dX7_cloud_15 : decode cX7_cloud 15 = .ok (.invokevirtual 157, 3) := by decide +kernel
theorem dX7_cloud_18 : decode cX7_cloud 18 = .ok (.istore_n 1, 1) := by decide +kernel
theorem dX7_cloud_19 : decode cX7_cloud 19 = .ok (.iconst (-1), 1) := by decide +kernel
theorem dX7_cloud_20 : decode cX7_cloud 20 = .ok (.istore_n 2, 1) := by decide +kernel
theorem dX7_cloud_21 : decode cX7_cloud 21 = .ok (.iconst 0, 1) := by decide +kernel
theorem dX7_cloud_22 : decode cX7_cloud 22 = .ok (.istore_n 3, 1) := by decide +kernel
theorem dX7_cloud_23 : decode cX7_cloud 23 = .ok (.iload_n 3, 1) := by decide +kernel
theorem dX7_cloud_24 : decode cX7_cloud 24 = .ok (.bipush 16, 2) := by decide +kernel
theorem dX7_cloud_26 : decode cX7_cloud 26 = .ok (.if_icmp .ge 66, 3) := by decide +kernel
theorem dX7_cloud_29 : decode cX7_cloud 29 = .ok (.aload_n 0, 1) := by decide +kernel
theorem dX7_cloud_30 : decode cX7_cloud 30 = .ok (.getfield 22, 3) := by decide +kernel
theorem dX7_cloud_33 : decode cX7_cloud 33 = .ok (.aload_n 0, 1) := by decide +kernel
theorem dX7_cloud_34 : decode cX7_cloud 34 = .ok (.getfield 10, 3) := by decide +kernel
theorem dX7_cloud_37 : decode cX7_cloud 37 = .ok (.invokevirtual 163, 3) := by decide +kernel
theorem dX7_cloud_40 : decode cX7_cloud 40 = .ok (.aload_n 0, 1) := by decide +kernel
theorem dX7_cloud_41 : decode cX7_cloud 41 = .ok (.getfield 22, 3) := by decide +kernel
theorem dX7_cloud_44 : decode cX7_cloud 44 = .ok (.getfield 166, 3) := by decide +kernel
theorem dX7_cloud_47 : decode cX7_cloud 47 = .ok (.dup, 1) := by decide +kernel
theorem dX7_cloud_48 : decode cX7_cloud 48 = .ok (.getfield 132, 3) := by decide +kernel
theorem dX7_cloud_51 : decode cX7_cloud 51 = .ok (.iconst 1, 1) := by decide +kernel
theorem dX7_cloud_52 : decode cX7_cloud 52 = .ok (.iload_n 3, 1) := by decide +kernel
theorem dX7_cloud_53 : decode cX7_cloud 53 = .ok (.ishl, 1) := by decide +kernel
theorem dX7_cloud_54 : decode cX7_cloud 54 = .ok (.ixor, 1) := by decide +kernel
theorem dX7_cloud_55 : decode cX7_cloud 55 = .ok (.putfield 132, 3) := by decide +kernel
theorem dX7_cloud_58 : decode cX7_cloud 58 = .ok (.aload_n 0, 1) := by decide +kernel
theorem dX7_cloud_59 : decode cX7_cloud 59 = .ok (.getfield 22, 3) := by decide +kernel
theorem dX7_cloud_62 : decode cX7_cloud 62 = .ok (.invokevirtual 169, 3) := by decide +kernel
theorem dX7_cloud_65 : decode cX7_cloud 65 = .ok (.aload_n 0, 1) := by decide +kernel
theorem dX7_cloud_66 : decode cX7_cloud 66 = .ok (.getfield 22, 3) := by decide +kernel
theorem dX7_cloud_69 : decode cX7_cloud 69 = .ok (.invokevirtual 157, 3) := by decide +kernel
theorem dX7_cloud_72 : decode cX7_cloud 72 = .ok (.iload_n 1, 1) := by decide +kernel
theorem dX7_cloud_73 : decode cX7_cloud 73 = .ok (.if_icmp .le 13, 3) := by decide +kernel
theorem dX7_cloud_76 : decode cX7_cloud 76 = .ok (.aload_n 0, 1) := by decide +kernel
theorem dX7_cloud_77 : decode cX7_cloud 77 = .ok (.getfield 22, 3) := by decide +kernel
theorem dX7_cloud_80 : decode cX7_cloud 80 = .ok (.invokevirtual 157, 3) := by decide +kernel
theorem dX7_cloud_83 : decode cX7_cloud 83 = .ok (.istore_n 1, 1) := by decide +kernel
theorem dX7_cloud_84 : decode cX7_cloud 84 = .ok (.iload_n 3, 1) := by decide +kernel
theorem dX7_cloud_85 : decode cX7_cloud 85 = .ok (.istore_n 2, 1) := by decide +kernel
theorem dX7_cloud_86 : decode cX7_cloud 86 = .ok (.iinc 3 1, 3) := by decide +kernel
theorem dX7_cloud_89 : decode cX7_cloud 89 = .ok (.goto (-66), 3) := by decide +kernel
theorem dX7_cloud_92 : decode cX7_cloud 92 = .ok (.iload_n 2, 1) := by decide +kernel
theorem dX7_cloud_93 : decode cX7_cloud 93 = .ok (.ireturn, 1) := by decide +kernel
set_option maxRecDepth 20000 in
theorem ggX7_agree_X1_areTwo : GoodIn wsX7_agree wsX1_areTwo := goodIn_r _ [7, 8, 9, 10, 6, 11, 12, 88, 89, 90, 91, 92, 93, 94, 95, 96, 97, 98, 99] (by decide +kernel) (by decide +kernel)
set_option maxRecDepth 20000 in
theorem gX7_agree_X1_areTwo : GoodIn wsX7_agree (wsV RX7 121 RX1 yX1_areTwo wsX1_areTwo) := goodIn_app (goodIn_of _ (by decide +kernel)) ggX7_agree_X1_areTwo
set_option maxRecDepth 20000 in
theorem ggX7_agree_X7_found : GoodIn wsX7_agree wsX7_found := goodIn_r _ [17, 18, 19, 78, 79, 80, 81, 82, 83, 84, 85, 86, 87] (by decide +kernel) (by decide +kernel)
set_option maxRecDepth 20000 in
theorem gX7_agree_X7_found : GoodIn wsX7_agree (wsV RX7 71 RX7 yX7_found wsX7_found) := goodIn_app (goodIn_of _ (by decide +kernel)) ggX7_agree_X7_found
set_option maxRecDepth 20000 in
theorem ggX7_agree_X0_make : GoodIn wsX7_agree wsX0_make := goodIn_r _ [24, 25, 26, 27, 28, 29, 30, 31, 32, 33, 34, 35, 36, 37, 38, 4, 5, 6, 7, 8, 9, 10, 11, 12, 39, 40, 41, 42, 43, 44, 45, 46, 47, 23, 48, 49, 50, 51, 52, 53, 54, 16, 55, 56, 57, 58, 59, 60, 100, 101, 102, 103, 104, 105, 88, 89, 90, 91, 92, 93, 94, 95, 96, 97, 98, 99] (by decide +kernel) (by decide +kernel)
set_option maxRecDepth 20000 in
theorem gX7_agree_X0_make : GoodIn wsX7_agree (wsV RX7 172 RX0 yX0_make wsX0_make) := goodIn_app (goodIn_of _ (by decide +kernel)) ggX7_agree_X0_make
set_option maxRecDepth 20000 in
theorem ggX7_agree_X0_metOfBoth : GoodIn wsX7_agree wsX0_metOfBoth := goodIn_r _ [64, 65, 66, 67, 23, 68, 33, 37, 60, 69, 16, 70, 71, 72, 73, 74, 75, 76, 77, 100, 101, 102, 103, 104, 105] (by decide +kernel) (by decide +kernel)
set_option maxRecDepth 20000 in
theorem gX7_agree_X0_metOfBoth : GoodIn wsX7_agree (wsV RX7 176 RX0 yX0_metOfBoth wsX0_metOfBoth) := goodIn_app (goodIn_of _ (by decide +kernel)) ggX7_agree_X0_metOfBoth
theorem dX7_agree_0 : decode cX7_agree 0 = .ok (.aload_n 0, 1) := by decide +kernel
theorem dX7_agree_1 : decode cX7_agree 1 = .ok (.getfield 10, 3) := by decide +kernel
theorem dX7_agree_4 : decode cX7_agree 4 = .ok (.iload_n 1, 1) := by decide +kernel
theorem dX7_agree_5 : decode cX7_agree 5 = .ok (.iload_n 2, 1) := by decide +kernel
theorem dX7_agree_6 : decode cX7_agree 6 = .ok (.invokevirtual 121, 3) := by decide +kernel
theorem dX7_agree_9 : decode cX7_agree 9 = .ok (.ifCond .ne 9, 3) := by decide +kernel
theorem dX7_agree_12 : decode cX7_agree 12 = .ok (.aload_n 0, 1) := by decide +kernel
theorem dX7_agree_13 : decode cX7_agree 13 = .ok (.iconst 0, 1) := by decide +kernel
theorem dX7_agree_14 : decode cX7_agree 14 = .ok (.invokevirtual 71, 3) := by decide +kernel
theorem dX7_agree_17 : decode cX7_agree 17 = .ok (.ireturn, 1) := by decide +kernel
theorem dX7_agree_18 : decode cX7_agree 18 = .ok (.aload_n 0, 1) := by decide +kernel
theorem dX7_agree_19 : decode cX7_agree 19 = .ok (.getfield 29, 3) := by decide +kernel
theorem dX7_agree_22 : decode cX7_agree 22 = .ok (.aload_n 0, 1) := by decide +kernel
theorem dX7_agree_23 : decode cX7_agree 23 = .ok (.getfield 10, 3) := by decide +kernel
theorem dX7_agree_26 : decode cX7_agree 26 = .ok (.iload_n 1, 1) := by decide +kernel
theorem dX7_agree_27 : decode cX7_agree 27 = .ok (.iload_n 2, 1) := by decide +kernel
theorem dX7_agree_28 : decode cX7_agree 28 = .ok (.invokevirtual 172, 3) := by decide +kernel
theorem dX7_agree_31 : decode cX7_agree 31 = .ok (.aload_n 0, 1) := by decide +kernel
theorem dX7_agree_32 : decode cX7_agree 32 = .ok (.getfield 29, 3) := by decide +kernel
theorem dX7_agree_35 : decode cX7_agree 35 = .ok (.invokevirtual 176, 3) := by decide +kernel
theorem dX7_agree_38 : decode cX7_agree 38 = .ok (.ireturn, 1) := by decide +kernel
set_option maxRecDepth 20000 in
theorem ggX7_changes_X1_areTwo : GoodIn wsX7_changes wsX1_areTwo := goodIn_r _ [7, 8, 9, 10, 6, 11, 12, 75, 76, 77, 78, 79, 80, 81, 82, 83, 84, 85, 86] (by decide +kernel) (by decide +kernel)
set_option maxRecDepth 20000 in
theorem gX7_changes_X1_areTwo : GoodIn wsX7_changes (wsV RX7 121 RX1 yX1_areTwo wsX1_areTwo) := goodIn_app (goodIn_of _ (by decide +kernel)) ggX7_changes_X1_areTwo
set_option maxRecDepth 20000 in
theorem ggX7_changes_X7_found : GoodIn wsX7_changes wsX7_found := goodIn_r _ [17, 18, 19, 65, 66, 67, 68, 69, 70, 71, 72, 73, 74] (by decide +kernel) (by decide +kernel)
set_option maxRecDepth 20000 in
theorem gX7_changes_X7_found : GoodIn wsX7_changes (wsV RX7 71 RX7 yX7_found wsX7_found) := goodIn_app (goodIn_of _ (by decide +kernel)) ggX7_changes_X7_found
set_option maxRecDepth 20000 in
theorem ggX7_changes_X0_make : GoodIn wsX7_changes wsX0_make := goodIn_r _ [24, 25, 26, 27, 28, 29, 30, 31, 32, 33, 34, 35, 36, 37, 38, 4, 5, 6, 7, 8, 9, 10, 11, 12, 39, 40, 41, 42, 43, 44, 45, 46, 47, 23, 48, 49, 50, 51, 52, 53, 54, 16, 55, 56, 57, 58, 59, 60, 87, 88, 89, 90, 91, 92, 75, 76, 77, 78, 79, 80, 81, 82, 83, 84, 85, 86] (by decide +kernel) (by decide +kernel)
set_option maxRecDepth 20000 in
theorem gX7_changes_X0_make : GoodIn wsX7_changes (wsV RX7 172 RX0 yX0_make wsX0_make) := goodIn_app (goodIn_of _ (by decide +kernel)) ggX7_changes_X0_make
set_option maxRecDepth 20000 in
theorem ggX7_changes_X0_countChanges : GoodIn wsX7_changes wsX0_countChanges := goodIn_r _ [64, 36, 60, 54, 16, 55, 87, 88, 89, 90, 91, 92] (by decide +kernel) (by decide +kernel)
set_option maxRecDepth 20000 in
theorem gX7_changes_X0_countChanges : GoodIn wsX7_changes (wsV RX7 179 RX0 yX0_countChanges wsX0_countChanges) := goodIn_app (goodIn_of _ (by decide +kernel)) ggX7_changes_X0_countChanges
theorem dX7_changes_0 : decode cX7_changes 0 = .ok (.aload_n 0, 1) := by decide +kernel
theorem dX7_changes_1 : decode cX7_changes 1 = .ok (.getfield 10, 3) := by decide +kernel
theorem dX7_changes_4 : decode cX7_changes 4 = .ok (.iload_n 1, 1) := by decide +kernel
theorem dX7_changes_5 : decode cX7_changes 5 = .ok (.iload_n 2, 1) := by decide +kernel
theorem dX7_changes_6 : decode cX7_changes 6 = .ok (.invokevirtual 121, 3) := by decide +kernel
theorem dX7_changes_9 : decode cX7_changes 9 = .ok (.ifCond .ne 9, 3) := by decide +kernel
theorem dX7_changes_12 : decode cX7_changes 12 = .ok (.aload_n 0, 1) := by decide +kernel
theorem dX7_changes_13 : decode cX7_changes 13 = .ok (.iconst 0, 1) := by decide +kernel
theorem dX7_changes_14 : decode cX7_changes 14 = .ok (.invokevirtual 71, 3) := by decide +kernel
theorem dX7_changes_17 : decode cX7_changes 17 = .ok (.ireturn, 1) := by decide +kernel
theorem dX7_changes_18 : decode cX7_changes 18 = .ok (.aload_n 0, 1) := by decide +kernel
theorem dX7_changes_19 : decode cX7_changes 19 = .ok (.getfield 29, 3) := by decide +kernel
theorem dX7_changes_22 : decode cX7_changes 22 = .ok (.aload_n 0, 1) := by decide +kernel
theorem dX7_changes_23 : decode cX7_changes 23 = .ok (.getfield 10, 3) := by decide +kernel
theorem dX7_changes_26 : decode cX7_changes 26 = .ok (.iload_n 1, 1) := by decide +kernel
theorem dX7_changes_27 : decode cX7_changes 27 = .ok (.iload_n 2, 1) := by decide +kernel
theorem dX7_changes_28 : decode cX7_changes 28 = .ok (.invokevirtual 172, 3) := by decide +kernel
theorem dX7_changes_31 : decode cX7_changes 31 = .ok (.aload_n 0, 1) := by decide +kernel
theorem dX7_changes_32 : decode cX7_changes 32 = .ok (.getfield 29, 3) := by decide +kernel
theorem dX7_changes_35 : decode cX7_changes 35 = .ok (.invokevirtual 179, 3) := by decide +kernel
theorem dX7_changes_38 : decode cX7_changes 38 = .ok (.ireturn, 1) := by decide +kernel
set_option maxRecDepth 20000 in
theorem ggX7_holder_X1_areTwo : GoodIn wsX7_holder wsX1_areTwo := goodIn_r _ [7, 8, 9, 10, 6, 11, 12, 78, 79, 80, 81, 82, 83, 84, 85, 86, 87, 88, 89] (by decide +kernel) (by decide +kernel)
set_option maxRecDepth 20000 in
theorem gX7_holder_X1_areTwo : GoodIn wsX7_holder (wsV RX7 121 RX1 yX1_areTwo wsX1_areTwo) := goodIn_app (goodIn_of _ (by decide +kernel)) ggX7_holder_X1_areTwo
set_option maxRecDepth 20000 in
theorem ggX7_holder_X7_isWithin : GoodIn wsX7_holder wsX7_isWithin := goodIn_r _ [16] (by decide +kernel) (by decide +kernel)
set_option maxRecDepth 20000 in
theorem gX7_holder_X7_isWithin : GoodIn wsX7_holder (va_wsS RX7 67 yX7_isWithin wsX7_isWithin) := goodIn_app (goodIn_of _ (by decide +kernel)) ggX7_holder_X7_isWithin
set_option maxRecDepth 20000 in
theorem ggX7_holder_X7_found : GoodIn wsX7_holder wsX7_found := goodIn_r _ [20, 21, 22, 68, 69, 70, 71, 72, 73, 74, 75, 76, 77] (by decide +kernel) (by decide +kernel)
set_option maxRecDepth 20000 in
theorem gX7_holder_X7_found : GoodIn wsX7_holder (wsV RX7 71 RX7 yX7_found wsX7_found) := goodIn_app (goodIn_of _ (by decide +kernel)) ggX7_holder_X7_found
set_option maxRecDepth 20000 in
theorem ggX7_holder_X0_make : GoodIn wsX7_holder wsX0_make := goodIn_r _ [27, 28, 29, 30, 31, 32, 33, 34, 35, 36, 37, 38, 39, 40, 41, 4, 5, 6, 7, 8, 9, 10, 11, 12, 42, 43, 44, 45, 46, 47, 48, 49, 50, 26, 51, 52, 53, 54, 55, 56, 57, 15, 58, 59, 60, 61, 62, 63, 90, 91, 92, 93, 94, 95, 78, 79, 80, 81, 82, 83, 84, 85, 86, 87, 88, 89] (by decide +kernel) (by decide +kernel)
set_option maxRecDepth 20000 in
theorem gX7_holder_X0_make : GoodIn wsX7_holder (wsV RX7 172 RX0 yX0_make wsX0_make) := goodIn_app (goodIn_of _ (by decide +kernel)) ggX7_holder_X0_make
set_option maxRecDepth 20000 in
theorem ggX7_holder_X0_holderAt : GoodIn wsX7_holder wsX0_holderAt := goodIn_r _ [67, 39, 28, 63, 57, 15, 58, 90, 91, 92, 93, 94, 95] (by decide +kernel) (by decide +kernel)
set_option maxRecDepth 20000 in
theorem gX7_holder_X0_holderAt : GoodIn wsX7_holder (wsV RX7 182 RX0 yX0_holderAt wsX0_holderAt) := goodIn_app (goodIn_of _ (by decide +kernel)) ggX7_holder_X0_holderAt
theorem dX7_holder_0 : decode cX7_holder 0 = .ok (.aload_n 0, 1) := by decide +kernel
theorem dX7_holder_1 : decode cX7_holder 1 = .ok (.getfield 10, 3) := by decide +kernel
theorem dX7_holder_4 : decode cX7_holder 4 = .ok (.iload_n 1, 1) := by decide +kernel
theorem dX7_holder_5 : decode cX7_holder 5 = .ok (.iload_n 2, 1) := by decide +kernel
theorem dX7_holder_6 : decode cX7_holder 6 = .ok (.invokevirtual 121, 3) := by decide +kernel
theorem dX7_holder_9 : decode cX7_holder 9 = .ok (.ifCond .eq 12, 3) := by decide +kernel
theorem dX7_holder_12 : decode cX7_holder 12 = .ok (.iload_n 3, 1) := by decide +kernel
theorem dX7_holder_13 : decode cX7_holder 13 = .ok (.bipush 15, 2) := by decide +kernel
theorem dX7_holder_15 : decode cX7_holder 15 = .ok (.invokestatic 67, 3) := by decide +kernel
theorem dX7_holder_18 : decode cX7_holder 18 = .ok (.ifCond .ne 9, 3) := by decide +kernel
theorem dX7_holder_21 : decode cX7_holder 21 = .ok (.aload_n 0, 1) := by decide +kernel
theorem dX7_holder_22 : decode cX7_holder 22 = .ok (.iconst 0, 1) := by decide +kernel
theorem dX7_holder_23 : decode cX7_holder 23 = .ok (.invokevirtual 71, 3) := by decide +kernel
theorem dX7_holder_26 : decode cX7_holder 26 = .ok (.ireturn, 1) := by decide +kernel
theorem dX7_holder_27 : decode cX7_holder 27 = .ok (.aload_n 0, 1) := by decide +kernel
theorem dX7_holder_28 : decode cX7_holder 28 = .ok (.getfield 29, 3) := by decide +kernel
theorem dX7_holder_31 : decode cX7_holder 31 = .ok (.aload_n 0, 1) := by decide +kernel
theorem dX7_holder_32 : decode cX7_holder 32 = .ok (.getfield 10, 3) := by decide +kernel
theorem dX7_holder_35 : decode cX7_holder 35 = .ok (.iload_n 1, 1) := by decide +kernel
theorem dX7_holder_36 : decode cX7_holder 36 = .ok (.iload_n 2, 1) := by decide +kernel
theorem dX7_holder_37 : decode cX7_holder 37 = .ok (.invokevirtual 172, 3) := by decide +kernel
theorem dX7_holder_40 : decode cX7_holder 40 = .ok (.aload_n 0, 1) := by decide +kernel
theorem dX7_holder_41 : decode cX7_holder 41 = .ok (.getfield 29, 3) := by decide +kernel
theorem dX7_holder_44 : decode cX7_holder 44 = .ok (.iload_n 3, 1) := by decide +kernel
theorem dX7_holder_45 : decode cX7_holder 45 = .ok (.invokevirtual 182, 3) := by decide +kernel
theorem dX7_holder_48 : decode cX7_holder 48 = .ok (.istore 4, 2) := by decide +kernel
theorem dX7_holder_50 : decode cX7_holder 50 = .ok (.iload 4, 2) := by decide +kernel
theorem dX7_holder_52 : decode cX7_holder 52 = .ok (.iconst (-1), 1) := by decide +kernel
theorem dX7_holder_53 : decode cX7_holder 53 = .ok (.if_icmp .ne 11, 3) := by decide +kernel
theorem dX7_holder_56 : decode cX7_holder 56 = .ok (.aload_n 0, 1) := by decide +kernel
theorem dX7_holder_57 : decode cX7_holder 57 = .ok (.iconst 3, 1) := by decide +kernel
theorem dX7_holder_58 : decode cX7_holder 58 = .ok (.invokevirtual 71, 3) := by decide +kernel
theorem dX7_holder_61 : decode cX7_holder 61 = .ok (.goto 5, 3) := by decide +kernel
theorem dX7_holder_64 : decode cX7_holder 64 = .ok (.iload 4, 2) := by decide +kernel
theorem dX7_holder_66 : decode cX7_holder 66 = .ok (.ireturn, 1) := by decide +kernel
set_option maxRecDepth 20000 in
theorem ggX7_gain_X1_areTwo : GoodIn wsX7_gain wsX1_areTwo := goodIn_r _ [9, 10, 11, 12, 8, 13, 14, 174, 175, 176, 177, 178, 179, 180, 181, 182, 183, 184, 185] (by decide +kernel) (by decide +kernel)
set_option maxRecDepth 20000 in
theorem gX7_gain_X1_areTwo : GoodIn wsX7_gain (wsV RX7 121 RX1 yX1_areTwo wsX1_areTwo) := goodIn_app (goodIn_of _ (by decide +kernel)) ggX7_gain_X1_areTwo
set_option maxRecDepth 20000 in
theorem ggX7_gain_X7_found : GoodIn wsX7_gain wsX7_found := goodIn_r _ [19, 20, 21, 160, 161, 162, 163, 164, 165, 166, 167, 168, 169] (by decide +kernel) (by decide +kernel)
set_option maxRecDepth 20000 in
theorem gX7_gain_X7_found : GoodIn wsX7_gain (wsV RX7 71 RX7 yX7_found wsX7_found) := goodIn_app (goodIn_of _ (by decide +kernel)) ggX7_gain_X7_found
set_option maxRecDepth 20000 in
theorem ggX7_gain_X0_make : GoodIn wsX7_gain wsX0_make := goodIn_r _ [26, 27, 28, 29, 30, 31, 32, 33, 34, 35, 36, 37, 38, 39, 40, 6, 7, 8, 9, 10, 11, 12, 13, 14, 41, 42, 43, 44, 45, 46, 47, 48, 49, 25, 50, 51, 52, 53, 54, 55, 56, 18, 57, 58, 59, 60, 61, 62, 186, 187, 188, 189, 190, 191, 174, 175, 176, 177, 178, 179, 180, 181, 182, 183, 184, 185] (by decide +kernel) (by decide +kernel)
set_option maxRecDepth 20000 in
theorem gX7_gain_X0_make : GoodIn wsX7_gain (wsV RX7 172 RX0 yX0_make wsX0_make) := goodIn_app (goodIn_of _ (by decide +kernel)) ggX7_gain_X0_make
set_option maxRecDepth 20000 in
theorem ggX7_gain_X4_begin : GoodIn wsX7_gain wsX4_begin := goodIn_r _ [67, 68, 69, 70, 71, 72, 73, 74, 8, 75, 76, 77, 78, 79, 80, 81, 82, 83, 84, 85, 14, 86, 46, 87, 88, 89, 90, 42, 43, 44, 45, 170, 171, 172, 173, 174, 175, 176, 177, 178, 179, 180, 181, 182, 183, 184, 185] (by decide +kernel) (by decide +kernel)
set_option maxRecDepth 20000 in
theorem gX7_gain_X4_begin : GoodIn wsX7_gain (wsV RX7 163 RX4 yX4_begin wsX4_begin) := goodIn_app (goodIn_of _ (by decide +kernel)) ggX7_gain_X4_begin
set_option maxRecDepth 20000 in
theorem ggX7_gain_X1_join : GoodIn wsX7_gain wsX1_join := goodIn_r _ [94, 84, 95, 6, 7, 8, 9, 10, 11, 12, 13, 14, 96, 97, 98, 99, 174, 175, 176, 177, 178, 179, 180, 181, 182, 183, 184, 185] (by decide +kernel) (by decide +kernel)
set_option maxRecDepth 20000 in
theorem gX7_gain_X1_join : GoodIn wsX7_gain (wsV RX7 124 RX1 yX1_join wsX1_join) := goodIn_app (goodIn_of _ (by decide +kernel)) ggX7_gain_X1_join
set_option maxRecDepth 20000 in
theorem ggX7_gain_X4_run : GoodIn wsX7_gain wsX4_run := goodIn_r _ [103, 70, 104, 68, 105, 106, 107, 8, 108, 46, 86, 14, 84, 56, 18, 57, 109, 110, 111, 112, 113, 29, 30, 31, 114, 33, 34, 115, 116, 117, 118, 81, 76, 82, 119, 120, 121, 122, 83, 123, 124, 125, 126, 87, 88, 170, 171, 172, 173, 174, 175, 176, 177, 178, 179, 180, 181, 182, 183, 184, 185] (by decide +kernel) (by decide +kernel)
set_option maxRecDepth 20000 in
theorem gX7_gain_X4_run : GoodIn wsX7_gain (wsV RX7 169 RX4 yX4_run wsX4_run) := goodIn_app (goodIn_of _ (by decide +kernel)) ggX7_gain_X4_run
set_option maxRecDepth 20000 in
theorem ggX7_gain_X0_metOfBoth : GoodIn wsX7_gain wsX0_metOfBoth := goodIn_r _ [130, 131, 132, 133, 25, 134, 35, 39, 62, 135, 18, 136, 137, 138, 139, 140, 141, 142, 143, 186, 187, 188, 189, 190, 191] (by decide +kernel) (by decide +kernel)
set_option maxRecDepth 20000 in
theorem gX7_gain_X0_metOfBoth : GoodIn wsX7_gain (wsV RX7 176 RX0 yX0_metOfBoth wsX0_metOfBoth) := goodIn_app (goodIn_of _ (by decide +kernel)) ggX7_gain_X0_metOfBoth
set_option maxRecDepth 20000 in
theorem ggX7_gain_X4_metOf : GoodIn wsX7_gain wsX4_metOf := goodIn_r _ [147, 68, 148, 149, 11, 12, 8, 13, 14, 150, 151, 152, 66, 153, 154, 71, 155, 156, 157, 158, 104, 56, 18, 57, 159, 138, 139, 140, 141, 142, 143, 170, 171, 172, 173, 174, 175, 176, 177, 178, 179, 180, 181, 182, 183, 184, 185] (by decide +kernel) (by decide +kernel)
set_option maxRecDepth 20000 in
theorem gX7_gain_X4_metOf : GoodIn wsX7_gain (wsV RX7 148 RX4 yX4_metOf wsX4_metOf) := goodIn_app (goodIn_of _ (by decide +kernel)) ggX7_gain_X4_metOf
theorem dX7_gain_0 : decode cX7_gain 0 = .ok (.aload_n 0, 1) := by decide +kernel
theorem dX7_gain_1 : decode cX7_gain 1 = .ok (.getfield 10, 3) := by decide +kernel
theorem dX7_gain_4 : decode cX7_gain 4 = .ok (.iload_n 1, 1) := by decide +kernel
theorem dX7_gain_5 : decode cX7_gain 5 = .ok (.iload_n 2, 1) := by decide +kernel
theorem dX7_gain_6 : decode cX7_gain 6 = .ok (.invokevirtual 121, 3) := by decide +kernel
theorem dX7_gain_9 : decode cX7_gain 9 = .ok (.ifCond .ne 9, 3) := by decide +kernel
theorem dX7_gain_12 : decode cX7_gain 12 = .ok (.aload_n 0, 1) := by decide +kernel
theorem dX7_gain_13 : decode cX7_gain 13 = .ok (.iconst 0, 1) := by decide +kernel
theorem dX7_gain_14 : decode cX7_gain 14 = .ok (.invokevirtual 71, 3) := by decide +kernel
theorem dX7_gain_17 : decode cX7_gain 17 = .ok (.ireturn, 1) := by decide +kernel
theorem dX7_gain_18 : decode cX7_gain 18 = .ok (.aload_n 0, 1) := by decide +kernel
theorem dX7_gain_19 : decode cX7_gain 19 = .ok (.getfield 29, 3) := by decide +kernel
theorem dX7_gain_22 : decode cX7_gain 22 = .ok (.aload_n 0, 1) := by decide +kernel
theorem dX7_gain_23 : decode cX7_gain 23 = .ok (.getfield 10, 3) := by decide +kernel
theorem dX7_gain_26 : decode cX7_gain 26 = .ok (.iload_n 1, 1) := by decide +kernel
theorem dX7_gain_27 : decode cX7_gain 27 = .ok (.iload_n 2, 1) := by decide +kernel
theorem dX7_gain_28 : decode cX7_gain 28 = .ok (.invokevirtual 172, 3) := by decide +kernel
theorem dX7_gain_31 : decode cX7_gain 31 = .ok (.aload_n 0, 1) := by decide +kernel
theorem dX7_gain_32 : decode cX7_gain 32 = .ok (.getfield 22, 3) := by decide +kernel
theorem dX7_gain_35 : decode cX7_gain 35 = .ok (.aload_n 0, 1) := by decide +kernel
theorem dX7_gain_36 : decode cX7_gain 36 = .ok (.getfield 10, 3) := by decide +kernel
theorem dX7_gain_39 : decode cX7_gain 39 = .ok (.invokevirtual 163, 3) := by decide +kernel
theorem dX7_gain_42 : decode cX7_gain 42 = .ok (.aload_n 0, 1) := by decide +kernel
theorem dX7_gain_43 : decode cX7_gain 43 = .ok (.getfield 22, 3) := by decide +kernel
theorem dX7_gain_46 : decode cX7_gain 46 = .ok (.getfield 166, 3) := by decide +kernel
theorem dX7_gain_49 : decode cX7_gain 49 = .ok (.iload_n 1, 1) := by decide +kernel
theorem dX7_gain_50 : decode cX7_gain 50 = .ok (.iload_n 2, 1) := by decide +kernel
theorem dX7_gain_51 : decode cX7_gain 51 = .ok (.invokevirtual 124, 3) := by decide +kernel
theorem dX7_gain_54 : decode cX7_gain 54 = .ok (.aload_n 0, 1) := by decide +kernel
theorem dX7_gain_55 : decode cX7_gain 55 = .ok (.getfield 22, 3) := by decide +kernel
theorem dX7_gain_58 : decode cX7_gain 58 = .ok (.invokevirtual 169, 3) := by decide +kernel
theorem dX7_gain_61 : decode cX7_gain 61 = .ok (.aload_n 0, 1) := by decide +kernel
theorem dX7_gain_62 : decode cX7_gain 62 = .ok (.getfield 29, 3) := by decide +kernel
theorem dX7_gain_65 : decode cX7_gain 65 = .ok (.invokevirtual 176, 3) := by decide +kernel
theorem dX7_gain_68 : decode cX7_gain 68 = .ok (.aload_n 0, 1) := by decide +kernel
theorem dX7_gain_69 : decode cX7_gain 69 = .ok (.getfield 22, 3) := by decide +kernel
theorem dX7_gain_72 : decode cX7_gain 72 = .ok (.iload_n 1, 1) := by decide +kernel
theorem dX7_gain_73 : decode cX7_gain 73 = .ok (.invokevirtual 148, 3) := by decide +kernel
theorem dX7_gain_76 : decode cX7_gain 76 = .ok (.isub, 1) := by decide +kernel
theorem dX7_gain_77 : decode cX7_gain 77 = .ok (.aload_n 0, 1) := by decide +kernel
theorem dX7_gain_78 : decode cX7_gain 78 = .ok (.getfield 22, 3) := by decide +kernel
theorem dX7_gain_81 : decode cX7_gain 81 = .ok (.iload_n 2, 1) := by decide +kernel
theorem dX7_gain_82 : decode cX7_gain 82 = .ok (.invokevirtual 148, 3) := by decide +kernel
theorem dX7_gain_85 : decode cX7_gain 85 = .ok (.isub, 1) := by decide +kernel
theorem dX7_gain_86 : decode cX7_gain 86 = .ok (.ireturn, 1) := by decide +kernel
set_option maxRecDepth 20000 in
theorem ggX7_pairs_X7_weighByAgreements : GoodIn wsX7_pairs wsX7_weighByAgreements := goodIn_r _ [7, 2, 8, 1, 9, 10, 11, 12, 13, 14, 15, 16, 17, 18, 19, 20, 21, 22, 23, 24, 25, 26, 27, 28, 29, 30, 31, 6, 32, 33, 34, 35, 36, 37, 38, 39, 40, 41, 42, 43, 44, 45, 46, 47, 48, 49, 50, 51, 52, 53, 54, 55, 56, 57, 58, 59, 60, 61, 62, 63, 64, 65, 66, 67, 68, 69, 70, 71, 72, 73, 74, 75, 76, 77, 78, 79, 80, 81, 82, 83, 84, 85, 86, 87, 88, 89, 90, 91, 92, 93, 94, 95, 96, 97, 98, 99, 100, 101, 102, 103, 104, 105, 106, 107, 108, 109, 110, 111, 112, 113, 114, 115, 116, 121, 122, 123, 124, 125, 126, 127, 128, 129, 130, 131, 132, 133, 134, 135, 136, 137, 138, 139, 140, 141, 142, 143, 144, 145, 146, 147, 148, 149, 150, 151] (by decide +kernel) (by decide +kernel)
set_option maxRecDepth 20000 in
theorem gX7_pairs_X7_weighByAgreements : GoodIn wsX7_pairs (wsV RX7 185 RX7 yX7_weighByAgreements wsX7_weighByAgreements) := goodIn_app (goodIn_of _ (by decide +kernel)) ggX7_pairs_X7_weighByAgreements
set_option maxRecDepth 20000 in
theorem ggX7_pairs_X1_everybody : GoodIn wsX7_pairs wsX1_everybody := goodIn_r _ [89, 59, 131, 132, 133, 134, 135, 136, 137, 138, 139, 140, 141, 142] (by decide +kernel) (by decide +kernel)
set_option maxRecDepth 20000 in
theorem gX7_pairs_X1_everybody : GoodIn wsX7_pairs (wsV RX7 188 RX1 yX1_everybody wsX1_everybody) := goodIn_app (goodIn_of _ (by decide +kernel)) ggX7_pairs_X1_everybody
set_option maxRecDepth 20000 in
theorem ggX7_pairs_X2_bestOf : GoodIn wsX7_pairs wsX2_bestOf := goodIn_r _ [120, 94, 31, 6, 32, 143, 144, 145] (by decide +kernel) (by decide +kernel)
set_option maxRecDepth 20000 in
theorem gX7_pairs_X2_bestOf : GoodIn wsX7_pairs (wsV RX7 191 RX2 yX2_bestOf wsX2_bestOf) := goodIn_app (goodIn_of _ (by decide +kernel)) ggX7_pairs_X2_bestOf
theorem dX7_pairs_0 : decode cX7_pairs 0 = .ok (.aload_n 0, 1) := by decide +kernel
theorem dX7_pairs_1 : decode cX7_pairs 1 = .ok (.invokevirtual 185, 3) := by decide +kernel
theorem dX7_pairs_4 : decode cX7_pairs 4 = .ok (.aload_n 0, 1) := by decide +kernel
theorem dX7_pairs_5 : decode cX7_pairs 5 = .ok (.getfield 36, 3) := by decide +kernel
theorem dX7_pairs_8 : decode cX7_pairs 8 = .ok (.aload_n 0, 1) := by decide +kernel
theorem dX7_pairs_9 : decode cX7_pairs 9 = .ok (.getfield 10, 3) := by decide +kernel
theorem dX7_pairs_12 : decode cX7_pairs 12 = .ok (.invokevirtual 188, 3) := by decide +kernel
theorem dX7_pairs_15 : decode cX7_pairs 15 = .ok (.invokevirtual 191, 3) := by decide +kernel
theorem dX7_pairs_18 : decode cX7_pairs 18 = .ok (.ireturn, 1) := by decide +kernel
set_option maxRecDepth 20000 in
theorem ggX7_mate_X1_isPerson : GoodIn wsX7_mate wsX1_isPerson := goodIn_r _ [7, 8, 142, 143, 144, 145, 146, 147, 148, 149, 150, 151, 152, 153] (by decide +kernel) (by decide +kernel)
set_option maxRecDepth 20000 in
theorem gX7_mate_X1_isPerson : GoodIn wsX7_mate (wsV RX7 82 RX1 yX1_isPerson wsX1_isPerson) := goodIn_app (goodIn_of _ (by decide +kernel)) ggX7_mate_X1_isPerson
set_option maxRecDepth 20000 in
theorem ggX7_mate_X7_found : GoodIn wsX7_mate wsX7_found := goodIn_r _ [13, 14, 15, 132, 133, 134, 135, 136, 137, 138, 139, 140, 141] (by decide +kernel) (by decide +kernel)
set_option maxRecDepth 20000 in
theorem gX7_mate_X7_found : GoodIn wsX7_mate (wsV RX7 71 RX7 yX7_found wsX7_found) := goodIn_app (goodIn_of _ (by decide +kernel)) ggX7_mate_X7_found
set_option maxRecDepth 20000 in
theorem ggX7_mate_X7_weighByAgreements : GoodIn wsX7_mate wsX7_weighByAgreements := goodIn_r _ [19, 1, 20, 2, 21, 22, 23, 24, 25, 6, 26, 27, 28, 29, 30, 31, 32, 33, 34, 35, 36, 37, 38, 39, 40, 41, 42, 12, 43, 44, 45, 46, 47, 48, 49, 50, 51, 52, 53, 54, 55, 56, 57, 58, 59, 60, 61, 62, 63, 64, 65, 66, 4, 5, 7, 8, 67, 68, 69, 70, 71, 72, 73, 74, 75, 76, 77, 78, 79, 80, 81, 82, 83, 84, 85, 86, 87, 88, 89, 90, 91, 92, 93, 94, 95, 96, 97, 98, 99, 100, 101, 102, 103, 104, 105, 106, 107, 108, 109, 110, 111, 112, 113, 114, 115, 116, 117, 118, 119, 120, 121, 122, 123, 132, 133, 134, 135, 136, 137, 138, 139, 140, 141, 142, 143, 144, 145, 146, 147, 148, 149, 150, 151, 152, 153, 154, 155, 156, 157, 158, 159, 160, 161, 162] (by decide +kernel) (by decide +kernel)
set_option maxRecDepth 20000 in
theorem gX7_mate_X7_weighByAgreements : GoodIn wsX7_mate (wsV RX7 185 RX7 yX7_weighByAgreements wsX7_weighByAgreements) := goodIn_app (goodIn_of _ (by decide +kernel)) ggX7_mate_X7_weighByAgreements
set_option maxRecDepth 20000 in
theorem ggX7_mate_X1_everybody : GoodIn wsX7_mate wsX1_everybody := goodIn_r _ [96, 8, 142, 143, 144, 145, 146, 147, 148, 149, 150, 151, 152, 153] (by decide +kernel) (by decide +kernel)
set_option maxRecDepth 20000 in
theorem gX7_mate_X1_everybody : GoodIn wsX7_mate (wsV RX7 188 RX1 yX1_everybody wsX1_everybody) := goodIn_app (goodIn_of _ (by decide +kernel)) ggX7_mate_X1_everybody
set_option maxRecDepth 20000 in
theorem ggX7_mate_X2_firstMateOf : GoodIn wsX7_mate wsX2_firstMateOf := goodIn_r _ [127, 101, 107, 108, 39, 109, 77, 12, 78, 128, 129, 130, 131, 110, 111, 112, 113, 114, 30, 31, 32, 33, 34, 35, 115, 116, 117, 118, 41, 119, 51, 52, 53, 120, 55, 56, 121, 122, 123, 154, 155, 156] (by decide +kernel) (by decide +kernel)
set_option maxRecDepth 20000 in
theorem gX7_mate_X2_firstMateOf : GoodIn wsX7_mate (wsV RX7 194 RX2 yX2_firstMateOf wsX2_firstMateOf) := goodIn_app (goodIn_of _ (by decide +kernel)) ggX7_mate_X2_firstMateOf
theorem dX7_mate_0 : decode cX7_mate 0 = .ok (.aload_n 0, 1) := by decide +kernel
theorem dX7_mate_1 : decode cX7_mate 1 = .ok (.getfield 10, 3) := by decide +kernel
theorem dX7_mate_4 : decode cX7_mate 4 = .ok (.iload_n 1, 1) := by decide +kernel
theorem dX7_mate_5 : decode cX7_mate 5 = .ok (.invokevirtual 82, 3) := by decide +kernel
theorem dX7_mate_8 : decode cX7_mate 8 = .ok (.ifCond .ne 9, 3) := by decide +kernel
theorem dX7_mate_11 : decode cX7_mate 11 = .ok (.aload_n 0, 1) := by decide +kernel
theorem dX7_mate_12 : decode cX7_mate 12 = .ok (.iconst 0, 1) := by decide +kernel
theorem dX7_mate_13 : decode cX7_mate 13 = .ok (.invokevirtual 71, 3) := by decide +kernel
theorem dX7_mate_16 : decode cX7_mate 16 = .ok (.ireturn, 1) := by decide +kernel
theorem dX7_mate_17 : decode cX7_mate 17 = .ok (.aload_n 0, 1) := by decide +kernel
theorem dX7_mate_18 : decode cX7_mate 18 = .ok (.invokevirtual 185, 3) := by decide +kernel
theorem dX7_mate_21 : decode cX7_mate 21 = .ok (.aload_n 0, 1) := by decide +kernel
theorem dX7_mate_22 : decode cX7_mate 22 = .ok (.getfield 36, 3) := by decide +kernel
theorem dX7_mate_25 : decode cX7_mate 25 = .ok (.iload_n 1, 1) := by decide +kernel
theorem dX7_mate_26 : decode cX7_mate 26 = .ok (.aload_n 0, 1) := by decide +kernel
theorem dX7_mate_27 : decode cX7_mate 27 = .ok (.getfield 10, 3) := by decide +kernel
theorem dX7_mate_30 : decode cX7_mate 30 = .ok (.invokevirtual 188, 3) := by decide +kernel
theorem dX7_mate_33 : decode cX7_mate 33 = .ok (.invokevirtual 194, 3) := by decide +kernel
theorem dX7_mate_36 : decode cX7_mate 36 = .ok (.ireturn, 1) := by decide +kernel
set_option maxRecDepth 20000 in
theorem ggX7_ways_X7_weighByAgreements : GoodIn wsX7_ways wsX7_weighByAgreements := goodIn_r _ [7, 2, 8, 1, 9, 10, 11, 12, 13, 14, 15, 16, 17, 18, 19, 20, 21, 22, 23, 24, 25, 26, 27, 28, 29, 30, 31, 6, 32, 33, 34, 35, 36, 37, 38, 39, 40, 41, 42, 43, 44, 45, 46, 47, 48, 49, 50, 51, 52, 53, 54, 55, 56, 57, 58, 59, 60, 61, 62, 63, 64, 65, 66, 67, 68, 69, 70, 71, 72, 73, 74, 75, 76, 77, 78, 79, 80, 81, 82, 83, 84, 85, 86, 87, 88, 89, 90, 91, 92, 93, 94, 95, 96, 97, 98, 99, 100, 101, 102, 103, 104, 105, 106, 107, 108, 109, 110, 111, 112, 113, 114, 115, 116, 121, 122, 123, 124, 125, 126, 127, 128, 129, 130, 131, 132, 133, 134, 135, 136, 137, 138, 139, 140, 141, 142, 143, 144, 145, 146, 147, 148, 149, 150, 151] (by decide +kernel) (by decide +kernel)
set_option maxRecDepth 20000 in
theorem gX7_ways_X7_weighByAgreements : GoodIn wsX7_ways (wsV RX7 185 RX7 yX7_weighByAgreements wsX7_weighByAgreements) := goodIn_app (goodIn_of _ (by decide +kernel)) ggX7_ways_X7_weighByAgreements
set_option maxRecDepth 20000 in
theorem ggX7_ways_X1_everybody : GoodIn wsX7_ways wsX1_everybody := goodIn_r _ [89, 59, 131, 132, 133, 134, 135, 136, 137, 138, 139, 140, 141, 142] (by decide +kernel) (by decide +kernel)
set_option maxRecDepth 20000 in
theorem gX7_ways_X1_everybody : GoodIn wsX7_ways (wsV RX7 188 RX1 yX1_everybody wsX1_everybody) := goodIn_app (goodIn_of _ (by decide +kernel)) ggX7_ways_X1_everybody
set_option maxRecDepth 20000 in
theorem ggX7_ways_X2_waysOf : GoodIn wsX7_ways wsX2_waysOf := goodIn_r _ [120, 95, 31, 6, 32, 143, 144, 145] (by decide +kernel) (by decide +kernel)
set_option maxRecDepth 20000 in
theorem gX7_ways_X2_waysOf : GoodIn wsX7_ways (wsV RX7 197 RX2 yX2_waysOf wsX2_waysOf) := goodIn_app (goodIn_of _ (by decide +kernel)) ggX7_ways_X2_waysOf
theorem dX7_ways_0 : decode cX7_ways 0 = .ok (.aload_n 0, 1) := by decide +kernel
theorem dX7_ways_1 : decode cX7_ways 1 = .ok (.invokevirtual 185, 3) := by decide +kernel
theorem dX7_ways_4 : decode cX7_ways 4 = .ok (.aload_n 0, 1) := by decide +kernel
theorem dX7_ways_5 : decode cX7_ways 5 = .ok (.getfield 36, 3) := by decide +kernel
theorem dX7_ways_8 : decode cX7_ways 8 = .ok (.aload_n 0, 1) := by decide +kernel
theorem dX7_ways_9 : decode cX7_ways 9 = .ok (.getfield 10, 3) := by decide +kernel
theorem dX7_ways_12 : decode cX7_ways 12 = .ok (.invokevirtual 188, 3) := by decide +kernel
theorem dX7_ways_15 : decode cX7_ways 15 = .ok (.invokevirtual 197, 3) := by decide +kernel
theorem dX7_ways_18 : decode cX7_ways 18 = .ok (.ireturn, 1) := by decide +kernel
set_option maxRecDepth 20000 in
theorem ggX7_broken_X4_see : GoodIn wsX7_broken wsX4_see := goodIn_r _ [9, 10, 11, 12, 8, 13, 14, 15, 16, 17, 18, 19, 20, 21, 22, 23, 24, 25, 26, 27, 28, 29, 30, 31, 32, 33, 34, 35, 36, 37, 38, 39, 40, 41, 42, 43, 44, 45, 46, 47, 48, 49, 50, 51, 52, 53, 54, 55, 56, 57, 58, 59, 60, 61, 62, 63, 64, 65, 66, 67, 68, 69, 70, 71, 72, 73, 74, 75, 76, 77, 78, 177, 178, 179, 180, 165, 166, 167, 168, 169, 170, 171, 172, 173, 174, 175, 176] (by decide +kernel) (by decide +kernel)
set_option maxRecDepth 20000 in
theorem gX7_broken_X4_see : GoodIn wsX7_broken (wsV RX7 144 RX4 yX4_see wsX4_see) := goodIn_app (goodIn_of _ (by decide +kernel)) ggX7_broken_X4_see
set_option maxRecDepth 20000 in
theorem ggX7_broken_X7_wouldRatherAgree : GoodIn wsX7_broken wsX7_wouldRatherAgree := goodIn_r _ [82, 83, 2, 1, 84, 85, 86, 87, 88, 89, 90, 61, 62, 63, 91, 65, 66, 92, 93, 94, 95, 96, 97, 98, 99, 21, 100, 101, 102, 103, 104, 33, 105, 40, 41, 42, 43, 35, 106, 107, 108, 109, 110, 111, 112, 113, 114, 53, 54, 55, 115, 116, 117, 118, 119, 120, 121, 122, 123, 124, 125, 126, 127, 128, 129, 130, 131, 132, 133, 134, 135, 8, 136, 14, 137, 138, 139, 140, 141, 142, 143, 17, 144, 145, 146, 147, 48, 148, 155, 156, 157, 158, 159, 160, 161, 162, 163, 164, 181, 182, 183, 184, 185, 186, 165, 166, 167, 168, 169, 170, 171, 172, 173, 174, 175, 176, 177, 178, 179, 180] (by decide +kernel) (by decide +kernel)
set_option maxRecDepth 20000 in
theorem gX7_broken_X7_wouldRatherAgree : GoodIn wsX7_broken (wsV RX7 203 RX7 yX7_wouldRatherAgree wsX7_wouldRatherAgree) := goodIn_app (goodIn_of _ (by decide +kernel)) ggX7_broken_X7_wouldRatherAgree
set_option maxRecDepth 20000 in
theorem ggX7_broken_X7_found : GoodIn wsX7_broken wsX7_found := goodIn_r _ [152, 153, 154, 155, 156, 157, 158, 159, 160, 161, 162, 163, 164] (by decide +kernel) (by decide +kernel)
set_option maxRecDepth 20000 in
theorem gX7_broken_X7_found : GoodIn wsX7_broken (wsV RX7 71 RX7 yX7_found wsX7_found) := goodIn_app (goodIn_of _ (by decide +kernel)) ggX7_broken_X7_found
theorem dX7_broken_0 : decode cX7_broken 0 = .ok (.aload_n 0, 1) := by decide +kernel
theorem dX7_broken_1 : decode cX7_broken 1 = .ok (.getfield 22, 3) := by decide +kernel
theorem dX7_broken_4 : decode cX7_broken 4 = .ok (.aload_n 0, 1) := by decide +kernel
theorem dX7_broken_5 : decode cX7_broken 5 = .ok (.getfield 10, 3) := by decide +kernel
theorem dX7_broken_8 : decode cX7_broken 8 = .ok (.invokevirtual 144, 3) := by decide +kernel
theorem dX7_broken_11 : decode cX7_broken 11 = .ok (.iconst 0, 1) := by decide +kernel
theorem dX7_broken_12 : decode cX7_broken 12 = .ok (.istore_n 1, 1) := by decide +kernel
theorem dX7_broken_13 : decode cX7_broken 13 = .ok (.iload_n 1, 1) := by decide +kernel
theorem dX7_broken_14 : decode cX7_broken 14 = .ok (.aload_n 0, 1) := by decide +kernel
theorem dX7_broken_15 : decode cX7_broken 15 = .ok (.getfield 10, 3) := by decide +kernel
theorem dX7_broken_18 : decode cX7_broken 18 = .ok (.getfield 200, 3) := by decide +kernel
theorem dX7_broken_21 : decode cX7_broken 21 = .ok (.if_icmp .ge 59, 3) := by decide +kernel
theorem dX7_broken_24 : decode cX7_broken 24 = .ok (.iload_n 1, 1) := by decide +kernel
theorem dX7_broken_25 : decode cX7_broken 25 = .ok (.iconst 1, 1) := by decide +kernel
theorem dX7_broken_26 : decode cX7_broken 26 = .ok (.iadd, 1) := by decide +kernel
theorem dX7_broken_27 : decode cX7_broken 27 = .ok (.istore_n 2, 1) := by decide +kernel
theorem dX7_broken_28 : decode cX7_broken 28 = .ok (.iload_n 2, 1) := by decide +kernel
theorem dX7_broken_29 : decode cX7_broken 29 = .ok (.aload_n 0, 1) := by decide +kernel
theorem dX7_broken_30 : decode cX7_broken 30 = .ok (.getfield 10, 3) := by decide +kernel
theorem dX7_broken_33 : decode cX7_broken 33 = .ok (.getfield 200, 3) := by decide +kernel
theorem dX7_broken_36 : decode cX7_broken 36 = .ok (.if_icmp .ge 38, 3) := by decide +kernel
theorem dX7_broken_39 : decode cX7_broken 39 = .ok (.aload_n 0, 1) := by decide +kernel
theorem dX7_broken_40 : decode cX7_broken 40 = .ok (.getfield 10, 3) := by decide +kernel
theorem dX7_broken_43 : decode cX7_broken 43 = .ok (.getfield 98, 3) := by decide +kernel
theorem dX7_broken_46 : decode cX7_broken 46 = .ok (.iload_n 1, 1) := by decide +kernel
theorem dX7_broken_47 : decode cX7_broken 47 = .ok (.iaload, 1) := by decide +kernel
theorem dX7_broken_48 : decode cX7_broken 48 = .ok (.iload_n 2, 1) := by decide +kernel
theorem dX7_broken_49 : decode cX7_broken 49 = .ok (.if_icmp .eq 19, 3) := by decide +kernel
theorem dX7_broken_52 : decode cX7_broken 52 = .ok (.aload_n 0, 1) := by decide +kernel
theorem dX7_broken_53 : decode cX7_broken 53 = .ok (.iload_n 1, 1) := by decide +kernel
theorem dX7_broken_54 : decode cX7_broken 54 = .ok (.iload_n 2, 1) := by decide +kernel
theorem dX7_broken_55 : decode cX7_broken 55 = .ok (.invokevirtual 203, 3) := by decide +kernel
theorem dX7_broken_58 : decode cX7_broken 58 = .ok (.ifCond .eq 10, 3) := by decide +kernel
theorem dX7_broken_61 : decode cX7_broken 61 = .ok (.bipush 10, 2) := by decide +kernel
theorem dX7_broken_63 : decode cX7_broken 63 = .ok (.iload_n 1, 1) := by decide +kernel
theorem dX7_broken_64 : decode cX7_broken 64 = .ok (.imul, 1) := by decide +kernel
theorem dX7_broken_65 : decode cX7_broken 65 = .ok (.iload_n 2, 1) := by decide +kernel
theorem dX7_broken_66 : decode cX7_broken 66 = .ok (.iadd, 1) := by decide +kernel
theorem dX7_broken_67 : decode cX7_broken 67 = .ok (.ireturn, 1) := by decide +kernel
theorem dX7_broken_68 : decode cX7_broken 68 = .ok (.iinc 2 1, 3) := by decide +kernel
theorem dX7_broken_71 : decode cX7_broken 71 = .ok (.goto (-43), 3) := by decide +kernel
theorem dX7_broken_74 : decode cX7_broken 74 = .ok (.iinc 1 1, 3) := by decide +kernel
theorem dX7_broken_77 : decode cX7_broken 77 = .ok (.goto (-64), 3) := by decide +kernel
theorem dX7_broken_80 : decode cX7_broken 80 = .ok (.aload_n 0, 1) := by decide +kernel
theorem dX7_broken_81 : decode cX7_broken 81 = .ok (.iconst 3, 1) := by decide +kernel
theorem dX7_broken_82 : decode cX7_broken 82 = .ok (.invokevirtual 71, 3) := by decide +kernel
theorem dX7_broken_85 : decode cX7_broken 85 = .ok (.ireturn, 1) := by decide +kernel
set_option maxRecDepth 20000 in
theorem ggX7_fits_X7_lackOf : GoodIn wsX7_fits wsX7_lackOf := goodIn_r _ [8, 1, 9, 10, 7, 11, 12, 13, 14, 15, 16, 17, 18, 19, 20, 180, 181, 182, 183, 184, 185, 186, 187, 188, 189, 190, 191, 192] (by decide +kernel) (by decide +kernel)
set_option maxRecDepth 20000 in
theorem gX7_fits_X7_lackOf : GoodIn wsX7_fits (wsV RX7 206 RX7 yX7_lackOf wsX7_lackOf) := goodIn_app (goodIn_of _ (by decide +kernel)) ggX7_fits_X7_lackOf
set_option maxRecDepth 20000 in
theorem ggX7_fits_X7_found : GoodIn wsX7_fits wsX7_found := goodIn_r _ [24, 25, 26, 180, 181, 182, 183, 184, 185, 186, 187, 188, 189] (by decide +kernel) (by decide +kernel)
set_option maxRecDepth 20000 in
theorem gX7_fits_X7_found : GoodIn wsX7_fits (wsV RX7 71 RX7 yX7_found wsX7_found) := goodIn_app (goodIn_of _ (by decide +kernel)) ggX7_fits_X7_found
set_option maxRecDepth 20000 in
theorem ggX7_fits_X7_weighByShade : GoodIn wsX7_fits wsX7_weighByShade := goodIn_r _ [30, 3, 31, 32, 33, 34, 2, 35, 36, 37, 38, 39, 40, 41, 42, 43, 18, 44, 45, 46, 47, 48, 49, 50, 51, 52, 53, 54, 55, 56, 57, 58, 59, 60, 61, 62, 63, 64, 65, 66, 67, 68, 69, 70, 71, 72, 73, 74, 75, 76, 77, 78, 79, 80, 81, 82, 83, 84, 85, 86, 87, 88, 89, 90, 91, 92, 93, 94, 95, 96, 97, 98, 99, 100, 101, 102, 103, 104, 105, 106, 7, 107, 108, 109, 110, 111, 112, 113, 114, 115, 116, 117, 118, 119, 120, 121, 122, 123, 124, 125, 126, 127, 128, 129, 130, 131, 132, 133, 134, 135, 136, 137, 138, 139, 140, 141, 142, 13, 14, 143, 144, 145, 146, 147, 148, 149, 150, 151, 152, 153, 154, 155, 156, 157, 158, 159, 160, 161, 162, 163, 164, 165, 166, 167, 168, 169, 170, 171, 172, 173, 174, 175, 180, 181, 182, 183, 184, 185, 186, 187, 188, 189, 193, 194, 195, 196, 197, 198, 199, 200, 201, 202, 203, 204, 205, 206, 207, 208, 190, 191, 192, 209, 210, 211] (by decide +kernel) (by decide +kernel)
set_option maxRecDepth 20000 in
theorem gX7_fits_X7_weighByShade : GoodIn wsX7_fits (wsV RX7 209 RX7 yX7_weighByShade wsX7_weighByShade) := goodIn_app (goodIn_of _ (by decide +kernel)) ggX7_fits_X7_weighByShade
set_option maxRecDepth 20000 in
theorem ggX7_fits_X1_everybody : GoodIn wsX7_fits wsX1_everybody := goodIn_r _ [39, 40, 193, 194, 195, 196, 197, 198, 199, 200, 201, 202, 203, 204] (by decide +kernel) (by decide +kernel)
set_option maxRecDepth 20000 in
theorem gX7_fits_X1_everybody : GoodIn wsX7_fits (wsV RX7 188 RX1 yX1_everybody wsX1_everybody) := goodIn_app (goodIn_of _ (by decide +kernel)) ggX7_fits_X1_everybody
set_option maxRecDepth 20000 in
theorem ggX7_fits_X2_waysOf : GoodIn wsX7_fits wsX2_waysOf := goodIn_r _ [179, 148, 13, 7, 14, 209, 210, 211] (by decide +kernel) (by decide +kernel)
set_option maxRecDepth 20000 in
theorem gX7_fits_X2_waysOf : GoodIn wsX7_fits (wsV RX7 197 RX2 yX2_waysOf wsX2_waysOf) := goodIn_app (goodIn_of _ (by decide +kernel)) ggX7_fits_X2_waysOf
theorem dX7_fits_0 : decode cX7_fits 0 = .ok (.aload_n 0, 1) := by decide +kernel
theorem dX7_fits_1 : decode cX7_fits 1 = .ok (.iload_n 1, 1) := by decide +kernel
theorem dX7_fits_2 : decode cX7_fits 2 = .ok (.invokevirtual 206, 3) := by decide +kernel
theorem dX7_fits_5 : decode cX7_fits 5 = .ok (.istore_n 2, 1) := by decide +kernel
theorem dX7_fits_6 : decode cX7_fits 6 = .ok (.iload_n 2, 1) := by decide +kernel
theorem dX7_fits_7 : decode cX7_fits 7 = .ok (.iconst (-1), 1) := by decide +kernel
theorem dX7_fits_8 : decode cX7_fits 8 = .ok (.if_icmp .eq 9, 3) := by decide +kernel
theorem dX7_fits_11 : decode cX7_fits 11 = .ok (.aload_n 0, 1) := by decide +kernel
theorem dX7_fits_12 : decode cX7_fits 12 = .ok (.iload_n 2, 1) := by decide +kernel
theorem dX7_fits_13 : decode cX7_fits 13 = .ok (.invokevirtual 71, 3) := by decide +kernel
theorem dX7_fits_16 : decode cX7_fits 16 = .ok (.ireturn, 1) := by decide +kernel
theorem dX7_fits_17 : decode cX7_fits 17 = .ok (.aload_n 0, 1) := by decide +kernel
theorem dX7_fits_18 : decode cX7_fits 18 = .ok (.aload_n 0, 1) := by decide +kernel
theorem dX7_fits_19 : decode cX7_fits 19 = .ok (.getfield 54, 3) := by decide +kernel
theorem dX7_fits_22 : decode cX7_fits 22 = .ok (.iload_n 1, 1) := by decide +kernel
theorem dX7_fits_23 : decode cX7_fits 23 = .ok (.aaload, 1) := by decide +kernel
theorem dX7_fits_24 : decode cX7_fits 24 = .ok (.invokevirtual 209, 3) := by decide +kernel
theorem dX7_fits_27 : decode cX7_fits 27 = .ok (.ifCond .eq 20, 3) := by decide +kernel
theorem dX7_fits_30 : decode cX7_fits 30 = .ok (.aload_n 0, 1) := by decide +kernel
theorem dX7_fits_31 : decode cX7_fits 31 = .ok (.getfield 36, 3) := by decide +kernel
theorem dX7_fits_34 : decode cX7_fits 34 = .ok (.aload_n 0, 1) := by decide +kernel
theorem dX7_fits_35 : decode cX7_fits 35 = .ok (.getfield 10, 3) := by decide +kernel
theorem dX7_fits_38 : decode cX7_fits 38 = .ok (.invokevirtual 188, 3) := by decide +kernel
theorem dX7_fits_41 : decode cX7_fits 41 = .ok (.invokevirtual 197, 3) := by decide +kernel
theorem dX7_fits_44 : decode cX7_fits 44 = .ok (.goto 4, 3) := by decide +kernel
theorem dX7_fits_47 : decode cX7_fits 47 = .ok (.iconst 0, 1) := by decide +kernel
theorem dX7_fits_48 : decode cX7_fits 48 = .ok (.ireturn, 1) := by decide +kernel
set_option maxRecDepth 20000 in
theorem ggX7_may_X7_lackOf : GoodIn wsX7_may wsX7_lackOf := goodIn_r _ [8, 2, 9, 10, 7, 11, 12, 13, 14, 15, 16, 17, 18, 19, 20, 181, 182, 183, 184, 185, 186, 187, 188, 189, 190, 191, 192, 193] (by decide +kernel) (by decide +kernel)
set_option maxRecDepth 20000 in
theorem gX7_may_X7_lackOf : GoodIn wsX7_may (wsV RX7 206 RX7 yX7_lackOf wsX7_lackOf) := goodIn_app (goodIn_of _ (by decide +kernel)) ggX7_may_X7_lackOf
set_option maxRecDepth 20000 in
theorem ggX7_may_X7_found : GoodIn wsX7_may wsX7_found := goodIn_r _ [24, 25, 26, 181, 182, 183, 184, 185, 186, 187, 188, 189, 190] (by decide +kernel) (by decide +kernel)
set_option maxRecDepth 20000 in
theorem gX7_may_X7_found : GoodIn wsX7_may (wsV RX7 71 RX7 yX7_found wsX7_found) := goodIn_app (goodIn_of _ (by decide +kernel)) ggX7_may_X7_found
set_option maxRecDepth 20000 in
theorem ggX7_may_X1_isPerson : GoodIn wsX7_may wsX1_isPerson := goodIn_r _ [31, 32, 194, 195, 196, 197, 198, 199, 200, 201, 202, 203, 204, 205] (by decide +kernel) (by decide +kernel)
set_option maxRecDepth 20000 in
theorem gX7_may_X1_isPerson : GoodIn wsX7_may (wsV RX7 82 RX1 yX1_isPerson wsX1_isPerson) := goodIn_app (goodIn_of _ (by decide +kernel)) ggX7_may_X1_isPerson
set_option maxRecDepth 20000 in
theorem ggX7_may_X7_weighByShade : GoodIn wsX7_may wsX7_weighByShade := goodIn_r _ [36, 1, 37, 38, 39, 40, 3, 41, 42, 43, 30, 44, 32, 45, 46, 47, 18, 48, 49, 50, 51, 52, 53, 54, 55, 56, 57, 58, 59, 60, 61, 62, 63, 64, 65, 66, 67, 68, 69, 70, 71, 72, 73, 74, 75, 76, 77, 78, 79, 80, 81, 82, 83, 84, 85, 86, 87, 88, 28, 29, 31, 89, 90, 91, 92, 93, 94, 95, 96, 97, 98, 99, 100, 101, 102, 103, 104, 105, 106, 107, 7, 108, 109, 110, 111, 112, 113, 114, 115, 116, 117, 118, 119, 120, 121, 122, 123, 124, 125, 126, 127, 128, 129, 130, 131, 132, 133, 134, 135, 136, 137, 138, 139, 140, 141, 142, 143, 13, 14, 144, 145, 146, 147, 148, 149, 150, 151, 152, 153, 154, 155, 156, 157, 158, 159, 160, 161, 162, 163, 164, 165, 166, 167, 168, 169, 170, 171, 172, 173, 174, 175, 176, 181, 182, 183, 184, 185, 186, 187, 188, 189, 190, 194, 195, 196, 197, 198, 199, 200, 201, 202, 203, 204, 205, 206, 207, 208, 209, 191, 192, 193, 210, 211, 212] (by decide +kernel) (by decide +kernel)
set_option maxRecDepth 20000 in
theorem gX7_may_X7_weighByShade : GoodIn wsX7_may (wsV RX7 209 RX7 yX7_weighByShade wsX7_weighByShade) := goodIn_app (goodIn_of _ (by decide +kernel)) ggX7_may_X7_weighByShade
set_option maxRecDepth 20000 in
theorem ggX7_may_X1_everybody : GoodIn wsX7_may wsX1_everybody := goodIn_r _ [44, 32, 194, 195, 196, 197, 198, 199, 200, 201, 202, 203, 204, 205] (by decide +kernel) (by decide +kernel)
set_option maxRecDepth 20000 in
theorem gX7_may_X1_everybody : GoodIn wsX7_may (wsV RX7 188 RX1 yX1_everybody wsX1_everybody) := goodIn_app (goodIn_of _ (by decide +kernel)) ggX7_may_X1_everybody
set_option maxRecDepth 20000 in
theorem ggX7_may_X2_matesOf : GoodIn wsX7_may wsX2_matesOf := goodIn_r _ [180, 148, 13, 7, 14, 157, 158, 159, 141, 160, 107, 108, 161, 162, 163, 164, 165, 166, 167, 168, 169, 170, 171, 143, 172, 114, 115, 116, 173, 118, 119, 174, 175, 176, 210, 211, 212] (by decide +kernel) (by decide +kernel)
set_option maxRecDepth 20000 in
theorem gX7_may_X2_matesOf : GoodIn wsX7_may (wsV RX7 213 RX2 yX2_matesOf wsX2_matesOf) := goodIn_app (goodIn_of _ (by decide +kernel)) ggX7_may_X2_matesOf
theorem dX7_may_0 : decode cX7_may 0 = .ok (.aload_n 0, 1) := by decide +kernel
theorem dX7_may_1 : decode cX7_may 1 = .ok (.iload_n 1, 1) := by decide +kernel
theorem dX7_may_2 : decode cX7_may 2 = .ok (.invokevirtual 206, 3) := by decide +kernel
theorem dX7_may_5 : decode cX7_may 5 = .ok (.istore_n 3, 1) := by decide +kernel
theorem dX7_may_6 : decode cX7_may 6 = .ok (.iload_n 3, 1) := by decide +kernel
theorem dX7_may_7 : decode cX7_may 7 = .ok (.iconst (-1), 1) := by decide +kernel
theorem dX7_may_8 : decode cX7_may 8 = .ok (.if_icmp .eq 9, 3) := by decide +kernel
theorem dX7_may_11 : decode cX7_may 11 = .ok (.aload_n 0, 1) := by decide +kernel
theorem dX7_may_12 : decode cX7_may 12 = .ok (.iload_n 3, 1) := by decide +kernel
theorem dX7_may_13 : decode cX7_may 13 = .ok (.invokevirtual 71, 3) := by decide +kernel
theorem dX7_may_16 : decode cX7_may 16 = .ok (.ireturn, 1) := by decide +kernel
theorem dX7_may_17 : decode cX7_may 17 = .ok (.aload_n 0, 1) := by decide +kernel
theorem dX7_may_18 : decode cX7_may 18 = .ok (.getfield 10, 3) := by decide +kernel
theorem dX7_may_21 : decode cX7_may 21 = .ok (.iload_n 2, 1) := by decide +kernel
theorem dX7_may_22 : decode cX7_may 22 = .ok (.invokevirtual 82, 3) := by decide +kernel
theorem dX7_may_25 : decode cX7_may 25 = .ok (.ifCond .ne 9, 3) := by decide +kernel
theorem dX7_may_28 : decode cX7_may 28 = .ok (.aload_n 0, 1) := by decide +kernel
theorem dX7_may_29 : decode cX7_may 29 = .ok (.iconst 0, 1) := by decide +kernel
theorem dX7_may_30 : decode cX7_may 30 = .ok (.invokevirtual 71, 3) := by decide +kernel
theorem dX7_may_33 : decode cX7_may 33 = .ok (.ireturn, 1) := by decide +kernel
theorem dX7_may_34 : decode cX7_may 34 = .ok (.aload_n 0, 1) := by decide +kernel
theorem dX7_may_35 : decode cX7_may 35 = .ok (.aload_n 0, 1) := by decide +kernel
theorem dX7_may_36 : decode cX7_may 36 = .ok (.getfield 54, 3) := by decide +kernel
theorem dX7_may_39 : decode cX7_may 39 = .ok (.iload_n 1, 1) := by decide +kernel
theorem dX7_may_40 : decode cX7_may 40 = .ok (.aaload, 1) := by decide +kernel
theorem dX7_may_41 : decode cX7_may 41 = .ok (.invokevirtual 209, 3) := by decide +kernel
theorem dX7_may_44 : decode cX7_may 44 = .ok (.ifCond .eq 21, 3) := by decide +kernel
theorem dX7_may_47 : decode cX7_may 47 = .ok (.aload_n 0, 1) := by decide +kernel
theorem dX7_may_48 : decode cX7_may 48 = .ok (.getfield 36, 3) := by decide +kernel
theorem dX7_may_51 : decode cX7_may 51 = .ok (.iload_n 2, 1) := by decide +kernel
theorem dX7_may_52 : decode cX7_may 52 = .ok (.aload_n 0, 1) := by decide +kernel
theorem dX7_may_53 : decode cX7_may 53 = .ok (.getfield 10, 3) := by decide +kernel
theorem dX7_may_56 : decode cX7_may 56 = .ok (.invokevirtual 188, 3) := by decide +kernel
theorem dX7_may_59 : decode cX7_may 59 = .ok (.invokevirtual 213, 3) := by decide +kernel
theorem dX7_may_62 : decode cX7_may 62 = .ok (.goto 4, 3) := by decide +kernel
theorem dX7_may_65 : decode cX7_may 65 = .ok (.iconst 0, 1) := by decide +kernel
theorem dX7_may_66 : decode cX7_may 66 = .ok (.ireturn, 1) := by decide +kernel
set_option maxRecDepth 20000 in
theorem ggX7_duel_X1_areTwo : GoodIn wsX7_duel wsX1_areTwo := goodIn_r _ [13, 14, 15, 16, 12, 17, 18, 58, 59, 60, 61, 62, 63, 64, 65, 66, 67, 68, 69] (by decide +kernel) (by decide +kernel)
set_option maxRecDepth 20000 in
theorem gX7_duel_X1_areTwo : GoodIn wsX7_duel (wsV RX7 121 RX1 yX1_areTwo wsX1_areTwo) := goodIn_app (goodIn_of _ (by decide +kernel)) ggX7_duel_X1_areTwo
set_option maxRecDepth 20000 in
theorem ggX7_duel_X7_found : GoodIn wsX7_duel wsX7_found := goodIn_r _ [23, 24, 25, 48, 49, 50, 51, 52, 53, 54, 55, 56, 57] (by decide +kernel) (by decide +kernel)
set_option maxRecDepth 20000 in
theorem gX7_duel_X7_found : GoodIn wsX7_duel (wsV RX7 71 RX7 yX7_found wsX7_found) := goodIn_app (goodIn_of _ (by decide +kernel)) ggX7_duel_X7_found
set_option maxRecDepth 20000 in
theorem ggX7_duel_X7_duelForce : GoodIn wsX7_duel wsX7_duelForce := goodIn_r _ [29, 1, 30, 31, 32, 33, 22, 34, 35, 36, 37, 12, 38, 39, 3, 4, 5, 40, 7, 8, 41, 42, 43, 44, 18, 45, 46, 47, 48, 49, 50, 51, 52, 53, 54, 55, 56, 57, 58, 59, 60, 61, 62, 63, 64, 65, 66, 67, 68, 69] (by decide +kernel) (by decide +kernel)
set_option maxRecDepth 20000 in
theorem gX7_duel_X7_duelForce : GoodIn wsX7_duel (wsV RX7 224 RX7 yX7_duelForce wsX7_duelForce) := goodIn_app (goodIn_of _ (by decide +kernel)) ggX7_duel_X7_duelForce
theorem dX7_duel_0 : decode cX7_duel 0 = .ok (.aload_n 0, 1) := by decide +kernel
theorem dX7_duel_1 : decode cX7_duel 1 = .ok (.getfield 10, 3) := by decide +kernel
theorem dX7_duel_4 : decode cX7_duel 4 = .ok (.iload_n 1, 1) := by decide +kernel
theorem dX7_duel_5 : decode cX7_duel 5 = .ok (.iload_n 2, 1) := by decide +kernel
theorem dX7_duel_6 : decode cX7_duel 6 = .ok (.invokevirtual 121, 3) := by decide +kernel
theorem dX7_duel_9 : decode cX7_duel 9 = .ok (.ifCond .ne 9, 3) := by decide +kernel
theorem dX7_duel_12 : decode cX7_duel 12 = .ok (.aload_n 0, 1) := by decide +kernel
theorem dX7_duel_13 : decode cX7_duel 13 = .ok (.iconst 0, 1) := by decide +kernel
theorem dX7_duel_14 : decode cX7_duel 14 = .ok (.invokevirtual 71, 3) := by decide +kernel
theorem dX7_duel_17 : decode cX7_duel 17 = .ok (.ireturn, 1) := by decide +kernel
theorem dX7_duel_18 : decode cX7_duel 18 = .ok (.iload_n 1, 1) := by decide +kernel
theorem dX7_duel_19 : decode cX7_duel 19 = .ok (.iload_n 2, 1) := by decide +kernel
theorem dX7_duel_20 : decode cX7_duel 20 = .ok (.invokestatic 216, 3) := by decide +kernel
theorem dX7_duel_23 : decode cX7_duel 23 = .ok (.istore_n 3, 1) := by decide +kernel
theorem dX7_duel_24 : decode cX7_duel 24 = .ok (.iload_n 1, 1) := by decide +kernel
theorem dX7_duel_25 : decode cX7_duel 25 = .ok (.iload_n 2, 1) := by decide +kernel
theorem dX7_duel_26 : decode cX7_duel 26 = .ok (.invokestatic 221, 3) := by decide +kernel
theorem dX7_duel_29 : decode cX7_duel 29 = .ok (.istore 4, 2) := by decide +kernel
theorem dX7_duel_31 : decode cX7_duel 31 = .ok (.aload_n 0, 1) := by decide +kernel
theorem dX7_duel_32 : decode cX7_duel 32 = .ok (.iload 4, 2) := by decide +kernel
theorem dX7_duel_34 : decode cX7_duel 34 = .ok (.iload_n 3, 1) := by decide +kernel
theorem dX7_duel_35 : decode cX7_duel 35 = .ok (.invokevirtual 224, 3) := by decide +kernel
theorem dX7_duel_38 : decode cX7_duel 38 = .ok (.aload_n 0, 1) := by decide +kernel
theorem dX7_duel_39 : decode cX7_duel 39 = .ok (.iload_n 3, 1) := by decide +kernel
theorem dX7_duel_40 : decode cX7_duel 40 = .ok (.iload 4, 2) := by decide +kernel
theorem dX7_duel_42 : decode cX7_duel 42 = .ok (.invokevirtual 224, 3) := by decide +kernel
theorem dX7_duel_45 : decode cX7_duel 45 = .ok (.if_icmp .le 8, 3) := by decide +kernel
theorem dX7_duel_48 : decode cX7_duel 48 = .ok (.iload 4, 2) := by decide +kernel
theorem dX7_duel_50 : decode cX7_duel 50 = .ok (.goto 4, 3) := by decide +kernel
theorem dX7_duel_53 : decode cX7_duel 53 = .ok (.iload_n 3, 1) := by decide +kernel
theorem dX7_duel_54 : decode cX7_duel 54 = .ok (.ireturn, 1) := by decide +kernel
set_option maxRecDepth 20000 in
theorem ggX7_lanterns_X7_isWithin : GoodIn wsX7_lanterns wsX7_isWithin := goodIn_r _ [4] (by decide +kernel) (by decide +kernel)
set_option maxRecDepth 20000 in
theorem gX7_lanterns_X7_isWithin : GoodIn wsX7_lanterns (va_wsS RX7 67 yX7_isWithin wsX7_isWithin) := goodIn_app (goodIn_of _ (by decide +kernel)) ggX7_lanterns_X7_isWithin
set_option maxRecDepth 20000 in
theorem ggX7_lanterns_X7_found : GoodIn wsX7_lanterns wsX7_found := goodIn_r _ [8, 9, 10, 21, 22, 23, 24, 25, 26, 27, 28, 29, 30] (by decide +kernel) (by decide +kernel)
set_option maxRecDepth 20000 in
theorem gX7_lanterns_X7_found : GoodIn wsX7_lanterns (wsV RX7 71 RX7 yX7_found wsX7_found) := goodIn_app (goodIn_of _ (by decide +kernel)) ggX7_lanterns_X7_found
set_option maxRecDepth 20000 in
theorem ggX7_lanterns_X7_commonDivisor : GoodIn wsX7_lanterns wsX7_commonDivisor := goodIn_r _ [13, 14, 15, 16, 17] (by decide +kernel) (by decide +kernel)
set_option maxRecDepth 20000 in
theorem gX7_lanterns_X7_commonDivisor : GoodIn wsX7_lanterns (va_wsS RX7 227 yX7_commonDivisor wsX7_commonDivisor) := goodIn_app (goodIn_of _ (by decide +kernel)) ggX7_lanterns_X7_commonDivisor
set_option maxRecDepth 20000 in
theorem ggX7_lanterns_X7_power : GoodIn wsX7_lanterns wsX7_power := goodIn_r _ [20] (by decide +kernel) (by decide +kernel)
set_option maxRecDepth 20000 in
theorem gX7_lanterns_X7_power : GoodIn wsX7_lanterns (va_wsS RX7 230 yX7_power wsX7_power) := goodIn_app (goodIn_of _ (by decide +kernel)) ggX7_lanterns_X7_power
theorem dX7_lanterns_0 : decode cX7_lanterns 0 = .ok (.iload_n 1, 1) := by decide +kernel
theorem dX7_lanterns_1 : decode cX7_lanterns 1 = .ok (.bipush 15, 2) := by decide +kernel
theorem dX7_lanterns_3 : decode cX7_lanterns 3 = .ok (.invokestatic 67, 3) := by decide +kernel
theorem dX7_lanterns_6 : decode cX7_lanterns 6 = .ok (.ifCond .eq 20, 3) := by decide +kernel
theorem dX7_lanterns_9 : decode cX7_lanterns 9 = .ok (.iload_n 2, 1) := by decide +kernel
theorem dX7_lanterns_10 : decode cX7_lanterns 10 = .ok (.bipush 10, 2) := by decide +kernel
theorem dX7_lanterns_12 : decode cX7_lanterns 12 = .ok (.invokestatic 67, 3) := by decide +kernel
theorem dX7_lanterns_15 : decode cX7_lanterns 15 = .ok (.ifCond .eq 11, 3) := by decide +kernel
theorem dX7_lanterns_18 : decode cX7_lanterns 18 = .ok (.iload_n 3, 1) := by decide +kernel
theorem dX7_lanterns_19 : decode cX7_lanterns 19 = .ok (.iconst 1, 1) := by decide +kernel
theorem dX7_lanterns_20 : decode cX7_lanterns 20 = .ok (.invokestatic 67, 3) := by decide +kernel
theorem dX7_lanterns_23 : decode cX7_lanterns 23 = .ok (.ifCond .ne 10, 3) := by decide +kernel
theorem dX7_lanterns_26 : decode cX7_lanterns 26 = .ok (.aload_n 0, 1) := by decide +kernel
theorem dX7_lanterns_27 : decode cX7_lanterns 27 = .ok (.iconst 0, 1) := by decide +kernel
theorem dX7_lanterns_28 : decode cX7_lanterns 28 = .ok (.invokevirtual 71, 3) := by decide +kernel
theorem dX7_lanterns_31 : decode cX7_lanterns 31 = .ok (.i2l, 1) := by decide +kernel
theorem dX7_lanterns_32 : decode cX7_lanterns 32 = .ok (.lreturn, 1) := by decide +kernel
theorem dX7_lanterns_33 : decode cX7_lanterns 33 = .ok (.bipush 10, 2) := by decide +kernel
theorem dX7_lanterns_35 : decode cX7_lanterns 35 = .ok (.iload_n 2, 1) := by decide +kernel
theorem dX7_lanterns_36 : decode cX7_lanterns 36 = .ok (.isub, 1) := by decide +kernel
theorem dX7_lanterns_37 : decode cX7_lanterns 37 = .ok (.istore 4, 2) := by decide +kernel
theorem dX7_lanterns_39 : decode cX7_lanterns 39 = .ok (.iload 4, 2) := by decide +kernel
theorem dX7_lanterns_41 : decode cX7_lanterns 41 = .ok (.bipush 10, 2) := by decide +kernel
theorem dX7_lanterns_43 : decode cX7_lanterns 43 = .ok (.invokestatic 227, 3) := by decide +kernel
theorem dX7_lanterns_46 : decode cX7_lanterns 46 = .ok (.istore 5, 2) := by decide +kernel
theorem dX7_lanterns_48 : decode cX7_lanterns 48 = .ok (.iload_n 3, 1) := by decide +kernel
theorem dX7_lanterns_49 : decode cX7_lanterns 49 = .ok (.ifCond .ne 8, 3) := by decide +kernel
theorem dX7_lanterns_52 : decode cX7_lanterns 52 = .ok (.iload 4, 2) := by decide +kernel
theorem dX7_lanterns_54 : decode cX7_lanterns 54 = .ok (.goto 5, 3) := by decide +kernel
theorem dX7_lanterns_57 : decode cX7_lanterns 57 = .ok (.bipush 10, 2) := by decide +kernel
theorem dX7_lanterns_59 : decode cX7_lanterns 59 = .ok (.iload 5, 2) := by decide +kernel
theorem dX7_lanterns_61 : decode cX7_lanterns 61 = .ok (.idiv, 1) := by decide +kernel
theorem dX7_lanterns_62 : decode cX7_lanterns 62 = .ok (.iload_n 1, 1) := by decide +kernel
theorem dX7_lanterns_63 : decode cX7_lanterns 63 = .ok (.invokestatic 230, 3) := by decide +kernel
theorem dX7_lanterns_66 : decode cX7_lanterns 66 = .ok (.lreturn, 1) := by decide +kernel
set_option maxRecDepth 20000 in
theorem ggX7_days_X7_found : GoodIn wsX7_days wsX7_found := goodIn_r _ [12, 13, 14, 65, 66, 67, 68, 69, 70, 71, 72, 73, 74] (by decide +kernel) (by decide +kernel)
set_option maxRecDepth 20000 in
theorem gX7_days_X7_found : GoodIn wsX7_days (wsV RX7 71 RX7 yX7_found wsX7_found) := goodIn_app (goodIn_of _ (by decide +kernel)) ggX7_days_X7_found
set_option maxRecDepth 20000 in
theorem ggX7_days_X1_draw : GoodIn wsX7_days wsX1_draw := goodIn_r _ [19, 20, 21, 75, 76, 77, 78, 79, 80, 81, 82, 83, 84, 85, 86] (by decide +kernel) (by decide +kernel)
set_option maxRecDepth 20000 in
theorem gX7_days_X1_draw : GoodIn wsX7_days (wsV RX7 235 RX1 yX1_draw wsX1_draw) := goodIn_app (goodIn_of _ (by decide +kernel)) ggX7_days_X1_draw
set_option maxRecDepth 20000 in
theorem ggX7_days_X1_passHours : GoodIn wsX7_days wsX1_passHours := goodIn_r _ [25, 26, 27, 28, 29, 18, 30, 31, 32, 33, 34, 11, 35, 36, 37, 38, 39, 40, 41, 42, 43, 44, 45, 46, 47, 48, 49, 50, 51, 52, 53, 54, 55, 56, 57, 58, 59, 60, 61, 62, 63, 64, 75, 76, 77, 78, 79, 80, 81, 82, 83, 84, 85, 86] (by decide +kernel) (by decide +kernel)
set_option maxRecDepth 20000 in
theorem gX7_days_X1_passHours : GoodIn wsX7_days (wsV RX7 135 RX1 yX1_passHours wsX1_passHours) := goodIn_app (goodIn_of _ (by decide +kernel)) ggX7_days_X1_passHours
theorem dX7_days_0 : decode cX7_days 0 = .ok (.iload_n 1, 1) := by decide +kernel
theorem dX7_days_1 : decode cX7_days 1 = .ok (.iconst 1, 1) := by decide +kernel
theorem dX7_days_2 : decode cX7_days 2 = .ok (.if_icmp .lt 9, 3) := by decide +kernel
theorem dX7_days_5 : decode cX7_days 5 = .ok (.iload_n 1, 1) := by decide +kernel
theorem dX7_days_6 : decode cX7_days 6 = .ok (.bipush 20, 2) := by decide +kernel
theorem dX7_days_8 : decode cX7_days 8 = .ok (.if_icmp .le 9, 3) := by decide +kernel
theorem dX7_days_11 : decode cX7_days 11 = .ok (.aload_n 0, 1) := by decide +kernel
theorem dX7_days_12 : decode cX7_days 12 = .ok (.iconst 0, 1) := by decide +kernel
theorem dX7_days_13 : decode cX7_days 13 = .ok (.invokevirtual 71, 3) := by decide +kernel
theorem dX7_days_16 : decode cX7_days 16 = .ok (.ireturn, 1) := by decide +kernel
theorem dX7_days_17 : decode cX7_days 17 = .ok (.aload_n 0, 1) := by decide +kernel
theorem dX7_days_18 : decode cX7_days 18 = .ok (.getfield 10, 3) := by decide +kernel
theorem dX7_days_21 : decode cX7_days 21 = .ok (.getfield 138, 3) := by decide +kernel
theorem dX7_days_24 : decode cX7_days 24 = .ok (.ldc 234, 2) := by decide +kernel
theorem dX7_days_26 : decode cX7_days 26 = .ok (.if_icmp .gt 15, 3) := by decide +kernel
theorem dX7_days_29 : decode cX7_days 29 = .ok (.aload_n 0, 1) := by decide +kernel
theorem dX7_days_30 : decode cX7_days 30 = .ok (.getfield 10, 3) := by decide +kernel
theorem dX7_days_33 : decode cX7_days 33 = .ok (.getfield 141, 3) := by decide +kernel
theorem dX7_days_36 : decode cX7_days 36 = .ok (.ldc 234, 2) := by decide +kernel
theorem dX7_days_38 : decode cX7_days 38 = .ok (.if_icmp .le 9, 3) := by decide +kernel
theorem dX7_days_41 : decode cX7_days 41 = .ok (.aload_n 0, 1) := by decide +kernel
theorem dX7_days_42 : decode cX7_days 42 = .ok (.iconst 4, 1) := by decide +kernel
theorem dX7_days_43 : decode cX7_days 43 = .ok (.invokevirtual 71, 3) := by decide +kernel
theorem dX7_days_46 : decode cX7_days 46 = .ok (.ireturn, 1) := by decide +kernel
theorem dX7_days_47 : decode cX7_days 47 = .ok (.iconst 0, 1) := by decide +kernel
theorem dX7_days_48 : decode cX7_days 48 = .ok (.istore_n 2, 1) := by decide +kernel
theorem dX7_days_49 : decode cX7_days 49 = .ok (.iload_n 2, 1) := by decide +kernel
theorem dX7_days_50 : decode cX7_days 50 = .ok (.iload_n 1, 1) := by decide +kernel
theorem dX7_days_51 : decode cX7_days 51 = .ok (.if_icmp .ge 43, 3) := by decide +kernel
theorem dX7_days_54 : decode cX7_days 54 = .ok (.aload_n 0, 1) := by decide +kernel
theorem dX7_days_55 : decode cX7_days 55 = .ok (.getfield 10, 3) := by decide +kernel
theorem dX7_days_58 : decode cX7_days 58 = .ok (.aload_n 0, 1) := by decide +kernel
theorem dX7_days_59 : decode cX7_days 59 = .ok (.getfield 10, 3) := by decide +kernel
theorem dX7_days_62 : decode cX7_days 62 = .ok (.invokevirtual 235, 3) := by decide +kernel
theorem dX7_days_65 : decode cX7_days 65 = .ok (.ldc 120, 2) := by decide +kernel
theorem dX7_days_67 : decode cX7_days 67 = .ok (.iand, 1) := by decide +kernel
theorem dX7_days_68 : decode cX7_days 68 = .ok (.putfield 132, 3) := by decide +kernel
theorem dX7_days_71 : decode cX7_days 71 = .ok (.aload_n 0, 1) := by decide +kernel
theorem dX7_days_72 : decode cX7_days 72 = .ok (.getfield 10, 3) := by decide +kernel
theorem dX7_days_75 : decode cX7_days 75 = .ok (.iconst 0, 1) := by decide +kernel
theorem dX7_days_76 : decode cX7_days 76 = .ok (.putfield 101, 3) := by decide +kernel
theorem dX7_days_79 : decode cX7_days 79 = .ok (.aload_n 0, 1) := by decide +kernel
theorem dX7_days_80 : decode cX7_days 80 = .ok (.getfield 10, 3) := by decide +kernel
theorem dX7_days_83 : decode cX7_days 83 = .ok (.bipush 16, 2) := by decide +kernel
theorem dX7_days_85 : decode cX7_days 85 = .ok (.invokevirtual 135, 3) := by decide +kernel
theorem dX7_days_88 : decode cX7_days 88 = .ok (.iinc 2 1, 3) := by decide +kernel
theorem dX7_days_91 : decode cX7_days 91 = .ok (.goto (-42), 3) := by decide +kernel
theorem dX7_days_94 : decode cX7_days 94 = .ok (.aload_n 0, 1) := by decide +kernel
theorem dX7_days_95 : decode cX7_days 95 = .ok (.getfield 10, 3) := by decide +kernel
theorem dX7_days_98 : decode cX7_days 98 = .ok (.getfield 138, 3) := by decide +kernel
theorem dX7_days_101 : decode cX7_days 101 = .ok (.ireturn, 1) := by decide +kernel
theorem dX7_seed_0 : decode cX7_seed 0 = .ok (.aload_n 0, 1) := by decide +kernel
theorem dX7_seed_1 : decode cX7_seed 1 = .ok (.getfield 10, 3) := by decide +kernel
theorem dX7_seed_4 : decode cX7_seed 4 = .ok (.getfield 238, 3) := by decide +kernel
theorem dX7_seed_7 : decode cX7_seed 7 = .ok (.istore_n 2, 1) := by decide +kernel
theorem dX7_seed_8 : decode cX7_seed 8 = .ok (.aload_n 0, 1) := by decide +kernel
theorem dX7_seed_9 : decode cX7_seed 9 = .ok (.getfield 10, 3) := by decide +kernel
theorem dX7_seed_12 : decode cX7_seed 12 = .ok (.iload_n 1, 1) := by decide +kernel
theorem dX7_seed_13 : decode cX7_seed 13 = .ok (.putfield 238, 3) := by decide +kernel
theorem dX7_seed_16 : decode cX7_seed 16 = .ok (.iload_n 2, 1) := by decide +kernel
theorem dX7_seed_17 : decode cX7_seed 17 = .ok (.ireturn, 1) := by decide +kernel
set_option maxRecDepth 20000 in
theorem ggX7_feed_X7_found : GoodIn wsX7_feed wsX7_found := goodIn_r _ [7, 8, 9, 17, 18, 19, 20, 21, 22, 23, 24, 25, 26] (by decide +kernel) (by decide +kernel)
set_option maxRecDepth 20000 in
theorem gX7_feed_X7_found : GoodIn wsX7_feed (wsV RX7 71 RX7 yX7_found wsX7_found) := goodIn_app (goodIn_of _ (by decide +kernel)) ggX7_feed_X7_found
set_option maxRecDepth 20000 in
theorem ggX7_feed_X6_append : GoodIn wsX7_feed wsX6_append := goodIn_r _ [14, 15, 16, 27, 28] (by decide +kernel) (by decide +kernel)
set_option maxRecDepth 20000 in
theorem gX7_feed_X6_append : GoodIn wsX7_feed (wsV RX7 246 RX6 yX6_append wsX6_append) := goodIn_app (goodIn_of _ (by decide +kernel)) ggX7_feed_X6_append
theorem dX7_feed_0 : decode cX7_feed 0 = .ok (.iload_n 2, 1) := by decide +kernel
theorem dX7_feed_1 : decode cX7_feed 1 = .ok (.iconst 1, 1) := by decide +kernel
theorem dX7_feed_2 : decode cX7_feed 2 = .ok (.if_icmp .lt 8, 3) := by decide +kernel
theorem dX7_feed_5 : decode cX7_feed 5 = .ok (.iload_n 2, 1) := by decide +kernel
theorem dX7_feed_6 : decode cX7_feed 6 = .ok (.iconst 4, 1) := by decide +kernel
theorem dX7_feed_7 : decode cX7_feed 7 = .ok (.if_icmp .le 9, 3) := by decide +kernel
theorem dX7_feed_10 : decode cX7_feed 10 = .ok (.aload_n 0, 1) := by decide +kernel
theorem dX7_feed_11 : decode cX7_feed 11 = .ok (.iconst 0, 1) := by decide +kernel
theorem dX7_feed_12 : decode cX7_feed 12 = .ok (.invokevirtual 71, 3) := by decide +kernel
theorem dX7_feed_15 : decode cX7_feed 15 = .ok (.ireturn, 1) := by decide +kernel
theorem dX7_feed_16 : decode cX7_feed 16 = .ok (.iload_n 2, 1) := by decide +kernel
theorem dX7_feed_17 : decode cX7_feed 17 = .ok (.bipush 120, 2) := by decide +kernel
theorem dX7_feed_19 : decode cX7_feed 19 = .ok (.aload_n 0, 1) := by decide +kernel
theorem dX7_feed_20 : decode cX7_feed 20 = .ok (.getfield 51, 3) := by decide +kernel
theorem dX7_feed_23 : decode cX7_feed 23 = .ok (.getfield 243, 3) := by decide +kernel
theorem dX7_feed_26 : decode cX7_feed 26 = .ok (.isub, 1) := by decide +kernel
theorem dX7_feed_27 : decode cX7_feed 27 = .ok (.if_icmp .le 9, 3) := by decide +kernel
theorem dX7_feed_30 : decode cX7_feed 30 = .ok (.aload_n 0, 1) := by decide +kernel
theorem dX7_feed_31 : decode cX7_feed 31 = .ok (.iconst 1, 1) := by decide +kernel
theorem dX7_feed_32 : decode cX7_feed 32 = .ok (.invokevirtual 71, 3) := by decide +kernel
theorem dX7_feed_35 : decode cX7_feed 35 = .ok (.ireturn, 1) := by decide +kernel
theorem dX7_feed_36 : decode cX7_feed 36 = .ok (.iload_n 2, 1) := by decide +kernel
theorem dX7_feed_37 : decode cX7_feed 37 = .ok (.iconst 1, 1) := by decide +kernel
theorem dX7_feed_38 : decode cX7_feed 38 = .ok (.isub, 1) := by decide +kernel
theorem dX7_feed_39 : decode cX7_feed 39 = .ok (.istore_n 3, 1) := by decide +kernel
theorem dX7_feed_40 : decode cX7_feed 40 = .ok (.iload_n 3, 1) := by decide +kernel
theorem dX7_feed_41 : decode cX7_feed 41 = .ok (.ifCond .lt 22, 3) := by decide +kernel
theorem dX7_feed_44 : decode cX7_feed 44 = .ok (.aload_n 0, 1) := by decide +kernel
theorem dX7_feed_45 : decode cX7_feed 45 = .ok (.getfield 51, 3) := by decide +kernel
theorem dX7_feed_48 : decode cX7_feed 48 = .ok (.iload_n 1, 1) := by decide +kernel
theorem dX7_feed_49 : decode cX7_feed 49 = .ok (.bipush 8, 2) := by decide +kernel
theorem dX7_feed_51 : decode cX7_feed 51 = .ok (.iload_n 3, 1) := by decide +kernel
theorem dX7_feed_52 : decode cX7_feed 52 = .ok (.imul, 1) := by decide +kernel
theorem dX7_feed_53 : decode cX7_feed 53 = .ok (.iushr, 1) := by decide +kernel
theorem dX7_feed_54 : decode cX7_feed 54 = .ok (.invokevirtual 246, 3) := by decide +kernel
theorem dX7_feed_57 : decode cX7_feed 57 = .ok (.iinc 3 (-1), 3) := by decide +kernel
theorem dX7_feed_60 : decode cX7_feed 60 = .ok (.goto (-20), 3) := by decide +kernel
theorem dX7_feed_63 : decode cX7_feed 63 = .ok (.aload_n 0, 1) := by decide +kernel
theorem dX7_feed_64 : decode cX7_feed 64 = .ok (.getfield 51, 3) := by decide +kernel
theorem dX7_feed_67 : decode cX7_feed 67 = .ok (.getfield 243, 3) := by decide +kernel
theorem dX7_feed_70 : decode cX7_feed 70 = .ok (.ireturn, 1) := by decide +kernel
theorem dX7_wipe_0 : decode cX7_wipe 0 = .ok (.aload_n 0, 1) := by decide +kernel
theorem dX7_wipe_1 : decode cX7_wipe 1 = .ok (.getfield 51, 3) := by decide +kernel
theorem dX7_wipe_4 : decode cX7_wipe 4 = .ok (.getfield 243, 3) := by decide +kernel
theorem dX7_wipe_7 : decode cX7_wipe 7 = .ok (.istore_n 1, 1) := by decide +kernel
theorem dX7_wipe_8 : decode cX7_wipe 8 = .ok (.aload_n 0, 1) := by decide +kernel
theorem dX7_wipe_9 : decode cX7_wipe 9 = .ok (.getfield 51, 3) := by decide +kernel
theorem dX7_wipe_12 : decode cX7_wipe 12 = .ok (.iconst 0, 1) := by decide +kernel
theorem dX7_wipe_13 : decode cX7_wipe 13 = .ok (.putfield 243, 3) := by decide +kernel
theorem dX7_wipe_16 : decode cX7_wipe 16 = .ok (.iload_n 1, 1) := by decide +kernel
theorem dX7_wipe_17 : decode cX7_wipe 17 = .ok (.ireturn, 1) := by decide +kernel
set_option maxRecDepth 20000 in
theorem ggX7_text_X3_read : GoodIn wsX7_text wsX3_read := goodIn_r _ [9, 10, 11, 12, 13, 14, 15, 8, 16, 17, 18, 19, 20, 21, 22, 23, 24, 25, 26, 27, 28, 29, 30, 31, 32, 33, 34, 35, 36, 37, 38, 39, 40, 41, 42, 43, 44, 45, 46, 47, 48, 49, 50, 51, 52, 53, 54, 55, 56, 57, 58, 59, 60, 61, 62, 63, 64, 65, 66, 67, 68, 69, 70, 71, 72, 73, 74, 75, 76, 77, 78, 79, 80, 81, 82, 83, 84, 85, 86, 87, 88, 89, 90, 91, 92, 93, 94, 95, 96, 97, 98, 99, 100, 101, 102, 103, 104, 105, 106, 107, 108, 109, 110, 111, 112, 113, 114, 115, 116, 117, 118, 119, 120, 121, 122, 123, 124, 125, 126, 127, 128, 129, 130, 131, 132, 133, 134, 135, 136, 137, 138, 139, 140, 141, 142, 143, 144, 145, 146, 147, 148, 149, 150, 151, 152, 153, 154, 155, 156, 157, 158, 159, 160, 161, 162, 163, 164, 165, 166, 167, 168, 169, 170, 171, 172, 173, 174, 175, 176, 177, 178, 179, 180, 181, 182, 183, 184, 185, 186, 187, 188, 189, 190, 191, 192, 193, 194, 207, 208, 209, 210, 211, 212, 213, 214, 205, 206, 215, 216, 217, 218, 219, 220, 221, 222, 223, 224, 225, 226] (by decide +kernel) (by decide +kernel)
set_option maxRecDepth 20000 in
theorem gX7_text_X3_read : GoodIn wsX7_text (wsV RX7 249 RX3 yX3_read wsX3_read) := goodIn_app (goodIn_of _ (by decide +kernel)) ggX7_text_X3_read
theorem dX7_text_0 : decode cX7_text 0 = .ok (.aload_n 0, 1) := by decide +kernel
theorem dX7_text_1 : decode cX7_text 1 = .ok (.getfield 43, 3) := by decide +kernel
theorem dX7_text_4 : decode cX7_text 4 = .ok (.aload_n 0, 1) := by decide +kernel
theorem dX7_text_5 : decode cX7_text 5 = .ok (.getfield 10, 3) := by decide +kernel
theorem dX7_text_8 : decode cX7_text 8 = .ok (.invokevirtual 249, 3) := by decide +kernel
theorem dX7_text_11 : decode cX7_text 11 = .ok (.istore_n 1, 1) := by decide +kernel
theorem dX7_text_12 : decode cX7_text 12 = .ok (.aload_n 0, 1) := by decide +kernel
theorem dX7_text_13 : decode cX7_text 13 = .ok (.getfield 51, 3) := by decide +kernel
theorem dX7_text_16 : decode cX7_text 16 = .ok (.iconst 0, 1) := by decide +kernel
theorem dX7_text_17 : decode cX7_text 17 = .ok (.putfield 243, 3) := by decide +kernel
theorem dX7_text_20 : decode cX7_text 20 = .ok (.iload_n 1, 1) := by decide +kernel
theorem dX7_text_21 : decode cX7_text 21 = .ok (.ireturn, 1) := by decide +kernel
set_option maxRecDepth 20000 in
theorem ggX7_hold_X7_isWithin : GoodIn wsX7_hold wsX7_isWithin := goodIn_r _ [6] (by decide +kernel) (by decide +kernel)
set_option maxRecDepth 20000 in
theorem gX7_hold_X7_isWithin : GoodIn wsX7_hold (va_wsS RX7 67 yX7_isWithin wsX7_isWithin) := goodIn_app (goodIn_of _ (by decide +kernel)) ggX7_hold_X7_isWithin
set_option maxRecDepth 20000 in
theorem ggX7_hold_X1_isPerson : GoodIn wsX7_hold wsX1_isPerson := goodIn_r _ [11, 12, 29, 30, 31, 32, 33, 34, 35, 36, 37, 38, 39, 40] (by decide +kernel) (by decide +kernel)
set_option maxRecDepth 20000 in
theorem gX7_hold_X1_isPerson : GoodIn wsX7_hold (wsV RX7 82 RX1 yX1_isPerson wsX1_isPerson) := goodIn_app (goodIn_of _ (by decide +kernel)) ggX7_hold_X1_isPerson
set_option maxRecDepth 20000 in
theorem ggX7_hold_X7_found : GoodIn wsX7_hold wsX7_found := goodIn_r _ [16, 17, 18, 19, 20, 21, 22, 23, 24, 25, 26, 27, 28] (by decide +kernel) (by decide +kernel)
set_option maxRecDepth 20000 in
theorem gX7_hold_X7_found : GoodIn wsX7_hold (wsV RX7 71 RX7 yX7_found wsX7_found) := goodIn_app (goodIn_of _ (by decide +kernel)) ggX7_hold_X7_found
theorem dX7_hold_0 : decode cX7_hold 0 = .ok (.iload_n 1, 1) := by decide +kernel
theorem dX7_hold_1 : decode cX7_hold 1 = .ok (.bipush 9, 2) := by decide +kernel
theorem dX7_hold_3 : decode cX7_hold 3 = .ok (.invokestatic 67, 3) := by decide +kernel
theorem dX7_hold_6 : decode cX7_hold 6 = .ok (.ifCond .eq 19, 3) := by decide +kernel
theorem dX7_hold_9 : decode cX7_hold 9 = .ok (.iload_n 2, 1) := by decide +kernel
theorem dX7_hold_10 : decode cX7_hold 10 = .ok (.iconst (-1), 1) := by decide +kernel
theorem dX7_hold_11 : decode cX7_hold 11 = .ok (.if_icmp .eq 20, 3) := by decide +kernel
theorem dX7_hold_14 : decode cX7_hold 14 = .ok (.aload_n 0, 1) := by decide +kernel
theorem dX7_hold_15 : decode cX7_hold 15 = .ok (.getfield 10, 3) := by decide +kernel
theorem dX7_hold_18 : decode cX7_hold 18 = .ok (.iload_n 2, 1) := by decide +kernel
theorem dX7_hold_19 : decode cX7_hold 19 = .ok (.invokevirtual 82, 3) := by decide +kernel
theorem dX7_hold_22 : decode cX7_hold 22 = .ok (.ifCond .ne 9, 3) := by decide +kernel
theorem dX7_hold_25 : decode cX7_hold 25 = .ok (.aload_n 0, 1) := by decide +kernel
theorem dX7_hold_26 : decode cX7_hold 26 = .ok (.iconst 0, 1) := by decide +kernel
theorem dX7_hold_27 : decode cX7_hold 27 = .ok (.invokevirtual 71, 3) := by decide +kernel
theorem dX7_hold_30 : decode cX7_hold 30 = .ok (.ireturn, 1) := by decide +kernel
theorem dX7_hold_31 : decode cX7_hold 31 = .ok (.aload_n 0, 1) := by decide +kernel
theorem dX7_hold_32 : decode cX7_hold 32 = .ok (.getfield 10, 3) := by decide +kernel
theorem dX7_hold_35 : decode cX7_hold 35 = .ok (.getfield 253, 3) := by decide +kernel
theorem dX7_hold_38 : decode cX7_hold 38 = .ok (.iload_n 1, 1) := by decide +kernel
theorem dX7_hold_39 : decode cX7_hold 39 = .ok (.iload_n 2, 1) := by decide +kernel
theorem dX7_hold_40 : decode cX7_hold 40 = .ok (.iastore, 1) := by decide +kernel
theorem dX7_hold_41 : decode cX7_hold 41 = .ok (.iconst 1, 1) := by decide +kernel
theorem dX7_hold_42 : decode cX7_hold 42 = .ok (.ireturn, 1) := by decide +kernel
set_option maxRecDepth 20000 in
theorem ggX7_as_X7_isWithin : GoodIn wsX7_as wsX7_isWithin := goodIn_r _ [6] (by decide +kernel) (by decide +kernel)
set_option maxRecDepth 20000 in
theorem gX7_as_X7_isWithin : GoodIn wsX7_as (va_wsS RX7 67 yX7_isWithin wsX7_isWithin) := goodIn_app (goodIn_of _ (by decide +kernel)) ggX7_as_X7_isWithin
set_option maxRecDepth 20000 in
theorem ggX7_as_X7_found : GoodIn wsX7_as wsX7_found := goodIn_r _ [10, 11, 12, 25, 26, 27, 28, 29, 30, 31, 32, 33, 34] (by decide +kernel) (by decide +kernel)
set_option maxRecDepth 20000 in
theorem gX7_as_X7_found : GoodIn wsX7_as (wsV RX7 71 RX7 yX7_found wsX7_found) := goodIn_app (goodIn_of _ (by decide +kernel)) ggX7_as_X7_found
set_option maxRecDepth 20000 in
theorem ggX7_as_X1_isOfKind : GoodIn wsX7_as wsX1_isOfKind := goodIn_r _ [17, 18, 19, 20, 21, 22, 16, 23, 24, 4, 5, 6, 35, 36, 37, 38, 39, 40, 41, 42, 43, 44, 45, 46] (by decide +kernel) (by decide +kernel)
set_option maxRecDepth 20000 in
theorem gX7_as_X1_isOfKind : GoodIn wsX7_as (wsV RX7 256 RX1 yX1_isOfKind wsX1_isOfKind) := goodIn_app (goodIn_of _ (by decide +kernel)) ggX7_as_X1_isOfKind
theorem dX7_as_0 : decode cX7_as 0 = .ok (.iload_n 1, 1) := by decide +kernel
theorem dX7_as_1 : decode cX7_as 1 = .ok (.bipush 9, 2) := by decide +kernel
theorem dX7_as_3 : decode cX7_as 3 = .ok (.invokestatic 67, 3) := by decide +kernel
theorem dX7_as_6 : decode cX7_as 6 = .ok (.ifCond .eq 12, 3) := by decide +kernel
theorem dX7_as_9 : decode cX7_as 9 = .ok (.iload_n 2, 1) := by decide +kernel
theorem dX7_as_10 : decode cX7_as 10 = .ok (.bipush 6, 2) := by decide +kernel
theorem dX7_as_12 : decode cX7_as 12 = .ok (.invokestatic 67, 3) := by decide +kernel
theorem dX7_as_15 : decode cX7_as 15 = .ok (.ifCond .ne 9, 3) := by decide +kernel
theorem dX7_as_18 : decode cX7_as 18 = .ok (.aload_n 0, 1) := by decide +kernel
theorem dX7_as_19 : decode cX7_as 19 = .ok (.iconst 0, 1) := by decide +kernel
theorem dX7_as_20 : decode cX7_as 20 = .ok (.invokevirtual 71, 3) := by decide +kernel
theorem dX7_as_23 : decode cX7_as 23 = .ok (.ireturn, 1) := by decide +kernel
theorem dX7_as_24 : decode cX7_as 24 = .ok (.aload_n 0, 1) := by decide +kernel
theorem dX7_as_25 : decode cX7_as 25 = .ok (.getfield 10, 3) := by decide +kernel
theorem dX7_as_28 : decode cX7_as 28 = .ok (.getfield 253, 3) := by decide +kernel
theorem dX7_as_31 : decode cX7_as 31 = .ok (.iload_n 1, 1) := by decide +kernel
theorem dX7_as_32 : decode cX7_as 32 = .ok (.iaload, 1) := by decide +kernel
theorem dX7_as_33 : decode cX7_as 33 = .ok (.istore_n 3, 1) := by decide +kernel
theorem dX7_as_34 : decode cX7_as 34 = .ok (.iload_n 3, 1) := by decide +kernel
theorem dX7_as_35 : decode cX7_as 35 = .ok (.iconst (-1), 1) := by decide +kernel
theorem dX7_as_36 : decode cX7_as 36 = .ok (.if_icmp .ne 9, 3) := by decide +kernel
theorem dX7_as_39 : decode cX7_as 39 = .ok (.aload_n 0, 1) := by decide +kernel
theorem dX7_as_40 : decode cX7_as 40 = .ok (.iconst 5, 1) := by decide +kernel
theorem dX7_as_41 : decode cX7_as 41 = .ok (.invokevirtual 71, 3) := by decide +kernel
theorem dX7_as_44 : decode cX7_as 44 = .ok (.ireturn, 1) := by decide +kernel
theorem dX7_as_45 : decode cX7_as 45 = .ok (.aload_n 0, 1) := by decide +kernel
theorem dX7_as_46 : decode cX7_as 46 = .ok (.getfield 10, 3) := by decide +kernel
theorem dX7_as_49 : decode cX7_as 49 = .ok (.iload_n 3, 1) := by decide +kernel
theorem dX7_as_50 : decode cX7_as 50 = .ok (.iload_n 2, 1) := by decide +kernel
theorem dX7_as_51 : decode cX7_as 51 = .ok (.invokevirtual 256, 3) := by decide +kernel
theorem dX7_as_54 : decode cX7_as 54 = .ok (.ifCond .eq 7, 3) := by decide +kernel
theorem dX7_as_57 : decode cX7_as 57 = .ok (.iload_n 3, 1) := by decide +kernel
theorem dX7_as_58 : decode cX7_as 58 = .ok (.goto 8, 3) := by decide +kernel
theorem dX7_as_61 : decode cX7_as 61 = .ok (.aload_n 0, 1) := by decide +kernel
theorem dX7_as_62 : decode cX7_as 62 = .ok (.iconst 2, 1) := by decide +kernel
theorem dX7_as_63 : decode cX7_as 63 = .ok (.invokevirtual 71, 3) := by decide +kernel
theorem dX7_as_66 : decode cX7_as 66 = .ok (.ireturn, 1) := by decide +kernel
set_option maxRecDepth 20000 in
theorem ggX7_sheet_X7_isSheet : GoodIn wsX7_sheet wsX7_isSheet := goodIn_r _ [6, 7, 8, 5, 9] (by decide +kernel) (by decide +kernel)
set_option maxRecDepth 20000 in
theorem gX7_sheet_X7_isSheet : GoodIn wsX7_sheet (va_wsS RX7 259 yX7_isSheet wsX7_isSheet) := goodIn_app (goodIn_of _ (by decide +kernel)) ggX7_sheet_X7_isSheet
set_option maxRecDepth 20000 in
theorem ggX7_sheet_X7_found : GoodIn wsX7_sheet wsX7_found := goodIn_r _ [13, 14, 15, 31, 32, 33, 34, 35, 36, 37, 38, 39, 40] (by decide +kernel) (by decide +kernel)
set_option maxRecDepth 20000 in
theorem gX7_sheet_X7_found : GoodIn wsX7_sheet (wsV RX7 71 RX7 yX7_found wsX7_found) := goodIn_app (goodIn_of _ (by decide +kernel)) ggX7_sheet_X7_found
set_option maxRecDepth 20000 in
theorem ggX7_sheet_X5_renew : GoodIn wsX7_sheet wsX5_renew := goodIn_r _ [20, 21, 22, 23, 24, 25, 26, 27, 28, 29, 30, 41, 42, 43] (by decide +kernel) (by decide +kernel)
set_option maxRecDepth 20000 in
theorem gX7_sheet_X5_renew : GoodIn wsX7_sheet (wsV RX7 262 RX5 yX5_renew wsX5_renew) := goodIn_app (goodIn_of _ (by decide +kernel)) ggX7_sheet_X5_renew
theorem dX7_sheet_0 : decode cX7_sheet 0 = .ok (.iload_n 1, 1) := by decide +kernel
theorem dX7_sheet_1 : decode cX7_sheet 1 = .ok (.invokestatic 259, 3) := by decide +kernel
theorem dX7_sheet_4 : decode cX7_sheet 4 = .ok (.ifCond .eq 25, 3) := by decide +kernel
theorem dX7_sheet_7 : decode cX7_sheet 7 = .ok (.iload_n 2, 1) := by decide +kernel
theorem dX7_sheet_8 : decode cX7_sheet 8 = .ok (.ifCond .eq 27, 3) := by decide +kernel
theorem dX7_sheet_11 : decode cX7_sheet 11 = .ok (.iload_n 2, 1) := by decide +kernel
theorem dX7_sheet_12 : decode cX7_sheet 12 = .ok (.bipush 8, 2) := by decide +kernel
theorem dX7_sheet_14 : decode cX7_sheet 14 = .ok (.if_icmp .eq 21, 3) := by decide +kernel
theorem dX7_sheet_17 : decode cX7_sheet 17 = .ok (.iload_n 2, 1) := by decide +kernel
theorem dX7_sheet_18 : decode cX7_sheet 18 = .ok (.bipush 16, 2) := by decide +kernel
theorem dX7_sheet_20 : decode cX7_sheet 20 = .ok (.if_icmp .eq 15, 3) := by decide +kernel
theorem dX7_sheet_23 : decode cX7_sheet 23 = .ok (.iload_n 2, 1) := by decide +kernel
theorem dX7_sheet_24 : decode cX7_sheet 24 = .ok (.bipush 32, 2) := by decide +kernel
theorem dX7_sheet_26 : decode cX7_sheet 26 = .ok (.if_icmp .eq 9, 3) := by decide +kernel
theorem dX7_sheet_29 : decode cX7_sheet 29 = .ok (.aload_n 0, 1) := by decide +kernel
theorem dX7_sheet_30 : decode cX7_sheet 30 = .ok (.iconst 0, 1) := by decide +kernel
theorem dX7_sheet_31 : decode cX7_sheet 31 = .ok (.invokevirtual 71, 3) := by decide +kernel
theorem dX7_sheet_34 : decode cX7_sheet 34 = .ok (.ireturn, 1) := by decide +kernel
theorem dX7_sheet_35 : decode cX7_sheet 35 = .ok (.iload_n 3, 1) := by decide +kernel
theorem dX7_sheet_36 : decode cX7_sheet 36 = .ok (.ifCond .ge 10, 3) := by decide +kernel
theorem dX7_sheet_39 : decode cX7_sheet 39 = .ok (.aload_n 0, 1) := by decide +kernel
theorem dX7_sheet_40 : decode cX7_sheet 40 = .ok (.bipush 6, 2) := by decide +kernel
theorem dX7_sheet_42 : decode cX7_sheet 42 = .ok (.invokevirtual 71, 3) := by decide +kernel
theorem dX7_sheet_45 : decode cX7_sheet 45 = .ok (.ireturn, 1) := by decide +kernel
theorem dX7_sheet_46 : decode cX7_sheet 46 = .ok (.iload_n 3, 1) := by decide +kernel
theorem dX7_sheet_47 : decode cX7_sheet 47 = .ok (.bipush 40, 2) := by decide +kernel
theorem dX7_sheet_49 : decode cX7_sheet 49 = .ok (.if_icmp .le 9, 3) := by decide +kernel
theorem dX7_sheet_52 : decode cX7_sheet 52 = .ok (.aload_n 0, 1) := by decide +kernel
theorem dX7_sheet_53 : decode cX7_sheet 53 = .ok (.iconst 0, 1) := by decide +kernel
theorem dX7_sheet_54 : decode cX7_sheet 54 = .ok (.invokevirtual 71, 3) := by decide +kernel
theorem dX7_sheet_57 : decode cX7_sheet 57 = .ok (.ireturn, 1) := by decide +kernel
theorem dX7_sheet_58 : decode cX7_sheet 58 = .ok (.aload_n 0, 1) := by decide +kernel
theorem dX7_sheet_59 : decode cX7_sheet 59 = .ok (.getfield 54, 3) := by decide +kernel
theorem dX7_sheet_62 : decode cX7_sheet 62 = .ok (.iload_n 1, 1) := by decide +kernel
theorem dX7_sheet_63 : decode cX7_sheet 63 = .ok (.aaload, 1) := by decide +kernel
theorem dX7_sheet_64 : decode cX7_sheet 64 = .ok (.iload_n 2, 1) := by decide +kernel
theorem dX7_sheet_65 : decode cX7_sheet 65 = .ok (.iload_n 3, 1) := by decide +kernel
theorem dX7_sheet_66 : decode cX7_sheet 66 = .ok (.invokevirtual 262, 3) := by decide +kernel
theorem dX7_sheet_69 : decode cX7_sheet 69 = .ok (.aload_n 0, 1) := by decide +kernel
theorem dX7_sheet_70 : decode cX7_sheet 70 = .ok (.getfield 54, 3) := by decide +kernel
theorem dX7_sheet_73 : decode cX7_sheet 73 = .ok (.iload_n 1, 1) := by decide +kernel
theorem dX7_sheet_74 : decode cX7_sheet 74 = .ok (.aaload, 1) := by decide +kernel
theorem dX7_sheet_75 : decode cX7_sheet 75 = .ok (.getfield 265, 3) := by decide +kernel
theorem dX7_sheet_78 : decode cX7_sheet 78 = .ok (.ireturn, 1) := by decide +kernel
set_option maxRecDepth 20000 in
theorem ggX7_write_X7_lackOf : GoodIn wsX7_write wsX7_lackOf := goodIn_r _ [7, 1, 8, 9, 6, 10, 11, 12, 13, 14, 15, 16, 17, 18, 19, 32, 33, 34, 35, 36, 37, 38, 39, 40, 41, 42, 43, 44] (by decide +kernel) (by decide +kernel)
set_option maxRecDepth 20000 in
theorem gX7_write_X7_lackOf : GoodIn wsX7_write (wsV RX7 206 RX7 yX7_lackOf wsX7_lackOf) := goodIn_app (goodIn_of _ (by decide +kernel)) ggX7_write_X7_lackOf
set_option maxRecDepth 20000 in
theorem ggX7_write_X7_found : GoodIn wsX7_write wsX7_found := goodIn_r _ [23, 24, 25, 32, 33, 34, 35, 36, 37, 38, 39, 40, 41] (by decide +kernel) (by decide +kernel)
set_option maxRecDepth 20000 in
theorem gX7_write_X7_found : GoodIn wsX7_write (wsV RX7 71 RX7 yX7_found wsX7_found) := goodIn_app (goodIn_of _ (by decide +kernel)) ggX7_write_X7_found
set_option maxRecDepth 20000 in
theorem ggX7_write_X7_isWithin : GoodIn wsX7_write wsX7_isWithin := goodIn_r _ [13] (by decide +kernel) (by decide +kernel)
set_option maxRecDepth 20000 in
theorem gX7_write_X7_isWithin : GoodIn wsX7_write (va_wsS RX7 67 yX7_isWithin wsX7_isWithin) := goodIn_app (goodIn_of _ (by decide +kernel)) ggX7_write_X7_isWithin
set_option maxRecDepth 20000 in
theorem ggX7_write_X5_put : GoodIn wsX7_write wsX5_put := goodIn_r _ [29, 30, 31, 19, 12, 6, 13, 42, 43, 44] (by decide +kernel) (by decide +kernel)
set_option maxRecDepth 20000 in
theorem gX7_write_X5_put : GoodIn wsX7_write (wsV RX7 266 RX5 yX5_put wsX5_put) := goodIn_app (goodIn_of _ (by decide +kernel)) ggX7_write_X5_put
theorem dX7_write_0 : decode cX7_write 0 = .ok (.aload_n 0, 1) := by decide +kernel
theorem dX7_write_1 : decode cX7_write 1 = .ok (.iload_n 1, 1) := by decide +kernel
theorem dX7_write_2 : decode cX7_write 2 = .ok (.invokevirtual 206, 3) := by decide +kernel
theorem dX7_write_5 : decode cX7_write 5 = .ok (.istore 4, 2) := by decide +kernel
theorem dX7_write_7 : decode cX7_write 7 = .ok (.iload 4, 2) := by decide +kernel
theorem dX7_write_9 : decode cX7_write 9 = .ok (.iconst (-1), 1) := by decide +kernel
theorem dX7_write_10 : decode cX7_write 10 = .ok (.if_icmp .eq 10, 3) := by decide +kernel
theorem dX7_write_13 : decode cX7_write 13 = .ok (.aload_n 0, 1) := by decide +kernel
theorem dX7_write_14 : decode cX7_write 14 = .ok (.iload 4, 2) := by decide +kernel
theorem dX7_write_16 : decode cX7_write 16 = .ok (.invokevirtual 71, 3) := by decide +kernel
theorem dX7_write_19 : decode cX7_write 19 = .ok (.ireturn, 1) := by decide +kernel
theorem dX7_write_20 : decode cX7_write 20 = .ok (.iload_n 2, 1) := by decide +kernel
theorem dX7_write_21 : decode cX7_write 21 = .ok (.aload_n 0, 1) := by decide +kernel
theorem dX7_write_22 : decode cX7_write 22 = .ok (.getfield 54, 3) := by decide +kernel
theorem dX7_write_25 : decode cX7_write 25 = .ok (.iload_n 1, 1) := by decide +kernel
theorem dX7_write_26 : decode cX7_write 26 = .ok (.aaload, 1) := by decide +kernel
theorem dX7_write_27 : decode cX7_write 27 = .ok (.getfield 265, 3) := by decide +kernel
theorem dX7_write_30 : decode cX7_write 30 = .ok (.iconst 1, 1) := by decide +kernel
theorem dX7_write_31 : decode cX7_write 31 = .ok (.isub, 1) := by decide +kernel
theorem dX7_write_32 : decode cX7_write 32 = .ok (.invokestatic 67, 3) := by decide +kernel
theorem dX7_write_35 : decode cX7_write 35 = .ok (.ifCond .ne 9, 3) := by decide +kernel
theorem dX7_write_38 : decode cX7_write 38 = .ok (.aload_n 0, 1) := by decide +kernel
theorem dX7_write_39 : decode cX7_write 39 = .ok (.iconst 0, 1) := by decide +kernel
theorem dX7_write_40 : decode cX7_write 40 = .ok (.invokevirtual 71, 3) := by decide +kernel
theorem dX7_write_43 : decode cX7_write 43 = .ok (.ireturn, 1) := by decide +kernel
theorem dX7_write_44 : decode cX7_write 44 = .ok (.aload_n 0, 1) := by decide +kernel
theorem dX7_write_45 : decode cX7_write 45 = .ok (.getfield 54, 3) := by decide +kernel
theorem dX7_write_48 : decode cX7_write 48 = .ok (.iload_n 1, 1) := by decide +kernel
theorem dX7_write_49 : decode cX7_write 49 = .ok (.aaload, 1) := by decide +kernel
theorem dX7_write_50 : decode cX7_write 50 = .ok (.iload_n 2, 1) := by decide +kernel
theorem dX7_write_51 : decode cX7_write 51 = .ok (.iload_n 3, 1) := by decide +kernel
theorem dX7_write_52 : decode cX7_write 52 = .ok (.invokevirtual 266, 3) := by decide +kernel
theorem dX7_write_55 : decode cX7_write 55 = .ok (.iconst 1, 1) := by decide +kernel
theorem dX7_write_56 : decode cX7_write 56 = .ok (.ireturn, 1) := by decide +kernel
set_option maxRecDepth 20000 in
theorem ggX7_copy_X7_isSheet : GoodIn wsX7_copy wsX7_isSheet := goodIn_r _ [11, 12, 13, 10, 14] (by decide +kernel) (by decide +kernel)
set_option maxRecDepth 20000 in
theorem gX7_copy_X7_isSheet : GoodIn wsX7_copy (va_wsS RX7 259 yX7_isSheet wsX7_isSheet) := goodIn_app (goodIn_of _ (by decide +kernel)) ggX7_copy_X7_isSheet
set_option maxRecDepth 20000 in
theorem ggX7_copy_X7_found : GoodIn wsX7_copy wsX7_found := goodIn_r _ [18, 19, 20, 32, 33, 34, 35, 36, 37, 38, 39, 40, 41] (by decide +kernel) (by decide +kernel)
set_option maxRecDepth 20000 in
theorem gX7_copy_X7_found : GoodIn wsX7_copy (wsV RX7 71 RX7 yX7_found wsX7_found) := goodIn_app (goodIn_of _ (by decide +kernel)) ggX7_copy_X7_found
set_option maxRecDepth 20000 in
theorem ggX7_copy_X5_isMissing : GoodIn wsX7_copy wsX5_isMissing := goodIn_r _ [25, 26, 42, 43, 44] (by decide +kernel) (by decide +kernel)
set_option maxRecDepth 20000 in
theorem gX7_copy_X5_isMissing : GoodIn wsX7_copy (wsV RX7 269 RX5 yX5_isMissing wsX5_isMissing) := goodIn_app (goodIn_of _ (by decide +kernel)) ggX7_copy_X5_isMissing
set_option maxRecDepth 20000 in
theorem ggX7_copy_X5_hasRun : GoodIn wsX7_copy wsX5_hasRun := goodIn_r _ [30, 31, 42, 43, 44] (by decide +kernel) (by decide +kernel)
set_option maxRecDepth 20000 in
theorem gX7_copy_X5_hasRun : GoodIn wsX7_copy (wsV RX7 275 RX5 yX5_hasRun wsX5_hasRun) := goodIn_app (goodIn_of _ (by decide +kernel)) ggX7_copy_X5_hasRun
theorem dX7_copy_0 : decode cX7_copy 0 = .ok (.iload_n 1, 1) := by decide +kernel
theorem dX7_copy_1 : decode cX7_copy 1 = .ok (.invokestatic 259, 3) := by decide +kernel
theorem dX7_copy_4 : decode cX7_copy 4 = .ok (.ifCond .eq 10, 3) := by decide +kernel
theorem dX7_copy_7 : decode cX7_copy 7 = .ok (.iload_n 3, 1) := by decide +kernel
theorem dX7_copy_8 : decode cX7_copy 8 = .ok (.invokestatic 259, 3) := by decide +kernel
theorem dX7_copy_11 : decode cX7_copy 11 = .ok (.ifCond .ne 9, 3) := by decide +kernel
theorem dX7_copy_14 : decode cX7_copy 14 = .ok (.aload_n 0, 1) := by decide +kernel
theorem dX7_copy_15 : decode cX7_copy 15 = .ok (.iconst 0, 1) := by decide +kernel
theorem dX7_copy_16 : decode cX7_copy 16 = .ok (.invokevirtual 71, 3) := by decide +kernel
theorem dX7_copy_19 : decode cX7_copy 19 = .ok (.ireturn, 1) := by decide +kernel
theorem dX7_copy_20 : decode cX7_copy 20 = .ok (.aload_n 0, 1) := by decide +kernel
theorem dX7_copy_21 : decode cX7_copy 21 = .ok (.getfield 54, 3) := by decide +kernel
theorem dX7_copy_24 : decode cX7_copy 24 = .ok (.iload_n 1, 1) := by decide +kernel
theorem dX7_copy_25 : decode cX7_copy 25 = .ok (.aaload, 1) := by decide +kernel
theorem dX7_copy_26 : decode cX7_copy 26 = .ok (.invokevirtual 269, 3) := by decide +kernel
theorem dX7_copy_29 : decode cX7_copy 29 = .ok (.ifCond .ne 15, 3) := by decide +kernel
theorem dX7_copy_32 : decode cX7_copy 32 = .ok (.aload_n 0, 1) := by decide +kernel
theorem dX7_copy_33 : decode cX7_copy 33 = .ok (.getfield 54, 3) := by decide +kernel
theorem dX7_copy_36 : decode cX7_copy 36 = .ok (.iload_n 3, 1) := by decide +kernel
theorem dX7_copy_37 : decode cX7_copy 37 = .ok (.aaload, 1) := by decide +kernel
theorem dX7_copy_38 : decode cX7_copy 38 = .ok (.invokevirtual 269, 3) := by decide +kernel
theorem dX7_copy_41 : decode cX7_copy 41 = .ok (.ifCond .eq 9, 3) := by decide +kernel
theorem dX7_copy_44 : decode cX7_copy 44 = .ok (.aload_n 0, 1) := by decide +kernel
theorem dX7_copy_45 : decode cX7_copy 45 = .ok (.iconst 5, 1) := by decide +kernel
theorem dX7_copy_46 : decode cX7_copy 46 = .ok (.invokevirtual 71, 3) := by decide +kernel
theorem dX7_copy_49 : decode cX7_copy 49 = .ok (.ireturn, 1) := by decide +kernel
theorem dX7_copy_50 : decode cX7_copy 50 = .ok (.aload_n 0, 1) := by decide +kernel
theorem dX7_copy_51 : decode cX7_copy 51 = .ok (.getfield 54, 3) := by decide +kernel
theorem dX7_copy_54 : decode cX7_copy 54 = .ok (.iload_n 1, 1) := by decide +kernel
theorem dX7_copy_55 : decode cX7_copy 55 = .ok (.aaload, 1) := by decide +kernel
theorem dX7_copy_56 : decode cX7_copy 56 = .ok (.getfield 272, 3) := by decide +kernel
theorem dX7_copy_59 : decode cX7_copy 59 = .ok (.aload_n 0, 1) := by decide +kernel
theorem dX7_copy_60 : decode cX7_copy 60 = .ok (.getfield 54, 3) := by decide +kernel
theorem dX7_copy_63 : decode cX7_copy 63 = .ok (.iload_n 3, 1) := by decide +kernel
theorem dX7_copy_64 : decode cX7_copy 64 = .ok (.aaload, 1) := by decide +kernel
theorem dX7_copy_65 : decode cX7_copy 65 = .ok (.getfield 272, 3) := by decide +kernel
theorem dX7_copy_68 : decode cX7_copy 68 = .ok (.if_icmp .eq 9, 3) := by decide +kernel
theorem dX7_copy_71 : decode cX7_copy 71 = .ok (.aload_n 0, 1) := by decide +kernel
theorem dX7_copy_72 : decode cX7_copy 72 = .ok (.iconst 2, 1) := by decide +kernel
theorem dX7_copy_73 : decode cX7_copy 73 = .ok (.invokevirtual 71, 3) := by decide +kernel
theorem dX7_copy_76 : decode cX7_copy 76 = .ok (.ireturn, 1) := by decide +kernel
theorem dX7_copy_77 : decode cX7_copy 77 = .ok (.aload_n 0, 1) := by decide +kernel
theorem dX7_copy_78 : decode cX7_copy 78 = .ok (.getfield 54, 3) := by decide +kernel
theorem dX7_copy_81 : decode cX7_copy 81 = .ok (.iload_n 1, 1) := by decide +kernel
theorem dX7_copy_82 : decode cX7_copy 82 = .ok (.aaload, 1) := by decide +kernel
theorem dX7_copy_83 : decode cX7_copy 83 = .ok (.iload_n 2, 1) := by decide +kernel
theorem dX7_copy_84 : decode cX7_copy 84 = .ok (.iload 5, 2) := by decide +kernel
theorem dX7_copy_86 : decode cX7_copy 86 = .ok (.invokevirtual 275, 3) := by decide +kernel
theorem dX7_copy_89 : decode cX7_copy 89 = .ok (.ifCond .eq 19, 3) := by decide +kernel
theorem dX7_copy_92 : decode cX7_copy 92 = .ok (.aload_n 0, 1) := by decide +kernel
theorem dX7_copy_93 : decode cX7_copy 93 = .ok (.getfield 54, 3) := by decide +kernel
theorem dX7_copy_96 : decode cX7_copy 96 = .ok (.iload_n 3, 1) := by decide +kernel
theorem dX7_copy_97 : decode cX7_copy 97 = .ok (.aaload, 1) := by decide +kernel
theorem dX7_copy_98 : decode cX7_copy 98 = .ok (.iload 4, 2) := by decide +kernel
theorem dX7_copy_100 : decode cX7_copy 100 = .ok (.iload 5, 2) := by decide +kernel
theorem dX7_copy_102 : decode cX7_copy 102 = .ok (.invokevirtual 275, 3) := by decide +kernel
theorem dX7_copy_105 : decode cX7_copy 105 = .ok (.ifCond .ne 9, 3) := by decide +kernel
theorem dX7_copy_108 : decode cX7_copy 108 = .ok (.aload_n 0, 1) := by decide +kernel
theorem dX7_copy_109 : decode cX7_copy 109 = .ok (.iconst 0, 1) := by decide +kernel
theorem dX7_copy_110 : decode cX7_copy 110 = .ok (.invokevirtual 71, 3) := by decide +kernel
theorem dX7_copy_113 : decode cX7_copy 113 = .ok (.ireturn, 1) := by decide +kernel
theorem dX7_copy_114 : decode cX7_copy 114 = .ok (.aload_n 0, 1) := by decide +kernel
theorem dX7_copy_115 : decode cX7_copy 115 = .ok (.getfield 54, 3) := by decide +kernel
theorem dX7_copy_118 : decode cX7_copy 118 = .ok (.iload_n 1, 1) := by decide +kernel
theorem dX7_copy_119 : decode cX7_copy 119 = .ok (.aaload, 1) := by decide +kernel
theorem dX7_copy_120 : decode cX7_copy 120 = .ok (.getfield 278, 3) := by decide +kernel
theorem dX7_copy_123 : decode cX7_copy 123 = .ok (.iload_n 2, 1) := by decide +kernel
theorem dX7_copy_124 : decode cX7_copy 124 = .ok (.aload_n 0, 1) := by decide +kernel
theorem dX7_copy_125 : decode cX7_copy 125 = .ok (.getfield 54, 3) := by decide +kernel
theorem dX7_copy_128 : decode cX7_copy 128 = .ok (.iload_n 3, 1) := by decide +kernel
theorem dX7_copy_129 : decode cX7_copy 129 = .ok (.aaload, 1) := by decide +kernel
theorem dX7_copy_130 : decode cX7_copy 130 = .ok (.getfield 278, 3) := by decide +kernel
theorem dX7_copy_133 : decode cX7_copy 133 = .ok (.iload 4, 2) := by decide +kernel
theorem dX7_copy_135 : decode cX7_copy 135 = .ok (.iload 5, 2) := by decide +kernel
theorem dX7_copy_137 : decode cX7_copy 137 = .ok (.invokestatic 281, 3) := by decide +kernel
theorem dX7_copy_140 : decode cX7_copy 140 = .ok (.iload 5, 2) := by decide +kernel
theorem dX7_copy_142 : decode cX7_copy 142 = .ok (.ireturn, 1) := by decide +kernel
set_option maxRecDepth 20000 in
theorem ggX7_load_X7_lackOf : GoodIn wsX7_load wsX7_lackOf := goodIn_r _ [15, 1, 16, 17, 14, 18, 19, 20, 21, 22, 23, 24, 25, 26, 27, 34, 35, 36, 37, 38, 39, 40, 41, 42, 43, 44, 45, 46] (by decide +kernel) (by decide +kernel)
set_option maxRecDepth 20000 in
theorem gX7_load_X7_lackOf : GoodIn wsX7_load (wsV RX7 206 RX7 yX7_lackOf wsX7_lackOf) := goodIn_app (goodIn_of _ (by decide +kernel)) ggX7_load_X7_lackOf
set_option maxRecDepth 20000 in
theorem ggX7_load_X7_found : GoodIn wsX7_load wsX7_found := goodIn_r _ [31, 32, 33, 34, 35, 36, 37, 38, 39, 40, 41, 42, 43] (by decide +kernel) (by decide +kernel)
set_option maxRecDepth 20000 in
theorem gX7_load_X7_found : GoodIn wsX7_load (wsV RX7 71 RX7 yX7_found wsX7_found) := goodIn_app (goodIn_of _ (by decide +kernel)) ggX7_load_X7_found
set_option maxRecDepth 20000 in
theorem ggX7_load_X7_isWithin : GoodIn wsX7_load wsX7_isWithin := goodIn_r _ [21] (by decide +kernel) (by decide +kernel)
set_option maxRecDepth 20000 in
theorem gX7_load_X7_isWithin : GoodIn wsX7_load (va_wsS RX7 67 yX7_isWithin wsX7_isWithin) := goodIn_app (goodIn_of _ (by decide +kernel)) ggX7_load_X7_isWithin
theorem dX7_load_0 : decode cX7_load 0 = .ok (.aload_n 0, 1) := by decide +kernel
theorem dX7_load_1 : decode cX7_load 1 = .ok (.iload_n 1, 1) := by decide +kernel
theorem dX7_load_2 : decode cX7_load 2 = .ok (.invokevirtual 206, 3) := by decide +kernel
theorem dX7_load_5 : decode cX7_load 5 = .ok (.istore_n 2, 1) := by decide +kernel
theorem dX7_load_6 : decode cX7_load 6 = .ok (.iload_n 2, 1) := by decide +kernel
theorem dX7_load_7 : decode cX7_load 7 = .ok (.iconst (-1), 1) := by decide +kernel
theorem dX7_load_8 : decode cX7_load 8 = .ok (.if_icmp .eq 9, 3) := by decide +kernel
theorem dX7_load_11 : decode cX7_load 11 = .ok (.aload_n 0, 1) := by decide +kernel
theorem dX7_load_12 : decode cX7_load 12 = .ok (.iload_n 2, 1) := by decide +kernel
theorem dX7_load_13 : decode cX7_load 13 = .ok (.invokevirtual 71, 3) := by decide +kernel
theorem dX7_load_16 : decode cX7_load 16 = .ok (.ireturn, 1) := by decide +kernel
theorem dX7_load_17 : decode cX7_load 17 = .ok (.aload_n 0, 1) := by decide +kernel
theorem dX7_load_18 : decode cX7_load 18 = .ok (.getfield 54, 3) := by decide +kernel
theorem dX7_load_21 : decode cX7_load 21 = .ok (.iload_n 1, 1) := by decide +kernel
theorem dX7_load_22 : decode cX7_load 22 = .ok (.aaload, 1) := by decide +kernel
theorem dX7_load_23 : decode cX7_load 23 = .ok (.getfield 265, 3) := by decide +kernel
theorem dX7_load_26 : decode cX7_load 26 = .ok (.aload_n 0, 1) := by decide +kernel
theorem dX7_load_27 : decode cX7_load 27 = .ok (.getfield 10, 3) := by decide +kernel
theorem dX7_load_30 : decode cX7_load 30 = .ok (.getfield 200, 3) := by decide +kernel
theorem dX7_load_33 : decode cX7_load 33 = .ok (.invokestatic 216, 3) := by decide +kernel
theorem dX7_load_36 : decode cX7_load 36 = .ok (.istore_n 3, 1) := by decide +kernel
theorem dX7_load_37 : decode cX7_load 37 = .ok (.iconst 0, 1) := by decide +kernel
theorem dX7_load_38 : decode cX7_load 38 = .ok (.istore 4, 2) := by decide +kernel
theorem dX7_load_40 : decode cX7_load 40 = .ok (.iload 4, 2) := by decide +kernel
theorem dX7_load_42 : decode cX7_load 42 = .ok (.iload_n 3, 1) := by decide +kernel
theorem dX7_load_43 : decode cX7_load 43 = .ok (.if_icmp .ge 54, 3) := by decide +kernel
theorem dX7_load_46 : decode cX7_load 46 = .ok (.aload_n 0, 1) := by decide +kernel
theorem dX7_load_47 : decode cX7_load 47 = .ok (.getfield 54, 3) := by decide +kernel
theorem dX7_load_50 : decode cX7_load 50 = .ok (.iload_n 1, 1) := by decide +kernel
theorem dX7_load_51 : decode cX7_load 51 = .ok (.aaload, 1) := by decide +kernel
theorem dX7_load_52 : decode cX7_load 52 = .ok (.getfield 278, 3) := by decide +kernel
theorem dX7_load_55 : decode cX7_load 55 = .ok (.iload 4, 2) := by decide +kernel
theorem dX7_load_57 : decode cX7_load 57 = .ok (.iaload, 1) := by decide +kernel
theorem dX7_load_58 : decode cX7_load 58 = .ok (.bipush 99, 2) := by decide +kernel
theorem dX7_load_60 : decode cX7_load 60 = .ok (.invokestatic 67, 3) := by decide +kernel
theorem dX7_load_63 : decode cX7_load 63 = .ok (.ifCond .ne 6, 3) := by decide +kernel
theorem dX7_load_66 : decode cX7_load 66 = .ok (.iload 4, 2) := by decide +kernel
theorem dX7_load_68 : decode cX7_load 68 = .ok (.ireturn, 1) := by decide +kernel
theorem dX7_load_69 : decode cX7_load 69 = .ok (.aload_n 0, 1) := by decide +kernel
theorem dX7_load_70 : decode cX7_load 70 = .ok (.getfield 10, 3) := by decide +kernel
theorem dX7_load_73 : decode cX7_load 73 = .ok (.getfield 89, 3) := by decide +kernel
theorem dX7_load_76 : decode cX7_load 76 = .ok (.iload 4, 2) := by decide +kernel
theorem dX7_load_78 : decode cX7_load 78 = .ok (.aload_n 0, 1) := by decide +kernel
theorem dX7_load_79 : decode cX7_load 79 = .ok (.getfield 54, 3) := by decide +kernel
theorem dX7_load_82 : decode cX7_load 82 = .ok (.iload_n 1, 1) := by decide +kernel
theorem dX7_load_83 : decode cX7_load 83 = .ok (.aaload, 1) := by decide +kernel
theorem dX7_load_84 : decode cX7_load 84 = .ok (.getfield 278, 3) := by decide +kernel
theorem dX7_load_87 : decode cX7_load 87 = .ok (.iload 4, 2) := by decide +kernel
theorem dX7_load_89 : decode cX7_load 89 = .ok (.iaload, 1) := by decide +kernel
theorem dX7_load_90 : decode cX7_load 90 = .ok (.iastore, 1) := by decide +kernel
theorem dX7_load_91 : decode cX7_load 91 = .ok (.iinc 4 1, 3) := by decide +kernel
theorem dX7_load_94 : decode cX7_load 94 = .ok (.goto (-54), 3) := by decide +kernel
theorem dX7_load_97 : decode cX7_load 97 = .ok (.iload_n 3, 1) := by decide +kernel
theorem dX7_load_98 : decode cX7_load 98 = .ok (.ireturn, 1) := by decide +kernel
set_option maxRecDepth 20000 in
theorem ggX7_judge_X7_lackOf : GoodIn wsX7_judge wsX7_lackOf := goodIn_r _ [11, 3, 12, 13, 10, 14, 15, 16, 17, 18, 19, 20, 21, 22, 23, 107, 108, 109, 110, 111, 112, 113, 114, 115, 116, 117, 118, 119] (by decide +kernel) (by decide +kernel)
set_option maxRecDepth 20000 in
theorem gX7_judge_X7_lackOf : GoodIn wsX7_judge (wsV RX7 206 RX7 yX7_lackOf wsX7_lackOf) := goodIn_app (goodIn_of _ (by decide +kernel)) ggX7_judge_X7_lackOf
set_option maxRecDepth 20000 in
theorem ggX7_judge_X7_found : GoodIn wsX7_judge wsX7_found := goodIn_r _ [27, 28, 29, 107, 108, 109, 110, 111, 112, 113, 114, 115, 116] (by decide +kernel) (by decide +kernel)
set_option maxRecDepth 20000 in
theorem gX7_judge_X7_found : GoodIn wsX7_judge (wsV RX7 71 RX7 yX7_found wsX7_found) := goodIn_app (goodIn_of _ (by decide +kernel)) ggX7_judge_X7_found
set_option maxRecDepth 20000 in
theorem ggX7_judge_X4_see : GoodIn wsX7_judge wsX4_see := goodIn_r _ [34, 35, 36, 37, 33, 38, 39, 40, 41, 42, 43, 44, 45, 46, 47, 48, 49, 50, 51, 52, 53, 54, 55, 56, 57, 58, 59, 60, 61, 62, 63, 64, 65, 66, 67, 68, 69, 70, 71, 72, 73, 74, 75, 76, 77, 78, 10, 79, 80, 81, 82, 83, 84, 85, 86, 87, 88, 89, 90, 91, 92, 93, 94, 95, 96, 97, 98, 99, 100, 101, 102, 132, 133, 134, 135, 120, 121, 122, 123, 124, 125, 126, 127, 128, 129, 130, 131] (by decide +kernel) (by decide +kernel)
set_option maxRecDepth 20000 in
theorem gX7_judge_X4_see : GoodIn wsX7_judge (wsV RX7 144 RX4 yX4_see wsX4_see) := goodIn_app (goodIn_of _ (by decide +kernel)) ggX7_judge_X4_see
set_option maxRecDepth 20000 in
theorem ggX7_judge_X4_isShadowSet : GoodIn wsX7_judge wsX4_isShadowSet := goodIn_r _ [106, 41, 73, 132, 133, 134, 135] (by decide +kernel) (by decide +kernel)
set_option maxRecDepth 20000 in
theorem gX7_judge_X4_isShadowSet : GoodIn wsX7_judge (wsV RX7 287 RX4 yX4_isShadowSet wsX4_isShadowSet) := goodIn_app (goodIn_of _ (by decide +kernel)) ggX7_judge_X4_isShadowSet
theorem dX7_judge_0 : decode cX7_judge 0 = .ok (.aload_n 0, 1) := by decide +kernel
theorem dX7_judge_1 : decode cX7_judge 1 = .ok (.iload_n 1, 1) := by decide +kernel
theorem dX7_judge_2 : decode cX7_judge 2 = .ok (.invokevirtual 206, 3) := by decide +kernel
theorem dX7_judge_5 : decode cX7_judge 5 = .ok (.istore_n 2, 1) := by decide +kernel
theorem dX7_judge_6 : decode cX7_judge 6 = .ok (.iload_n 2, 1) := by decide +kernel
theorem dX7_judge_7 : decode cX7_judge 7 = .ok (.iconst (-1), 1) := by decide +kernel
theorem dX7_judge_8 : decode cX7_judge 8 = .ok (.if_icmp .eq 9, 3) := by decide +kernel
theorem dX7_judge_11 : decode cX7_judge 11 = .ok (.aload_n 0, 1) := by decide +kernel
theorem dX7_judge_12 : decode cX7_judge 12 = .ok (.iload_n 2, 1) := by decide +kernel
theorem dX7_judge_13 : decode cX7_judge 13 = .ok (.invokevirtual 71, 3) := by decide +kernel
theorem dX7_judge_16 : decode cX7_judge 16 = .ok (.ireturn, 1) := by decide +kernel
theorem dX7_judge_17 : decode cX7_judge 17 = .ok (.aload_n 0, 1) := by decide +kernel
theorem dX7_judge_18 : decode cX7_judge 18 = .ok (.getfield 22, 3) := by decide +kernel
theorem dX7_judge_21 : decode cX7_judge 21 = .ok (.aload_n 0, 1) := by decide +kernel
theorem dX7_judge_22 : decode cX7_judge 22 = .ok (.getfield 10, 3) := by decide +kernel
theorem dX7_judge_25 : decode cX7_judge 25 = .ok (.invokevirtual 144, 3) := by decide +kernel
theorem dX7_judge_28 : decode cX7_judge 28 = .ok (.iconst 0, 1) := by decide +kernel
theorem dX7_judge_29 : decode cX7_judge 29 = .ok (.istore_n 3, 1) := by decide +kernel
theorem dX7_judge_30 : decode cX7_judge 30 = .ok (.iload_n 3, 1) := by decide +kernel
theorem dX7_judge_31 : decode cX7_judge 31 = .ok (.aload_n 0, 1) := by decide +kernel
theorem dX7_judge_32 : decode cX7_judge 32 = .ok (.getfield 54, 3) := by decide +kernel
theorem dX7_judge_35 : decode cX7_judge 35 = .ok (.iload_n 1, 1) := by decide +kernel
theorem dX7_judge_36 : decode cX7_judge 36 = .ok (.aaload, 1) := by decide +kernel
theorem dX7_judge_37 : decode cX7_judge 37 = .ok (.getfield 265, 3) := by decide +kernel
theorem dX7_judge_40 : decode cX7_judge 40 = .ok (.if_icmp .ge 43, 3) := by decide +kernel
theorem dX7_judge_43 : decode cX7_judge 43 = .ok (.aload_n 0, 1) := by decide +kernel
theorem dX7_judge_44 : decode cX7_judge 44 = .ok (.getfield 22, 3) := by decide +kernel
theorem dX7_judge_47 : decode cX7_judge 47 = .ok (.aload_n 0, 1) := by decide +kernel
theorem dX7_judge_48 : decode cX7_judge 48 = .ok (.getfield 10, 3) := by decide +kernel
theorem dX7_judge_51 : decode cX7_judge 51 = .ok (.getfield 101, 3) := by decide +kernel
theorem dX7_judge_54 : decode cX7_judge 54 = .ok (.iload_n 3, 1) := by decide +kernel
theorem dX7_judge_55 : decode cX7_judge 55 = .ok (.iadd, 1) := by decide +kernel
theorem dX7_judge_56 : decode cX7_judge 56 = .ok (.aload_n 0, 1) := by decide +kernel
theorem dX7_judge_57 : decode cX7_judge 57 = .ok (.getfield 54, 3) := by decide +kernel
theorem dX7_judge_60 : decode cX7_judge 60 = .ok (.iload_n 1, 1) := by decide +kernel
theorem dX7_judge_61 : decode cX7_judge 61 = .ok (.aaload, 1) := by decide +kernel
theorem dX7_judge_62 : decode cX7_judge 62 = .ok (.getfield 278, 3) := by decide +kernel
theorem dX7_judge_65 : decode cX7_judge 65 = .ok (.iload_n 3, 1) := by decide +kernel
theorem dX7_judge_66 : decode cX7_judge 66 = .ok (.iaload, 1) := by decide +kernel
theorem dX7_judge_67 : decode cX7_judge 67 = .ok (.invokevirtual 287, 3) := by decide +kernel
theorem dX7_judge_70 : decode cX7_judge 70 = .ok (.ifCond .ne 7, 3) := by decide +kernel
theorem dX7_judge_73 : decode cX7_judge 73 = .ok (.iconst 1, 1) := by decide +kernel
theorem dX7_judge_74 : decode cX7_judge 74 = .ok (.iload_n 3, 1) := by decide +kernel
theorem dX7_judge_75 : decode cX7_judge 75 = .ok (.iadd, 1) := by decide +kernel
theorem dX7_judge_76 : decode cX7_judge 76 = .ok (.ireturn, 1) := by decide +kernel
theorem dX7_judge_77 : decode cX7_judge 77 = .ok (.iinc 3 1, 3) := by decide +kernel
theorem dX7_judge_80 : decode cX7_judge 80 = .ok (.goto (-50), 3) := by decide +kernel
theorem dX7_judge_83 : decode cX7_judge 83 = .ok (.iconst 0, 1) := by decide +kernel
theorem dX7_judge_84 : decode cX7_judge 84 = .ok (.ireturn, 1) := by decide +kernel
set_option maxRecDepth 20000 in
theorem ggX7_image_X1_become : GoodIn wsX7_image wsX1_become := goodIn_r _ [8, 9, 10, 11, 12, 13, 14, 15, 16, 17, 18, 19, 20, 21, 22, 23, 24, 35, 36, 37, 38, 39, 40, 41, 42, 43, 44, 45, 46] (by decide +kernel) (by decide +kernel)
set_option maxRecDepth 20000 in
theorem gX7_image_X1_become : GoodIn wsX7_image (wsV RX7 290 RX1 yX1_become wsX1_become) := goodIn_app (goodIn_of _ (by decide +kernel)) ggX7_image_X1_become
theorem dX7_image_0 : decode cX7_image 0 = .ok (.aload_n 0, 1) := by decide +kernel
theorem dX7_image_1 : decode cX7_image 1 = .ok (.getfield 16, 3) := by decide +kernel
theorem dX7_image_4 : decode cX7_image 4 = .ok (.aload_n 0, 1) := by decide +kernel
theorem dX7_image_5 : decode cX7_image 5 = .ok (.getfield 10, 3) := by decide +kernel
theorem dX7_image_8 : decode cX7_image 8 = .ok (.invokevirtual 290, 3) := by decide +kernel
theorem dX7_image_11 : decode cX7_image 11 = .ok (.aload_n 0, 1) := by decide +kernel
theorem dX7_image_12 : decode cX7_image 12 = .ok (.iconst 1, 1) := by decide +kernel
theorem dX7_image_13 : decode cX7_image 13 = .ok (.putfield 62, 3) := by decide +kernel
theorem dX7_image_16 : decode cX7_image 16 = .ok (.iconst 1, 1) := by decide +kernel
theorem dX7_image_17 : decode cX7_image 17 = .ok (.ireturn, 1) := by decide +kernel
set_option maxRecDepth 20000 in
theorem ggX7_undo_X7_found : GoodIn wsX7_undo wsX7_found := goodIn_r _ [9, 10, 11, 33, 34, 35, 36, 37, 38, 39, 40, 41, 42] (by decide +kernel) (by decide +kernel)
set_option maxRecDepth 20000 in
theorem gX7_undo_X7_found : GoodIn wsX7_undo (wsV RX7 71 RX7 yX7_found wsX7_found) := goodIn_app (goodIn_of _ (by decide +kernel)) ggX7_undo_X7_found
set_option maxRecDepth 20000 in
theorem ggX7_undo_X1_become : GoodIn wsX7_undo wsX1_become := goodIn_r _ [16, 17, 18, 19, 20, 21, 22, 23, 24, 25, 26, 27, 28, 29, 30, 31, 32, 43, 44, 45, 46, 47, 48, 49, 50, 51, 52, 53, 54] (by decide +kernel) (by decide +kernel)
set_option maxRecDepth 20000 in
theorem gX7_undo_X1_become : GoodIn wsX7_undo (wsV RX7 290 RX1 yX1_become wsX1_become) := goodIn_app (goodIn_of _ (by decide +kernel)) ggX7_undo_X1_become
theorem dX7_undo_0 : decode cX7_undo 0 = .ok (.aload_n 0, 1) := by decide +kernel
theorem dX7_undo_1 : decode cX7_undo 1 = .ok (.getfield 62, 3) := by decide +kernel
theorem dX7_undo_4 : decode cX7_undo 4 = .ok (.ifCond .ne 9, 3) := by decide +kernel
theorem dX7_undo_7 : decode cX7_undo 7 = .ok (.aload_n 0, 1) := by decide +kernel
theorem dX7_undo_8 : decode cX7_undo 8 = .ok (.iconst 3, 1) := by decide +kernel
theorem dX7_undo_9 : decode cX7_undo 9 = .ok (.invokevirtual 71, 3) := by decide +kernel
theorem dX7_undo_12 : decode cX7_undo 12 = .ok (.ireturn, 1) := by decide +kernel
theorem dX7_undo_13 : decode cX7_undo 13 = .ok (.aload_n 0, 1) := by decide +kernel
theorem dX7_undo_14 : decode cX7_undo 14 = .ok (.getfield 10, 3) := by decide +kernel
theorem dX7_undo_17 : decode cX7_undo 17 = .ok (.aload_n 0, 1) := by decide +kernel
theorem dX7_undo_18 : decode cX7_undo 18 = .ok (.getfield 16, 3) := by decide +kernel
theorem dX7_undo_21 : decode cX7_undo 21 = .ok (.invokevirtual 290, 3) := by decide +kernel
theorem dX7_undo_24 : decode cX7_undo 24 = .ok (.aload_n 0, 1) := by decide +kernel
theorem dX7_undo_25 : decode cX7_undo 25 = .ok (.getfield 10, 3) := by decide +kernel
theorem dX7_undo_28 : decode cX7_undo 28 = .ok (.getfield 101, 3) := by decide +kernel
theorem dX7_undo_31 : decode cX7_undo 31 = .ok (.ireturn, 1) := by decide +kernel
theorem dX7_tear_0 : decode cX7_tear 0 = .ok (.aload_n 0, 1) := by decide +kernel
theorem dX7_tear_1 : decode cX7_tear 1 = .ok (.getfield 62, 3) := by decide +kernel
theorem dX7_tear_4 : decode cX7_tear 4 = .ok (.ifCond .eq 7, 3) := by decide +kernel
theorem dX7_tear_7 : decode cX7_tear 7 = .ok (.iconst 1, 1) := by decide +kernel
theorem dX7_tear_8 : decode cX7_tear 8 = .ok (.goto 4, 3) := by decide +kernel
theorem dX7_tear_11 : decode cX7_tear 11 = .ok (.iconst 0, 1) := by decide +kernel
theorem dX7_tear_12 : decode cX7_tear 12 = .ok (.istore_n 1, 1) := by decide +kernel
theorem dX7_tear_13 : decode cX7_tear 13 = .ok (.aload_n 0, 1) := by decide +kernel
theorem dX7_tear_14 : decode cX7_tear 14 = .ok (.iconst 0, 1) := by decide +kernel
theorem dX7_tear_15 : decode cX7_tear 15 = .ok (.putfield 62, 3) := by decide +kernel
theorem dX7_tear_18 : decode cX7_tear 18 = .ok (.iload_n 1, 1) := by decide +kernel
theorem dX7_tear_19 : decode cX7_tear 19 = .ok (.ireturn, 1) := by decide +kernel
set_option maxRecDepth 20000 in
theorem ggX7_count_X1_countMated : GoodIn wsX7_count wsX1_countMated := goodIn_r _ [12, 13, 14, 42, 43, 44, 45, 46, 47, 48, 49, 50, 51, 52, 53] (by decide +kernel) (by decide +kernel)
set_option maxRecDepth 20000 in
theorem gX7_count_X1_countMated : GoodIn wsX7_count (wsV RX7 293 RX1 yX1_countMated wsX1_countMated) := goodIn_app (goodIn_of _ (by decide +kernel)) ggX7_count_X1_countMated
set_option maxRecDepth 20000 in
theorem ggX7_count_X1_sunOfAll : GoodIn wsX7_count wsX1_sunOfAll := goodIn_r _ [18, 13, 19, 42, 43, 44, 45, 46, 47, 48, 49, 50, 51, 52, 53] (by decide +kernel) (by decide +kernel)
set_option maxRecDepth 20000 in
theorem gX7_count_X1_sunOfAll : GoodIn wsX7_count (wsV RX7 296 RX1 yX1_sunOfAll wsX1_sunOfAll) := goodIn_app (goodIn_of _ (by decide +kernel)) ggX7_count_X1_sunOfAll
set_option maxRecDepth 20000 in
theorem ggX7_count_X1_countHeld : GoodIn wsX7_count wsX1_countHeld := goodIn_r _ [23, 24, 42, 43, 44, 45, 46, 47, 48, 49, 50, 51, 52, 53] (by decide +kernel) (by decide +kernel)
set_option maxRecDepth 20000 in
theorem gX7_count_X1_countHeld : GoodIn wsX7_count (wsV RX7 299 RX1 yX1_countHeld wsX1_countHeld) := goodIn_app (goodIn_of _ (by decide +kernel)) ggX7_count_X1_countHeld
set_option maxRecDepth 20000 in
theorem ggX7_count_X7_found : GoodIn wsX7_count wsX7_found := goodIn_r _ [29, 30, 31, 32, 33, 34, 35, 36, 37, 38, 39, 40, 41] (by decide +kernel) (by decide +kernel)
set_option maxRecDepth 20000 in
theorem gX7_count_X7_found : GoodIn wsX7_count (wsV RX7 71 RX7 yX7_found wsX7_found) := goodIn_app (goodIn_of _ (by decide +kernel)) ggX7_count_X7_found
theorem dX7_count_0 : decode cX7_count 0 = .ok (.iload_n 1, 1) := by decide +kernel
theorem dX7_count_1 : decode cX7_count 1 = .ok (.tableswitch 111 0 7 #[47, 55, 63, 71, 79, 87, 95, 103], 47) := by decide +kernel
theorem dX7_count_48 : decode cX7_count 48 = .ok (.aload_n 0, 1) := by decide +kernel
theorem dX7_count_49 : decode cX7_count 49 = .ok (.getfield 10, 3) := by decide +kernel
theorem dX7_count_52 : decode cX7_count 52 = .ok (.getfield 101, 3) := by decide +kernel
theorem dX7_count_55 : decode cX7_count 55 = .ok (.ireturn, 1) := by decide +kernel
theorem dX7_count_56 : decode cX7_count 56 = .ok (.aload_n 0, 1) := by decide +kernel
theorem dX7_count_57 : decode cX7_count 57 = .ok (.getfield 10, 3) := by decide +kernel
theorem dX7_count_60 : decode cX7_count 60 = .ok (.getfield 200, 3) := by decide +kernel
theorem dX7_count_63 : decode cX7_count 63 = .ok (.ireturn, 1) := by decide +kernel
theorem dX7_count_64 : decode cX7_count 64 = .ok (.aload_n 0, 1) := by decide +kernel
theorem dX7_count_65 : decode cX7_count 65 = .ok (.getfield 10, 3) := by decide +kernel
theorem dX7_count_68 : decode cX7_count 68 = .ok (.invokevirtual 293, 3) := by decide +kernel
theorem dX7_count_71 : decode cX7_count 71 = .ok (.ireturn, 1) := by decide +kernel
theorem dX7_count_72 : decode cX7_count 72 = .ok (.aload_n 0, 1) := by decide +kernel
theorem dX7_count_73 : decode cX7_count 73 = .ok (.getfield 10, 3) := by decide +kernel
theorem dX7_count_76 : decode cX7_count 76 = .ok (.getfield 138, 3) := by decide +kernel
theorem dX7_count_79 : decode cX7_count 79 = .ok (.ireturn, 1) := by decide +kernel
theorem dX7_count_80 : decode cX7_count 80 = .ok (.aload_n 0, 1) := by decide +kernel
theorem dX7_count_81 : decode cX7_count 81 = .ok (.getfield 10, 3) := by decide +kernel
theorem dX7_count_84 : decode cX7_count 84 = .ok (.invokevirtual 296, 3) := by decide +kernel
theorem dX7_count_87 : decode cX7_count 87 = .ok (.ireturn, 1) := by decide +kernel
theorem dX7_count_88 : decode cX7_count 88 = .ok (.aload_n 0, 1) := by decide +kernel
theorem dX7_count_89 : decode cX7_count 89 = .ok (.getfield 51, 3) := by decide +kernel
theorem dX7_count_92 : decode cX7_count 92 = .ok (.getfield 243, 3) := by decide +kernel
theorem dX7_count_95 : decode cX7_count 95 = .ok (.ireturn, 1) := by decide +kernel
theorem dX7_count_96 : decode cX7_count 96 = .ok (.aload_n 0, 1) := by decide +kernel
theorem dX7_count_97 : decode cX7_count 97 = .ok (.getfield 10, 3) := by decide +kernel
theorem dX7_count_100 : decode cX7_count 100 = .ok (.getfield 238, 3) := by decide +kernel
theorem dX7_count_103 : decode cX7_count 103 = .ok (.ireturn, 1) := by decide +kernel
theorem dX7_count_104 : decode cX7_count 104 = .ok (.aload_n 0, 1) := by decide +kernel
theorem dX7_count_105 : decode cX7_count 105 = .ok (.getfield 10, 3) := by decide +kernel
theorem dX7_count_108 : decode cX7_count 108 = .ok (.invokevirtual 299, 3) := by decide +kernel
theorem dX7_count_111 : decode cX7_count 111 = .ok (.ireturn, 1) := by decide +kernel
theorem dX7_count_112 : decode cX7_count 112 = .ok (.aload_n 0, 1) := by decide +kernel
theorem dX7_count_113 : decode cX7_count 113 = .ok (.iconst 0, 1) := by decide +kernel
theorem dX7_count_114 : decode cX7_count 114 = .ok (.invokevirtual 71, 3) := by decide +kernel
theorem dX7_count_117 : decode cX7_count 117 = .ok (.ireturn, 1) := by decide +kernel
set_option maxRecDepth 20000 in
theorem ggX7_status_X7_sum : GoodIn wsX7_status wsX7_sum := goodIn_r _ [5] (by decide +kernel) (by decide +kernel)
set_option maxRecDepth 20000 in
theorem gX7_status_X7_sum : GoodIn wsX7_status (va_wsS RX7 302 yX7_sum wsX7_sum) := goodIn_app (goodIn_of _ (by decide +kernel)) ggX7_status_X7_sum
set_option maxRecDepth 20000 in
theorem ggX7_status_X7_isWithin : GoodIn wsX7_status wsX7_isWithin := goodIn_r _ [8] (by decide +kernel) (by decide +kernel)
set_option maxRecDepth 20000 in
theorem gX7_status_X7_isWithin : GoodIn wsX7_status (va_wsS RX7 67 yX7_isWithin wsX7_isWithin) := goodIn_app (goodIn_of _ (by decide +kernel)) ggX7_status_X7_isWithin
set_option maxRecDepth 20000 in
theorem ggX7_status_X7_found : GoodIn wsX7_status wsX7_found := goodIn_r _ [12, 1, 13, 14, 15, 16, 17, 18, 19, 20, 21, 22, 23] (by decide +kernel) (by decide +kernel)
set_option maxRecDepth 20000 in
theorem gX7_status_X7_found : GoodIn wsX7_status (wsV RX7 71 RX7 yX7_found wsX7_found) := goodIn_app (goodIn_of _ (by decide +kernel)) ggX7_status_X7_found
theorem dX7_status_0 : decode cX7_status 0 = .ok (.iload_n 1, 1) := by decide +kernel
theorem dX7_status_1 : decode cX7_status 1 = .ok (.iconst (-1), 1) := by decide +kernel
theorem dX7_status_2 : decode cX7_status 2 = .ok (.if_icmp .ne 11, 3) := by decide +kernel
theorem dX7_status_5 : decode cX7_status 5 = .ok (.aload_n 0, 1) := by decide +kernel
theorem dX7_status_6 : decode cX7_status 6 = .ok (.getfield 58, 3) := by decide +kernel
theorem dX7_status_9 : decode cX7_status 9 = .ok (.invokestatic 302, 3) := by decide +kernel
theorem dX7_status_12 : decode cX7_status 12 = .ok (.ireturn, 1) := by decide +kernel
theorem dX7_status_13 : decode cX7_status 13 = .ok (.iload_n 1, 1) := by decide +kernel
theorem dX7_status_14 : decode cX7_status 14 = .ok (.bipush 6, 2) := by decide +kernel
theorem dX7_status_16 : decode cX7_status 16 = .ok (.invokestatic 67, 3) := by decide +kernel
theorem dX7_status_19 : decode cX7_status 19 = .ok (.ifCond .eq 12, 3) := by decide +kernel
theorem dX7_status_22 : decode cX7_status 22 = .ok (.aload_n 0, 1) := by decide +kernel
theorem dX7_status_23 : decode cX7_status 23 = .ok (.getfield 58, 3) := by decide +kernel
theorem dX7_status_26 : decode cX7_status 26 = .ok (.iload_n 1, 1) := by decide +kernel
theorem dX7_status_27 : decode cX7_status 27 = .ok (.iaload, 1) := by decide +kernel
theorem dX7_status_28 : decode cX7_status 28 = .ok (.goto 8, 3) := by decide +kernel
theorem dX7_status_31 : decode cX7_status 31 = .ok (.aload_n 0, 1) := by decide +kernel
theorem dX7_status_32 : decode cX7_status 32 = .ok (.iconst 0, 1) := by decide +kernel
theorem dX7_status_33 : decode cX7_status 33 = .ok (.invokevirtual 71, 3) := by decide +kernel
theorem dX7_status_36 : decode cX7_status 36 = .ok (.ireturn, 1) := by decide +kernel
theorem dX7_found_0 : decode cX7_found 0 = .ok (.aload_n 0, 1) := by decide +kernel
theorem dX7_found_1 : decode cX7_found 1 = .ok (.getfield 58, 3) := by decide +kernel
theorem dX7_found_4 : decode cX7_found 4 = .ok (.iload_n 1, 1) := by decide +kernel
theorem dX7_found_5 : decode cX7_found 5 = .ok (.dup2, 1) := by decide +kernel
theorem dX7_found_6 : decode cX7_found 6 = .ok (.iaload, 1) := by decide +kernel
theorem dX7_found_7 : decode cX7_found 7 = .ok (.iconst 1, 1) := by decide +kernel
theorem dX7_found_8 : decode cX7_found 8 = .ok (.iadd, 1) := by decide +kernel
theorem dX7_found_9 : decode cX7_found 9 = .ok (.iastore, 1) := by decide +kernel
theorem dX7_found_10 : decode cX7_found 10 = .ok (.ldc_w 306, 3) := by decide +kernel
theorem dX7_found_13 : decode cX7_found 13 = .ok (.iload_n 1, 1) := by decide +kernel
theorem dX7_found_14 : decode cX7_found 14 = .ok (.isub, 1) := by decide +kernel
theorem dX7_found_15 : decode cX7_found 15 = .ok (.ireturn, 1) := by decide +kernel
set_option maxRecDepth 20000 in
theorem ggX7_isSheet_X7_isWithin : GoodIn wsX7_isSheet wsX7_isWithin := goodIn_r _ [4] (by decide +kernel) (by decide +kernel)
set_option maxRecDepth 20000 in
theorem gX7_isSheet_X7_isWithin : GoodIn wsX7_isSheet (va_wsS RX7 67 yX7_isWithin wsX7_isWithin) := goodIn_app (goodIn_of _ (by decide +kernel)) ggX7_isSheet_X7_isWithin
theorem dX7_isSheet_0 : decode cX7_isSheet 0 = .ok (.iload_n 0, 1) := by decide +kernel
theorem dX7_isSheet_1 : decode cX7_isSheet 1 = .ok (.iconst 3, 1) := by decide +kernel
theorem dX7_isSheet_2 : decode cX7_isSheet 2 = .ok (.invokestatic 67, 3) := by decide +kernel
theorem dX7_isSheet_5 : decode cX7_isSheet 5 = .ok (.ireturn, 1) := by decide +kernel
set_option maxRecDepth 20000 in
theorem ggX7_lackOf_X7_isSheet : GoodIn wsX7_lackOf wsX7_isSheet := goodIn_r _ [5, 6, 7, 4, 8] (by decide +kernel) (by decide +kernel)
set_option maxRecDepth 20000 in
theorem gX7_lackOf_X7_isSheet : GoodIn wsX7_lackOf (va_wsS RX7 259 yX7_isSheet wsX7_isSheet) := goodIn_app (goodIn_of _ (by decide +kernel)) ggX7_lackOf_X7_isSheet
set_option maxRecDepth 20000 in
theorem ggX7_lackOf_X5_isMissing : GoodIn wsX7_lackOf wsX5_isMissing := goodIn_r _ [13, 14, 25, 26, 27] (by decide +kernel) (by decide +kernel)
set_option maxRecDepth 20000 in
theorem gX7_lackOf_X5_isMissing : GoodIn wsX7_lackOf (wsV RX7 269 RX5 yX5_isMissing wsX5_isMissing) := goodIn_app (goodIn_of _ (by decide +kernel)) ggX7_lackOf_X5_isMissing
theorem dX7_lackOf_0 : decode cX7_lackOf 0 = .ok (.iload_n 1, 1) := by decide +kernel
theorem dX7_lackOf_1 : decode cX7_lackOf 1 = .ok (.invokestatic 259, 3) := by decide +kernel
theorem dX7_lackOf_4 : decode cX7_lackOf 4 = .ok (.ifCond .ne 5, 3) := by decide +kernel
theorem dX7_lackOf_7 : decode cX7_lackOf 7 = .ok (.iconst 0, 1) := by decide +kernel
theorem dX7_lackOf_8 : decode cX7_lackOf 8 = .ok (.ireturn, 1) := by decide +kernel
theorem dX7_lackOf_9 : decode cX7_lackOf 9 = .ok (.aload_n 0, 1) := by decide +kernel
theorem dX7_lackOf_10 : decode cX7_lackOf 10 = .ok (.getfield 54, 3) := by decide +kernel
theorem dX7_lackOf_13 : decode cX7_lackOf 13 = .ok (.iload_n 1, 1) := by decide +kernel
theorem dX7_lackOf_14 : decode cX7_lackOf 14 = .ok (.aaload, 1) := by decide +kernel
theorem dX7_lackOf_15 : decode cX7_lackOf 15 = .ok (.invokevirtual 269, 3) := by decide +kernel
theorem dX7_lackOf_18 : decode cX7_lackOf 18 = .ok (.ifCond .eq 7, 3) := by decide +kernel
theorem dX7_lackOf_21 : decode cX7_lackOf 21 = .ok (.iconst 5, 1) := by decide +kernel
theorem dX7_lackOf_22 : decode cX7_lackOf 22 = .ok (.goto 4, 3) := by decide +kernel
theorem dX7_lackOf_25 : decode cX7_lackOf 25 = .ok (.iconst (-1), 1) := by decide +kernel
theorem dX7_lackOf_26 : decode cX7_lackOf 26 = .ok (.ireturn, 1) := by decide +kernel
set_option maxRecDepth 20000 in
theorem ggX7_replace_X7_isWithin : GoodIn wsX7_replace wsX7_isWithin := goodIn_r _ [4] (by decide +kernel) (by decide +kernel)
set_option maxRecDepth 20000 in
theorem gX7_replace_X7_isWithin : GoodIn wsX7_replace (va_wsS RX7 67 yX7_isWithin wsX7_isWithin) := goodIn_app (goodIn_of _ (by decide +kernel)) ggX7_replace_X7_isWithin
set_option maxRecDepth 20000 in
theorem ggX7_replace_X7_found : GoodIn wsX7_replace wsX7_found := goodIn_r _ [8, 9, 10, 11, 12, 13, 14, 15, 16, 17, 18, 19, 20] (by decide +kernel) (by decide +kernel)
set_option maxRecDepth 20000 in
theorem gX7_replace_X7_found : GoodIn wsX7_replace (wsV RX7 71 RX7 yX7_found wsX7_found) := goodIn_app (goodIn_of _ (by decide +kernel)) ggX7_replace_X7_found
theorem dX7_replace_0 : decode cX7_replace 0 = .ok (.iload_n 3, 1) := by decide +kernel
theorem dX7_replace_1 : decode cX7_replace 1 = .ok (.iload 4, 2) := by decide +kernel
theorem dX7_replace_3 : decode cX7_replace 3 = .ok (.invokestatic 67, 3) := by decide +kernel
theorem dX7_replace_6 : decode cX7_replace 6 = .ok (.ifCond .ne 9, 3) := by decide +kernel
theorem dX7_replace_9 : decode cX7_replace 9 = .ok (.aload_n 0, 1) := by decide +kernel
theorem dX7_replace_10 : decode cX7_replace 10 = .ok (.iconst 0, 1) := by decide +kernel
theorem dX7_replace_11 : decode cX7_replace 11 = .ok (.invokevirtual 71, 3) := by decide +kernel
theorem dX7_replace_14 : decode cX7_replace 14 = .ok (.ireturn, 1) := by decide +kernel
theorem dX7_replace_15 : decode cX7_replace 15 = .ok (.aload_n 1, 1) := by decide +kernel
theorem dX7_replace_16 : decode cX7_replace 16 = .ok (.iload_n 2, 1) := by decide +kernel
theorem dX7_replace_17 : decode cX7_replace 17 = .ok (.iaload, 1) := by decide +kernel
theorem dX7_replace_18 : decode cX7_replace 18 = .ok (.istore 5, 2) := by decide +kernel
theorem dX7_replace_20 : decode cX7_replace 20 = .ok (.aload_n 1, 1) := by decide +kernel
theorem dX7_replace_21 : decode cX7_replace 21 = .ok (.iload_n 2, 1) := by decide +kernel
theorem dX7_replace_22 : decode cX7_replace 22 = .ok (.iload_n 3, 1) := by decide +kernel
theorem dX7_replace_23 : decode cX7_replace 23 = .ok (.iastore, 1) := by decide +kernel
theorem dX7_replace_24 : decode cX7_replace 24 = .ok (.iload 5, 2) := by decide +kernel
theorem dX7_replace_26 : decode cX7_replace 26 = .ok (.ireturn, 1) := by decide +kernel
set_option maxRecDepth 20000 in
theorem ggX7_weighByAgreements_X1_hoursLeft : GoodIn wsX7_weighByAgreements wsX1_hoursLeft := goodIn_r _ [10, 11, 12, 123, 124, 125, 126, 127, 128, 129, 130, 131, 132, 133, 134] (by decide +kernel) (by decide +kernel)
set_option maxRecDepth 20000 in
theorem gX7_weighByAgreements_X1_hoursLeft : GoodIn wsX7_weighByAgreements (wsV RX7 307 RX1 yX1_hoursLeft wsX1_hoursLeft) := goodIn_app (goodIn_of _ (by decide +kernel)) ggX7_weighByAgreements_X1_hoursLeft
set_option maxRecDepth 20000 in
theorem ggX7_weighByAgreements_J6_bitCount_0f7a4 : GoodIn wsX7_weighByAgreements wsJ6_bitCount_0f7a4 := goodIn_r _ [16, 17, 18, 19] (by decide +kernel) (by decide +kernel)
set_option maxRecDepth 20000 in
theorem gX7_weighByAgreements_J6_bitCount_0f7a4 : GoodIn wsX7_weighByAgreements (va_wsS RX7 310 yJ6_bitCount_0f7a4 wsJ6_bitCount_0f7a4) := goodIn_app (goodIn_of _ (by decide +kernel)) ggX7_weighByAgreements_J6_bitCount_0f7a4
set_option maxRecDepth 20000 in
theorem ggX7_weighByAgreements_X2_value : GoodIn wsX7_weighByAgreements wsX2_value := goodIn_r _ [24, 25, 26, 27, 28, 135, 136, 137] (by decide +kernel) (by decide +kernel)
set_option maxRecDepth 20000 in
theorem gX7_weighByAgreements_X2_value : GoodIn wsX7_weighByAgreements (wsV RX7 315 RX2 yX2_value wsX2_value) := goodIn_app (goodIn_of _ (by decide +kernel)) ggX7_weighByAgreements_X2_value
set_option maxRecDepth 20000 in
theorem ggX7_weighByAgreements_X0_make : GoodIn wsX7_weighByAgreements wsX0_make := goodIn_r _ [33, 34, 35, 36, 37, 38, 39, 40, 41, 42, 43, 44, 45, 46, 47, 48, 49, 9, 50, 51, 52, 53, 54, 55, 56, 7, 8, 10, 11, 12, 57, 58, 59, 32, 60, 61, 62, 63, 64, 65, 66, 27, 67, 68, 69, 70, 71, 72, 138, 139, 140, 141, 142, 143, 123, 124, 125, 126, 127, 128, 129, 130, 131, 132, 133, 134] (by decide +kernel) (by decide +kernel)
set_option maxRecDepth 20000 in
theorem gX7_weighByAgreements_X0_make : GoodIn wsX7_weighByAgreements (wsV RX7 172 RX0 yX0_make wsX0_make) := goodIn_app (goodIn_of _ (by decide +kernel)) ggX7_weighByAgreements_X0_make
set_option maxRecDepth 20000 in
theorem ggX7_weighByAgreements_X0_metOfBoth : GoodIn wsX7_weighByAgreements wsX0_metOfBoth := goodIn_r _ [76, 77, 78, 79, 32, 80, 42, 46, 72, 26, 27, 28, 81, 14, 15, 16, 17, 18, 19, 138, 139, 140, 141, 142, 143] (by decide +kernel) (by decide +kernel)
set_option maxRecDepth 20000 in
theorem gX7_weighByAgreements_X0_metOfBoth : GoodIn wsX7_weighByAgreements (wsV RX7 176 RX0 yX0_metOfBoth wsX0_metOfBoth) := goodIn_app (goodIn_of _ (by decide +kernel)) ggX7_weighByAgreements_X0_metOfBoth
set_option maxRecDepth 20000 in
theorem ggX7_weighByAgreements_X1_everybody : GoodIn wsX7_weighByAgreements wsX1_everybody := goodIn_r _ [85, 55, 123, 124, 125, 126, 127, 128, 129, 130, 131, 132, 133, 134] (by decide +kernel) (by decide +kernel)
set_option maxRecDepth 20000 in
theorem gX7_weighByAgreements_X1_everybody : GoodIn wsX7_weighByAgreements (wsV RX7 188 RX1 yX1_everybody wsX1_everybody) := goodIn_app (goodIn_of _ (by decide +kernel)) ggX7_weighByAgreements_X1_everybody
set_option maxRecDepth 20000 in
theorem ggX7_weighByAgreements_X2_weigh : GoodIn wsX7_weighByAgreements wsX2_weigh := goodIn_r _ [89, 90, 91, 92, 93, 94, 23, 95, 96, 97, 98, 66, 27, 67, 99, 100, 101, 102, 103, 14, 15, 16, 17, 18, 19, 104, 105, 106, 107, 25, 108, 36, 37, 38, 109, 40, 41, 110, 111, 112, 135, 136, 137] (by decide +kernel) (by decide +kernel)
set_option maxRecDepth 20000 in
theorem gX7_weighByAgreements_X2_weigh : GoodIn wsX7_weighByAgreements (wsV RX7 319 RX2 yX2_weigh wsX2_weigh) := goodIn_app (goodIn_of _ (by decide +kernel)) ggX7_weighByAgreements_X2_weigh
theorem dX7_weighByAgreements_0 : decode cX7_weighByAgreements 0 = .ok (.iconst 0, 1) := by decide +kernel
theorem dX7_weighByAgreements_1 : decode cX7_weighByAgreements 1 = .ok (.istore_n 1, 1) := by decide +kernel
theorem dX7_weighByAgreements_2 : decode cX7_weighByAgreements 2 = .ok (.iload_n 1, 1) := by decide +kernel
theorem dX7_weighByAgreements_3 : decode cX7_weighByAgreements 3 = .ok (.aload_n 0, 1) := by decide +kernel
theorem dX7_weighByAgreements_4 : decode cX7_weighByAgreements 4 = .ok (.getfield 10, 3) := by decide +kernel
theorem dX7_weighByAgreements_7 : decode cX7_weighByAgreements 7 = .ok (.getfield 200, 3) := by decide +kernel
theorem dX7_weighByAgreements_10 : decode cX7_weighByAgreements 10 = .ok (.if_icmp .ge 88, 3) := by decide +kernel
theorem dX7_weighByAgreements_13 : decode cX7_weighByAgreements 13 = .ok (.aload_n 0, 1) := by decide +kernel
theorem dX7_weighByAgreements_14 : decode cX7_weighByAgreements 14 = .ok (.getfield 36, 3) := by decide +kernel
theorem dX7_weighByAgreements_17 : decode cX7_weighByAgreements 17 = .ok (.iload_n 1, 1) := by decide +kernel
theorem dX7_weighByAgreements_18 : decode cX7_weighByAgreements 18 = .ok (.iload_n 1, 1) := by decide +kernel
theorem dX7_weighByAgreements_19 : decode cX7_weighByAgreements 19 = .ok (.aload_n 0, 1) := by decide +kernel
theorem dX7_weighByAgreements_20 : decode cX7_weighByAgreements 20 = .ok (.getfield 10, 3) := by decide +kernel
theorem dX7_weighByAgreements_23 : decode cX7_weighByAgreements 23 = .ok (.getfield 95, 3) := by decide +kernel
theorem dX7_weighByAgreements_26 : decode cX7_weighByAgreements 26 = .ok (.iload_n 1, 1) := by decide +kernel
theorem dX7_weighByAgreements_27 : decode cX7_weighByAgreements 27 = .ok (.iaload, 1) := by decide +kernel
theorem dX7_weighByAgreements_28 : decode cX7_weighByAgreements 28 = .ok (.aload_n 0, 1) := by decide +kernel
theorem dX7_weighByAgreements_29 : decode cX7_weighByAgreements 29 = .ok (.getfield 10, 3) := by decide +kernel
theorem dX7_weighByAgreements_32 : decode cX7_weighByAgreements 32 = .ok (.invokevirtual 307, 3) := by decide +kernel
theorem dX7_weighByAgreements_35 : decode cX7_weighByAgreements 35 = .ok (.iand, 1) := by decide +kernel
theorem dX7_weighByAgreements_36 : decode cX7_weighByAgreements 36 = .ok (.invokestatic 310, 3) := by decide +kernel
theorem dX7_weighByAgreements_39 : decode cX7_weighByAgreements 39 = .ok (.invokevirtual 315, 3) := by decide +kernel
theorem dX7_weighByAgreements_42 : decode cX7_weighByAgreements 42 = .ok (.iload_n 1, 1) := by decide +kernel
theorem dX7_weighByAgreements_43 : decode cX7_weighByAgreements 43 = .ok (.iconst 1, 1) := by decide +kernel
theorem dX7_weighByAgreements_44 : decode cX7_weighByAgreements 44 = .ok (.iadd, 1) := by decide +kernel
theorem dX7_weighByAgreements_45 : decode cX7_weighByAgreements 45 = .ok (.istore_n 2, 1) := by decide +kernel
theorem dX7_weighByAgreements_46 : decode cX7_weighByAgreements 46 = .ok (.iload_n 2, 1) := by decide +kernel
theorem dX7_weighByAgreements_47 : decode cX7_weighByAgreements 47 = .ok (.aload_n 0, 1) := by decide +kernel
theorem dX7_weighByAgreements_48 : decode cX7_weighByAgreements 48 = .ok (.getfield 10, 3) := by decide +kernel
theorem dX7_weighByAgreements_51 : decode cX7_weighByAgreements 51 = .ok (.getfield 200, 3) := by decide +kernel
theorem dX7_weighByAgreements_54 : decode cX7_weighByAgreements 54 = .ok (.if_icmp .ge 38, 3) := by decide +kernel
theorem dX7_weighByAgreements_57 : decode cX7_weighByAgreements 57 = .ok (.aload_n 0, 1) := by decide +kernel
theorem dX7_weighByAgreements_58 : decode cX7_weighByAgreements 58 = .ok (.getfield 29, 3) := by decide +kernel
theorem dX7_weighByAgreements_61 : decode cX7_weighByAgreements 61 = .ok (.aload_n 0, 1) := by decide +kernel
theorem dX7_weighByAgreements_62 : decode cX7_weighByAgreements 62 = .ok (.getfield 10, 3) := by decide +kernel
theorem dX7_weighByAgreements_65 : decode cX7_weighByAgreements 65 = .ok (.iload_n 1, 1) := by decide +kernel
theorem dX7_weighByAgreements_66 : decode cX7_weighByAgreements 66 = .ok (.iload_n 2, 1) := by decide +kernel
theorem dX7_weighByAgreements_67 : decode cX7_weighByAgreements 67 = .ok (.invokevirtual 172, 3) := by decide +kernel
theorem dX7_weighByAgreements_70 : decode cX7_weighByAgreements 70 = .ok (.aload_n 0, 1) := by decide +kernel
theorem dX7_weighByAgreements_71 : decode cX7_weighByAgreements 71 = .ok (.getfield 36, 3) := by decide +kernel
theorem dX7_weighByAgreements_74 : decode cX7_weighByAgreements 74 = .ok (.iload_n 1, 1) := by decide +kernel
theorem dX7_weighByAgreements_75 : decode cX7_weighByAgreements 75 = .ok (.iload_n 2, 1) := by decide +kernel
theorem dX7_weighByAgreements_76 : decode cX7_weighByAgreements 76 = .ok (.aload_n 0, 1) := by decide +kernel
theorem dX7_weighByAgreements_77 : decode cX7_weighByAgreements 77 = .ok (.getfield 29, 3) := by decide +kernel
theorem dX7_weighByAgreements_80 : decode cX7_weighByAgreements 80 = .ok (.invokevirtual 176, 3) := by decide +kernel
theorem dX7_weighByAgreements_83 : decode cX7_weighByAgreements 83 = .ok (.invokevirtual 315, 3) := by decide +kernel
theorem dX7_weighByAgreements_86 : decode cX7_weighByAgreements 86 = .ok (.iinc 2 1, 3) := by decide +kernel
theorem dX7_weighByAgreements_89 : decode cX7_weighByAgreements 89 = .ok (.goto (-43), 3) := by decide +kernel
theorem dX7_weighByAgreements_92 : decode cX7_weighByAgreements 92 = .ok (.iinc 1 1, 3) := by decide +kernel
theorem dX7_weighByAgreements_95 : decode cX7_weighByAgreements 95 = .ok (.goto (-93), 3) := by decide +kernel
theorem dX7_weighByAgreements_98 : decode cX7_weighByAgreements 98 = .ok (.aload_n 0, 1) := by decide +kernel
theorem dX7_weighByAgreements_99 : decode cX7_weighByAgreements 99 = .ok (.getfield 36, 3) := by decide +kernel
theorem dX7_weighByAgreements_102 : decode cX7_weighByAgreements 102 = .ok (.aload_n 0, 1) := by decide +kernel
theorem dX7_weighByAgreements_103 : decode cX7_weighByAgreements 103 = .ok (.getfield 10, 3) := by decide +kernel
theorem dX7_weighByAgreements_106 : decode cX7_weighByAgreements 106 = .ok (.invokevirtual 188, 3) := by decide +kernel
theorem dX7_weighByAgreements_109 : decode cX7_weighByAgreements 109 = .ok (.invokevirtual 319, 3) := by decide +kernel
theorem dX7_weighByAgreements_112 : decode cX7_weighByAgreements 112 = .ok (.return_, 1) := by decide +kernel
set_option maxRecDepth 20000 in
theorem ggX7_weighByShade_X1_everybody : GoodIn wsX7_weighByShade wsX1_everybody := goodIn_r _ [11, 12, 162, 163, 164, 165, 166, 167, 168, 169, 170, 171, 172, 173] (by decide +kernel) (by decide +kernel)
set_option maxRecDepth 20000 in
theorem gX7_weighByShade_X1_everybody : GoodIn wsX7_weighByShade (wsV RX7 188 RX1 yX1_everybody wsX1_everybody) := goodIn_app (goodIn_of _ (by decide +kernel)) ggX7_weighByShade_X1_everybody
set_option maxRecDepth 20000 in
theorem ggX7_weighByShade_X5_tellsSetsOf : GoodIn wsX7_weighByShade wsX5_tellsSetsOf := goodIn_r _ [17, 18, 19, 178, 179, 180] (by decide +kernel) (by decide +kernel)
set_option maxRecDepth 20000 in
theorem gX7_weighByShade_X5_tellsSetsOf : GoodIn wsX7_weighByShade (wsV RX7 322 RX5 yX5_tellsSetsOf wsX5_tellsSetsOf) := goodIn_app (goodIn_of _ (by decide +kernel)) ggX7_weighByShade_X5_tellsSetsOf
set_option maxRecDepth 20000 in
theorem ggX7_weighByShade_X4_begin : GoodIn wsX7_weighByShade wsX4_begin := goodIn_r _ [24, 25, 26, 27, 28, 29, 30, 31, 10, 32, 33, 34, 35, 36, 37, 38, 39, 40, 41, 42, 12, 43, 44, 45, 46, 47, 48, 49, 50, 51, 52, 174, 175, 176, 177, 162, 163, 164, 165, 166, 167, 168, 169, 170, 171, 172, 173] (by decide +kernel) (by decide +kernel)
set_option maxRecDepth 20000 in
theorem gX7_weighByShade_X4_begin : GoodIn wsX7_weighByShade (wsV RX7 163 RX4 yX4_begin wsX4_begin) := goodIn_app (goodIn_of _ (by decide +kernel)) ggX7_weighByShade_X4_begin
set_option maxRecDepth 20000 in
theorem ggX7_weighByShade_X1_separate : GoodIn wsX7_weighByShade wsX1_separate := goodIn_r _ [56, 41, 57, 58, 59, 10, 60, 12, 162, 163, 164, 165, 166, 167, 168, 169, 170, 171, 172, 173] (by decide +kernel) (by decide +kernel)
set_option maxRecDepth 20000 in
theorem gX7_weighByShade_X1_separate : GoodIn wsX7_weighByShade (wsV RX7 128 RX1 yX1_separate wsX1_separate) := goodIn_app (goodIn_of _ (by decide +kernel)) ggX7_weighByShade_X1_separate
set_option maxRecDepth 20000 in
theorem ggX7_weighByShade_X1_join : GoodIn wsX7_weighByShade wsX1_join := goodIn_r _ [64, 41, 65, 66, 67, 10, 68, 57, 58, 59, 60, 12, 69, 54, 55, 56, 162, 163, 164, 165, 166, 167, 168, 169, 170, 171, 172, 173] (by decide +kernel) (by decide +kernel)
set_option maxRecDepth 20000 in
theorem gX7_weighByShade_X1_join : GoodIn wsX7_weighByShade (wsV RX7 124 RX1 yX1_join wsX1_join) := goodIn_app (goodIn_of _ (by decide +kernel)) ggX7_weighByShade_X1_join
set_option maxRecDepth 20000 in
theorem ggX7_weighByShade_X4_run : GoodIn wsX7_weighByShade wsX4_run := goodIn_r _ [73, 27, 74, 25, 75, 76, 77, 10, 78, 44, 43, 12, 41, 79, 80, 81, 82, 83, 84, 85, 86, 87, 88, 89, 90, 91, 92, 93, 94, 95, 96, 38, 33, 39, 97, 98, 99, 100, 40, 101, 102, 103, 104, 45, 46, 174, 175, 176, 177, 162, 163, 164, 165, 166, 167, 168, 169, 170, 171, 172, 173] (by decide +kernel) (by decide +kernel)
set_option maxRecDepth 20000 in
theorem gX7_weighByShade_X4_run : GoodIn wsX7_weighByShade (wsV RX7 169 RX4 yX4_run wsX4_run) := goodIn_app (goodIn_of _ (by decide +kernel)) ggX7_weighByShade_X4_run
set_option maxRecDepth 20000 in
theorem ggX7_weighByShade_X4_isShadeOf : GoodIn wsX7_weighByShade wsX4_isShadeOf := goodIn_r _ [108, 27, 109, 74, 110, 79, 80, 81, 174, 175, 176, 177, 178, 179, 180] (by decide +kernel) (by decide +kernel)
set_option maxRecDepth 20000 in
theorem gX7_weighByShade_X4_isShadeOf : GoodIn wsX7_weighByShade (wsV RX7 325 RX4 yX4_isShadeOf wsX4_isShadeOf) := goodIn_app (goodIn_of _ (by decide +kernel)) ggX7_weighByShade_X4_isShadeOf
set_option maxRecDepth 20000 in
theorem ggX7_weighByShade_X2_value : GoodIn wsX7_weighByShade wsX2_value := goodIn_r _ [115, 116, 117, 80, 118, 181, 182, 183] (by decide +kernel) (by decide +kernel)
set_option maxRecDepth 20000 in
theorem gX7_weighByShade_X2_value : GoodIn wsX7_weighByShade (wsV RX7 315 RX2 yX2_value wsX2_value) := goodIn_app (goodIn_of _ (by decide +kernel)) ggX7_weighByShade_X2_value
set_option maxRecDepth 20000 in
theorem ggX7_weighByShade_X2_weigh : GoodIn wsX7_weighByShade wsX2_weigh := goodIn_r _ [122, 123, 124, 125, 126, 127, 114, 128, 129, 130, 131, 79, 80, 81, 132, 133, 134, 135, 136, 137, 138, 139, 140, 141, 142, 143, 144, 145, 146, 116, 147, 87, 88, 89, 148, 91, 92, 149, 150, 151, 181, 182, 183] (by decide +kernel) (by decide +kernel)
set_option maxRecDepth 20000 in
theorem gX7_weighByShade_X2_weigh : GoodIn wsX7_weighByShade (wsV RX7 319 RX2 yX2_weigh wsX2_weigh) := goodIn_app (goodIn_of _ (by decide +kernel)) ggX7_weighByShade_X2_weigh
theorem dX7_weighByShade_0 : decode cX7_weighByShade 0 = .ok (.aload_n 1, 1) := by decide +kernel
theorem dX7_weighByShade_1 : decode cX7_weighByShade 1 = .ok (.aload_n 0, 1) := by decide +kernel
theorem dX7_weighByShade_2 : decode cX7_weighByShade 2 = .ok (.getfield 10, 3) := by decide +kernel
theorem dX7_weighByShade_5 : decode cX7_weighByShade 5 = .ok (.invokevirtual 188, 3) := by decide +kernel
theorem dX7_weighByShade_8 : decode cX7_weighByShade 8 = .ok (.bipush 16, 2) := by decide +kernel
theorem dX7_weighByShade_10 : decode cX7_weighByShade 10 = .ok (.aload_n 0, 1) := by decide +kernel
theorem dX7_weighByShade_11 : decode cX7_weighByShade 11 = .ok (.getfield 10, 3) := by decide +kernel
theorem dX7_weighByShade_14 : decode cX7_weighByShade 14 = .ok (.getfield 101, 3) := by decide +kernel
theorem dX7_weighByShade_17 : decode cX7_weighByShade 17 = .ok (.isub, 1) := by decide +kernel
theorem dX7_weighByShade_18 : decode cX7_weighByShade 18 = .ok (.invokevirtual 322, 3) := by decide +kernel
theorem dX7_weighByShade_21 : decode cX7_weighByShade 21 = .ok (.ifCond .ne 5, 3) := by decide +kernel
theorem dX7_weighByShade_24 : decode cX7_weighByShade 24 = .ok (.iconst 0, 1) := by decide +kernel
theorem dX7_weighByShade_25 : decode cX7_weighByShade 25 = .ok (.ireturn, 1) := by decide +kernel
theorem dX7_weighByShade_26 : decode cX7_weighByShade 26 = .ok (.iconst 0, 1) := by decide +kernel
theorem dX7_weighByShade_27 : decode cX7_weighByShade 27 = .ok (.istore_n 2, 1) := by decide +kernel
theorem dX7_weighByShade_28 : decode cX7_weighByShade 28 = .ok (.iload_n 2, 1) := by decide +kernel
theorem dX7_weighByShade_29 : decode cX7_weighByShade 29 = .ok (.aload_n 0, 1) := by decide +kernel
theorem dX7_weighByShade_30 : decode cX7_weighByShade 30 = .ok (.getfield 10, 3) := by decide +kernel
theorem dX7_weighByShade_33 : decode cX7_weighByShade 33 = .ok (.getfield 200, 3) := by decide +kernel
theorem dX7_weighByShade_36 : decode cX7_weighByShade 36 = .ok (.if_icmp .ge 107, 3) := by decide +kernel
theorem dX7_weighByShade_39 : decode cX7_weighByShade 39 = .ok (.iload_n 2, 1) := by decide +kernel
theorem dX7_weighByShade_40 : decode cX7_weighByShade 40 = .ok (.istore_n 3, 1) := by decide +kernel
theorem dX7_weighByShade_41 : decode cX7_weighByShade 41 = .ok (.iload_n 3, 1) := by decide +kernel
theorem dX7_weighByShade_42 : decode cX7_weighByShade 42 = .ok (.aload_n 0, 1) := by decide +kernel
theorem dX7_weighByShade_43 : decode cX7_weighByShade 43 = .ok (.getfield 10, 3) := by decide +kernel
theorem dX7_weighByShade_46 : decode cX7_weighByShade 46 = .ok (.getfield 200, 3) := by decide +kernel
theorem dX7_weighByShade_49 : decode cX7_weighByShade 49 = .ok (.if_icmp .ge 88, 3) := by decide +kernel
theorem dX7_weighByShade_52 : decode cX7_weighByShade 52 = .ok (.aload_n 0, 1) := by decide +kernel
theorem dX7_weighByShade_53 : decode cX7_weighByShade 53 = .ok (.getfield 22, 3) := by decide +kernel
theorem dX7_weighByShade_56 : decode cX7_weighByShade 56 = .ok (.aload_n 0, 1) := by decide +kernel
theorem dX7_weighByShade_57 : decode cX7_weighByShade 57 = .ok (.getfield 10, 3) := by decide +kernel
theorem dX7_weighByShade_60 : decode cX7_weighByShade 60 = .ok (.invokevirtual 163, 3) := by decide +kernel
theorem dX7_weighByShade_63 : decode cX7_weighByShade 63 = .ok (.aload_n 0, 1) := by decide +kernel
theorem dX7_weighByShade_64 : decode cX7_weighByShade 64 = .ok (.getfield 22, 3) := by decide +kernel
theorem dX7_weighByShade_67 : decode cX7_weighByShade 67 = .ok (.getfield 166, 3) := by decide +kernel
theorem dX7_weighByShade_70 : decode cX7_weighByShade 70 = .ok (.iload_n 2, 1) := by decide +kernel
theorem dX7_weighByShade_71 : decode cX7_weighByShade 71 = .ok (.invokevirtual 128, 3) := by decide +kernel
theorem dX7_weighByShade_74 : decode cX7_weighByShade 74 = .ok (.aload_n 0, 1) := by decide +kernel
theorem dX7_weighByShade_75 : decode cX7_weighByShade 75 = .ok (.getfield 22, 3) := by decide +kernel
theorem dX7_weighByShade_78 : decode cX7_weighByShade 78 = .ok (.getfield 166, 3) := by decide +kernel
theorem dX7_weighByShade_81 : decode cX7_weighByShade 81 = .ok (.iload_n 2, 1) := by decide +kernel
theorem dX7_weighByShade_82 : decode cX7_weighByShade 82 = .ok (.iload_n 3, 1) := by decide +kernel
theorem dX7_weighByShade_83 : decode cX7_weighByShade 83 = .ok (.invokevirtual 124, 3) := by decide +kernel
theorem dX7_weighByShade_86 : decode cX7_weighByShade 86 = .ok (.aload_n 0, 1) := by decide +kernel
theorem dX7_weighByShade_87 : decode cX7_weighByShade 87 = .ok (.getfield 22, 3) := by decide +kernel
theorem dX7_weighByShade_90 : decode cX7_weighByShade 90 = .ok (.invokevirtual 169, 3) := by decide +kernel
theorem dX7_weighByShade_93 : decode cX7_weighByShade 93 = .ok (.aload_n 0, 1) := by decide +kernel
theorem dX7_weighByShade_94 : decode cX7_weighByShade 94 = .ok (.getfield 36, 3) := by decide +kernel
theorem dX7_weighByShade_97 : decode cX7_weighByShade 97 = .ok (.iload_n 2, 1) := by decide +kernel
theorem dX7_weighByShade_98 : decode cX7_weighByShade 98 = .ok (.iload_n 3, 1) := by decide +kernel
theorem dX7_weighByShade_99 : decode cX7_weighByShade 99 = .ok (.aload_n 0, 1) := by decide +kernel
theorem dX7_weighByShade_100 : decode cX7_weighByShade 100 = .ok (.getfield 22, 3) := by decide +kernel
theorem dX7_weighByShade_103 : decode cX7_weighByShade 103 = .ok (.iload_n 2, 1) := by decide +kernel
theorem dX7_weighByShade_104 : decode cX7_weighByShade 104 = .ok (.aload_n 1, 1) := by decide +kernel
theorem dX7_weighByShade_105 : decode cX7_weighByShade 105 = .ok (.invokevirtual 325, 3) := by decide +kernel
theorem dX7_weighByShade_108 : decode cX7_weighByShade 108 = .ok (.ifCond .eq 19, 3) := by decide +kernel
theorem dX7_weighByShade_111 : decode cX7_weighByShade 111 = .ok (.aload_n 0, 1) := by decide +kernel
theorem dX7_weighByShade_112 : decode cX7_weighByShade 112 = .ok (.getfield 22, 3) := by decide +kernel
theorem dX7_weighByShade_115 : decode cX7_weighByShade 115 = .ok (.iload_n 3, 1) := by decide +kernel
theorem dX7_weighByShade_116 : decode cX7_weighByShade 116 = .ok (.aload_n 1, 1) := by decide +kernel
theorem dX7_weighByShade_117 : decode cX7_weighByShade 117 = .ok (.invokevirtual 325, 3) := by decide +kernel
theorem dX7_weighByShade_120 : decode cX7_weighByShade 120 = .ok (.ifCond .eq 7, 3) := by decide +kernel
theorem dX7_weighByShade_123 : decode cX7_weighByShade 123 = .ok (.iconst 0, 1) := by decide +kernel
theorem dX7_weighByShade_124 : decode cX7_weighByShade 124 = .ok (.goto 4, 3) := by decide +kernel
theorem dX7_weighByShade_127 : decode cX7_weighByShade 127 = .ok (.iconst (-1), 1) := by decide +kernel
theorem dX7_weighByShade_128 : decode cX7_weighByShade 128 = .ok (.invokevirtual 315, 3) := by decide +kernel
theorem dX7_weighByShade_131 : decode cX7_weighByShade 131 = .ok (.iinc 3 1, 3) := by decide +kernel
theorem dX7_weighByShade_134 : decode cX7_weighByShade 134 = .ok (.goto (-93), 3) := by decide +kernel
theorem dX7_weighByShade_137 : decode cX7_weighByShade 137 = .ok (.iinc 2 1, 3) := by decide +kernel
theorem dX7_weighByShade_140 : decode cX7_weighByShade 140 = .ok (.goto (-112), 3) := by decide +kernel
theorem dX7_weighByShade_143 : decode cX7_weighByShade 143 = .ok (.aload_n 0, 1) := by decide +kernel
theorem dX7_weighByShade_144 : decode cX7_weighByShade 144 = .ok (.getfield 36, 3) := by decide +kernel
theorem dX7_weighByShade_147 : decode cX7_weighByShade 147 = .ok (.aload_n 0, 1) := by decide +kernel
theorem dX7_weighByShade_148 : decode cX7_weighByShade 148 = .ok (.getfield 10, 3) := by decide +kernel
theorem dX7_weighByShade_151 : decode cX7_weighByShade 151 = .ok (.invokevirtual 188, 3) := by decide +kernel
theorem dX7_weighByShade_154 : decode cX7_weighByShade 154 = .ok (.invokevirtual 319, 3) := by decide +kernel
theorem dX7_weighByShade_157 : decode cX7_weighByShade 157 = .ok (.iconst 1, 1) := by decide +kernel
theorem dX7_weighByShade_158 : decode cX7_weighByShade 158 = .ok (.ireturn, 1) := by decide +kernel
set_option maxRecDepth 20000 in
theorem ggX7_wouldRatherAgree_X0_make : GoodIn wsX7_wouldRatherAgree wsX0_make := goodIn_r _ [8, 9, 10, 11, 12, 13, 14, 15, 16, 17, 18, 19, 20, 21, 22, 23, 24, 25, 26, 27, 28, 29, 30, 31, 32, 33, 34, 35, 36, 37, 38, 39, 40, 7, 41, 42, 43, 44, 45, 46, 47, 48, 49, 50, 51, 52, 53, 54, 98, 99, 100, 101, 102, 103, 104, 105, 106, 107, 108, 109, 110, 111, 112, 113, 114, 115] (by decide +kernel) (by decide +kernel)
set_option maxRecDepth 20000 in
theorem gX7_wouldRatherAgree_X0_make : GoodIn wsX7_wouldRatherAgree (wsV RX7 172 RX0 yX0_make wsX0_make) := goodIn_app (goodIn_of _ (by decide +kernel)) ggX7_wouldRatherAgree_X0_make
set_option maxRecDepth 20000 in
theorem ggX7_wouldRatherAgree_X0_metOfSide : GoodIn wsX7_wouldRatherAgree wsX0_metOfSide := goodIn_r _ [58, 17, 21, 54, 59, 48, 60, 61, 62, 63, 64, 65, 66, 67, 98, 99, 100, 101, 102, 103] (by decide +kernel) (by decide +kernel)
set_option maxRecDepth 20000 in
theorem gX7_wouldRatherAgree_X0_metOfSide : GoodIn wsX7_wouldRatherAgree (wsV RX7 329 RX0 yX0_metOfSide wsX0_metOfSide) := goodIn_app (goodIn_of _ (by decide +kernel)) ggX7_wouldRatherAgree_X0_metOfSide
set_option maxRecDepth 20000 in
theorem ggX7_wouldRatherAgree_X4_metOf : GoodIn wsX7_wouldRatherAgree wsX4_metOf := goodIn_r _ [72, 73, 74, 75, 28, 29, 25, 30, 31, 76, 77, 78, 71, 79, 80, 81, 82, 83, 84, 85, 86, 47, 48, 49, 87, 62, 63, 64, 65, 66, 67, 116, 117, 118, 119, 104, 105, 106, 107, 108, 109, 110, 111, 112, 113, 114, 115] (by decide +kernel) (by decide +kernel)
set_option maxRecDepth 20000 in
theorem gX7_wouldRatherAgree_X4_metOf : GoodIn wsX7_wouldRatherAgree (wsV RX7 148 RX4 yX4_metOf wsX4_metOf) := goodIn_app (goodIn_of _ (by decide +kernel)) ggX7_wouldRatherAgree_X4_metOf
theorem dX7_wouldRatherAgree_0 : decode cX7_wouldRatherAgree 0 = .ok (.aload_n 0, 1) := by decide +kernel
theorem dX7_wouldRatherAgree_1 : decode cX7_wouldRatherAgree 1 = .ok (.getfield 29, 3) := by decide +kernel
theorem dX7_wouldRatherAgree_4 : decode cX7_wouldRatherAgree 4 = .ok (.aload_n 0, 1) := by decide +kernel
theorem dX7_wouldRatherAgree_5 : decode cX7_wouldRatherAgree 5 = .ok (.getfield 10, 3) := by decide +kernel
theorem dX7_wouldRatherAgree_8 : decode cX7_wouldRatherAgree 8 = .ok (.iload_n 1, 1) := by decide +kernel
theorem dX7_wouldRatherAgree_9 : decode cX7_wouldRatherAgree 9 = .ok (.iload_n 2, 1) := by decide +kernel
theorem dX7_wouldRatherAgree_10 : decode cX7_wouldRatherAgree 10 = .ok (.invokevirtual 172, 3) := by decide +kernel
theorem dX7_wouldRatherAgree_13 : decode cX7_wouldRatherAgree 13 = .ok (.aload_n 0, 1) := by decide +kernel
theorem dX7_wouldRatherAgree_14 : decode cX7_wouldRatherAgree 14 = .ok (.getfield 29, 3) := by decide +kernel
theorem dX7_wouldRatherAgree_17 : decode cX7_wouldRatherAgree 17 = .ok (.iconst 0, 1) := by decide +kernel
theorem dX7_wouldRatherAgree_18 : decode cX7_wouldRatherAgree 18 = .ok (.invokevirtual 329, 3) := by decide +kernel
theorem dX7_wouldRatherAgree_21 : decode cX7_wouldRatherAgree 21 = .ok (.aload_n 0, 1) := by decide +kernel
theorem dX7_wouldRatherAgree_22 : decode cX7_wouldRatherAgree 22 = .ok (.getfield 22, 3) := by decide +kernel
theorem dX7_wouldRatherAgree_25 : decode cX7_wouldRatherAgree 25 = .ok (.iload_n 1, 1) := by decide +kernel
theorem dX7_wouldRatherAgree_26 : decode cX7_wouldRatherAgree 26 = .ok (.invokevirtual 148, 3) := by decide +kernel
theorem dX7_wouldRatherAgree_29 : decode cX7_wouldRatherAgree 29 = .ok (.if_icmp .le 26, 3) := by decide +kernel
theorem dX7_wouldRatherAgree_32 : decode cX7_wouldRatherAgree 32 = .ok (.aload_n 0, 1) := by decide +kernel
theorem dX7_wouldRatherAgree_33 : decode cX7_wouldRatherAgree 33 = .ok (.getfield 29, 3) := by decide +kernel
theorem dX7_wouldRatherAgree_36 : decode cX7_wouldRatherAgree 36 = .ok (.iconst 1, 1) := by decide +kernel
theorem dX7_wouldRatherAgree_37 : decode cX7_wouldRatherAgree 37 = .ok (.invokevirtual 329, 3) := by decide +kernel
theorem dX7_wouldRatherAgree_40 : decode cX7_wouldRatherAgree 40 = .ok (.aload_n 0, 1) := by decide +kernel
theorem dX7_wouldRatherAgree_41 : decode cX7_wouldRatherAgree 41 = .ok (.getfield 22, 3) := by decide +kernel
theorem dX7_wouldRatherAgree_44 : decode cX7_wouldRatherAgree 44 = .ok (.iload_n 2, 1) := by decide +kernel
theorem dX7_wouldRatherAgree_45 : decode cX7_wouldRatherAgree 45 = .ok (.invokevirtual 148, 3) := by decide +kernel
theorem dX7_wouldRatherAgree_48 : decode cX7_wouldRatherAgree 48 = .ok (.if_icmp .le 7, 3) := by decide +kernel
theorem dX7_wouldRatherAgree_51 : decode cX7_wouldRatherAgree 51 = .ok (.iconst 1, 1) := by decide +kernel
theorem dX7_wouldRatherAgree_52 : decode cX7_wouldRatherAgree 52 = .ok (.goto 4, 3) := by decide +kernel
theorem dX7_wouldRatherAgree_55 : decode cX7_wouldRatherAgree 55 = .ok (.iconst 0, 1) := by decide +kernel
theorem dX7_wouldRatherAgree_56 : decode cX7_wouldRatherAgree 56 = .ok (.ireturn, 1) := by decide +kernel
set_option maxRecDepth 20000 in
theorem ggX7_duelForce_X7_bit : GoodIn wsX7_duelForce wsX7_bit := goodIn_r _ [7] (by decide +kernel) (by decide +kernel)
set_option maxRecDepth 20000 in
theorem gX7_duelForce_X7_bit : GoodIn wsX7_duelForce (va_wsS RX7 113 yX7_bit wsX7_bit) := goodIn_app (goodIn_of _ (by decide +kernel)) ggX7_duelForce_X7_bit
set_option maxRecDepth 20000 in
theorem ggX7_duelForce_X1_stronger : GoodIn wsX7_duelForce wsX1_stronger := goodIn_r _ [12, 13, 14, 15, 16, 17, 18, 19, 20, 21, 22, 11, 23, 24, 25, 26, 27, 38, 39, 40, 41, 42, 43, 44, 45, 46, 47, 48, 49] (by decide +kernel) (by decide +kernel)
set_option maxRecDepth 20000 in
theorem gX7_duelForce_X1_stronger : GoodIn wsX7_duelForce (wsV RX7 332 RX1 yX1_stronger wsX1_stronger) := goodIn_app (goodIn_of _ (by decide +kernel)) ggX7_duelForce_X1_stronger
theorem dX7_duelForce_0 : decode cX7_duelForce 0 = .ok (.aload_n 0, 1) := by decide +kernel
theorem dX7_duelForce_1 : decode cX7_duelForce 1 = .ok (.getfield 10, 3) := by decide +kernel
theorem dX7_duelForce_4 : decode cX7_duelForce 4 = .ok (.getfield 132, 3) := by decide +kernel
theorem dX7_duelForce_7 : decode cX7_duelForce 7 = .ok (.bipush 8, 2) := by decide +kernel
theorem dX7_duelForce_9 : decode cX7_duelForce 9 = .ok (.invokestatic 113, 3) := by decide +kernel
theorem dX7_duelForce_12 : decode cX7_duelForce 12 = .ok (.iconst 1, 1) := by decide +kernel
theorem dX7_duelForce_13 : decode cX7_duelForce 13 = .ok (.if_icmp .ne 22, 3) := by decide +kernel
theorem dX7_duelForce_16 : decode cX7_duelForce 16 = .ok (.aload_n 0, 1) := by decide +kernel
theorem dX7_duelForce_17 : decode cX7_duelForce 17 = .ok (.getfield 10, 3) := by decide +kernel
theorem dX7_duelForce_20 : decode cX7_duelForce 20 = .ok (.iload_n 1, 1) := by decide +kernel
theorem dX7_duelForce_21 : decode cX7_duelForce 21 = .ok (.iload_n 2, 1) := by decide +kernel
theorem dX7_duelForce_22 : decode cX7_duelForce 22 = .ok (.bipush 8, 2) := by decide +kernel
theorem dX7_duelForce_24 : decode cX7_duelForce 24 = .ok (.invokevirtual 332, 3) := by decide +kernel
theorem dX7_duelForce_27 : decode cX7_duelForce 27 = .ok (.iload_n 1, 1) := by decide +kernel
theorem dX7_duelForce_28 : decode cX7_duelForce 28 = .ok (.if_icmp .ne 7, 3) := by decide +kernel
theorem dX7_duelForce_31 : decode cX7_duelForce 31 = .ok (.iconst 1, 1) := by decide +kernel
theorem dX7_duelForce_32 : decode cX7_duelForce 32 = .ok (.goto 4, 3) := by decide +kernel
theorem dX7_duelForce_35 : decode cX7_duelForce 35 = .ok (.iconst 0, 1) := by decide +kernel
theorem dX7_duelForce_36 : decode cX7_duelForce 36 = .ok (.istore_n 3, 1) := by decide +kernel
theorem dX7_duelForce_37 : decode cX7_duelForce 37 = .ok (.aload_n 0, 1) := by decide +kernel
theorem dX7_duelForce_38 : decode cX7_duelForce 38 = .ok (.getfield 10, 3) := by decide +kernel
theorem dX7_duelForce_41 : decode cX7_duelForce 41 = .ok (.getfield 92, 3) := by decide +kernel
theorem dX7_duelForce_44 : decode cX7_duelForce 44 = .ok (.iload_n 1, 1) := by decide +kernel
theorem dX7_duelForce_45 : decode cX7_duelForce 45 = .ok (.iaload, 1) := by decide +kernel
theorem dX7_duelForce_46 : decode cX7_duelForce 46 = .ok (.iload_n 3, 1) := by decide +kernel
theorem dX7_duelForce_47 : decode cX7_duelForce 47 = .ok (.ifCond .eq 7, 3) := by decide +kernel
theorem dX7_duelForce_50 : decode cX7_duelForce 50 = .ok (.iconst 3, 1) := by decide +kernel
theorem dX7_duelForce_51 : decode cX7_duelForce 51 = .ok (.goto 4, 3) := by decide +kernel
theorem dX7_duelForce_54 : decode cX7_duelForce 54 = .ok (.iconst 0, 1) := by decide +kernel
theorem dX7_duelForce_55 : decode cX7_duelForce 55 = .ok (.iadd, 1) := by decide +kernel
theorem dX7_duelForce_56 : decode cX7_duelForce 56 = .ok (.ireturn, 1) := by decide +kernel
theorem dX7_isWithin_0 : decode cX7_isWithin 0 = .ok (.iload_n 0, 1) := by decide +kernel
theorem dX7_isWithin_1 : decode cX7_isWithin 1 = .ok (.ifCond .lt 12, 3) := by decide +kernel
theorem dX7_isWithin_4 : decode cX7_isWithin 4 = .ok (.iload_n 0, 1) := by decide +kernel
theorem dX7_isWithin_5 : decode cX7_isWithin 5 = .ok (.iload_n 1, 1) := by decide +kernel
theorem dX7_isWithin_6 : decode cX7_isWithin 6 = .ok (.if_icmp .gt 7, 3) := by decide +kernel
theorem dX7_isWithin_9 : decode cX7_isWithin 9 = .ok (.iconst 1, 1) := by decide +kernel
theorem dX7_isWithin_10 : decode cX7_isWithin 10 = .ok (.goto 4, 3) := by decide +kernel
theorem dX7_isWithin_13 : decode cX7_isWithin 13 = .ok (.iconst 0, 1) := by decide +kernel
theorem dX7_isWithin_14 : decode cX7_isWithin 14 = .ok (.ireturn, 1) := by decide +kernel
theorem dX7_bit_0 : decode cX7_bit 0 = .ok (.iload_n 0, 1) := by decide +kernel
theorem dX7_bit_1 : decode cX7_bit 1 = .ok (.iload_n 1, 1) := by decide +kernel
theorem dX7_bit_2 : decode cX7_bit 2 = .ok (.iushr, 1) := by decide +kernel
theorem dX7_bit_3 : decode cX7_bit 3 = .ok (.iconst 1, 1) := by decide +kernel
theorem dX7_bit_4 : decode cX7_bit 4 = .ok (.iand, 1) := by decide +kernel
theorem dX7_bit_5 : decode cX7_bit 5 = .ok (.ireturn, 1) := by decide +kernel
theorem dX7_sum_0 : decode cX7_sum 0 = .ok (.iconst 0, 1) := by decide +kernel
theorem dX7_sum_1 : decode cX7_sum 1 = .ok (.istore_n 1, 1) := by decide +kernel
theorem dX7_sum_2 : decode cX7_sum 2 = .ok (.aload_n 0, 1) := by decide +kernel
theorem dX7_sum_3 : decode cX7_sum 3 = .ok (.astore_n 2, 1) := by decide +kernel
theorem dX7_sum_4 : decode cX7_sum 4 = .ok (.aload_n 2, 1) := by decide +kernel
theorem dX7_sum_5 : decode cX7_sum 5 = .ok (.arraylength, 1) := by decide +kernel
theorem dX7_sum_6 : decode cX7_sum 6 = .ok (.istore_n 3, 1) := by decide +kernel
theorem dX7_sum_7 : decode cX7_sum 7 = .ok (.iconst 0, 1) := by decide +kernel
theorem dX7_sum_8 : decode cX7_sum 8 = .ok (.istore 4, 2) := by decide +kernel
theorem dX7_sum_10 : decode cX7_sum 10 = .ok (.iload 4, 2) := by decide +kernel
theorem dX7_sum_12 : decode cX7_sum 12 = .ok (.iload_n 3, 1) := by decide +kernel
theorem dX7_sum_13 : decode cX7_sum 13 = .ok (.if_icmp .ge 20, 3) := by decide +kernel
theorem dX7_sum_16 : decode cX7_sum 16 = .ok (.aload_n 2, 1) := by decide +kernel
theorem dX7_sum_17 : decode cX7_sum 17 = .ok (.iload 4, 2) := by decide +kernel
theorem dX7_sum_19 : decode cX7_sum 19 = .ok (.iaload, 1) := by decide +kernel
theorem dX7_sum_20 : decode cX7_sum 20 = .ok (.istore 5, 2) := by decide +kernel
theorem dX7_sum_22 : decode cX7_sum 22 = .ok (.iload_n 1, 1) := by decide +kernel
theorem dX7_sum_23 : decode cX7_sum 23 = .ok (.iload 5, 2) := by decide +kernel
theorem dX7_sum_25 : decode cX7_sum 25 = .ok (.iadd, 1) := by decide +kernel
theorem dX7_sum_26 : decode cX7_sum 26 = .ok (.istore_n 1, 1) := by decide +kernel
theorem dX7_sum_27 : decode cX7_sum 27 = .ok (.iinc 4 1, 3) := by decide +kernel
theorem dX7_sum_30 : decode cX7_sum 30 = .ok (.goto (-20), 3) := by decide +kernel
theorem dX7_sum_33 : decode cX7_sum 33 = .ok (.iload_n 1, 1) := by decide +kernel
theorem dX7_sum_34 : decode cX7_sum 34 = .ok (.ireturn, 1) := by decide +kernel
theorem dX7_commonDivisor_0 : decode cX7_commonDivisor 0 = .ok (.iload_n 0, 1) := by decide +kernel
theorem dX7_commonDivisor_1 : decode cX7_commonDivisor 1 = .ok (.iload_n 1, 1) := by decide +kernel
theorem dX7_commonDivisor_2 : decode cX7_commonDivisor 2 = .ok (.invokestatic 221, 3) := by decide +kernel
theorem dX7_commonDivisor_5 : decode cX7_commonDivisor 5 = .ok (.istore_n 2, 1) := by decide +kernel
theorem dX7_commonDivisor_6 : decode cX7_commonDivisor 6 = .ok (.iload_n 2, 1) := by decide +kernel
theorem dX7_commonDivisor_7 : decode cX7_commonDivisor 7 = .ok (.iconst 1, 1) := by decide +kernel
theorem dX7_commonDivisor_8 : decode cX7_commonDivisor 8 = .ok (.if_icmp .le 23, 3) := by decide +kernel
theorem dX7_commonDivisor_11 : decode cX7_commonDivisor 11 = .ok (.iload_n 0, 1) := by decide +kernel
theorem dX7_commonDivisor_12 : decode cX7_commonDivisor 12 = .ok (.iload_n 2, 1) := by decide +kernel
theorem dX7_commonDivisor_13 : decode cX7_commonDivisor 13 = .ok (.irem, 1) := by decide +kernel
theorem dX7_commonDivisor_14 : decode cX7_commonDivisor 14 = .ok (.ifCond .ne 11, 3) := by decide +kernel
theorem dX7_commonDivisor_17 : decode cX7_commonDivisor 17 = .ok (.iload_n 1, 1) := by decide +kernel
theorem dX7_commonDivisor_18 : decode cX7_commonDivisor 18 = .ok (.iload_n 2, 1) := by decide +kernel
theorem dX7_commonDivisor_19 : decode cX7_commonDivisor 19 = .ok (.irem, 1) := by decide +kernel
theorem dX7_commonDivisor_20 : decode cX7_commonDivisor 20 = .ok (.ifCond .ne 5, 3) := by decide +kernel
theorem dX7_commonDivisor_23 : decode cX7_commonDivisor 23 = .ok (.iload_n 2, 1) := by decide +kernel
theorem dX7_commonDivisor_24 : decode cX7_commonDivisor 24 = .ok (.ireturn, 1) := by decide +kernel
theorem dX7_commonDivisor_25 : decode cX7_commonDivisor 25 = .ok (.iinc 2 (-1), 3) := by decide +kernel
theorem dX7_commonDivisor_28 : decode cX7_commonDivisor 28 = .ok (.goto (-22), 3) := by decide +kernel
theorem dX7_commonDivisor_31 : decode cX7_commonDivisor 31 = .ok (.iconst 1, 1) := by decide +kernel
theorem dX7_commonDivisor_32 : decode cX7_commonDivisor 32 = .ok (.ireturn, 1) := by decide +kernel
theorem dX7_power_0 : decode cX7_power 0 = .ok (.lconst 1, 1) := by decide +kernel
theorem dX7_power_1 : decode cX7_power 1 = .ok (.lstore_n 2, 1) := by decide +kernel
theorem dX7_power_2 : decode cX7_power 2 = .ok (.iconst 0, 1) := by decide +kernel
theorem dX7_power_3 : decode cX7_power 3 = .ok (.istore 4, 2) := by decide +kernel
theorem dX7_power_5 : decode cX7_power 5 = .ok (.iload 4, 2) := by decide +kernel
theorem dX7_power_7 : decode cX7_power 7 = .ok (.iload_n 1, 1) := by decide +kernel
theorem dX7_power_8 : decode cX7_power 8 = .ok (.if_icmp .ge 14, 3) := by decide +kernel
theorem dX7_power_11 : decode cX7_power 11 = .ok (.lload_n 2, 1) := by decide +kernel
theorem dX7_power_12 : decode cX7_power 12 = .ok (.iload_n 0, 1) := by decide +kernel
theorem dX7_power_13 : decode cX7_power 13 = .ok (.i2l, 1) := by decide +kernel
theorem dX7_power_14 : decode cX7_power 14 = .ok (.lmul, 1) := by decide +kernel
theorem dX7_power_15 : decode cX7_power 15 = .ok (.lstore_n 2, 1) := by decide +kernel
theorem dX7_power_16 : decode cX7_power 16 = .ok (.iinc 4 1, 3) := by decide +kernel
theorem dX7_power_19 : decode cX7_power 19 = .ok (.goto (-14), 3) := by decide +kernel
theorem dX7_power_22 : decode cX7_power 22 = .ok (.lload_n 2, 1) := by decide +kernel
theorem dX7_power_23 : decode cX7_power 23 = .ok (.lreturn, 1) := by decide +kernel
theorem dX8_init_0 : decode cX8_init 0 = .ok (.aload_n 0, 1) := by decide +kernel
theorem dX8_init_1 : decode cX8_init 1 = .ok (.invokespecial 1, 3) := by decide +kernel
theorem dX8_init_4 : decode cX8_init 4 = .ok (.aload_n 0, 1) := by decide +kernel
theorem dX8_init_5 : decode cX8_init 5 = .ok (.bipush 56, 2) := by decide +kernel
theorem dX8_init_7 : decode cX8_init 7 = .ok (.newarray .int, 2) := by decide +kernel
theorem dX8_init_9 : decode cX8_init 9 = .ok (.putfield 9, 3) := by decide +kernel
theorem dX8_init_12 : decode cX8_init 12 = .ok (.aload_n 0, 1) := by decide +kernel
theorem dX8_init_13 : decode cX8_init 13 = .ok (.bipush 56, 2) := by decide +kernel
theorem dX8_init_15 : decode cX8_init 15 = .ok (.newarray .int, 2) := by decide +kernel
theorem dX8_init_17 : decode cX8_init 17 = .ok (.putfield 13, 3) := by decide +kernel
theorem dX8_init_20 : decode cX8_init 20 = .ok (.aload_n 0, 1) := by decide +kernel
theorem dX8_init_21 : decode cX8_init 21 = .ok (.bipush 56, 2) := by decide +kernel
theorem dX8_init_23 : decode cX8_init 23 = .ok (.newarray .int, 2) := by decide +kernel
theorem dX8_init_25 : decode cX8_init 25 = .ok (.putfield 16, 3) := by decide +kernel
theorem dX8_init_28 : decode cX8_init 28 = .ok (.aload_n 0, 1) := by decide +kernel
theorem dX8_init_29 : decode cX8_init 29 = .ok (.bipush 8, 2) := by decide +kernel
theorem dX8_init_31 : decode cX8_init 31 = .ok (.newarray .int, 2) := by decide +kernel
theorem dX8_init_33 : decode cX8_init 33 = .ok (.putfield 19, 3) := by decide +kernel
theorem dX8_init_36 : decode cX8_init 36 = .ok (.aload_n 0, 1) := by decide +kernel
theorem dX8_init_37 : decode cX8_init 37 = .ok (.bipush 51, 2) := by decide +kernel
theorem dX8_init_39 : decode cX8_init 39 = .ok (.newarray .int, 2) := by decide +kernel
theorem dX8_init_41 : decode cX8_init 41 = .ok (.putfield 22, 3) := by decide +kernel
theorem dX8_init_44 : decode cX8_init 44 = .ok (.aload_n 0, 1) := by decide +kernel
theorem dX8_init_45 : decode cX8_init 45 = .ok (.sipush 256, 3) := by decide +kernel
theorem dX8_init_48 : decode cX8_init 48 = .ok (.newarray .int, 2) := by decide +kernel
theorem dX8_init_50 : decode cX8_init 50 = .ok (.putfield 25, 3) := by decide +kernel
theorem dX8_init_53 : decode cX8_init 53 = .ok (.aload_n 0, 1) := by decide +kernel
theorem dX8_init_54 : decode cX8_init 54 = .ok (.sipush 256, 3) := by decide +kernel
theorem dX8_init_57 : decode cX8_init 57 = .ok (.newarray .int, 2) := by decide +kernel
theorem dX8_init_59 : decode cX8_init 59 = .ok (.putfield 28, 3) := by decide +kernel
theorem dX8_init_62 : decode cX8_init 62 = .ok (.aload_n 0, 1) := by decide +kernel
theorem dX8_init_63 : decode cX8_init 63 = .ok (.bipush 8, 2) := by decide +kernel
theorem dX8_init_65 : decode cX8_init 65 = .ok (.newarray .int, 2) := by decide +kernel
theorem dX8_init_67 : decode cX8_init 67 = .ok (.putfield 31, 3) := by decide +kernel
theorem dX8_init_70 : decode cX8_init 70 = .ok (.aload_n 0, 1) := by decide +kernel
theorem dX8_init_71 : decode cX8_init 71 = .ok (.bipush 120, 2) := by decide +kernel
theorem dX8_init_73 : decode cX8_init 73 = .ok (.newarray .int, 2) := by decide +kernel
theorem dX8_init_75 : decode cX8_init 75 = .ok (.putfield 34, 3) := by decide +kernel
theorem dX8_init_78 : decode cX8_init 78 = .ok (.aload_n 0, 1) := by decide +kernel
theorem dX8_init_79 : decode cX8_init 79 = .ok (.bipush 7, 2) := by decide +kernel
theorem dX8_init_81 : decode cX8_init 81 = .ok (.anewarray 37, 3) := by decide +kernel
theorem dX8_init_84 : decode cX8_init 84 = .ok (.dup, 1) := by decide +kernel
theorem dX8_init_85 : decode cX8_init 85 = .ok (.iconst 0, 1) := by decide +kernel
theorem dX8_init_86 : decode cX8_init 86 = .ok (.ldc 39, 2) := by decide +kernel
theorem dX8_init_88 : decode cX8_init 88 = .ok (.aastore, 1) := by decide +kernel
theorem dX8_init_89 : decode cX8_init 89 = .ok (.dup, 1) := by decide +kernel
theorem dX8_init_90 : decode cX8_init 90 = .ok (.iconst 1, 1) := by decide +kernel
theorem dX8_init_91 : decode cX8_init 91 = .ok (.ldc 41, 2) := by decide +kernel
theorem dX8_init_93 : decode cX8_init 93 = .ok (.aastore, 1) := by decide +kernel
theorem dX8_init_94 : decode cX8_init 94 = .ok (.dup, 1) := by decide +kernel
theorem dX8_init_95 : decode cX8_init 95 = .ok (.iconst 2, 1) := by decide +kernel
theorem dX8_init_96 : decode cX8_init 96 = .ok (.ldc 43, 2) := by decide +kernel
theorem dX8_init_98 : decode cX8_init 98 = .ok (.aastore, 1) := by decide +kernel
theorem dX8_init_99 : decode cX8_init 99 = .ok (.dup, 1) := by decide +kernel
theorem dX8_init_100 : decode cX8_init 100 = .ok (.iconst 3, 1) := by decide +kernel
theorem dX8_init_101 : decode cX8_init 101 = .ok (.ldc 45, 2) := by decide +kernel
theorem dX8_init_103 : decode cX8_init 103 = .ok (.aastore, 1) := by decide +kernel
theorem dX8_init_104 : decode cX8_init 104 = .ok (.dup, 1) := by decide +kernel
theorem dX8_init_105 : decode cX8_init 105 = .ok (.iconst 4, 1) := by decide +kernel
theorem dX8_init_106 : decode cX8_init 106 = .ok (.ldc 47, 2) := by decide +kernel
theorem dX8_init_108 : decode cX8_init 108 = .ok (.aastore, 1) := by decide +kernel
theorem dX8_init_109 : decode cX8_init 109 = .ok (.dup, 1) := by decide +kernel
theorem dX8_init_110 : decode cX8_init 110 = .ok (.iconst 5, 1) := by decide +kernel
theorem dX8_init_111 : decode cX8_init 111 = .ok (.ldc 49, 2) := by decide +kernel
theorem dX8_init_113 : decode cX8_init 113 = .ok (.aastore, 1) := by decide +kernel
theorem dX8_init_114 : decode cX8_init 114 = .ok (.dup, 1) := by decide +kernel
theorem dX8_init_115 : decode cX8_init 115 = .ok (.bipush 6, 2) := by decide +kernel
theorem dX8_init_117 : decode cX8_init 117 = .ok (.ldc 51, 2) := by decide +kernel
theorem dX8_init_119 : decode cX8_init 119 = .ok (.aastore, 1) := by decide +kernel
theorem dX8_init_120 : decode cX8_init 120 = .ok (.putfield 53, 3) := by decide +kernel
theorem dX8_init_123 : decode cX8_init 123 = .ok (.aload_n 0, 1) := by decide +kernel
theorem dX8_init_124 : decode cX8_init 124 = .ok (.sipush 480, 3) := by decide +kernel
theorem dX8_init_127 : decode cX8_init 127 = .ok (.newarray .int, 2) := by decide +kernel
theorem dX8_init_129 : decode cX8_init 129 = .ok (.putfield 57, 3) := by decide +kernel
theorem dX8_init_132 : decode cX8_init 132 = .ok (.aload_n 0, 1) := by decide +kernel
theorem dX8_init_133 : decode cX8_init 133 = .ok (.iconst 4, 1) := by decide +kernel
theorem dX8_init_134 : decode cX8_init 134 = .ok (.newarray .int, 2) := by decide +kernel
theorem dX8_init_136 : decode cX8_init 136 = .ok (.putfield 60, 3) := by decide +kernel
theorem dX8_init_139 : decode cX8_init 139 = .ok (.aload_n 0, 1) := by decide +kernel
theorem dX8_init_140 : decode cX8_init 140 = .ok (.iconst 4, 1) := by decide +kernel
theorem dX8_init_141 : decode cX8_init 141 = .ok (.newarray .int, 2) := by decide +kernel
theorem dX8_init_143 : decode cX8_init 143 = .ok (.putfield 63, 3) := by decide +kernel
theorem dX8_init_146 : decode cX8_init 146 = .ok (.aload_n 0, 1) := by decide +kernel
theorem dX8_init_147 : decode cX8_init 147 = .ok (.sipush 160, 3) := by decide +kernel
theorem dX8_init_150 : decode cX8_init 150 = .ok (.newarray .int, 2) := by decide +kernel
theorem dX8_init_152 : decode cX8_init 152 = .ok (.putfield 66, 3) := by decide +kernel
theorem dX8_init_155 : decode cX8_init 155 = .ok (.aload_n 0, 1) := by decide +kernel
theorem dX8_init_156 : decode cX8_init 156 = .ok (.bipush 40, 2) := by decide +kernel
theorem dX8_init_158 : decode cX8_init 158 = .ok (.newarray .int, 2) := by decide +kernel
theorem dX8_init_160 : decode cX8_init 160 = .ok (.putfield 69, 3) := by decide +kernel
theorem dX8_init_163 : decode cX8_init 163 = .ok (.aload_n 0, 1) := by decide +kernel
theorem dX8_init_164 : decode cX8_init 164 = .ok (.getfield 9, 3) := by decide +kernel
theorem dX8_init_167 : decode cX8_init 167 = .ok (.iconst 3, 1) := by decide +kernel
theorem dX8_init_168 : decode cX8_init 168 = .ok (.ldc 72, 2) := by decide +kernel
theorem dX8_init_170 : decode cX8_init 170 = .ok (.iastore, 1) := by decide +kernel
theorem dX8_init_171 : decode cX8_init 171 = .ok (.aload_n 0, 1) := by decide +kernel
theorem dX8_init_172 : decode cX8_init 172 = .ok (.getfield 9, 3) := by decide +kernel
theorem dX8_init_175 : decode cX8_init 175 = .ok (.iconst 5, 1) := by decide +kernel
theorem dX8_init_176 : decode cX8_init 176 = .ok (.iconst 1, 1) := by decide +kernel
theorem dX8_init_177 : decode cX8_init 177 = .ok (.iastore, 1) := by decide +kernel
theorem dX8_init_178 : decode cX8_init 178 = .ok (.iconst 0, 1) := by decide +kernel
theorem dX8_init_179 : decode cX8_init 179 = .ok (.istore_n 1, 1) := by decide +kernel
theorem dX8_init_180 : decode cX8_init 180 = .ok (.iload_n 1, 1) := by decide +kernel
theorem dX8_init_181 : decode cX8_init 181 = .ok (.bipush 10, 2) := by decide +kernel
theorem dX8_init_183 : decode cX8_init 183 = .ok (.if_icmp .ge 19, 3) := by decide +kernel
theorem dX8_init_186 : decode cX8_init 186 = .ok (.aload_n 0, 1) := by decide +kernel
theorem dX8_init_187 : decode cX8_init 187 = .ok (.getfield 9, 3) := by decide +kernel
theorem dX8_init_190 : decode cX8_init 190 = .ok (.bipush 6, 2) := by decide +kernel
theorem dX8_init_192 : decode cX8_init 192 = .ok (.iload_n 1, 1) := by decide +kernel
theorem dX8_init_193 : decode cX8_init 193 = .ok (.iadd, 1) := by decide +kernel
theorem dX8_init_194 : decode cX8_init 194 = .ok (.iconst (-1), 1) := by decide +kernel
theorem dX8_init_195 : decode cX8_init 195 = .ok (.iastore, 1) := by decide +kernel
theorem dX8_init_196 : decode cX8_init 196 = .ok (.iinc 1 1, 3) := by decide +kernel
theorem dX8_init_199 : decode cX8_init 199 = .ok (.goto (-19), 3) := by decide +kernel
theorem dX8_init_202 : decode cX8_init 202 = .ok (.return_, 1) := by decide +kernel
theorem dX8_finding_0 : decode cX8_finding 0 = .ok (.aload_n 0, 1) := by decide +kernel
theorem dX8_finding_1 : decode cX8_finding 1 = .ok (.getfield 19, 3) := by decide +kernel
theorem dX8_finding_4 : decode cX8_finding 4 = .ok (.ldc 73, 2) := by decide +kernel
theorem dX8_finding_6 : decode cX8_finding 6 = .ok (.iload_n 1, 1) := by decide +kernel
theorem dX8_finding_7 : decode cX8_finding 7 = .ok (.isub, 1) := by decide +kernel
theorem dX8_finding_8 : decode cX8_finding 8 = .ok (.iconst 1, 1) := by decide +kernel
theorem dX8_finding_9 : decode cX8_finding 9 = .ok (.iadd, 1) := by decide +kernel
theorem dX8_finding_10 : decode cX8_finding 10 = .ok (.dup2, 1) := by decide +kernel
theorem dX8_finding_11 : decode cX8_finding 11 = .ok (.iaload, 1) := by decide +kernel
theorem dX8_finding_12 : decode cX8_finding 12 = .ok (.iconst 1, 1) := by decide +kernel
theorem dX8_finding_13 : decode cX8_finding 13 = .ok (.iadd, 1) := by decide +kernel
theorem dX8_finding_14 : decode cX8_finding 14 = .ok (.iastore, 1) := by decide +kernel
theorem dX8_finding_15 : decode cX8_finding 15 = .ok (.aload_n 0, 1) := by decide +kernel
theorem dX8_finding_16 : decode cX8_finding 16 = .ok (.getfield 19, 3) := by decide +kernel
theorem dX8_finding_19 : decode cX8_finding 19 = .ok (.iconst 0, 1) := by decide +kernel
theorem dX8_finding_20 : decode cX8_finding 20 = .ok (.dup2, 1) := by decide +kernel
theorem dX8_finding_21 : decode cX8_finding 21 = .ok (.iaload, 1) := by decide +kernel
theorem dX8_finding_22 : decode cX8_finding 22 = .ok (.iconst 1, 1) := by decide +kernel
theorem dX8_finding_23 : decode cX8_finding 23 = .ok (.iadd, 1) := by decide +kernel
theorem dX8_finding_24 : decode cX8_finding 24 = .ok (.iastore, 1) := by decide +kernel
theorem dX8_finding_25 : decode cX8_finding 25 = .ok (.iload_n 1, 1) := by decide +kernel
theorem dX8_finding_26 : decode cX8_finding 26 = .ok (.ireturn, 1) := by decide +kernel
theorem dX8_within_0 : decode cX8_within 0 = .ok (.iload_n 0, 1) := by decide +kernel
theorem dX8_within_1 : decode cX8_within 1 = .ok (.iload_n 1, 1) := by decide +kernel
theorem dX8_within_2 : decode cX8_within 2 = .ok (.if_icmp .lt 12, 3) := by decide +kernel
theorem dX8_within_5 : decode cX8_within 5 = .ok (.iload_n 0, 1) := by decide +kernel
theorem dX8_within_6 : decode cX8_within 6 = .ok (.iload_n 2, 1) := by decide +kernel
theorem dX8_within_7 : decode cX8_within 7 = .ok (.if_icmp .gt 7, 3) := by decide +kernel
theorem dX8_within_10 : decode cX8_within 10 = .ok (.iconst 1, 1) := by decide +kernel
theorem dX8_within_11 : decode cX8_within 11 = .ok (.goto 4, 3) := by decide +kernel
theorem dX8_within_14 : decode cX8_within 14 = .ok (.iconst 0, 1) := by decide +kernel
theorem dX8_within_15 : decode cX8_within 15 = .ok (.ireturn, 1) := by decide +kernel
theorem dX8_become_0 : decode cX8_become 0 = .ok (.aload_n 0, 1) := by decide +kernel
theorem dX8_become_1 : decode cX8_become 1 = .ok (.getfield 9, 3) := by decide +kernel
theorem dX8_become_4 : decode cX8_become 4 = .ok (.iload_n 1, 1) := by decide +kernel
theorem dX8_become_5 : decode cX8_become 5 = .ok (.iaload, 1) := by decide +kernel
theorem dX8_become_6 : decode cX8_become 6 = .ok (.istore_n 3, 1) := by decide +kernel
theorem dX8_become_7 : decode cX8_become 7 = .ok (.aload_n 0, 1) := by decide +kernel
theorem dX8_become_8 : decode cX8_become 8 = .ok (.getfield 9, 3) := by decide +kernel
theorem dX8_become_11 : decode cX8_become 11 = .ok (.iload_n 1, 1) := by decide +kernel
theorem dX8_become_12 : decode cX8_become 12 = .ok (.iload_n 2, 1) := by decide +kernel
theorem dX8_become_13 : decode cX8_become 13 = .ok (.iastore, 1) := by decide +kernel
theorem dX8_become_14 : decode cX8_become 14 = .ok (.iload_n 3, 1) := by decide +kernel
theorem dX8_become_15 : decode cX8_become 15 = .ok (.ireturn, 1) := by decide +kernel
theorem dX8_copyRow_0 : decode cX8_copyRow 0 = .ok (.iconst 0, 1) := by decide +kernel
theorem dX8_copyRow_1 : decode cX8_copyRow 1 = .ok (.istore_n 2, 1) := by decide +kernel
theorem dX8_copyRow_2 : decode cX8_copyRow 2 = .ok (.iload_n 2, 1) := by decide +kernel
theorem dX8_copyRow_3 : decode cX8_copyRow 3 = .ok (.bipush 56, 2) := by decide +kernel
theorem dX8_copyRow_5 : decode cX8_copyRow 5 = .ok (.if_icmp .ge 15, 3) := by decide +kernel
theorem dX8_copyRow_8 : decode cX8_copyRow 8 = .ok (.aload_n 1, 1) := by decide +kernel
theorem dX8_copyRow_9 : decode cX8_copyRow 9 = .ok (.iload_n 2, 1) := by decide +kernel
theorem dX8_copyRow_10 : decode cX8_copyRow 10 = .ok (.aload_n 0, 1) := by decide +kernel
theorem dX8_copyRow_11 : decode cX8_copyRow 11 = .ok (.iload_n 2, 1) := by decide +kernel
theorem dX8_copyRow_12 : decode cX8_copyRow 12 = .ok (.iaload, 1) := by decide +kernel
theorem dX8_copyRow_13 : decode cX8_copyRow 13 = .ok (.iastore, 1) := by decide +kernel
theorem dX8_copyRow_14 : decode cX8_copyRow 14 = .ok (.iinc 2 1, 3) := by decide +kernel
theorem dX8_copyRow_17 : decode cX8_copyRow 17 = .ok (.goto (-15), 3) := by decide +kernel
theorem dX8_copyRow_20 : decode cX8_copyRow 20 = .ok (.return_, 1) := by decide +kernel
set_option maxRecDepth 20000 in
theorem ggX8_putBack_X8_copyRow : GoodIn wsX8_putBack wsX8_copyRow := goodIn_r _ [6] (by decide +kernel) (by decide +kernel)
set_option maxRecDepth 20000 in
theorem gX8_putBack_X8_copyRow : GoodIn wsX8_putBack (va_wsS RX8 74 yX8_copyRow wsX8_copyRow) := goodIn_app (goodIn_of _ (by decide +kernel)) ggX8_putBack_X8_copyRow
theorem dX8_putBack_0 : decode cX8_putBack 0 = .ok (.aload_n 0, 1) := by decide +kernel
theorem dX8_putBack_1 : decode cX8_putBack 1 = .ok (.getfield 16, 3) := by decide +kernel
theorem dX8_putBack_4 : decode cX8_putBack 4 = .ok (.aload_n 0, 1) := by decide +kernel
theorem dX8_putBack_5 : decode cX8_putBack 5 = .ok (.getfield 9, 3) := by decide +kernel
theorem dX8_putBack_8 : decode cX8_putBack 8 = .ok (.invokestatic 74, 3) := by decide +kernel
theorem dX8_putBack_11 : decode cX8_putBack 11 = .ok (.iload_n 1, 1) := by decide +kernel
theorem dX8_putBack_12 : decode cX8_putBack 12 = .ok (.ireturn, 1) := by decide +kernel
theorem dX8_has_0 : decode cX8_has 0 = .ok (.iload_n 0, 1) := by decide +kernel
theorem dX8_has_1 : decode cX8_has 1 = .ok (.iload_n 1, 1) := by decide +kernel
theorem dX8_has_2 : decode cX8_has 2 = .ok (.ishr, 1) := by decide +kernel
theorem dX8_has_3 : decode cX8_has 3 = .ok (.iconst 1, 1) := by decide +kernel
theorem dX8_has_4 : decode cX8_has 4 = .ok (.iand, 1) := by decide +kernel
theorem dX8_has_5 : decode cX8_has 5 = .ok (.iconst 1, 1) := by decide +kernel
theorem dX8_has_6 : decode cX8_has 6 = .ok (.if_icmp .ne 7, 3) := by decide +kernel
theorem dX8_has_9 : decode cX8_has 9 = .ok (.iconst 1, 1) := by decide +kernel
theorem dX8_has_10 : decode cX8_has 10 = .ok (.goto 4, 3) := by decide +kernel
theorem dX8_has_13 : decode cX8_has 13 = .ok (.iconst 0, 1) := by decide +kernel
theorem dX8_has_14 : decode cX8_has 14 = .ok (.ireturn, 1) := by decide +kernel
theorem dX8_bits_0 : decode cX8_bits 0 = .ok (.iconst 0, 1) := by decide +kernel
theorem dX8_bits_1 : decode cX8_bits 1 = .ok (.istore_n 1, 1) := by decide +kernel
theorem dX8_bits_2 : decode cX8_bits 2 = .ok (.iload_n 0, 1) := by decide +kernel
theorem dX8_bits_3 : decode cX8_bits 3 = .ok (.istore_n 2, 1) := by decide +kernel
theorem dX8_bits_4 : decode cX8_bits 4 = .ok (.iload_n 2, 1) := by decide +kernel
theorem dX8_bits_5 : decode cX8_bits 5 = .ok (.ifCond .eq 15, 3) := by decide +kernel
theorem dX8_bits_8 : decode cX8_bits 8 = .ok (.iinc 1 1, 3) := by decide +kernel
theorem dX8_bits_11 : decode cX8_bits 11 = .ok (.iload_n 2, 1) := by decide +kernel
theorem dX8_bits_12 : decode cX8_bits 12 = .ok (.iload_n 2, 1) := by decide +kernel
