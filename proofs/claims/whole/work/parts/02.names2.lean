theorem dX0_init_0 : decode cX0_init 0 = .ok (.aload_n 0, 1) := by decide +kernel
theorem dX0_init_1 : decode cX0_init 1 = .ok (.invokespecial 3, 3) := by decide +kernel
theorem dX0_init_4 : decode cX0_init 4 = .ok (.aload_n 0, 1) := by decide +kernel
theorem dX0_init_5 : decode cX0_init 5 = .ok (.iconst 2, 1) := by decide +kernel
theorem dX0_init_6 : decode cX0_init 6 = .ok (.newarray .int, 2) := by decide +kernel
theorem dX0_init_8 : decode cX0_init 8 = .ok (.putfield 9, 3) := by decide +kernel
theorem dX0_init_11 : decode cX0_init 11 = .ok (.aload_n 0, 1) := by decide +kernel
theorem dX0_init_12 : decode cX0_init 12 = .ok (.iconst 2, 1) := by decide +kernel
theorem dX0_init_13 : decode cX0_init 13 = .ok (.newarray .int, 2) := by decide +kernel
theorem dX0_init_15 : decode cX0_init 15 = .ok (.putfield 15, 3) := by decide +kernel
theorem dX0_init_18 : decode cX0_init 18 = .ok (.aload_n 0, 1) := by decide +kernel
theorem dX0_init_19 : decode cX0_init 19 = .ok (.iconst 2, 1) := by decide +kernel
theorem dX0_init_20 : decode cX0_init 20 = .ok (.newarray .int, 2) := by decide +kernel
theorem dX0_init_22 : decode cX0_init 22 = .ok (.putfield 18, 3) := by decide +kernel
theorem dX0_init_25 : decode cX0_init 25 = .ok (.aload_n 0, 1) := by decide +kernel
theorem dX0_init_26 : decode cX0_init 26 = .ok (.bipush 34, 2) := by decide +kernel
theorem dX0_init_28 : decode cX0_init 28 = .ok (.newarray .int, 2) := by decide +kernel
theorem dX0_init_30 : decode cX0_init 30 = .ok (.putfield 21, 3) := by decide +kernel
theorem dX0_init_33 : decode cX0_init 33 = .ok (.aload_n 0, 1) := by decide +kernel
theorem dX0_init_34 : decode cX0_init 34 = .ok (.iconst 0, 1) := by decide +kernel
theorem dX0_init_35 : decode cX0_init 35 = .ok (.putfield 24, 3) := by decide +kernel
theorem dX0_init_38 : decode cX0_init 38 = .ok (.aload_n 0, 1) := by decide +kernel
theorem dX0_init_39 : decode cX0_init 39 = .ok (.iconst 0, 1) := by decide +kernel
theorem dX0_init_40 : decode cX0_init 40 = .ok (.putfield 28, 3) := by decide +kernel
theorem dX0_init_43 : decode cX0_init 43 = .ok (.return_, 1) := by decide +kernel
set_option maxRecDepth 20000 in
theorem ggX0_make_X1_areTwo : GoodIn wsX0_make wsX1_areTwo := goodIn_r _ [18, 19, 20, 21, 17, 22, 23, 54, 55, 56, 57, 58, 59, 60, 61, 62, 63, 64, 65] (by decide +kernel) (by decide +kernel)
set_option maxRecDepth 20000 in
theorem gX0_make_X1_areTwo : GoodIn wsX0_make (wsV RX0 31 RX1 yX1_areTwo wsX1_areTwo) := goodIn_app (goodIn_of _ (by decide +kernel)) ggX0_make_X1_areTwo
set_option maxRecDepth 20000 in
theorem ggX0_make_X1_hoursLeft : GoodIn wsX0_make wsX1_hoursLeft := goodIn_r _ [27, 28, 29, 54, 55, 56, 57, 58, 59, 60, 61, 62, 63, 64, 65] (by decide +kernel) (by decide +kernel)
set_option maxRecDepth 20000 in
theorem gX0_make_X1_hoursLeft : GoodIn wsX0_make (wsV RX0 47 RX1 yX1_hoursLeft wsX1_hoursLeft) := goodIn_app (goodIn_of _ (by decide +kernel)) ggX0_make_X1_hoursLeft
set_option maxRecDepth 20000 in
theorem ggX0_make_X0_weighBehind : GoodIn wsX0_make wsX0_weighBehind := goodIn_r _ [34, 35, 12, 6, 7, 4, 8, 36, 37, 38, 33, 39, 9, 40, 41, 42, 48, 49, 50, 51, 52, 53] (by decide +kernel) (by decide +kernel)
set_option maxRecDepth 20000 in
theorem gX0_make_X0_weighBehind : GoodIn wsX0_make (wsV RX0 54 RX0 yX0_weighBehind wsX0_weighBehind) := goodIn_app (goodIn_of _ (by decide +kernel)) ggX0_make_X0_weighBehind
set_option maxRecDepth 20000 in
theorem ggX0_make_X0_choose : GoodIn wsX0_make wsX0_choose := goodIn_r _ [46, 47, 12, 40, 41, 42, 36, 37, 38, 33, 39, 9, 35, 48, 49, 50, 51, 52, 53] (by decide +kernel) (by decide +kernel)
set_option maxRecDepth 20000 in
theorem gX0_make_X0_choose : GoodIn wsX0_make (wsV RX0 57 RX0 yX0_choose wsX0_choose) := goodIn_app (goodIn_of _ (by decide +kernel)) ggX0_make_X0_choose
theorem dX0_make_0 : decode cX0_make 0 = .ok (.aload_n 1, 1) := by decide +kernel
theorem dX0_make_1 : decode cX0_make 1 = .ok (.iload_n 2, 1) := by decide +kernel
theorem dX0_make_2 : decode cX0_make 2 = .ok (.iload_n 3, 1) := by decide +kernel
theorem dX0_make_3 : decode cX0_make 3 = .ok (.invokevirtual 31, 3) := by decide +kernel
theorem dX0_make_6 : decode cX0_make 6 = .ok (.ifCond .ne 4, 3) := by decide +kernel
theorem dX0_make_9 : decode cX0_make 9 = .ok (.return_, 1) := by decide +kernel
theorem dX0_make_10 : decode cX0_make 10 = .ok (.aload_n 0, 1) := by decide +kernel
theorem dX0_make_11 : decode cX0_make 11 = .ok (.getfield 9, 3) := by decide +kernel
theorem dX0_make_14 : decode cX0_make 14 = .ok (.iconst 0, 1) := by decide +kernel
theorem dX0_make_15 : decode cX0_make 15 = .ok (.iload_n 2, 1) := by decide +kernel
theorem dX0_make_16 : decode cX0_make 16 = .ok (.iload_n 3, 1) := by decide +kernel
theorem dX0_make_17 : decode cX0_make 17 = .ok (.invokestatic 37, 3) := by decide +kernel
theorem dX0_make_20 : decode cX0_make 20 = .ok (.iastore, 1) := by decide +kernel
theorem dX0_make_21 : decode cX0_make 21 = .ok (.aload_n 0, 1) := by decide +kernel
theorem dX0_make_22 : decode cX0_make 22 = .ok (.getfield 9, 3) := by decide +kernel
theorem dX0_make_25 : decode cX0_make 25 = .ok (.iconst 1, 1) := by decide +kernel
theorem dX0_make_26 : decode cX0_make 26 = .ok (.iload_n 2, 1) := by decide +kernel
theorem dX0_make_27 : decode cX0_make 27 = .ok (.iload_n 3, 1) := by decide +kernel
theorem dX0_make_28 : decode cX0_make 28 = .ok (.invokestatic 43, 3) := by decide +kernel
theorem dX0_make_31 : decode cX0_make 31 = .ok (.iastore, 1) := by decide +kernel
theorem dX0_make_32 : decode cX0_make 32 = .ok (.aload_n 0, 1) := by decide +kernel
theorem dX0_make_33 : decode cX0_make 33 = .ok (.getfield 15, 3) := by decide +kernel
theorem dX0_make_36 : decode cX0_make 36 = .ok (.iconst 0, 1) := by decide +kernel
theorem dX0_make_37 : decode cX0_make 37 = .ok (.aload_n 1, 1) := by decide +kernel
theorem dX0_make_38 : decode cX0_make 38 = .ok (.getfield 46, 3) := by decide +kernel
theorem dX0_make_41 : decode cX0_make 41 = .ok (.aload_n 0, 1) := by decide +kernel
theorem dX0_make_42 : decode cX0_make 42 = .ok (.getfield 9, 3) := by decide +kernel
theorem dX0_make_45 : decode cX0_make 45 = .ok (.iconst 0, 1) := by decide +kernel
theorem dX0_make_46 : decode cX0_make 46 = .ok (.iaload, 1) := by decide +kernel
theorem dX0_make_47 : decode cX0_make 47 = .ok (.iaload, 1) := by decide +kernel
theorem dX0_make_48 : decode cX0_make 48 = .ok (.iastore, 1) := by decide +kernel
theorem dX0_make_49 : decode cX0_make 49 = .ok (.aload_n 0, 1) := by decide +kernel
theorem dX0_make_50 : decode cX0_make 50 = .ok (.getfield 15, 3) := by decide +kernel
theorem dX0_make_53 : decode cX0_make 53 = .ok (.iconst 1, 1) := by decide +kernel
theorem dX0_make_54 : decode cX0_make 54 = .ok (.aload_n 1, 1) := by decide +kernel
theorem dX0_make_55 : decode cX0_make 55 = .ok (.getfield 46, 3) := by decide +kernel
theorem dX0_make_58 : decode cX0_make 58 = .ok (.aload_n 0, 1) := by decide +kernel
theorem dX0_make_59 : decode cX0_make 59 = .ok (.getfield 9, 3) := by decide +kernel
theorem dX0_make_62 : decode cX0_make 62 = .ok (.iconst 1, 1) := by decide +kernel
theorem dX0_make_63 : decode cX0_make 63 = .ok (.iaload, 1) := by decide +kernel
theorem dX0_make_64 : decode cX0_make 64 = .ok (.iaload, 1) := by decide +kernel
theorem dX0_make_65 : decode cX0_make 65 = .ok (.iastore, 1) := by decide +kernel
theorem dX0_make_66 : decode cX0_make 66 = .ok (.aload_n 0, 1) := by decide +kernel
theorem dX0_make_67 : decode cX0_make 67 = .ok (.aload_n 1, 1) := by decide +kernel
theorem dX0_make_68 : decode cX0_make 68 = .ok (.invokevirtual 47, 3) := by decide +kernel
theorem dX0_make_71 : decode cX0_make 71 = .ok (.aload_n 1, 1) := by decide +kernel
theorem dX0_make_72 : decode cX0_make 72 = .ok (.getfield 51, 3) := by decide +kernel
theorem dX0_make_75 : decode cX0_make 75 = .ok (.iand, 1) := by decide +kernel
theorem dX0_make_76 : decode cX0_make 76 = .ok (.putfield 24, 3) := by decide +kernel
theorem dX0_make_79 : decode cX0_make 79 = .ok (.aload_n 0, 1) := by decide +kernel
theorem dX0_make_80 : decode cX0_make 80 = .ok (.aload_n 1, 1) := by decide +kernel
theorem dX0_make_81 : decode cX0_make 81 = .ok (.invokevirtual 47, 3) := by decide +kernel
theorem dX0_make_84 : decode cX0_make 84 = .ok (.aload_n 1, 1) := by decide +kernel
theorem dX0_make_85 : decode cX0_make 85 = .ok (.getfield 51, 3) := by decide +kernel
theorem dX0_make_88 : decode cX0_make 88 = .ok (.iconst (-1), 1) := by decide +kernel
theorem dX0_make_89 : decode cX0_make 89 = .ok (.ixor, 1) := by decide +kernel
theorem dX0_make_90 : decode cX0_make 90 = .ok (.iand, 1) := by decide +kernel
theorem dX0_make_91 : decode cX0_make 91 = .ok (.putfield 28, 3) := by decide +kernel
theorem dX0_make_94 : decode cX0_make 94 = .ok (.aload_n 0, 1) := by decide +kernel
theorem dX0_make_95 : decode cX0_make 95 = .ok (.invokevirtual 54, 3) := by decide +kernel
theorem dX0_make_98 : decode cX0_make 98 = .ok (.aload_n 0, 1) := by decide +kernel
theorem dX0_make_99 : decode cX0_make 99 = .ok (.invokevirtual 57, 3) := by decide +kernel
theorem dX0_make_102 : decode cX0_make 102 = .ok (.return_, 1) := by decide +kernel
set_option maxRecDepth 20000 in
theorem ggX0_weighBehind_X0_worthOf : GoodIn wsX0_weighBehind wsX0_worthOf := goodIn_r _ [11, 12, 1, 13, 14, 15, 16, 17, 18, 19, 20, 21] (by decide +kernel) (by decide +kernel)
set_option maxRecDepth 20000 in
theorem gX0_weighBehind_X0_worthOf : GoodIn wsX0_weighBehind (wsV RX0 60 RX0 yX0_worthOf wsX0_worthOf) := goodIn_app (goodIn_of _ (by decide +kernel)) ggX0_weighBehind_X0_worthOf
set_option maxRecDepth 20000 in
theorem ggX0_weighBehind_X7_bit : GoodIn wsX0_weighBehind wsX7_bit := goodIn_r _ [15] (by decide +kernel) (by decide +kernel)
set_option maxRecDepth 20000 in
theorem gX0_weighBehind_X7_bit_n63 : GoodIn wsX0_weighBehind (wsX7_bit) := ggX0_weighBehind_X7_bit
theorem dX0_weighBehind_0 : decode cX0_weighBehind 0 = .ok (.aload_n 0, 1) := by decide +kernel
theorem dX0_weighBehind_1 : decode cX0_weighBehind 1 = .ok (.getfield 21, 3) := by decide +kernel
theorem dX0_weighBehind_4 : decode cX0_weighBehind 4 = .ok (.bipush 32, 2) := by decide +kernel
theorem dX0_weighBehind_6 : decode cX0_weighBehind 6 = .ok (.iconst 0, 1) := by decide +kernel
theorem dX0_weighBehind_7 : decode cX0_weighBehind 7 = .ok (.iastore, 1) := by decide +kernel
theorem dX0_weighBehind_8 : decode cX0_weighBehind 8 = .ok (.aload_n 0, 1) := by decide +kernel
theorem dX0_weighBehind_9 : decode cX0_weighBehind 9 = .ok (.getfield 21, 3) := by decide +kernel
theorem dX0_weighBehind_12 : decode cX0_weighBehind 12 = .ok (.bipush 33, 2) := by decide +kernel
theorem dX0_weighBehind_14 : decode cX0_weighBehind 14 = .ok (.iconst 0, 1) := by decide +kernel
theorem dX0_weighBehind_15 : decode cX0_weighBehind 15 = .ok (.iastore, 1) := by decide +kernel
theorem dX0_weighBehind_16 : decode cX0_weighBehind 16 = .ok (.bipush 15, 2) := by decide +kernel
theorem dX0_weighBehind_18 : decode cX0_weighBehind 18 = .ok (.istore_n 1, 1) := by decide +kernel
theorem dX0_weighBehind_19 : decode cX0_weighBehind 19 = .ok (.iload_n 1, 1) := by decide +kernel
theorem dX0_weighBehind_20 : decode cX0_weighBehind 20 = .ok (.ifCond .lt 84, 3) := by decide +kernel
theorem dX0_weighBehind_23 : decode cX0_weighBehind 23 = .ok (.iconst 0, 1) := by decide +kernel
theorem dX0_weighBehind_24 : decode cX0_weighBehind 24 = .ok (.istore_n 2, 1) := by decide +kernel
theorem dX0_weighBehind_25 : decode cX0_weighBehind 25 = .ok (.iload_n 2, 1) := by decide +kernel
theorem dX0_weighBehind_26 : decode cX0_weighBehind 26 = .ok (.iconst 2, 1) := by decide +kernel
theorem dX0_weighBehind_27 : decode cX0_weighBehind 27 = .ok (.if_icmp .ge 71, 3) := by decide +kernel
theorem dX0_weighBehind_30 : decode cX0_weighBehind 30 = .ok (.aload_n 0, 1) := by decide +kernel
theorem dX0_weighBehind_31 : decode cX0_weighBehind 31 = .ok (.iload_n 2, 1) := by decide +kernel
theorem dX0_weighBehind_32 : decode cX0_weighBehind 32 = .ok (.iload_n 1, 1) := by decide +kernel
theorem dX0_weighBehind_33 : decode cX0_weighBehind 33 = .ok (.invokevirtual 60, 3) := by decide +kernel
theorem dX0_weighBehind_36 : decode cX0_weighBehind 36 = .ok (.istore_n 3, 1) := by decide +kernel
theorem dX0_weighBehind_37 : decode cX0_weighBehind 37 = .ok (.aload_n 0, 1) := by decide +kernel
theorem dX0_weighBehind_38 : decode cX0_weighBehind 38 = .ok (.iconst 1, 1) := by decide +kernel
theorem dX0_weighBehind_39 : decode cX0_weighBehind 39 = .ok (.iload_n 2, 1) := by decide +kernel
theorem dX0_weighBehind_40 : decode cX0_weighBehind 40 = .ok (.isub, 1) := by decide +kernel
theorem dX0_weighBehind_41 : decode cX0_weighBehind 41 = .ok (.iload_n 1, 1) := by decide +kernel
theorem dX0_weighBehind_42 : decode cX0_weighBehind 42 = .ok (.invokevirtual 60, 3) := by decide +kernel
theorem dX0_weighBehind_45 : decode cX0_weighBehind 45 = .ok (.iconst 1, 1) := by decide +kernel
theorem dX0_weighBehind_46 : decode cX0_weighBehind 46 = .ok (.isub, 1) := by decide +kernel
theorem dX0_weighBehind_47 : decode cX0_weighBehind 47 = .ok (.istore 4, 2) := by decide +kernel
theorem dX0_weighBehind_49 : decode cX0_weighBehind 49 = .ok (.aload_n 0, 1) := by decide +kernel
theorem dX0_weighBehind_50 : decode cX0_weighBehind 50 = .ok (.getfield 21, 3) := by decide +kernel
theorem dX0_weighBehind_53 : decode cX0_weighBehind 53 = .ok (.iconst 2, 1) := by decide +kernel
theorem dX0_weighBehind_54 : decode cX0_weighBehind 54 = .ok (.iload_n 1, 1) := by decide +kernel
theorem dX0_weighBehind_55 : decode cX0_weighBehind 55 = .ok (.imul, 1) := by decide +kernel
theorem dX0_weighBehind_56 : decode cX0_weighBehind 56 = .ok (.iload_n 2, 1) := by decide +kernel
theorem dX0_weighBehind_57 : decode cX0_weighBehind 57 = .ok (.iadd, 1) := by decide +kernel
theorem dX0_weighBehind_58 : decode cX0_weighBehind 58 = .ok (.aload_n 0, 1) := by decide +kernel
theorem dX0_weighBehind_59 : decode cX0_weighBehind 59 = .ok (.getfield 24, 3) := by decide +kernel
theorem dX0_weighBehind_62 : decode cX0_weighBehind 62 = .ok (.iload_n 1, 1) := by decide +kernel
theorem dX0_weighBehind_63 : decode cX0_weighBehind 63 = .ok (.invokestatic 63, 3) := by decide +kernel
theorem dX0_weighBehind_66 : decode cX0_weighBehind 66 = .ok (.iconst 1, 1) := by decide +kernel
theorem dX0_weighBehind_67 : decode cX0_weighBehind 67 = .ok (.if_icmp .ne 12, 3) := by decide +kernel
theorem dX0_weighBehind_70 : decode cX0_weighBehind 70 = .ok (.iload_n 3, 1) := by decide +kernel
theorem dX0_weighBehind_71 : decode cX0_weighBehind 71 = .ok (.iload 4, 2) := by decide +kernel
theorem dX0_weighBehind_73 : decode cX0_weighBehind 73 = .ok (.invokestatic 43, 3) := by decide +kernel
theorem dX0_weighBehind_76 : decode cX0_weighBehind 76 = .ok (.goto 15, 3) := by decide +kernel
theorem dX0_weighBehind_79 : decode cX0_weighBehind 79 = .ok (.aload_n 0, 1) := by decide +kernel
theorem dX0_weighBehind_80 : decode cX0_weighBehind 80 = .ok (.getfield 21, 3) := by decide +kernel
theorem dX0_weighBehind_83 : decode cX0_weighBehind 83 = .ok (.iconst 2, 1) := by decide +kernel
theorem dX0_weighBehind_84 : decode cX0_weighBehind 84 = .ok (.iload_n 1, 1) := by decide +kernel
theorem dX0_weighBehind_85 : decode cX0_weighBehind 85 = .ok (.imul, 1) := by decide +kernel
theorem dX0_weighBehind_86 : decode cX0_weighBehind 86 = .ok (.iconst 2, 1) := by decide +kernel
theorem dX0_weighBehind_87 : decode cX0_weighBehind 87 = .ok (.iadd, 1) := by decide +kernel
theorem dX0_weighBehind_88 : decode cX0_weighBehind 88 = .ok (.iload_n 2, 1) := by decide +kernel
theorem dX0_weighBehind_89 : decode cX0_weighBehind 89 = .ok (.iadd, 1) := by decide +kernel
theorem dX0_weighBehind_90 : decode cX0_weighBehind 90 = .ok (.iaload, 1) := by decide +kernel
theorem dX0_weighBehind_91 : decode cX0_weighBehind 91 = .ok (.iastore, 1) := by decide +kernel
theorem dX0_weighBehind_92 : decode cX0_weighBehind 92 = .ok (.iinc 2 1, 3) := by decide +kernel
theorem dX0_weighBehind_95 : decode cX0_weighBehind 95 = .ok (.goto (-70), 3) := by decide +kernel
theorem dX0_weighBehind_98 : decode cX0_weighBehind 98 = .ok (.iinc 1 (-1), 3) := by decide +kernel
theorem dX0_weighBehind_101 : decode cX0_weighBehind 101 = .ok (.goto (-82), 3) := by decide +kernel
theorem dX0_weighBehind_104 : decode cX0_weighBehind 104 = .ok (.return_, 1) := by decide +kernel
set_option maxRecDepth 20000 in
theorem ggX0_worthOf_X7_bit : GoodIn wsX0_worthOf wsX7_bit := goodIn_r _ [5] (by decide +kernel) (by decide +kernel)
set_option maxRecDepth 20000 in
theorem gX0_worthOf_X7_bit_n63 : GoodIn wsX0_worthOf (wsX7_bit) := ggX0_worthOf_X7_bit
theorem dX0_worthOf_0 : decode cX0_worthOf 0 = .ok (.bipush 100, 2) := by decide +kernel
theorem dX0_worthOf_2 : decode cX0_worthOf 2 = .ok (.aload_n 0, 1) := by decide +kernel
theorem dX0_worthOf_3 : decode cX0_worthOf 3 = .ok (.getfield 15, 3) := by decide +kernel
theorem dX0_worthOf_6 : decode cX0_worthOf 6 = .ok (.iload_n 1, 1) := by decide +kernel
theorem dX0_worthOf_7 : decode cX0_worthOf 7 = .ok (.iaload, 1) := by decide +kernel
theorem dX0_worthOf_8 : decode cX0_worthOf 8 = .ok (.iload_n 2, 1) := by decide +kernel
theorem dX0_worthOf_9 : decode cX0_worthOf 9 = .ok (.invokestatic 63, 3) := by decide +kernel
theorem dX0_worthOf_12 : decode cX0_worthOf 12 = .ok (.imul, 1) := by decide +kernel
theorem dX0_worthOf_13 : decode cX0_worthOf 13 = .ok (.aload_n 0, 1) := by decide +kernel
theorem dX0_worthOf_14 : decode cX0_worthOf 14 = .ok (.getfield 21, 3) := by decide +kernel
theorem dX0_worthOf_17 : decode cX0_worthOf 17 = .ok (.iconst 2, 1) := by decide +kernel
theorem dX0_worthOf_18 : decode cX0_worthOf 18 = .ok (.iload_n 2, 1) := by decide +kernel
theorem dX0_worthOf_19 : decode cX0_worthOf 19 = .ok (.imul, 1) := by decide +kernel
theorem dX0_worthOf_20 : decode cX0_worthOf 20 = .ok (.iconst 2, 1) := by decide +kernel
theorem dX0_worthOf_21 : decode cX0_worthOf 21 = .ok (.iadd, 1) := by decide +kernel
theorem dX0_worthOf_22 : decode cX0_worthOf 22 = .ok (.iload_n 1, 1) := by decide +kernel
theorem dX0_worthOf_23 : decode cX0_worthOf 23 = .ok (.iadd, 1) := by decide +kernel
theorem dX0_worthOf_24 : decode cX0_worthOf 24 = .ok (.iaload, 1) := by decide +kernel
theorem dX0_worthOf_25 : decode cX0_worthOf 25 = .ok (.iadd, 1) := by decide +kernel
theorem dX0_worthOf_26 : decode cX0_worthOf 26 = .ok (.ireturn, 1) := by decide +kernel
set_option maxRecDepth 20000 in
theorem ggX0_choose_X7_bit : GoodIn wsX0_choose wsX7_bit := goodIn_r _ [5] (by decide +kernel) (by decide +kernel)
set_option maxRecDepth 20000 in
theorem gX0_choose_X7_bit_n63 : GoodIn wsX0_choose (wsX7_bit) := ggX0_choose_X7_bit
set_option maxRecDepth 20000 in
theorem ggX0_choose_X0_worthOf : GoodIn wsX0_choose wsX0_worthOf := goodIn_r _ [10, 11, 12, 3, 4, 5, 13, 14, 15, 16, 17, 18] (by decide +kernel) (by decide +kernel)
set_option maxRecDepth 20000 in
theorem gX0_choose_X0_worthOf : GoodIn wsX0_choose (wsV RX0 60 RX0 yX0_worthOf wsX0_worthOf) := goodIn_app (goodIn_of _ (by decide +kernel)) ggX0_choose_X0_worthOf
theorem dX0_choose_0 : decode cX0_choose 0 = .ok (.aload_n 0, 1) := by decide +kernel
theorem dX0_choose_1 : decode cX0_choose 1 = .ok (.getfield 18, 3) := by decide +kernel
theorem dX0_choose_4 : decode cX0_choose 4 = .ok (.iconst 0, 1) := by decide +kernel
theorem dX0_choose_5 : decode cX0_choose 5 = .ok (.iconst 0, 1) := by decide +kernel
theorem dX0_choose_6 : decode cX0_choose 6 = .ok (.iastore, 1) := by decide +kernel
theorem dX0_choose_7 : decode cX0_choose 7 = .ok (.aload_n 0, 1) := by decide +kernel
theorem dX0_choose_8 : decode cX0_choose 8 = .ok (.getfield 18, 3) := by decide +kernel
theorem dX0_choose_11 : decode cX0_choose 11 = .ok (.iconst 1, 1) := by decide +kernel
theorem dX0_choose_12 : decode cX0_choose 12 = .ok (.iconst 0, 1) := by decide +kernel
theorem dX0_choose_13 : decode cX0_choose 13 = .ok (.iastore, 1) := by decide +kernel
theorem dX0_choose_14 : decode cX0_choose 14 = .ok (.iconst (-1), 1) := by decide +kernel
theorem dX0_choose_15 : decode cX0_choose 15 = .ok (.istore_n 1, 1) := by decide +kernel
theorem dX0_choose_16 : decode cX0_choose 16 = .ok (.iconst 0, 1) := by decide +kernel
theorem dX0_choose_17 : decode cX0_choose 17 = .ok (.istore_n 2, 1) := by decide +kernel
theorem dX0_choose_18 : decode cX0_choose 18 = .ok (.iload_n 2, 1) := by decide +kernel
theorem dX0_choose_19 : decode cX0_choose 19 = .ok (.bipush 16, 2) := by decide +kernel
theorem dX0_choose_21 : decode cX0_choose 21 = .ok (.if_icmp .ge 81, 3) := by decide +kernel
theorem dX0_choose_24 : decode cX0_choose 24 = .ok (.aload_n 0, 1) := by decide +kernel
theorem dX0_choose_25 : decode cX0_choose 25 = .ok (.getfield 24, 3) := by decide +kernel
theorem dX0_choose_28 : decode cX0_choose 28 = .ok (.iload_n 2, 1) := by decide +kernel
theorem dX0_choose_29 : decode cX0_choose 29 = .ok (.invokestatic 63, 3) := by decide +kernel
theorem dX0_choose_32 : decode cX0_choose 32 = .ok (.iconst 1, 1) := by decide +kernel
theorem dX0_choose_33 : decode cX0_choose 33 = .ok (.if_icmp .ne 63, 3) := by decide +kernel
theorem dX0_choose_36 : decode cX0_choose 36 = .ok (.aload_n 0, 1) := by decide +kernel
theorem dX0_choose_37 : decode cX0_choose 37 = .ok (.iconst 0, 1) := by decide +kernel
theorem dX0_choose_38 : decode cX0_choose 38 = .ok (.iload_n 2, 1) := by decide +kernel
theorem dX0_choose_39 : decode cX0_choose 39 = .ok (.invokevirtual 60, 3) := by decide +kernel
theorem dX0_choose_42 : decode cX0_choose 42 = .ok (.iload_n 1, 1) := by decide +kernel
theorem dX0_choose_43 : decode cX0_choose 43 = .ok (.iconst 1, 1) := by decide +kernel
theorem dX0_choose_44 : decode cX0_choose 44 = .ok (.if_icmp .ne 7, 3) := by decide +kernel
theorem dX0_choose_47 : decode cX0_choose 47 = .ok (.iconst 1, 1) := by decide +kernel
theorem dX0_choose_48 : decode cX0_choose 48 = .ok (.goto 4, 3) := by decide +kernel
theorem dX0_choose_51 : decode cX0_choose 51 = .ok (.iconst 0, 1) := by decide +kernel
theorem dX0_choose_52 : decode cX0_choose 52 = .ok (.isub, 1) := by decide +kernel
theorem dX0_choose_53 : decode cX0_choose 53 = .ok (.istore_n 3, 1) := by decide +kernel
theorem dX0_choose_54 : decode cX0_choose 54 = .ok (.aload_n 0, 1) := by decide +kernel
theorem dX0_choose_55 : decode cX0_choose 55 = .ok (.iconst 1, 1) := by decide +kernel
theorem dX0_choose_56 : decode cX0_choose 56 = .ok (.iload_n 2, 1) := by decide +kernel
theorem dX0_choose_57 : decode cX0_choose 57 = .ok (.invokevirtual 60, 3) := by decide +kernel
theorem dX0_choose_60 : decode cX0_choose 60 = .ok (.iload_n 1, 1) := by decide +kernel
theorem dX0_choose_61 : decode cX0_choose 61 = .ok (.ifCond .ne 7, 3) := by decide +kernel
theorem dX0_choose_64 : decode cX0_choose 64 = .ok (.iconst 1, 1) := by decide +kernel
theorem dX0_choose_65 : decode cX0_choose 65 = .ok (.goto 4, 3) := by decide +kernel
theorem dX0_choose_68 : decode cX0_choose 68 = .ok (.iconst 0, 1) := by decide +kernel
theorem dX0_choose_69 : decode cX0_choose 69 = .ok (.isub, 1) := by decide +kernel
theorem dX0_choose_70 : decode cX0_choose 70 = .ok (.istore 4, 2) := by decide +kernel
theorem dX0_choose_72 : decode cX0_choose 72 = .ok (.iload 4, 2) := by decide +kernel
theorem dX0_choose_74 : decode cX0_choose 74 = .ok (.iload_n 3, 1) := by decide +kernel
theorem dX0_choose_75 : decode cX0_choose 75 = .ok (.if_icmp .le 7, 3) := by decide +kernel
theorem dX0_choose_78 : decode cX0_choose 78 = .ok (.iconst 1, 1) := by decide +kernel
theorem dX0_choose_79 : decode cX0_choose 79 = .ok (.goto 4, 3) := by decide +kernel
theorem dX0_choose_82 : decode cX0_choose 82 = .ok (.iconst 0, 1) := by decide +kernel
theorem dX0_choose_83 : decode cX0_choose 83 = .ok (.istore_n 1, 1) := by decide +kernel
theorem dX0_choose_84 : decode cX0_choose 84 = .ok (.aload_n 0, 1) := by decide +kernel
theorem dX0_choose_85 : decode cX0_choose 85 = .ok (.getfield 18, 3) := by decide +kernel
theorem dX0_choose_88 : decode cX0_choose 88 = .ok (.iload_n 1, 1) := by decide +kernel
theorem dX0_choose_89 : decode cX0_choose 89 = .ok (.dup2, 1) := by decide +kernel
theorem dX0_choose_90 : decode cX0_choose 90 = .ok (.iaload, 1) := by decide +kernel
theorem dX0_choose_91 : decode cX0_choose 91 = .ok (.iconst 1, 1) := by decide +kernel
theorem dX0_choose_92 : decode cX0_choose 92 = .ok (.iload_n 2, 1) := by decide +kernel
theorem dX0_choose_93 : decode cX0_choose 93 = .ok (.ishl, 1) := by decide +kernel
theorem dX0_choose_94 : decode cX0_choose 94 = .ok (.ior, 1) := by decide +kernel
theorem dX0_choose_95 : decode cX0_choose 95 = .ok (.iastore, 1) := by decide +kernel
theorem dX0_choose_96 : decode cX0_choose 96 = .ok (.iinc 2 1, 3) := by decide +kernel
theorem dX0_choose_99 : decode cX0_choose 99 = .ok (.goto (-81), 3) := by decide +kernel
theorem dX0_choose_102 : decode cX0_choose 102 = .ok (.return_, 1) := by decide +kernel
set_option maxRecDepth 20000 in
theorem ggX0_holderAt_X7_bit : GoodIn wsX0_holderAt wsX7_bit := goodIn_r _ [6] (by decide +kernel) (by decide +kernel)
set_option maxRecDepth 20000 in
theorem gX0_holderAt_X7_bit_n63 : GoodIn wsX0_holderAt (wsX7_bit) := ggX0_holderAt_X7_bit
theorem dX0_holderAt_0 : decode cX0_holderAt 0 = .ok (.aload_n 0, 1) := by decide +kernel
theorem dX0_holderAt_1 : decode cX0_holderAt 1 = .ok (.getfield 24, 3) := by decide +kernel
theorem dX0_holderAt_4 : decode cX0_holderAt 4 = .ok (.iload_n 1, 1) := by decide +kernel
theorem dX0_holderAt_5 : decode cX0_holderAt 5 = .ok (.invokestatic 63, 3) := by decide +kernel
theorem dX0_holderAt_8 : decode cX0_holderAt 8 = .ok (.ifCond .ne 5, 3) := by decide +kernel
theorem dX0_holderAt_11 : decode cX0_holderAt 11 = .ok (.iconst (-1), 1) := by decide +kernel
theorem dX0_holderAt_12 : decode cX0_holderAt 12 = .ok (.ireturn, 1) := by decide +kernel
theorem dX0_holderAt_13 : decode cX0_holderAt 13 = .ok (.aload_n 0, 1) := by decide +kernel
theorem dX0_holderAt_14 : decode cX0_holderAt 14 = .ok (.getfield 9, 3) := by decide +kernel
theorem dX0_holderAt_17 : decode cX0_holderAt 17 = .ok (.aload_n 0, 1) := by decide +kernel
theorem dX0_holderAt_18 : decode cX0_holderAt 18 = .ok (.getfield 18, 3) := by decide +kernel
theorem dX0_holderAt_21 : decode cX0_holderAt 21 = .ok (.iconst 1, 1) := by decide +kernel
theorem dX0_holderAt_22 : decode cX0_holderAt 22 = .ok (.iaload, 1) := by decide +kernel
theorem dX0_holderAt_23 : decode cX0_holderAt 23 = .ok (.iload_n 1, 1) := by decide +kernel
theorem dX0_holderAt_24 : decode cX0_holderAt 24 = .ok (.invokestatic 63, 3) := by decide +kernel
theorem dX0_holderAt_27 : decode cX0_holderAt 27 = .ok (.iaload, 1) := by decide +kernel
theorem dX0_holderAt_28 : decode cX0_holderAt 28 = .ok (.ireturn, 1) := by decide +kernel
set_option maxRecDepth 20000 in
theorem ggX0_metOfSide_X7_isWithin : GoodIn wsX0_metOfSide wsX7_isWithin := goodIn_r _ [6] (by decide +kernel) (by decide +kernel)
set_option maxRecDepth 20000 in
theorem gX0_metOfSide_X7_isWithin_n66 : GoodIn wsX0_metOfSide (wsX7_isWithin) := ggX0_metOfSide_X7_isWithin
set_option maxRecDepth 20000 in
theorem ggX0_metOfSide_J6_bitCount_0f7a4 : GoodIn wsX0_metOfSide wsJ6_bitCount_0f7a4 := goodIn_r _ [10, 11, 12, 13] (by decide +kernel) (by decide +kernel)
set_option maxRecDepth 20000 in
theorem gX0_metOfSide_J6_bitCount_0f7a4 : GoodIn wsX0_metOfSide (va_wsS RX0 69 yJ6_bitCount_0f7a4 wsJ6_bitCount_0f7a4) := goodIn_app (goodIn_of _ (by decide +kernel)) ggX0_metOfSide_J6_bitCount_0f7a4
theorem dX0_metOfSide_0 : decode cX0_metOfSide 0 = .ok (.iload_n 1, 1) := by decide +kernel
theorem dX0_metOfSide_1 : decode cX0_metOfSide 1 = .ok (.iconst 1, 1) := by decide +kernel
theorem dX0_metOfSide_2 : decode cX0_metOfSide 2 = .ok (.invokestatic 66, 3) := by decide +kernel
theorem dX0_metOfSide_5 : decode cX0_metOfSide 5 = .ok (.ifCond .eq 27, 3) := by decide +kernel
theorem dX0_metOfSide_8 : decode cX0_metOfSide 8 = .ok (.aload_n 0, 1) := by decide +kernel
theorem dX0_metOfSide_9 : decode cX0_metOfSide 9 = .ok (.getfield 15, 3) := by decide +kernel
theorem dX0_metOfSide_12 : decode cX0_metOfSide 12 = .ok (.iload_n 1, 1) := by decide +kernel
theorem dX0_metOfSide_13 : decode cX0_metOfSide 13 = .ok (.iaload, 1) := by decide +kernel
theorem dX0_metOfSide_14 : decode cX0_metOfSide 14 = .ok (.aload_n 0, 1) := by decide +kernel
theorem dX0_metOfSide_15 : decode cX0_metOfSide 15 = .ok (.getfield 28, 3) := by decide +kernel
theorem dX0_metOfSide_18 : decode cX0_metOfSide 18 = .ok (.aload_n 0, 1) := by decide +kernel
theorem dX0_metOfSide_19 : decode cX0_metOfSide 19 = .ok (.getfield 18, 3) := by decide +kernel
theorem dX0_metOfSide_22 : decode cX0_metOfSide 22 = .ok (.iload_n 1, 1) := by decide +kernel
theorem dX0_metOfSide_23 : decode cX0_metOfSide 23 = .ok (.iaload, 1) := by decide +kernel
theorem dX0_metOfSide_24 : decode cX0_metOfSide 24 = .ok (.ior, 1) := by decide +kernel
theorem dX0_metOfSide_25 : decode cX0_metOfSide 25 = .ok (.iand, 1) := by decide +kernel
theorem dX0_metOfSide_26 : decode cX0_metOfSide 26 = .ok (.invokestatic 69, 3) := by decide +kernel
theorem dX0_metOfSide_29 : decode cX0_metOfSide 29 = .ok (.goto 4, 3) := by decide +kernel
theorem dX0_metOfSide_32 : decode cX0_metOfSide 32 = .ok (.iconst 0, 1) := by decide +kernel
theorem dX0_metOfSide_33 : decode cX0_metOfSide 33 = .ok (.ireturn, 1) := by decide +kernel
set_option maxRecDepth 20000 in
theorem ggX0_metOfBoth_X0_metOfSide : GoodIn wsX0_metOfBoth wsX0_metOfSide := goodIn_r _ [5, 6, 7, 8, 9, 10, 11, 12, 13, 14, 15, 16, 17, 18, 19, 20, 21, 22, 23, 24] (by decide +kernel) (by decide +kernel)
set_option maxRecDepth 20000 in
theorem gX0_metOfBoth_X0_metOfSide : GoodIn wsX0_metOfBoth (wsV RX0 75 RX0 yX0_metOfSide wsX0_metOfSide) := goodIn_app (goodIn_of _ (by decide +kernel)) ggX0_metOfBoth_X0_metOfSide
theorem dX0_metOfBoth_0 : decode cX0_metOfBoth 0 = .ok (.aload_n 0, 1) := by decide +kernel
theorem dX0_metOfBoth_1 : decode cX0_metOfBoth 1 = .ok (.iconst 0, 1) := by decide +kernel
theorem dX0_metOfBoth_2 : decode cX0_metOfBoth 2 = .ok (.invokevirtual 75, 3) := by decide +kernel
theorem dX0_metOfBoth_5 : decode cX0_metOfBoth 5 = .ok (.aload_n 0, 1) := by decide +kernel
theorem dX0_metOfBoth_6 : decode cX0_metOfBoth 6 = .ok (.iconst 1, 1) := by decide +kernel
theorem dX0_metOfBoth_7 : decode cX0_metOfBoth 7 = .ok (.invokevirtual 75, 3) := by decide +kernel
theorem dX0_metOfBoth_10 : decode cX0_metOfBoth 10 = .ok (.iadd, 1) := by decide +kernel
theorem dX0_metOfBoth_11 : decode cX0_metOfBoth 11 = .ok (.ireturn, 1) := by decide +kernel
set_option maxRecDepth 20000 in
theorem ggX0_countChanges_X7_bit : GoodIn wsX0_countChanges wsX7_bit := goodIn_r _ [5] (by decide +kernel) (by decide +kernel)
set_option maxRecDepth 20000 in
theorem gX0_countChanges_X7_bit_n63 : GoodIn wsX0_countChanges (wsX7_bit) := ggX0_countChanges_X7_bit
theorem dX0_countChanges_0 : decode cX0_countChanges 0 = .ok (.iconst 0, 1) := by decide +kernel
theorem dX0_countChanges_1 : decode cX0_countChanges 1 = .ok (.istore_n 1, 1) := by decide +kernel
theorem dX0_countChanges_2 : decode cX0_countChanges 2 = .ok (.iconst (-1), 1) := by decide +kernel
theorem dX0_countChanges_3 : decode cX0_countChanges 3 = .ok (.istore_n 2, 1) := by decide +kernel
theorem dX0_countChanges_4 : decode cX0_countChanges 4 = .ok (.iconst 0, 1) := by decide +kernel
theorem dX0_countChanges_5 : decode cX0_countChanges 5 = .ok (.istore_n 3, 1) := by decide +kernel
theorem dX0_countChanges_6 : decode cX0_countChanges 6 = .ok (.iload_n 3, 1) := by decide +kernel
theorem dX0_countChanges_7 : decode cX0_countChanges 7 = .ok (.bipush 16, 2) := by decide +kernel
theorem dX0_countChanges_9 : decode cX0_countChanges 9 = .ok (.if_icmp .ge 55, 3) := by decide +kernel
theorem dX0_countChanges_12 : decode cX0_countChanges 12 = .ok (.aload_n 0, 1) := by decide +kernel
theorem dX0_countChanges_13 : decode cX0_countChanges 13 = .ok (.getfield 24, 3) := by decide +kernel
theorem dX0_countChanges_16 : decode cX0_countChanges 16 = .ok (.iload_n 3, 1) := by decide +kernel
theorem dX0_countChanges_17 : decode cX0_countChanges 17 = .ok (.invokestatic 63, 3) := by decide +kernel
theorem dX0_countChanges_20 : decode cX0_countChanges 20 = .ok (.iconst 1, 1) := by decide +kernel
theorem dX0_countChanges_21 : decode cX0_countChanges 21 = .ok (.if_icmp .ne 37, 3) := by decide +kernel
theorem dX0_countChanges_24 : decode cX0_countChanges 24 = .ok (.aload_n 0, 1) := by decide +kernel
theorem dX0_countChanges_25 : decode cX0_countChanges 25 = .ok (.getfield 18, 3) := by decide +kernel
theorem dX0_countChanges_28 : decode cX0_countChanges 28 = .ok (.iconst 1, 1) := by decide +kernel
theorem dX0_countChanges_29 : decode cX0_countChanges 29 = .ok (.iaload, 1) := by decide +kernel
theorem dX0_countChanges_30 : decode cX0_countChanges 30 = .ok (.iload_n 3, 1) := by decide +kernel
theorem dX0_countChanges_31 : decode cX0_countChanges 31 = .ok (.invokestatic 63, 3) := by decide +kernel
theorem dX0_countChanges_34 : decode cX0_countChanges 34 = .ok (.istore 4, 2) := by decide +kernel
theorem dX0_countChanges_36 : decode cX0_countChanges 36 = .ok (.iload_n 1, 1) := by decide +kernel
theorem dX0_countChanges_37 : decode cX0_countChanges 37 = .ok (.iload_n 2, 1) := by decide +kernel
theorem dX0_countChanges_38 : decode cX0_countChanges 38 = .ok (.iconst (-1), 1) := by decide +kernel
theorem dX0_countChanges_39 : decode cX0_countChanges 39 = .ok (.if_icmp .eq 9, 3) := by decide +kernel
theorem dX0_countChanges_42 : decode cX0_countChanges 42 = .ok (.iload_n 2, 1) := by decide +kernel
theorem dX0_countChanges_43 : decode cX0_countChanges 43 = .ok (.iload 4, 2) := by decide +kernel
theorem dX0_countChanges_45 : decode cX0_countChanges 45 = .ok (.if_icmp .ne 7, 3) := by decide +kernel
theorem dX0_countChanges_48 : decode cX0_countChanges 48 = .ok (.iconst 0, 1) := by decide +kernel
theorem dX0_countChanges_49 : decode cX0_countChanges 49 = .ok (.goto 4, 3) := by decide +kernel
theorem dX0_countChanges_52 : decode cX0_countChanges 52 = .ok (.iconst 1, 1) := by decide +kernel
theorem dX0_countChanges_53 : decode cX0_countChanges 53 = .ok (.iadd, 1) := by decide +kernel
theorem dX0_countChanges_54 : decode cX0_countChanges 54 = .ok (.istore_n 1, 1) := by decide +kernel
theorem dX0_countChanges_55 : decode cX0_countChanges 55 = .ok (.iload 4, 2) := by decide +kernel
theorem dX0_countChanges_57 : decode cX0_countChanges 57 = .ok (.istore_n 2, 1) := by decide +kernel
theorem dX0_countChanges_58 : decode cX0_countChanges 58 = .ok (.iinc 3 1, 3) := by decide +kernel
theorem dX0_countChanges_61 : decode cX0_countChanges 61 = .ok (.goto (-55), 3) := by decide +kernel
theorem dX0_countChanges_64 : decode cX0_countChanges 64 = .ok (.iload_n 1, 1) := by decide +kernel
theorem dX0_countChanges_65 : decode cX0_countChanges 65 = .ok (.ireturn, 1) := by decide +kernel
theorem dX1_init_0 : decode cX1_init 0 = .ok (.aload_n 0, 1) := by decide +kernel
theorem dX1_init_1 : decode cX1_init 1 = .ok (.invokespecial 3, 3) := by decide +kernel
theorem dX1_init_4 : decode cX1_init 4 = .ok (.aload_n 0, 1) := by decide +kernel
theorem dX1_init_5 : decode cX1_init 5 = .ok (.bipush 8, 2) := by decide +kernel
theorem dX1_init_7 : decode cX1_init 7 = .ok (.newarray .int, 2) := by decide +kernel
theorem dX1_init_9 : decode cX1_init 9 = .ok (.putfield 9, 3) := by decide +kernel
theorem dX1_init_12 : decode cX1_init 12 = .ok (.aload_n 0, 1) := by decide +kernel
theorem dX1_init_13 : decode cX1_init 13 = .ok (.bipush 8, 2) := by decide +kernel
theorem dX1_init_15 : decode cX1_init 15 = .ok (.newarray .int, 2) := by decide +kernel
theorem dX1_init_17 : decode cX1_init 17 = .ok (.putfield 15, 3) := by decide +kernel
theorem dX1_init_20 : decode cX1_init 20 = .ok (.aload_n 0, 1) := by decide +kernel
theorem dX1_init_21 : decode cX1_init 21 = .ok (.bipush 8, 2) := by decide +kernel
theorem dX1_init_23 : decode cX1_init 23 = .ok (.newarray .int, 2) := by decide +kernel
theorem dX1_init_25 : decode cX1_init 25 = .ok (.putfield 18, 3) := by decide +kernel
theorem dX1_init_28 : decode cX1_init 28 = .ok (.aload_n 0, 1) := by decide +kernel
theorem dX1_init_29 : decode cX1_init 29 = .ok (.bipush 8, 2) := by decide +kernel
theorem dX1_init_31 : decode cX1_init 31 = .ok (.newarray .int, 2) := by decide +kernel
theorem dX1_init_33 : decode cX1_init 33 = .ok (.putfield 21, 3) := by decide +kernel
theorem dX1_init_36 : decode cX1_init 36 = .ok (.aload_n 0, 1) := by decide +kernel
theorem dX1_init_37 : decode cX1_init 37 = .ok (.bipush 8, 2) := by decide +kernel
theorem dX1_init_39 : decode cX1_init 39 = .ok (.newarray .int, 2) := by decide +kernel
theorem dX1_init_41 : decode cX1_init 41 = .ok (.putfield 24, 3) := by decide +kernel
theorem dX1_init_44 : decode cX1_init 44 = .ok (.aload_n 0, 1) := by decide +kernel
theorem dX1_init_45 : decode cX1_init 45 = .ok (.bipush 10, 2) := by decide +kernel
theorem dX1_init_47 : decode cX1_init 47 = .ok (.newarray .int, 2) := by decide +kernel
theorem dX1_init_49 : decode cX1_init 49 = .ok (.putfield 27, 3) := by decide +kernel
theorem dX1_init_52 : decode cX1_init 52 = .ok (.aload_n 0, 1) := by decide +kernel
theorem dX1_init_53 : decode cX1_init 53 = .ok (.iconst 0, 1) := by decide +kernel
theorem dX1_init_54 : decode cX1_init 54 = .ok (.putfield 30, 3) := by decide +kernel
theorem dX1_init_57 : decode cX1_init 57 = .ok (.aload_n 0, 1) := by decide +kernel
theorem dX1_init_58 : decode cX1_init 58 = .ok (.ldc 34, 2) := by decide +kernel
theorem dX1_init_60 : decode cX1_init 60 = .ok (.putfield 35, 3) := by decide +kernel
theorem dX1_init_63 : decode cX1_init 63 = .ok (.aload_n 0, 1) := by decide +kernel
theorem dX1_init_64 : decode cX1_init 64 = .ok (.iconst 0, 1) := by decide +kernel
theorem dX1_init_65 : decode cX1_init 65 = .ok (.putfield 38, 3) := by decide +kernel
theorem dX1_init_68 : decode cX1_init 68 = .ok (.aload_n 0, 1) := by decide +kernel
theorem dX1_init_69 : decode cX1_init 69 = .ok (.iconst 0, 1) := by decide +kernel
theorem dX1_init_70 : decode cX1_init 70 = .ok (.putfield 41, 3) := by decide +kernel
theorem dX1_init_73 : decode cX1_init 73 = .ok (.aload_n 0, 1) := by decide +kernel
theorem dX1_init_74 : decode cX1_init 74 = .ok (.iconst 0, 1) := by decide +kernel
theorem dX1_init_75 : decode cX1_init 75 = .ok (.putfield 44, 3) := by decide +kernel
theorem dX1_init_78 : decode cX1_init 78 = .ok (.aload_n 0, 1) := by decide +kernel
theorem dX1_init_79 : decode cX1_init 79 = .ok (.iconst 1, 1) := by decide +kernel
theorem dX1_init_80 : decode cX1_init 80 = .ok (.putfield 47, 3) := by decide +kernel
theorem dX1_init_83 : decode cX1_init 83 = .ok (.iconst 0, 1) := by decide +kernel
theorem dX1_init_84 : decode cX1_init 84 = .ok (.istore_n 1, 1) := by decide +kernel
theorem dX1_init_85 : decode cX1_init 85 = .ok (.iload_n 1, 1) := by decide +kernel
theorem dX1_init_86 : decode cX1_init 86 = .ok (.bipush 10, 2) := by decide +kernel
theorem dX1_init_88 : decode cX1_init 88 = .ok (.if_icmp .ge 16, 3) := by decide +kernel
theorem dX1_init_91 : decode cX1_init 91 = .ok (.aload_n 0, 1) := by decide +kernel
theorem dX1_init_92 : decode cX1_init 92 = .ok (.getfield 27, 3) := by decide +kernel
theorem dX1_init_95 : decode cX1_init 95 = .ok (.iload_n 1, 1) := by decide +kernel
theorem dX1_init_96 : decode cX1_init 96 = .ok (.iconst (-1), 1) := by decide +kernel
theorem dX1_init_97 : decode cX1_init 97 = .ok (.iastore, 1) := by decide +kernel
theorem dX1_init_98 : decode cX1_init 98 = .ok (.iinc 1 1, 3) := by decide +kernel
theorem dX1_init_101 : decode cX1_init 101 = .ok (.goto (-16), 3) := by decide +kernel
theorem dX1_init_104 : decode cX1_init 104 = .ok (.return_, 1) := by decide +kernel
theorem dX1_become_0 : decode cX1_become 0 = .ok (.aload_n 1, 1) := by decide +kernel
theorem dX1_become_1 : decode cX1_become 1 = .ok (.getfield 9, 3) := by decide +kernel
theorem dX1_become_4 : decode cX1_become 4 = .ok (.iconst 0, 1) := by decide +kernel
theorem dX1_become_5 : decode cX1_become 5 = .ok (.aload_n 0, 1) := by decide +kernel
theorem dX1_become_6 : decode cX1_become 6 = .ok (.getfield 9, 3) := by decide +kernel
theorem dX1_become_9 : decode cX1_become 9 = .ok (.iconst 0, 1) := by decide +kernel
theorem dX1_become_10 : decode cX1_become 10 = .ok (.bipush 8, 2) := by decide +kernel
theorem dX1_become_12 : decode cX1_become 12 = .ok (.invokestatic 50, 3) := by decide +kernel
theorem dX1_become_15 : decode cX1_become 15 = .ok (.aload_n 1, 1) := by decide +kernel
theorem dX1_become_16 : decode cX1_become 16 = .ok (.getfield 15, 3) := by decide +kernel
theorem dX1_become_19 : decode cX1_become 19 = .ok (.iconst 0, 1) := by decide +kernel
theorem dX1_become_20 : decode cX1_become 20 = .ok (.aload_n 0, 1) := by decide +kernel
theorem dX1_become_21 : decode cX1_become 21 = .ok (.getfield 15, 3) := by decide +kernel
theorem dX1_become_24 : decode cX1_become 24 = .ok (.iconst 0, 1) := by decide +kernel
theorem dX1_become_25 : decode cX1_become 25 = .ok (.bipush 8, 2) := by decide +kernel
theorem dX1_become_27 : decode cX1_become 27 = .ok (.invokestatic 50, 3) := by decide +kernel
theorem dX1_become_30 : decode cX1_become 30 = .ok (.aload_n 1, 1) := by decide +kernel
theorem dX1_become_31 : decode cX1_become 31 = .ok (.getfield 18, 3) := by decide +kernel
theorem dX1_become_34 : decode cX1_become 34 = .ok (.iconst 0, 1) := by decide +kernel
theorem dX1_become_35 : decode cX1_become 35 = .ok (.aload_n 0, 1) := by decide +kernel
theorem dX1_become_36 : decode cX1_become 36 = .ok (.getfield 18, 3) := by decide +kernel
theorem dX1_become_39 : decode cX1_become 39 = .ok (.iconst 0, 1) := by decide +kernel
theorem dX1_become_40 : decode cX1_become 40 = .ok (.bipush 8, 2) := by decide +kernel
theorem dX1_become_42 : decode cX1_become 42 = .ok (.invokestatic 50, 3) := by decide +kernel
theorem dX1_become_45 : decode cX1_become 45 = .ok (.aload_n 1, 1) := by decide +kernel
theorem dX1_become_46 : decode cX1_become 46 = .ok (.getfield 21, 3) := by decide +kernel
theorem dX1_become_49 : decode cX1_become 49 = .ok (.iconst 0, 1) := by decide +kernel
theorem dX1_become_50 : decode cX1_become 50 = .ok (.aload_n 0, 1) := by decide +kernel
theorem dX1_become_51 : decode cX1_become 51 = .ok (.getfield 21, 3) := by decide +kernel
theorem dX1_become_54 : decode cX1_become 54 = .ok (.iconst 0, 1) := by decide +kernel
theorem dX1_become_55 : decode cX1_become 55 = .ok (.bipush 8, 2) := by decide +kernel
theorem dX1_become_57 : decode cX1_become 57 = .ok (.invokestatic 50, 3) := by decide +kernel
theorem dX1_become_60 : decode cX1_become 60 = .ok (.aload_n 1, 1) := by decide +kernel
theorem dX1_become_61 : decode cX1_become 61 = .ok (.getfield 24, 3) := by decide +kernel
theorem dX1_become_64 : decode cX1_become 64 = .ok (.iconst 0, 1) := by decide +kernel
theorem dX1_become_65 : decode cX1_become 65 = .ok (.aload_n 0, 1) := by decide +kernel
theorem dX1_become_66 : decode cX1_become 66 = .ok (.getfield 24, 3) := by decide +kernel
theorem dX1_become_69 : decode cX1_become 69 = .ok (.iconst 0, 1) := by decide +kernel
theorem dX1_become_70 : decode cX1_become 70 = .ok (.bipush 8, 2) := by decide +kernel
theorem dX1_become_72 : decode cX1_become 72 = .ok (.invokestatic 50, 3) := by decide +kernel
theorem dX1_become_75 : decode cX1_become 75 = .ok (.aload_n 1, 1) := by decide +kernel
theorem dX1_become_76 : decode cX1_become 76 = .ok (.getfield 27, 3) := by decide +kernel
theorem dX1_become_79 : decode cX1_become 79 = .ok (.iconst 0, 1) := by decide +kernel
theorem dX1_become_80 : decode cX1_become 80 = .ok (.aload_n 0, 1) := by decide +kernel
theorem dX1_become_81 : decode cX1_become 81 = .ok (.getfield 27, 3) := by decide +kernel
theorem dX1_become_84 : decode cX1_become 84 = .ok (.iconst 0, 1) := by decide +kernel
theorem dX1_become_85 : decode cX1_become 85 = .ok (.bipush 10, 2) := by decide +kernel
theorem dX1_become_87 : decode cX1_become 87 = .ok (.invokestatic 50, 3) := by decide +kernel
theorem dX1_become_90 : decode cX1_become 90 = .ok (.aload_n 0, 1) := by decide +kernel
theorem dX1_become_91 : decode cX1_become 91 = .ok (.aload_n 1, 1) := by decide +kernel
theorem dX1_become_92 : decode cX1_become 92 = .ok (.getfield 30, 3) := by decide +kernel
theorem dX1_become_95 : decode cX1_become 95 = .ok (.putfield 30, 3) := by decide +kernel
theorem dX1_become_98 : decode cX1_become 98 = .ok (.aload_n 0, 1) := by decide +kernel
theorem dX1_become_99 : decode cX1_become 99 = .ok (.aload_n 1, 1) := by decide +kernel
theorem dX1_become_100 : decode cX1_become 100 = .ok (.getfield 35, 3) := by decide +kernel
theorem dX1_become_103 : decode cX1_become 103 = .ok (.putfield 35, 3) := by decide +kernel
theorem dX1_become_106 : decode cX1_become 106 = .ok (.aload_n 0, 1) := by decide +kernel
theorem dX1_become_107 : decode cX1_become 107 = .ok (.aload_n 1, 1) := by decide +kernel
theorem dX1_become_108 : decode cX1_become 108 = .ok (.getfield 38, 3) := by decide +kernel
theorem dX1_become_111 : decode cX1_become 111 = .ok (.putfield 38, 3) := by decide +kernel
theorem dX1_become_114 : decode cX1_become 114 = .ok (.aload_n 0, 1) := by decide +kernel
theorem dX1_become_115 : decode cX1_become 115 = .ok (.aload_n 1, 1) := by decide +kernel
theorem dX1_become_116 : decode cX1_become 116 = .ok (.getfield 41, 3) := by decide +kernel
theorem dX1_become_119 : decode cX1_become 119 = .ok (.putfield 41, 3) := by decide +kernel
theorem dX1_become_122 : decode cX1_become 122 = .ok (.aload_n 0, 1) := by decide +kernel
theorem dX1_become_123 : decode cX1_become 123 = .ok (.aload_n 1, 1) := by decide +kernel
theorem dX1_become_124 : decode cX1_become 124 = .ok (.getfield 44, 3) := by decide +kernel
theorem dX1_become_127 : decode cX1_become 127 = .ok (.putfield 44, 3) := by decide +kernel
theorem dX1_become_130 : decode cX1_become 130 = .ok (.aload_n 0, 1) := by decide +kernel
theorem dX1_become_131 : decode cX1_become 131 = .ok (.aload_n 1, 1) := by decide +kernel
theorem dX1_become_132 : decode cX1_become 132 = .ok (.getfield 47, 3) := by decide +kernel
theorem dX1_become_135 : decode cX1_become 135 = .ok (.putfield 47, 3) := by decide +kernel
theorem dX1_become_138 : decode cX1_become 138 = .ok (.return_, 1) := by decide +kernel
theorem dX1_isFull_0 : decode cX1_isFull 0 = .ok (.aload_n 0, 1) := by decide +kernel
theorem dX1_isFull_1 : decode cX1_isFull 1 = .ok (.getfield 30, 3) := by decide +kernel
theorem dX1_isFull_4 : decode cX1_isFull 4 = .ok (.bipush 8, 2) := by decide +kernel
theorem dX1_isFull_6 : decode cX1_isFull 6 = .ok (.if_icmp .lt 7, 3) := by decide +kernel
theorem dX1_isFull_9 : decode cX1_isFull 9 = .ok (.iconst 1, 1) := by decide +kernel
theorem dX1_isFull_10 : decode cX1_isFull 10 = .ok (.goto 4, 3) := by decide +kernel
theorem dX1_isFull_13 : decode cX1_isFull 13 = .ok (.iconst 0, 1) := by decide +kernel
theorem dX1_isFull_14 : decode cX1_isFull 14 = .ok (.ireturn, 1) := by decide +kernel
theorem dX1_isPerson_0 : decode cX1_isPerson 0 = .ok (.iload_n 1, 1) := by decide +kernel
theorem dX1_isPerson_1 : decode cX1_isPerson 1 = .ok (.ifCond .lt 15, 3) := by decide +kernel
theorem dX1_isPerson_4 : decode cX1_isPerson 4 = .ok (.iload_n 1, 1) := by decide +kernel
theorem dX1_isPerson_5 : decode cX1_isPerson 5 = .ok (.aload_n 0, 1) := by decide +kernel
theorem dX1_isPerson_6 : decode cX1_isPerson 6 = .ok (.getfield 30, 3) := by decide +kernel
theorem dX1_isPerson_9 : decode cX1_isPerson 9 = .ok (.if_icmp .ge 7, 3) := by decide +kernel
theorem dX1_isPerson_12 : decode cX1_isPerson 12 = .ok (.iconst 1, 1) := by decide +kernel
theorem dX1_isPerson_13 : decode cX1_isPerson 13 = .ok (.goto 4, 3) := by decide +kernel
theorem dX1_isPerson_16 : decode cX1_isPerson 16 = .ok (.iconst 0, 1) := by decide +kernel
theorem dX1_isPerson_17 : decode cX1_isPerson 17 = .ok (.ireturn, 1) := by decide +kernel
set_option maxRecDepth 20000 in
theorem ggX1_areTwo_X1_isPerson : GoodIn wsX1_areTwo wsX1_isPerson := goodIn_r _ [5, 6, 7, 8, 9, 10, 11, 12, 13, 14, 15, 16, 17, 18] (by decide +kernel) (by decide +kernel)
set_option maxRecDepth 20000 in
theorem gX1_areTwo_X1_isPerson : GoodIn wsX1_areTwo (wsV RX1 56 RX1 yX1_isPerson wsX1_isPerson) := goodIn_app (goodIn_of _ (by decide +kernel)) ggX1_areTwo_X1_isPerson
theorem dX1_areTwo_0 : decode cX1_areTwo 0 = .ok (.aload_n 0, 1) := by decide +kernel
theorem dX1_areTwo_1 : decode cX1_areTwo 1 = .ok (.iload_n 1, 1) := by decide +kernel
theorem dX1_areTwo_2 : decode cX1_areTwo 2 = .ok (.invokevirtual 56, 3) := by decide +kernel
theorem dX1_areTwo_5 : decode cX1_areTwo 5 = .ok (.ifCond .eq 20, 3) := by decide +kernel
theorem dX1_areTwo_8 : decode cX1_areTwo 8 = .ok (.aload_n 0, 1) := by decide +kernel
theorem dX1_areTwo_9 : decode cX1_areTwo 9 = .ok (.iload_n 2, 1) := by decide +kernel
theorem dX1_areTwo_10 : decode cX1_areTwo 10 = .ok (.invokevirtual 56, 3) := by decide +kernel
theorem dX1_areTwo_13 : decode cX1_areTwo 13 = .ok (.ifCond .eq 12, 3) := by decide +kernel
theorem dX1_areTwo_16 : decode cX1_areTwo 16 = .ok (.iload_n 1, 1) := by decide +kernel
theorem dX1_areTwo_17 : decode cX1_areTwo 17 = .ok (.iload_n 2, 1) := by decide +kernel
theorem dX1_areTwo_18 : decode cX1_areTwo 18 = .ok (.if_icmp .eq 7, 3) := by decide +kernel
theorem dX1_areTwo_21 : decode cX1_areTwo 21 = .ok (.iconst 1, 1) := by decide +kernel
theorem dX1_areTwo_22 : decode cX1_areTwo 22 = .ok (.goto 4, 3) := by decide +kernel
theorem dX1_areTwo_25 : decode cX1_areTwo 25 = .ok (.iconst 0, 1) := by decide +kernel
theorem dX1_areTwo_26 : decode cX1_areTwo 26 = .ok (.ireturn, 1) := by decide +kernel
theorem dX1_everybody_0 : decode cX1_everybody 0 = .ok (.iconst 1, 1) := by decide +kernel
theorem dX1_everybody_1 : decode cX1_everybody 1 = .ok (.aload_n 0, 1) := by decide +kernel
theorem dX1_everybody_2 : decode cX1_everybody 2 = .ok (.getfield 30, 3) := by decide +kernel
theorem dX1_everybody_5 : decode cX1_everybody 5 = .ok (.ishl, 1) := by decide +kernel
theorem dX1_everybody_6 : decode cX1_everybody 6 = .ok (.iconst 1, 1) := by decide +kernel
theorem dX1_everybody_7 : decode cX1_everybody 7 = .ok (.isub, 1) := by decide +kernel
theorem dX1_everybody_8 : decode cX1_everybody 8 = .ok (.ireturn, 1) := by decide +kernel
theorem dX1_hoursLeft_0 : decode cX1_hoursLeft 0 = .ok (.ldc 34, 2) := by decide +kernel
theorem dX1_hoursLeft_2 : decode cX1_hoursLeft 2 = .ok (.aload_n 0, 1) := by decide +kernel
theorem dX1_hoursLeft_3 : decode cX1_hoursLeft 3 = .ok (.getfield 38, 3) := by decide +kernel
theorem dX1_hoursLeft_6 : decode cX1_hoursLeft 6 = .ok (.ishl, 1) := by decide +kernel
theorem dX1_hoursLeft_7 : decode cX1_hoursLeft 7 = .ok (.ldc 34, 2) := by decide +kernel
theorem dX1_hoursLeft_9 : decode cX1_hoursLeft 9 = .ok (.iand, 1) := by decide +kernel
theorem dX1_hoursLeft_10 : decode cX1_hoursLeft 10 = .ok (.ireturn, 1) := by decide +kernel
set_option maxRecDepth 20000 in
theorem ggX1_add_X1_isFull : GoodIn wsX1_add wsX1_isFull := goodIn_r _ [11, 2, 12, 13, 14, 15, 16, 17, 18, 19, 20, 21, 22, 23] (by decide +kernel) (by decide +kernel)
set_option maxRecDepth 20000 in
theorem gX1_add_X1_isFull : GoodIn wsX1_add (wsV RX1 60 RX1 yX1_isFull wsX1_isFull) := goodIn_app (goodIn_of _ (by decide +kernel)) ggX1_add_X1_isFull
theorem dX1_add_0 : decode cX1_add 0 = .ok (.aload_n 0, 1) := by decide +kernel
theorem dX1_add_1 : decode cX1_add 1 = .ok (.invokevirtual 60, 3) := by decide +kernel
theorem dX1_add_4 : decode cX1_add 4 = .ok (.ifCond .eq 5, 3) := by decide +kernel
theorem dX1_add_7 : decode cX1_add 7 = .ok (.iconst (-1), 1) := by decide +kernel
theorem dX1_add_8 : decode cX1_add 8 = .ok (.ireturn, 1) := by decide +kernel
theorem dX1_add_9 : decode cX1_add 9 = .ok (.aload_n 0, 1) := by decide +kernel
theorem dX1_add_10 : decode cX1_add 10 = .ok (.getfield 9, 3) := by decide +kernel
theorem dX1_add_13 : decode cX1_add 13 = .ok (.aload_n 0, 1) := by decide +kernel
theorem dX1_add_14 : decode cX1_add 14 = .ok (.getfield 30, 3) := by decide +kernel
theorem dX1_add_17 : decode cX1_add 17 = .ok (.iload_n 1, 1) := by decide +kernel
theorem dX1_add_18 : decode cX1_add 18 = .ok (.iastore, 1) := by decide +kernel
theorem dX1_add_19 : decode cX1_add 19 = .ok (.aload_n 0, 1) := by decide +kernel
theorem dX1_add_20 : decode cX1_add 20 = .ok (.getfield 15, 3) := by decide +kernel
theorem dX1_add_23 : decode cX1_add 23 = .ok (.aload_n 0, 1) := by decide +kernel
theorem dX1_add_24 : decode cX1_add 24 = .ok (.getfield 30, 3) := by decide +kernel
theorem dX1_add_27 : decode cX1_add 27 = .ok (.iconst 0, 1) := by decide +kernel
theorem dX1_add_28 : decode cX1_add 28 = .ok (.iastore, 1) := by decide +kernel
theorem dX1_add_29 : decode cX1_add 29 = .ok (.aload_n 0, 1) := by decide +kernel
theorem dX1_add_30 : decode cX1_add 30 = .ok (.getfield 18, 3) := by decide +kernel
theorem dX1_add_33 : decode cX1_add 33 = .ok (.aload_n 0, 1) := by decide +kernel
theorem dX1_add_34 : decode cX1_add 34 = .ok (.getfield 30, 3) := by decide +kernel
theorem dX1_add_37 : decode cX1_add 37 = .ok (.iconst 3, 1) := by decide +kernel
theorem dX1_add_38 : decode cX1_add 38 = .ok (.iastore, 1) := by decide +kernel
theorem dX1_add_39 : decode cX1_add 39 = .ok (.aload_n 0, 1) := by decide +kernel
theorem dX1_add_40 : decode cX1_add 40 = .ok (.getfield 21, 3) := by decide +kernel
theorem dX1_add_43 : decode cX1_add 43 = .ok (.aload_n 0, 1) := by decide +kernel
theorem dX1_add_44 : decode cX1_add 44 = .ok (.getfield 30, 3) := by decide +kernel
theorem dX1_add_47 : decode cX1_add 47 = .ok (.iconst 0, 1) := by decide +kernel
theorem dX1_add_48 : decode cX1_add 48 = .ok (.iastore, 1) := by decide +kernel
theorem dX1_add_49 : decode cX1_add 49 = .ok (.aload_n 0, 1) := by decide +kernel
theorem dX1_add_50 : decode cX1_add 50 = .ok (.getfield 24, 3) := by decide +kernel
theorem dX1_add_53 : decode cX1_add 53 = .ok (.aload_n 0, 1) := by decide +kernel
theorem dX1_add_54 : decode cX1_add 54 = .ok (.getfield 30, 3) := by decide +kernel
theorem dX1_add_57 : decode cX1_add 57 = .ok (.iconst (-1), 1) := by decide +kernel
theorem dX1_add_58 : decode cX1_add 58 = .ok (.iastore, 1) := by decide +kernel
theorem dX1_add_59 : decode cX1_add 59 = .ok (.aload_n 0, 1) := by decide +kernel
theorem dX1_add_60 : decode cX1_add 60 = .ok (.dup, 1) := by decide +kernel
theorem dX1_add_61 : decode cX1_add 61 = .ok (.getfield 30, 3) := by decide +kernel
theorem dX1_add_64 : decode cX1_add 64 = .ok (.iconst 1, 1) := by decide +kernel
theorem dX1_add_65 : decode cX1_add 65 = .ok (.iadd, 1) := by decide +kernel
theorem dX1_add_66 : decode cX1_add 66 = .ok (.putfield 30, 3) := by decide +kernel
theorem dX1_add_69 : decode cX1_add 69 = .ok (.aload_n 0, 1) := by decide +kernel
theorem dX1_add_70 : decode cX1_add 70 = .ok (.getfield 30, 3) := by decide +kernel
theorem dX1_add_73 : decode cX1_add 73 = .ok (.iconst 1, 1) := by decide +kernel
theorem dX1_add_74 : decode cX1_add 74 = .ok (.isub, 1) := by decide +kernel
theorem dX1_add_75 : decode cX1_add 75 = .ok (.ireturn, 1) := by decide +kernel
set_option maxRecDepth 20000 in
theorem ggX1_join_X1_areTwo : GoodIn wsX1_join wsX1_areTwo := goodIn_r _ [6, 7, 8, 9, 5, 10, 11, 16, 17, 18, 19, 20, 21, 22, 23, 24, 25, 26, 27] (by decide +kernel) (by decide +kernel)
set_option maxRecDepth 20000 in
theorem gX1_join_X1_areTwo : GoodIn wsX1_join (wsV RX1 64 RX1 yX1_areTwo wsX1_areTwo) := goodIn_app (goodIn_of _ (by decide +kernel)) ggX1_join_X1_areTwo
set_option maxRecDepth 20000 in
theorem ggX1_join_X1_separate : GoodIn wsX1_join wsX1_separate := goodIn_r _ [15, 1, 7, 8, 9, 5, 10, 11, 16, 17, 18, 19, 20, 21, 22, 23, 24, 25, 26, 27] (by decide +kernel) (by decide +kernel)
set_option maxRecDepth 20000 in
theorem gX1_join_X1_separate : GoodIn wsX1_join (wsV RX1 68 RX1 yX1_separate wsX1_separate) := goodIn_app (goodIn_of _ (by decide +kernel)) ggX1_join_X1_separate
theorem dX1_join_0 : decode cX1_join 0 = .ok (.aload_n 0, 1) := by decide +kernel
theorem dX1_join_1 : decode cX1_join 1 = .ok (.iload_n 1, 1) := by decide +kernel
theorem dX1_join_2 : decode cX1_join 2 = .ok (.iload_n 2, 1) := by decide +kernel
theorem dX1_join_3 : decode cX1_join 3 = .ok (.invokevirtual 64, 3) := by decide +kernel
theorem dX1_join_6 : decode cX1_join 6 = .ok (.ifCond .eq 27, 3) := by decide +kernel
theorem dX1_join_9 : decode cX1_join 9 = .ok (.aload_n 0, 1) := by decide +kernel
theorem dX1_join_10 : decode cX1_join 10 = .ok (.iload_n 1, 1) := by decide +kernel
theorem dX1_join_11 : decode cX1_join 11 = .ok (.invokevirtual 68, 3) := by decide +kernel
theorem dX1_join_14 : decode cX1_join 14 = .ok (.aload_n 0, 1) := by decide +kernel
theorem dX1_join_15 : decode cX1_join 15 = .ok (.iload_n 2, 1) := by decide +kernel
theorem dX1_join_16 : decode cX1_join 16 = .ok (.invokevirtual 68, 3) := by decide +kernel
theorem dX1_join_19 : decode cX1_join 19 = .ok (.aload_n 0, 1) := by decide +kernel
theorem dX1_join_20 : decode cX1_join 20 = .ok (.getfield 24, 3) := by decide +kernel
theorem dX1_join_23 : decode cX1_join 23 = .ok (.iload_n 1, 1) := by decide +kernel
theorem dX1_join_24 : decode cX1_join 24 = .ok (.iload_n 2, 1) := by decide +kernel
theorem dX1_join_25 : decode cX1_join 25 = .ok (.iastore, 1) := by decide +kernel
theorem dX1_join_26 : decode cX1_join 26 = .ok (.aload_n 0, 1) := by decide +kernel
theorem dX1_join_27 : decode cX1_join 27 = .ok (.getfield 24, 3) := by decide +kernel
theorem dX1_join_30 : decode cX1_join 30 = .ok (.iload_n 2, 1) := by decide +kernel
theorem dX1_join_31 : decode cX1_join 31 = .ok (.iload_n 1, 1) := by decide +kernel
theorem dX1_join_32 : decode cX1_join 32 = .ok (.iastore, 1) := by decide +kernel
theorem dX1_join_33 : decode cX1_join 33 = .ok (.return_, 1) := by decide +kernel
set_option maxRecDepth 20000 in
theorem ggX1_separate_X1_isPerson : GoodIn wsX1_separate wsX1_isPerson := goodIn_r _ [6, 7, 8, 9, 10, 11, 12, 13, 14, 15, 16, 17, 18, 19] (by decide +kernel) (by decide +kernel)
set_option maxRecDepth 20000 in
theorem gX1_separate_X1_isPerson : GoodIn wsX1_separate (wsV RX1 56 RX1 yX1_isPerson wsX1_isPerson) := goodIn_app (goodIn_of _ (by decide +kernel)) ggX1_separate_X1_isPerson
theorem dX1_separate_0 : decode cX1_separate 0 = .ok (.aload_n 0, 1) := by decide +kernel
theorem dX1_separate_1 : decode cX1_separate 1 = .ok (.iload_n 1, 1) := by decide +kernel
theorem dX1_separate_2 : decode cX1_separate 2 = .ok (.invokevirtual 56, 3) := by decide +kernel
theorem dX1_separate_5 : decode cX1_separate 5 = .ok (.ifCond .eq 35, 3) := by decide +kernel
theorem dX1_separate_8 : decode cX1_separate 8 = .ok (.aload_n 0, 1) := by decide +kernel
theorem dX1_separate_9 : decode cX1_separate 9 = .ok (.aload_n 0, 1) := by decide +kernel
theorem dX1_separate_10 : decode cX1_separate 10 = .ok (.getfield 24, 3) := by decide +kernel
theorem dX1_separate_13 : decode cX1_separate 13 = .ok (.iload_n 1, 1) := by decide +kernel
theorem dX1_separate_14 : decode cX1_separate 14 = .ok (.iaload, 1) := by decide +kernel
theorem dX1_separate_15 : decode cX1_separate 15 = .ok (.invokevirtual 56, 3) := by decide +kernel
theorem dX1_separate_18 : decode cX1_separate 18 = .ok (.ifCond .eq 22, 3) := by decide +kernel
theorem dX1_separate_21 : decode cX1_separate 21 = .ok (.aload_n 0, 1) := by decide +kernel
theorem dX1_separate_22 : decode cX1_separate 22 = .ok (.getfield 24, 3) := by decide +kernel
theorem dX1_separate_25 : decode cX1_separate 25 = .ok (.aload_n 0, 1) := by decide +kernel
theorem dX1_separate_26 : decode cX1_separate 26 = .ok (.getfield 24, 3) := by decide +kernel
theorem dX1_separate_29 : decode cX1_separate 29 = .ok (.iload_n 1, 1) := by decide +kernel
theorem dX1_separate_30 : decode cX1_separate 30 = .ok (.iaload, 1) := by decide +kernel
theorem dX1_separate_31 : decode cX1_separate 31 = .ok (.iconst (-1), 1) := by decide +kernel
theorem dX1_separate_32 : decode cX1_separate 32 = .ok (.iastore, 1) := by decide +kernel
theorem dX1_separate_33 : decode cX1_separate 33 = .ok (.aload_n 0, 1) := by decide +kernel
theorem dX1_separate_34 : decode cX1_separate 34 = .ok (.getfield 24, 3) := by decide +kernel
theorem dX1_separate_37 : decode cX1_separate 37 = .ok (.iload_n 1, 1) := by decide +kernel
theorem dX1_separate_38 : decode cX1_separate 38 = .ok (.iconst (-1), 1) := by decide +kernel
theorem dX1_separate_39 : decode cX1_separate 39 = .ok (.iastore, 1) := by decide +kernel
theorem dX1_separate_40 : decode cX1_separate 40 = .ok (.return_, 1) := by decide +kernel
set_option maxRecDepth 20000 in
theorem ggX1_isOfKind_X1_isPerson : GoodIn wsX1_isOfKind wsX1_isPerson := goodIn_r _ [7, 8, 12, 13, 14, 15, 16, 17, 18, 19, 20, 21, 22, 23] (by decide +kernel) (by decide +kernel)
set_option maxRecDepth 20000 in
theorem gX1_isOfKind_X1_isPerson : GoodIn wsX1_isOfKind (wsV RX1 56 RX1 yX1_isPerson wsX1_isPerson) := goodIn_app (goodIn_of _ (by decide +kernel)) ggX1_isOfKind_X1_isPerson
set_option maxRecDepth 20000 in
theorem ggX1_isOfKind_X7_isWithin : GoodIn wsX1_isOfKind wsX7_isWithin := goodIn_r _ [11] (by decide +kernel) (by decide +kernel)
set_option maxRecDepth 20000 in
theorem gX1_isOfKind_X7_isWithin_n72 : GoodIn wsX1_isOfKind (wsX7_isWithin) := ggX1_isOfKind_X7_isWithin
theorem dX1_isOfKind_0 : decode cX1_isOfKind 0 = .ok (.aload_n 0, 1) := by decide +kernel
theorem dX1_isOfKind_1 : decode cX1_isOfKind 1 = .ok (.iload_n 1, 1) := by decide +kernel
theorem dX1_isOfKind_2 : decode cX1_isOfKind 2 = .ok (.invokevirtual 56, 3) := by decide +kernel
theorem dX1_isOfKind_5 : decode cX1_isOfKind 5 = .ok (.ifCond .ne 5, 3) := by decide +kernel
theorem dX1_isOfKind_8 : decode cX1_isOfKind 8 = .ok (.iconst 0, 1) := by decide +kernel
theorem dX1_isOfKind_9 : decode cX1_isOfKind 9 = .ok (.ireturn, 1) := by decide +kernel
theorem dX1_isOfKind_10 : decode cX1_isOfKind 10 = .ok (.aload_n 0, 1) := by decide +kernel
theorem dX1_isOfKind_11 : decode cX1_isOfKind 11 = .ok (.getfield 9, 3) := by decide +kernel
theorem dX1_isOfKind_14 : decode cX1_isOfKind 14 = .ok (.iload_n 1, 1) := by decide +kernel
theorem dX1_isOfKind_15 : decode cX1_isOfKind 15 = .ok (.iaload, 1) := by decide +kernel
theorem dX1_isOfKind_16 : decode cX1_isOfKind 16 = .ok (.istore_n 3, 1) := by decide +kernel
theorem dX1_isOfKind_17 : decode cX1_isOfKind 17 = .ok (.iconst 0, 1) := by decide +kernel
theorem dX1_isOfKind_18 : decode cX1_isOfKind 18 = .ok (.istore 4, 2) := by decide +kernel
theorem dX1_isOfKind_20 : decode cX1_isOfKind 20 = .ok (.iload 4, 2) := by decide +kernel
theorem dX1_isOfKind_22 : decode cX1_isOfKind 22 = .ok (.bipush 7, 2) := by decide +kernel
theorem dX1_isOfKind_24 : decode cX1_isOfKind 24 = .ok (.if_icmp .ge 33, 3) := by decide +kernel
theorem dX1_isOfKind_27 : decode cX1_isOfKind 27 = .ok (.iload_n 3, 1) := by decide +kernel
theorem dX1_isOfKind_28 : decode cX1_isOfKind 28 = .ok (.iload_n 2, 1) := by decide +kernel
theorem dX1_isOfKind_29 : decode cX1_isOfKind 29 = .ok (.if_icmp .ne 5, 3) := by decide +kernel
theorem dX1_isOfKind_32 : decode cX1_isOfKind 32 = .ok (.iconst 1, 1) := by decide +kernel
theorem dX1_isOfKind_33 : decode cX1_isOfKind 33 = .ok (.ireturn, 1) := by decide +kernel
theorem dX1_isOfKind_34 : decode cX1_isOfKind 34 = .ok (.iload_n 3, 1) := by decide +kernel
theorem dX1_isOfKind_35 : decode cX1_isOfKind 35 = .ok (.bipush 6, 2) := by decide +kernel
theorem dX1_isOfKind_37 : decode cX1_isOfKind 37 = .ok (.invokestatic 72, 3) := by decide +kernel
theorem dX1_isOfKind_40 : decode cX1_isOfKind 40 = .ok (.ifCond .ne 5, 3) := by decide +kernel
theorem dX1_isOfKind_43 : decode cX1_isOfKind 43 = .ok (.iconst 0, 1) := by decide +kernel
theorem dX1_isOfKind_44 : decode cX1_isOfKind 44 = .ok (.ireturn, 1) := by decide +kernel
theorem dX1_isOfKind_45 : decode cX1_isOfKind 45 = .ok (.getstatic 75, 3) := by decide +kernel
theorem dX1_isOfKind_48 : decode cX1_isOfKind 48 = .ok (.iload_n 3, 1) := by decide +kernel
theorem dX1_isOfKind_49 : decode cX1_isOfKind 49 = .ok (.iaload, 1) := by decide +kernel
theorem dX1_isOfKind_50 : decode cX1_isOfKind 50 = .ok (.istore_n 3, 1) := by decide +kernel
theorem dX1_isOfKind_51 : decode cX1_isOfKind 51 = .ok (.iinc 4 1, 3) := by decide +kernel
theorem dX1_isOfKind_54 : decode cX1_isOfKind 54 = .ok (.goto (-34), 3) := by decide +kernel
theorem dX1_isOfKind_57 : decode cX1_isOfKind 57 = .ok (.iconst 0, 1) := by decide +kernel
theorem dX1_isOfKind_58 : decode cX1_isOfKind 58 = .ok (.ireturn, 1) := by decide +kernel
theorem dX1_claimOf_0 : decode cX1_claimOf 0 = .ok (.iload_n 1, 1) := by decide +kernel
theorem dX1_claimOf_1 : decode cX1_claimOf 1 = .ok (.ifCond .lt 11, 3) := by decide +kernel
theorem dX1_claimOf_4 : decode cX1_claimOf 4 = .ok (.iload_n 1, 1) := by decide +kernel
theorem dX1_claimOf_5 : decode cX1_claimOf 5 = .ok (.aload_n 0, 1) := by decide +kernel
theorem dX1_claimOf_6 : decode cX1_claimOf 6 = .ok (.getfield 30, 3) := by decide +kernel
theorem dX1_claimOf_9 : decode cX1_claimOf 9 = .ok (.if_icmp .lt 5, 3) := by decide +kernel
theorem dX1_claimOf_12 : decode cX1_claimOf 12 = .ok (.iconst 0, 1) := by decide +kernel
theorem dX1_claimOf_13 : decode cX1_claimOf 13 = .ok (.ireturn, 1) := by decide +kernel
theorem dX1_claimOf_14 : decode cX1_claimOf 14 = .ok (.iload_n 2, 1) := by decide +kernel
theorem dX1_claimOf_15 : decode cX1_claimOf 15 = .ok (.iconst 2, 1) := by decide +kernel
theorem dX1_claimOf_16 : decode cX1_claimOf 16 = .ok (.irem, 1) := by decide +kernel
theorem dX1_claimOf_17 : decode cX1_claimOf 17 = .ok (.ifCond .ne 7, 3) := by decide +kernel
theorem dX1_claimOf_20 : decode cX1_claimOf 20 = .ok (.iconst 1, 1) := by decide +kernel
theorem dX1_claimOf_21 : decode cX1_claimOf 21 = .ok (.goto 4, 3) := by decide +kernel
theorem dX1_claimOf_24 : decode cX1_claimOf 24 = .ok (.iconst 0, 1) := by decide +kernel
theorem dX1_claimOf_25 : decode cX1_claimOf 25 = .ok (.istore_n 3, 1) := by decide +kernel
theorem dX1_claimOf_26 : decode cX1_claimOf 26 = .ok (.aload_n 0, 1) := by decide +kernel
theorem dX1_claimOf_27 : decode cX1_claimOf 27 = .ok (.getfield 15, 3) := by decide +kernel
theorem dX1_claimOf_30 : decode cX1_claimOf 30 = .ok (.iload_n 1, 1) := by decide +kernel
theorem dX1_claimOf_31 : decode cX1_claimOf 31 = .ok (.iaload, 1) := by decide +kernel
theorem dX1_claimOf_32 : decode cX1_claimOf 32 = .ok (.istore 4, 2) := by decide +kernel
theorem dX1_claimOf_34 : decode cX1_claimOf 34 = .ok (.aload_n 0, 1) := by decide +kernel
theorem dX1_claimOf_35 : decode cX1_claimOf 35 = .ok (.getfield 9, 3) := by decide +kernel
theorem dX1_claimOf_38 : decode cX1_claimOf 38 = .ok (.iload_n 1, 1) := by decide +kernel
theorem dX1_claimOf_39 : decode cX1_claimOf 39 = .ok (.iaload, 1) := by decide +kernel
theorem dX1_claimOf_40 : decode cX1_claimOf 40 = .ok (.tableswitch 127 1 6 #[40, 52, 58, 66, 82, 104], 40) := by decide +kernel
theorem dX1_claimOf_80 : decode cX1_claimOf 80 = .ok (.iload 4, 2) := by decide +kernel
theorem dX1_claimOf_82 : decode cX1_claimOf 82 = .ok (.iconst 2, 1) := by decide +kernel
theorem dX1_claimOf_83 : decode cX1_claimOf 83 = .ok (.aload_n 0, 1) := by decide +kernel
theorem dX1_claimOf_84 : decode cX1_claimOf 84 = .ok (.getfield 18, 3) := by decide +kernel
theorem dX1_claimOf_87 : decode cX1_claimOf 87 = .ok (.iload_n 1, 1) := by decide +kernel
theorem dX1_claimOf_88 : decode cX1_claimOf 88 = .ok (.iaload, 1) := by decide +kernel
theorem dX1_claimOf_89 : decode cX1_claimOf 89 = .ok (.imul, 1) := by decide +kernel
theorem dX1_claimOf_90 : decode cX1_claimOf 90 = .ok (.iadd, 1) := by decide +kernel
theorem dX1_claimOf_91 : decode cX1_claimOf 91 = .ok (.ireturn, 1) := by decide +kernel
theorem dX1_claimOf_92 : decode cX1_claimOf 92 = .ok (.iload 4, 2) := by decide +kernel
theorem dX1_claimOf_94 : decode cX1_claimOf 94 = .ok (.bipush 10, 2) := by decide +kernel
theorem dX1_claimOf_96 : decode cX1_claimOf 96 = .ok (.iadd, 1) := by decide +kernel
theorem dX1_claimOf_97 : decode cX1_claimOf 97 = .ok (.ireturn, 1) := by decide +kernel
theorem dX1_claimOf_98 : decode cX1_claimOf 98 = .ok (.iload 4, 2) := by decide +kernel
theorem dX1_claimOf_100 : decode cX1_claimOf 100 = .ok (.bipush 10, 2) := by decide +kernel
theorem dX1_claimOf_102 : decode cX1_claimOf 102 = .ok (.iadd, 1) := by decide +kernel
theorem dX1_claimOf_103 : decode cX1_claimOf 103 = .ok (.iconst 2, 1) := by decide +kernel
theorem dX1_claimOf_104 : decode cX1_claimOf 104 = .ok (.idiv, 1) := by decide +kernel
theorem dX1_claimOf_105 : decode cX1_claimOf 105 = .ok (.ireturn, 1) := by decide +kernel
theorem dX1_claimOf_106 : decode cX1_claimOf 106 = .ok (.iload_n 3, 1) := by decide +kernel
theorem dX1_claimOf_107 : decode cX1_claimOf 107 = .ok (.ifCond .eq 13, 3) := by decide +kernel
theorem dX1_claimOf_110 : decode cX1_claimOf 110 = .ok (.iload 4, 2) := by decide +kernel
theorem dX1_claimOf_112 : decode cX1_claimOf 112 = .ok (.bipush 10, 2) := by decide +kernel
theorem dX1_claimOf_114 : decode cX1_claimOf 114 = .ok (.iadd, 1) := by decide +kernel
theorem dX1_claimOf_115 : decode cX1_claimOf 115 = .ok (.iconst 2, 1) := by decide +kernel
theorem dX1_claimOf_116 : decode cX1_claimOf 116 = .ok (.idiv, 1) := by decide +kernel
theorem dX1_claimOf_117 : decode cX1_claimOf 117 = .ok (.goto 4, 3) := by decide +kernel
theorem dX1_claimOf_120 : decode cX1_claimOf 120 = .ok (.iconst 0, 1) := by decide +kernel
theorem dX1_claimOf_121 : decode cX1_claimOf 121 = .ok (.ireturn, 1) := by decide +kernel
theorem dX1_claimOf_122 : decode cX1_claimOf 122 = .ok (.iload_n 3, 1) := by decide +kernel
theorem dX1_claimOf_123 : decode cX1_claimOf 123 = .ok (.iload_n 1, 1) := by decide +kernel
theorem dX1_claimOf_124 : decode cX1_claimOf 124 = .ok (.iconst 2, 1) := by decide +kernel
theorem dX1_claimOf_125 : decode cX1_claimOf 125 = .ok (.irem, 1) := by decide +kernel
theorem dX1_claimOf_126 : decode cX1_claimOf 126 = .ok (.ifCond .ne 7, 3) := by decide +kernel
theorem dX1_claimOf_129 : decode cX1_claimOf 129 = .ok (.iconst 1, 1) := by decide +kernel
theorem dX1_claimOf_130 : decode cX1_claimOf 130 = .ok (.goto 4, 3) := by decide +kernel
theorem dX1_claimOf_133 : decode cX1_claimOf 133 = .ok (.iconst 0, 1) := by decide +kernel
theorem dX1_claimOf_134 : decode cX1_claimOf 134 = .ok (.if_icmp .ne 8, 3) := by decide +kernel
theorem dX1_claimOf_137 : decode cX1_claimOf 137 = .ok (.bipush 50, 2) := by decide +kernel
theorem dX1_claimOf_139 : decode cX1_claimOf 139 = .ok (.goto 4, 3) := by decide +kernel
theorem dX1_claimOf_142 : decode cX1_claimOf 142 = .ok (.iconst 0, 1) := by decide +kernel
theorem dX1_claimOf_143 : decode cX1_claimOf 143 = .ok (.ireturn, 1) := by decide +kernel
theorem dX1_claimOf_144 : decode cX1_claimOf 144 = .ok (.iload_n 2, 1) := by decide +kernel
theorem dX1_claimOf_145 : decode cX1_claimOf 145 = .ok (.bipush 8, 2) := by decide +kernel
theorem dX1_claimOf_147 : decode cX1_claimOf 147 = .ok (.if_icmp .ne 8, 3) := by decide +kernel
theorem dX1_claimOf_150 : decode cX1_claimOf 150 = .ok (.bipush 99, 2) := by decide +kernel
theorem dX1_claimOf_152 : decode cX1_claimOf 152 = .ok (.goto 14, 3) := by decide +kernel
theorem dX1_claimOf_155 : decode cX1_claimOf 155 = .ok (.iload 4, 2) := by decide +kernel
theorem dX1_claimOf_157 : decode cX1_claimOf 157 = .ok (.iconst 2, 1) := by decide +kernel
theorem dX1_claimOf_158 : decode cX1_claimOf 158 = .ok (.aload_n 0, 1) := by decide +kernel
theorem dX1_claimOf_159 : decode cX1_claimOf 159 = .ok (.getfield 18, 3) := by decide +kernel
theorem dX1_claimOf_162 : decode cX1_claimOf 162 = .ok (.iload_n 1, 1) := by decide +kernel
theorem dX1_claimOf_163 : decode cX1_claimOf 163 = .ok (.iaload, 1) := by decide +kernel
theorem dX1_claimOf_164 : decode cX1_claimOf 164 = .ok (.imul, 1) := by decide +kernel
theorem dX1_claimOf_165 : decode cX1_claimOf 165 = .ok (.iadd, 1) := by decide +kernel
theorem dX1_claimOf_166 : decode cX1_claimOf 166 = .ok (.ireturn, 1) := by decide +kernel
theorem dX1_claimOf_167 : decode cX1_claimOf 167 = .ok (.iload 4, 2) := by decide +kernel
theorem dX1_claimOf_169 : decode cX1_claimOf 169 = .ok (.ireturn, 1) := by decide +kernel
set_option maxRecDepth 20000 in
theorem ggX1_stronger_X1_claimOf : GoodIn wsX1_stronger wsX1_claimOf := goodIn_r _ [12, 13, 14, 15, 16, 17, 18, 19, 20, 21, 22, 23, 24, 25, 26, 27, 28] (by decide +kernel) (by decide +kernel)
set_option maxRecDepth 20000 in
theorem gX1_stronger_X1_claimOf : GoodIn wsX1_stronger (wsV RX1 87 RX1 yX1_claimOf wsX1_claimOf) := goodIn_app (goodIn_of _ (by decide +kernel)) ggX1_stronger_X1_claimOf
theorem dX1_stronger_0 : decode cX1_stronger 0 = .ok (.iload_n 1, 1) := by decide +kernel
theorem dX1_stronger_1 : decode cX1_stronger 1 = .ok (.iload_n 2, 1) := by decide +kernel
theorem dX1_stronger_2 : decode cX1_stronger 2 = .ok (.invokestatic 78, 3) := by decide +kernel
theorem dX1_stronger_5 : decode cX1_stronger 5 = .ok (.istore 4, 2) := by decide +kernel
theorem dX1_stronger_7 : decode cX1_stronger 7 = .ok (.iload_n 1, 1) := by decide +kernel
theorem dX1_stronger_8 : decode cX1_stronger 8 = .ok (.iload_n 2, 1) := by decide +kernel
theorem dX1_stronger_9 : decode cX1_stronger 9 = .ok (.invokestatic 84, 3) := by decide +kernel
theorem dX1_stronger_12 : decode cX1_stronger 12 = .ok (.istore 5, 2) := by decide +kernel
theorem dX1_stronger_14 : decode cX1_stronger 14 = .ok (.aload_n 0, 1) := by decide +kernel
theorem dX1_stronger_15 : decode cX1_stronger 15 = .ok (.iload 5, 2) := by decide +kernel
theorem dX1_stronger_17 : decode cX1_stronger 17 = .ok (.iload_n 3, 1) := by decide +kernel
theorem dX1_stronger_18 : decode cX1_stronger 18 = .ok (.invokevirtual 87, 3) := by decide +kernel
theorem dX1_stronger_21 : decode cX1_stronger 21 = .ok (.aload_n 0, 1) := by decide +kernel
theorem dX1_stronger_22 : decode cX1_stronger 22 = .ok (.iload 4, 2) := by decide +kernel
theorem dX1_stronger_24 : decode cX1_stronger 24 = .ok (.iload_n 3, 1) := by decide +kernel
theorem dX1_stronger_25 : decode cX1_stronger 25 = .ok (.invokevirtual 87, 3) := by decide +kernel
theorem dX1_stronger_28 : decode cX1_stronger 28 = .ok (.if_icmp .le 8, 3) := by decide +kernel
theorem dX1_stronger_31 : decode cX1_stronger 31 = .ok (.iload 5, 2) := by decide +kernel
theorem dX1_stronger_33 : decode cX1_stronger 33 = .ok (.goto 5, 3) := by decide +kernel
theorem dX1_stronger_36 : decode cX1_stronger 36 = .ok (.iload 4, 2) := by decide +kernel
theorem dX1_stronger_38 : decode cX1_stronger 38 = .ok (.ireturn, 1) := by decide +kernel
set_option maxRecDepth 20000 in
theorem ggX1_havers_X7_bit : GoodIn wsX1_havers wsX7_bit := goodIn_r _ [7] (by decide +kernel) (by decide +kernel)
set_option maxRecDepth 20000 in
theorem gX1_havers_X7_bit_n90 : GoodIn wsX1_havers (wsX7_bit) := ggX1_havers_X7_bit
set_option maxRecDepth 20000 in
theorem ggX1_havers_X1_stronger : GoodIn wsX1_havers wsX1_stronger := goodIn_r _ [12, 13, 14, 15, 16, 17, 18, 19, 20, 21, 22, 11, 23, 3, 24, 25, 26, 27, 28, 29, 30, 31, 32, 33, 34, 35, 36, 37, 38] (by decide +kernel) (by decide +kernel)
set_option maxRecDepth 20000 in
theorem gX1_havers_X1_stronger : GoodIn wsX1_havers (wsV RX1 93 RX1 yX1_stronger wsX1_stronger) := goodIn_app (goodIn_of _ (by decide +kernel)) ggX1_havers_X1_stronger
theorem dX1_havers_0 : decode cX1_havers 0 = .ok (.aload_n 0, 1) := by decide +kernel
theorem dX1_havers_1 : decode cX1_havers 1 = .ok (.getfield 38, 3) := by decide +kernel
theorem dX1_havers_4 : decode cX1_havers 4 = .ok (.bipush 16, 2) := by decide +kernel
theorem dX1_havers_6 : decode cX1_havers 6 = .ok (.if_icmp .ge 17, 3) := by decide +kernel
theorem dX1_havers_9 : decode cX1_havers 9 = .ok (.aload_n 0, 1) := by decide +kernel
theorem dX1_havers_10 : decode cX1_havers 10 = .ok (.getfield 35, 3) := by decide +kernel
theorem dX1_havers_13 : decode cX1_havers 13 = .ok (.aload_n 0, 1) := by decide +kernel
theorem dX1_havers_14 : decode cX1_havers 14 = .ok (.getfield 38, 3) := by decide +kernel
theorem dX1_havers_17 : decode cX1_havers 17 = .ok (.invokestatic 90, 3) := by decide +kernel
theorem dX1_havers_20 : decode cX1_havers 20 = .ok (.ifCond .ne 5, 3) := by decide +kernel
theorem dX1_havers_23 : decode cX1_havers 23 = .ok (.iconst 0, 1) := by decide +kernel
theorem dX1_havers_24 : decode cX1_havers 24 = .ok (.ireturn, 1) := by decide +kernel
theorem dX1_havers_25 : decode cX1_havers 25 = .ok (.iconst 0, 1) := by decide +kernel
theorem dX1_havers_26 : decode cX1_havers 26 = .ok (.istore_n 1, 1) := by decide +kernel
theorem dX1_havers_27 : decode cX1_havers 27 = .ok (.iconst 0, 1) := by decide +kernel
theorem dX1_havers_28 : decode cX1_havers 28 = .ok (.istore_n 2, 1) := by decide +kernel
theorem dX1_havers_29 : decode cX1_havers 29 = .ok (.iload_n 2, 1) := by decide +kernel
theorem dX1_havers_30 : decode cX1_havers 30 = .ok (.aload_n 0, 1) := by decide +kernel
theorem dX1_havers_31 : decode cX1_havers 31 = .ok (.getfield 30, 3) := by decide +kernel
theorem dX1_havers_34 : decode cX1_havers 34 = .ok (.if_icmp .ge 44, 3) := by decide +kernel
theorem dX1_havers_37 : decode cX1_havers 37 = .ok (.aload_n 0, 1) := by decide +kernel
theorem dX1_havers_38 : decode cX1_havers 38 = .ok (.getfield 24, 3) := by decide +kernel
theorem dX1_havers_41 : decode cX1_havers 41 = .ok (.iload_n 2, 1) := by decide +kernel
theorem dX1_havers_42 : decode cX1_havers 42 = .ok (.iaload, 1) := by decide +kernel
theorem dX1_havers_43 : decode cX1_havers 43 = .ok (.iconst (-1), 1) := by decide +kernel
theorem dX1_havers_44 : decode cX1_havers 44 = .ok (.if_icmp .eq 22, 3) := by decide +kernel
theorem dX1_havers_47 : decode cX1_havers 47 = .ok (.aload_n 0, 1) := by decide +kernel
theorem dX1_havers_48 : decode cX1_havers 48 = .ok (.iload_n 2, 1) := by decide +kernel
theorem dX1_havers_49 : decode cX1_havers 49 = .ok (.aload_n 0, 1) := by decide +kernel
theorem dX1_havers_50 : decode cX1_havers 50 = .ok (.getfield 24, 3) := by decide +kernel
theorem dX1_havers_53 : decode cX1_havers 53 = .ok (.iload_n 2, 1) := by decide +kernel
theorem dX1_havers_54 : decode cX1_havers 54 = .ok (.iaload, 1) := by decide +kernel
theorem dX1_havers_55 : decode cX1_havers 55 = .ok (.aload_n 0, 1) := by decide +kernel
theorem dX1_havers_56 : decode cX1_havers 56 = .ok (.getfield 38, 3) := by decide +kernel
theorem dX1_havers_59 : decode cX1_havers 59 = .ok (.invokevirtual 93, 3) := by decide +kernel
theorem dX1_havers_62 : decode cX1_havers 62 = .ok (.iload_n 2, 1) := by decide +kernel
theorem dX1_havers_63 : decode cX1_havers 63 = .ok (.if_icmp .ne 9, 3) := by decide +kernel
theorem dX1_havers_66 : decode cX1_havers 66 = .ok (.iload_n 1, 1) := by decide +kernel
theorem dX1_havers_67 : decode cX1_havers 67 = .ok (.iconst 1, 1) := by decide +kernel
theorem dX1_havers_68 : decode cX1_havers 68 = .ok (.iload_n 2, 1) := by decide +kernel
theorem dX1_havers_69 : decode cX1_havers 69 = .ok (.ishl, 1) := by decide +kernel
theorem dX1_havers_70 : decode cX1_havers 70 = .ok (.ior, 1) := by decide +kernel
theorem dX1_havers_71 : decode cX1_havers 71 = .ok (.istore_n 1, 1) := by decide +kernel
theorem dX1_havers_72 : decode cX1_havers 72 = .ok (.iinc 2 1, 3) := by decide +kernel
theorem dX1_havers_75 : decode cX1_havers 75 = .ok (.goto (-46), 3) := by decide +kernel
theorem dX1_havers_78 : decode cX1_havers 78 = .ok (.iload_n 1, 1) := by decide +kernel
theorem dX1_havers_79 : decode cX1_havers 79 = .ok (.ireturn, 1) := by decide +kernel
set_option maxRecDepth 20000 in
theorem ggX1_passHours_X1_havers : GoodIn wsX1_passHours wsX1_havers := goodIn_r _ [6, 1, 7, 8, 9, 10, 11, 12, 13, 14, 15, 5, 16, 17, 18, 19, 20, 21, 22, 23, 24, 25, 26, 27, 28, 29, 30, 42, 43, 44, 45, 46, 47, 48, 49, 50, 51, 52, 53] (by decide +kernel) (by decide +kernel)
set_option maxRecDepth 20000 in
theorem gX1_passHours_X1_havers : GoodIn wsX1_passHours (wsV RX1 97 RX1 yX1_havers wsX1_havers) := goodIn_app (goodIn_of _ (by decide +kernel)) ggX1_passHours_X1_havers
set_option maxRecDepth 20000 in
theorem ggX1_passHours_X1_passHour : GoodIn wsX1_passHours wsX1_passHour := goodIn_r _ [34, 7, 1, 8, 35, 28, 21, 22, 19, 23, 17, 18, 20, 10, 11, 12, 36, 37, 38, 5, 39, 40, 41, 42, 43, 44, 45, 46, 47, 48, 49, 50, 51, 52, 53] (by decide +kernel) (by decide +kernel)
set_option maxRecDepth 20000 in
theorem gX1_passHours_X1_passHour : GoodIn wsX1_passHours (wsV RX1 101 RX1 yX1_passHour wsX1_passHour) := goodIn_app (goodIn_of _ (by decide +kernel)) ggX1_passHours_X1_passHour
theorem dX1_passHours_0 : decode cX1_passHours 0 = .ok (.iconst 0, 1) := by decide +kernel
theorem dX1_passHours_1 : decode cX1_passHours 1 = .ok (.istore_n 2, 1) := by decide +kernel
theorem dX1_passHours_2 : decode cX1_passHours 2 = .ok (.iload_n 2, 1) := by decide +kernel
theorem dX1_passHours_3 : decode cX1_passHours 3 = .ok (.iload_n 1, 1) := by decide +kernel
theorem dX1_passHours_4 : decode cX1_passHours 4 = .ok (.if_icmp .ge 26, 3) := by decide +kernel
theorem dX1_passHours_7 : decode cX1_passHours 7 = .ok (.aload_n 0, 1) := by decide +kernel
theorem dX1_passHours_8 : decode cX1_passHours 8 = .ok (.getfield 38, 3) := by decide +kernel
theorem dX1_passHours_11 : decode cX1_passHours 11 = .ok (.bipush 16, 2) := by decide +kernel
theorem dX1_passHours_13 : decode cX1_passHours 13 = .ok (.if_icmp .ge 17, 3) := by decide +kernel
theorem dX1_passHours_16 : decode cX1_passHours 16 = .ok (.aload_n 0, 1) := by decide +kernel
theorem dX1_passHours_17 : decode cX1_passHours 17 = .ok (.aload_n 0, 1) := by decide +kernel
theorem dX1_passHours_18 : decode cX1_passHours 18 = .ok (.invokevirtual 97, 3) := by decide +kernel
theorem dX1_passHours_21 : decode cX1_passHours 21 = .ok (.invokevirtual 101, 3) := by decide +kernel
theorem dX1_passHours_24 : decode cX1_passHours 24 = .ok (.iinc 2 1, 3) := by decide +kernel
theorem dX1_passHours_27 : decode cX1_passHours 27 = .ok (.goto (-25), 3) := by decide +kernel
theorem dX1_passHours_30 : decode cX1_passHours 30 = .ok (.return_, 1) := by decide +kernel
set_option maxRecDepth 20000 in
theorem ggX1_passHour_X7_bit : GoodIn wsX1_passHour wsX7_bit := goodIn_r _ [15] (by decide +kernel) (by decide +kernel)
set_option maxRecDepth 20000 in
theorem gX1_passHour_X7_bit_n90 : GoodIn wsX1_passHour (wsX7_bit) := ggX1_passHour_X7_bit
set_option maxRecDepth 20000 in
theorem ggX1_passHour_X1_tally : GoodIn wsX1_passHour wsX1_tally := goodIn_r _ [20, 21, 22, 23, 24, 25, 26, 27, 28, 29, 30, 31, 32, 33, 34] (by decide +kernel) (by decide +kernel)
set_option maxRecDepth 20000 in
theorem gX1_passHour_X1_tally : GoodIn wsX1_passHour (wsV RX1 104 RX1 yX1_tally wsX1_tally) := goodIn_app (goodIn_of _ (by decide +kernel)) ggX1_passHour_X1_tally
theorem dX1_passHour_0 : decode cX1_passHour 0 = .ok (.aload_n 0, 1) := by decide +kernel
theorem dX1_passHour_1 : decode cX1_passHour 1 = .ok (.getfield 35, 3) := by decide +kernel
theorem dX1_passHour_4 : decode cX1_passHour 4 = .ok (.aload_n 0, 1) := by decide +kernel
theorem dX1_passHour_5 : decode cX1_passHour 5 = .ok (.getfield 38, 3) := by decide +kernel
theorem dX1_passHour_8 : decode cX1_passHour 8 = .ok (.invokestatic 90, 3) := by decide +kernel
theorem dX1_passHour_11 : decode cX1_passHour 11 = .ok (.iconst 1, 1) := by decide +kernel
theorem dX1_passHour_12 : decode cX1_passHour 12 = .ok (.if_icmp .ne 7, 3) := by decide +kernel
theorem dX1_passHour_15 : decode cX1_passHour 15 = .ok (.iconst 1, 1) := by decide +kernel
theorem dX1_passHour_16 : decode cX1_passHour 16 = .ok (.goto 4, 3) := by decide +kernel
theorem dX1_passHour_19 : decode cX1_passHour 19 = .ok (.iconst 0, 1) := by decide +kernel
theorem dX1_passHour_20 : decode cX1_passHour 20 = .ok (.istore_n 2, 1) := by decide +kernel
theorem dX1_passHour_21 : decode cX1_passHour 21 = .ok (.iconst 0, 1) := by decide +kernel
theorem dX1_passHour_22 : decode cX1_passHour 22 = .ok (.istore_n 3, 1) := by decide +kernel
theorem dX1_passHour_23 : decode cX1_passHour 23 = .ok (.iload_n 3, 1) := by decide +kernel
theorem dX1_passHour_24 : decode cX1_passHour 24 = .ok (.aload_n 0, 1) := by decide +kernel
theorem dX1_passHour_25 : decode cX1_passHour 25 = .ok (.getfield 30, 3) := by decide +kernel
theorem dX1_passHour_28 : decode cX1_passHour 28 = .ok (.if_icmp .ge 103, 3) := by decide +kernel
theorem dX1_passHour_31 : decode cX1_passHour 31 = .ok (.iload_n 1, 1) := by decide +kernel
theorem dX1_passHour_32 : decode cX1_passHour 32 = .ok (.iload_n 3, 1) := by decide +kernel
theorem dX1_passHour_33 : decode cX1_passHour 33 = .ok (.invokestatic 90, 3) := by decide +kernel
theorem dX1_passHour_36 : decode cX1_passHour 36 = .ok (.iconst 1, 1) := by decide +kernel
theorem dX1_passHour_37 : decode cX1_passHour 37 = .ok (.if_icmp .ne 7, 3) := by decide +kernel
theorem dX1_passHour_40 : decode cX1_passHour 40 = .ok (.iconst 1, 1) := by decide +kernel
theorem dX1_passHour_41 : decode cX1_passHour 41 = .ok (.goto 4, 3) := by decide +kernel
theorem dX1_passHour_44 : decode cX1_passHour 44 = .ok (.iconst 0, 1) := by decide +kernel
theorem dX1_passHour_45 : decode cX1_passHour 45 = .ok (.istore 4, 2) := by decide +kernel
theorem dX1_passHour_47 : decode cX1_passHour 47 = .ok (.aload_n 0, 1) := by decide +kernel
theorem dX1_passHour_48 : decode cX1_passHour 48 = .ok (.getfield 21, 3) := by decide +kernel
theorem dX1_passHour_51 : decode cX1_passHour 51 = .ok (.iload_n 3, 1) := by decide +kernel
theorem dX1_passHour_52 : decode cX1_passHour 52 = .ok (.iaload, 1) := by decide +kernel
theorem dX1_passHour_53 : decode cX1_passHour 53 = .ok (.aload_n 0, 1) := by decide +kernel
theorem dX1_passHour_54 : decode cX1_passHour 54 = .ok (.getfield 38, 3) := by decide +kernel
theorem dX1_passHour_57 : decode cX1_passHour 57 = .ok (.invokestatic 90, 3) := by decide +kernel
theorem dX1_passHour_60 : decode cX1_passHour 60 = .ok (.iconst 1, 1) := by decide +kernel
theorem dX1_passHour_61 : decode cX1_passHour 61 = .ok (.if_icmp .ne 21, 3) := by decide +kernel
theorem dX1_passHour_64 : decode cX1_passHour 64 = .ok (.aload_n 0, 1) := by decide +kernel
theorem dX1_passHour_65 : decode cX1_passHour 65 = .ok (.iload 4, 2) := by decide +kernel
theorem dX1_passHour_67 : decode cX1_passHour 67 = .ok (.ifCond .ne 7, 3) := by decide +kernel
theorem dX1_passHour_70 : decode cX1_passHour 70 = .ok (.iload_n 2, 1) := by decide +kernel
theorem dX1_passHour_71 : decode cX1_passHour 71 = .ok (.ifCond .ne 7, 3) := by decide +kernel
theorem dX1_passHour_74 : decode cX1_passHour 74 = .ok (.iconst 1, 1) := by decide +kernel
theorem dX1_passHour_75 : decode cX1_passHour 75 = .ok (.goto 4, 3) := by decide +kernel
theorem dX1_passHour_78 : decode cX1_passHour 78 = .ok (.iconst 0, 1) := by decide +kernel
theorem dX1_passHour_79 : decode cX1_passHour 79 = .ok (.invokevirtual 104, 3) := by decide +kernel
theorem dX1_passHour_82 : decode cX1_passHour 82 = .ok (.iload_n 2, 1) := by decide +kernel
theorem dX1_passHour_83 : decode cX1_passHour 83 = .ok (.ifCond .eq 42, 3) := by decide +kernel
theorem dX1_passHour_86 : decode cX1_passHour 86 = .ok (.aload_n 0, 1) := by decide +kernel
theorem dX1_passHour_87 : decode cX1_passHour 87 = .ok (.getfield 15, 3) := by decide +kernel
theorem dX1_passHour_90 : decode cX1_passHour 90 = .ok (.iload_n 3, 1) := by decide +kernel
theorem dX1_passHour_91 : decode cX1_passHour 91 = .ok (.iload 4, 2) := by decide +kernel
theorem dX1_passHour_93 : decode cX1_passHour 93 = .ok (.ifCond .eq 18, 3) := by decide +kernel
theorem dX1_passHour_96 : decode cX1_passHour 96 = .ok (.aload_n 0, 1) := by decide +kernel
theorem dX1_passHour_97 : decode cX1_passHour 97 = .ok (.getfield 15, 3) := by decide +kernel
theorem dX1_passHour_100 : decode cX1_passHour 100 = .ok (.iload_n 3, 1) := by decide +kernel
theorem dX1_passHour_101 : decode cX1_passHour 101 = .ok (.iaload, 1) := by decide +kernel
theorem dX1_passHour_102 : decode cX1_passHour 102 = .ok (.iconst 1, 1) := by decide +kernel
theorem dX1_passHour_103 : decode cX1_passHour 103 = .ok (.isub, 1) := by decide +kernel
theorem dX1_passHour_104 : decode cX1_passHour 104 = .ok (.iconst 0, 1) := by decide +kernel
theorem dX1_passHour_105 : decode cX1_passHour 105 = .ok (.invokestatic 84, 3) := by decide +kernel
theorem dX1_passHour_108 : decode cX1_passHour 108 = .ok (.goto 16, 3) := by decide +kernel
theorem dX1_passHour_111 : decode cX1_passHour 111 = .ok (.aload_n 0, 1) := by decide +kernel
theorem dX1_passHour_112 : decode cX1_passHour 112 = .ok (.getfield 15, 3) := by decide +kernel
theorem dX1_passHour_115 : decode cX1_passHour 115 = .ok (.iload_n 3, 1) := by decide +kernel
theorem dX1_passHour_116 : decode cX1_passHour 116 = .ok (.iaload, 1) := by decide +kernel
theorem dX1_passHour_117 : decode cX1_passHour 117 = .ok (.iconst 1, 1) := by decide +kernel
theorem dX1_passHour_118 : decode cX1_passHour 118 = .ok (.iadd, 1) := by decide +kernel
theorem dX1_passHour_119 : decode cX1_passHour 119 = .ok (.bipush 99, 2) := by decide +kernel
theorem dX1_passHour_121 : decode cX1_passHour 121 = .ok (.invokestatic 78, 3) := by decide +kernel
theorem dX1_passHour_124 : decode cX1_passHour 124 = .ok (.iastore, 1) := by decide +kernel
theorem dX1_passHour_125 : decode cX1_passHour 125 = .ok (.iinc 3 1, 3) := by decide +kernel
theorem dX1_passHour_128 : decode cX1_passHour 128 = .ok (.goto (-105), 3) := by decide +kernel
theorem dX1_passHour_131 : decode cX1_passHour 131 = .ok (.aload_n 0, 1) := by decide +kernel
theorem dX1_passHour_132 : decode cX1_passHour 132 = .ok (.dup, 1) := by decide +kernel
theorem dX1_passHour_133 : decode cX1_passHour 133 = .ok (.getfield 38, 3) := by decide +kernel
theorem dX1_passHour_136 : decode cX1_passHour 136 = .ok (.iconst 1, 1) := by decide +kernel
theorem dX1_passHour_137 : decode cX1_passHour 137 = .ok (.iadd, 1) := by decide +kernel
theorem dX1_passHour_138 : decode cX1_passHour 138 = .ok (.putfield 38, 3) := by decide +kernel
theorem dX1_passHour_141 : decode cX1_passHour 141 = .ok (.return_, 1) := by decide +kernel
theorem dX1_tally_0 : decode cX1_tally 0 = .ok (.iload_n 1, 1) := by decide +kernel
theorem dX1_tally_1 : decode cX1_tally 1 = .ok (.ifCond .eq 16, 3) := by decide +kernel
theorem dX1_tally_4 : decode cX1_tally 4 = .ok (.aload_n 0, 1) := by decide +kernel
theorem dX1_tally_5 : decode cX1_tally 5 = .ok (.dup, 1) := by decide +kernel
theorem dX1_tally_6 : decode cX1_tally 6 = .ok (.getfield 41, 3) := by decide +kernel
theorem dX1_tally_9 : decode cX1_tally 9 = .ok (.iconst 1, 1) := by decide +kernel
theorem dX1_tally_10 : decode cX1_tally 10 = .ok (.iadd, 1) := by decide +kernel
theorem dX1_tally_11 : decode cX1_tally 11 = .ok (.putfield 41, 3) := by decide +kernel
theorem dX1_tally_14 : decode cX1_tally 14 = .ok (.goto 13, 3) := by decide +kernel
theorem dX1_tally_17 : decode cX1_tally 17 = .ok (.aload_n 0, 1) := by decide +kernel
theorem dX1_tally_18 : decode cX1_tally 18 = .ok (.dup, 1) := by decide +kernel
theorem dX1_tally_19 : decode cX1_tally 19 = .ok (.getfield 44, 3) := by decide +kernel
theorem dX1_tally_22 : decode cX1_tally 22 = .ok (.iconst 1, 1) := by decide +kernel
theorem dX1_tally_23 : decode cX1_tally 23 = .ok (.iadd, 1) := by decide +kernel
theorem dX1_tally_24 : decode cX1_tally 24 = .ok (.putfield 44, 3) := by decide +kernel
theorem dX1_tally_27 : decode cX1_tally 27 = .ok (.return_, 1) := by decide +kernel
theorem dX1_draw_0 : decode cX1_draw 0 = .ok (.aload_n 0, 1) := by decide +kernel
theorem dX1_draw_1 : decode cX1_draw 1 = .ok (.aload_n 0, 1) := by decide +kernel
theorem dX1_draw_2 : decode cX1_draw 2 = .ok (.getfield 47, 3) := by decide +kernel
theorem dX1_draw_5 : decode cX1_draw 5 = .ok (.ldc 108, 2) := by decide +kernel
theorem dX1_draw_7 : decode cX1_draw 7 = .ok (.imul, 1) := by decide +kernel
theorem dX1_draw_8 : decode cX1_draw 8 = .ok (.sipush 12345, 3) := by decide +kernel
theorem dX1_draw_11 : decode cX1_draw 11 = .ok (.iadd, 1) := by decide +kernel
theorem dX1_draw_12 : decode cX1_draw 12 = .ok (.putfield 47, 3) := by decide +kernel
theorem dX1_draw_15 : decode cX1_draw 15 = .ok (.aload_n 0, 1) := by decide +kernel
theorem dX1_draw_16 : decode cX1_draw 16 = .ok (.getfield 47, 3) := by decide +kernel
theorem dX1_draw_19 : decode cX1_draw 19 = .ok (.bipush 8, 2) := by decide +kernel
theorem dX1_draw_21 : decode cX1_draw 21 = .ok (.iushr, 1) := by decide +kernel
theorem dX1_draw_22 : decode cX1_draw 22 = .ok (.ireturn, 1) := by decide +kernel
theorem dX1_countMated_0 : decode cX1_countMated 0 = .ok (.iconst 0, 1) := by decide +kernel
theorem dX1_countMated_1 : decode cX1_countMated 1 = .ok (.istore_n 1, 1) := by decide +kernel
theorem dX1_countMated_2 : decode cX1_countMated 2 = .ok (.iconst 0, 1) := by decide +kernel
theorem dX1_countMated_3 : decode cX1_countMated 3 = .ok (.istore_n 2, 1) := by decide +kernel
theorem dX1_countMated_4 : decode cX1_countMated 4 = .ok (.iload_n 2, 1) := by decide +kernel
theorem dX1_countMated_5 : decode cX1_countMated 5 = .ok (.aload_n 0, 1) := by decide +kernel
theorem dX1_countMated_6 : decode cX1_countMated 6 = .ok (.getfield 30, 3) := by decide +kernel
theorem dX1_countMated_9 : decode cX1_countMated 9 = .ok (.if_icmp .ge 27, 3) := by decide +kernel
theorem dX1_countMated_12 : decode cX1_countMated 12 = .ok (.iload_n 1, 1) := by decide +kernel
theorem dX1_countMated_13 : decode cX1_countMated 13 = .ok (.aload_n 0, 1) := by decide +kernel
theorem dX1_countMated_14 : decode cX1_countMated 14 = .ok (.getfield 24, 3) := by decide +kernel
theorem dX1_countMated_17 : decode cX1_countMated 17 = .ok (.iload_n 2, 1) := by decide +kernel
theorem dX1_countMated_18 : decode cX1_countMated 18 = .ok (.iaload, 1) := by decide +kernel
theorem dX1_countMated_19 : decode cX1_countMated 19 = .ok (.iconst (-1), 1) := by decide +kernel
theorem dX1_countMated_20 : decode cX1_countMated 20 = .ok (.if_icmp .ne 7, 3) := by decide +kernel
theorem dX1_countMated_23 : decode cX1_countMated 23 = .ok (.iconst 0, 1) := by decide +kernel
theorem dX1_countMated_24 : decode cX1_countMated 24 = .ok (.goto 4, 3) := by decide +kernel
theorem dX1_countMated_27 : decode cX1_countMated 27 = .ok (.iconst 1, 1) := by decide +kernel
theorem dX1_countMated_28 : decode cX1_countMated 28 = .ok (.iadd, 1) := by decide +kernel
theorem dX1_countMated_29 : decode cX1_countMated 29 = .ok (.istore_n 1, 1) := by decide +kernel
theorem dX1_countMated_30 : decode cX1_countMated 30 = .ok (.iinc 2 1, 3) := by decide +kernel
theorem dX1_countMated_33 : decode cX1_countMated 33 = .ok (.goto (-29), 3) := by decide +kernel
theorem dX1_countMated_36 : decode cX1_countMated 36 = .ok (.iload_n 1, 1) := by decide +kernel
theorem dX1_countMated_37 : decode cX1_countMated 37 = .ok (.ireturn, 1) := by decide +kernel
theorem dX1_sunOfAll_0 : decode cX1_sunOfAll 0 = .ok (.iconst 0, 1) := by decide +kernel
theorem dX1_sunOfAll_1 : decode cX1_sunOfAll 1 = .ok (.istore_n 1, 1) := by decide +kernel
theorem dX1_sunOfAll_2 : decode cX1_sunOfAll 2 = .ok (.iconst 0, 1) := by decide +kernel
theorem dX1_sunOfAll_3 : decode cX1_sunOfAll 3 = .ok (.istore_n 2, 1) := by decide +kernel
theorem dX1_sunOfAll_4 : decode cX1_sunOfAll 4 = .ok (.iload_n 2, 1) := by decide +kernel
theorem dX1_sunOfAll_5 : decode cX1_sunOfAll 5 = .ok (.aload_n 0, 1) := by decide +kernel
theorem dX1_sunOfAll_6 : decode cX1_sunOfAll 6 = .ok (.getfield 30, 3) := by decide +kernel
theorem dX1_sunOfAll_9 : decode cX1_sunOfAll 9 = .ok (.if_icmp .ge 18, 3) := by decide +kernel
theorem dX1_sunOfAll_12 : decode cX1_sunOfAll 12 = .ok (.iload_n 1, 1) := by decide +kernel
theorem dX1_sunOfAll_13 : decode cX1_sunOfAll 13 = .ok (.aload_n 0, 1) := by decide +kernel
theorem dX1_sunOfAll_14 : decode cX1_sunOfAll 14 = .ok (.getfield 15, 3) := by decide +kernel
theorem dX1_sunOfAll_17 : decode cX1_sunOfAll 17 = .ok (.iload_n 2, 1) := by decide +kernel
theorem dX1_sunOfAll_18 : decode cX1_sunOfAll 18 = .ok (.iaload, 1) := by decide +kernel
theorem dX1_sunOfAll_19 : decode cX1_sunOfAll 19 = .ok (.iadd, 1) := by decide +kernel
theorem dX1_sunOfAll_20 : decode cX1_sunOfAll 20 = .ok (.istore_n 1, 1) := by decide +kernel
theorem dX1_sunOfAll_21 : decode cX1_sunOfAll 21 = .ok (.iinc 2 1, 3) := by decide +kernel
theorem dX1_sunOfAll_24 : decode cX1_sunOfAll 24 = .ok (.goto (-20), 3) := by decide +kernel
theorem dX1_sunOfAll_27 : decode cX1_sunOfAll 27 = .ok (.iload_n 1, 1) := by decide +kernel
theorem dX1_sunOfAll_28 : decode cX1_sunOfAll 28 = .ok (.ireturn, 1) := by decide +kernel
theorem dX1_countHeld_0 : decode cX1_countHeld 0 = .ok (.iconst 0, 1) := by decide +kernel
theorem dX1_countHeld_1 : decode cX1_countHeld 1 = .ok (.istore_n 1, 1) := by decide +kernel
theorem dX1_countHeld_2 : decode cX1_countHeld 2 = .ok (.aload_n 0, 1) := by decide +kernel
theorem dX1_countHeld_3 : decode cX1_countHeld 3 = .ok (.getfield 27, 3) := by decide +kernel
theorem dX1_countHeld_6 : decode cX1_countHeld 6 = .ok (.astore_n 2, 1) := by decide +kernel
theorem dX1_countHeld_7 : decode cX1_countHeld 7 = .ok (.aload_n 2, 1) := by decide +kernel
theorem dX1_countHeld_8 : decode cX1_countHeld 8 = .ok (.arraylength, 1) := by decide +kernel
theorem dX1_countHeld_9 : decode cX1_countHeld 9 = .ok (.istore_n 3, 1) := by decide +kernel
theorem dX1_countHeld_10 : decode cX1_countHeld 10 = .ok (.iconst 0, 1) := by decide +kernel
theorem dX1_countHeld_11 : decode cX1_countHeld 11 = .ok (.istore 4, 2) := by decide +kernel
theorem dX1_countHeld_13 : decode cX1_countHeld 13 = .ok (.iload 4, 2) := by decide +kernel
theorem dX1_countHeld_15 : decode cX1_countHeld 15 = .ok (.iload_n 3, 1) := by decide +kernel
theorem dX1_countHeld_16 : decode cX1_countHeld 16 = .ok (.if_icmp .ge 29, 3) := by decide +kernel
theorem dX1_countHeld_19 : decode cX1_countHeld 19 = .ok (.aload_n 2, 1) := by decide +kernel
theorem dX1_countHeld_20 : decode cX1_countHeld 20 = .ok (.iload 4, 2) := by decide +kernel
theorem dX1_countHeld_22 : decode cX1_countHeld 22 = .ok (.iaload, 1) := by decide +kernel
theorem dX1_countHeld_23 : decode cX1_countHeld 23 = .ok (.istore 5, 2) := by decide +kernel
theorem dX1_countHeld_25 : decode cX1_countHeld 25 = .ok (.iload_n 1, 1) := by decide +kernel
theorem dX1_countHeld_26 : decode cX1_countHeld 26 = .ok (.iload 5, 2) := by decide +kernel
theorem dX1_countHeld_28 : decode cX1_countHeld 28 = .ok (.iconst (-1), 1) := by decide +kernel
theorem dX1_countHeld_29 : decode cX1_countHeld 29 = .ok (.if_icmp .ne 7, 3) := by decide +kernel
theorem dX1_countHeld_32 : decode cX1_countHeld 32 = .ok (.iconst 0, 1) := by decide +kernel
theorem dX1_countHeld_33 : decode cX1_countHeld 33 = .ok (.goto 4, 3) := by decide +kernel
theorem dX1_countHeld_36 : decode cX1_countHeld 36 = .ok (.iconst 1, 1) := by decide +kernel
theorem dX1_countHeld_37 : decode cX1_countHeld 37 = .ok (.iadd, 1) := by decide +kernel
theorem dX1_countHeld_38 : decode cX1_countHeld 38 = .ok (.istore_n 1, 1) := by decide +kernel
theorem dX1_countHeld_39 : decode cX1_countHeld 39 = .ok (.iinc 4 1, 3) := by decide +kernel
theorem dX1_countHeld_42 : decode cX1_countHeld 42 = .ok (.goto (-29), 3) := by decide +kernel
theorem dX1_countHeld_45 : decode cX1_countHeld 45 = .ok (.iload_n 1, 1) := by decide +kernel
theorem dX1_countHeld_46 : decode cX1_countHeld 46 = .ok (.ireturn, 1) := by decide +kernel
theorem dX2_init_0 : decode cX2_init 0 = .ok (.aload_n 0, 1) := by decide +kernel
theorem dX2_init_1 : decode cX2_init 1 = .ok (.invokespecial 3, 3) := by decide +kernel
theorem dX2_init_4 : decode cX2_init 4 = .ok (.aload_n 0, 1) := by decide +kernel
theorem dX2_init_5 : decode cX2_init 5 = .ok (.bipush 64, 2) := by decide +kernel
theorem dX2_init_7 : decode cX2_init 7 = .ok (.newarray .int, 2) := by decide +kernel
theorem dX2_init_9 : decode cX2_init 9 = .ok (.putfield 9, 3) := by decide +kernel
theorem dX2_init_12 : decode cX2_init 12 = .ok (.aload_n 0, 1) := by decide +kernel
theorem dX2_init_13 : decode cX2_init 13 = .ok (.sipush 256, 3) := by decide +kernel
theorem dX2_init_16 : decode cX2_init 16 = .ok (.newarray .int, 2) := by decide +kernel
theorem dX2_init_18 : decode cX2_init 18 = .ok (.putfield 15, 3) := by decide +kernel
theorem dX2_init_21 : decode cX2_init 21 = .ok (.aload_n 0, 1) := by decide +kernel
theorem dX2_init_22 : decode cX2_init 22 = .ok (.sipush 256, 3) := by decide +kernel
theorem dX2_init_25 : decode cX2_init 25 = .ok (.newarray .int, 2) := by decide +kernel
theorem dX2_init_27 : decode cX2_init 27 = .ok (.putfield 18, 3) := by decide +kernel
theorem dX2_init_30 : decode cX2_init 30 = .ok (.return_, 1) := by decide +kernel
set_option maxRecDepth 20000 in
theorem ggX2_value_X7_isWithin : GoodIn wsX2_value wsX7_isWithin := goodIn_r _ [4] (by decide +kernel) (by decide +kernel)
set_option maxRecDepth 20000 in
theorem gX2_value_X7_isWithin_n21 : GoodIn wsX2_value (wsX7_isWithin) := ggX2_value_X7_isWithin
theorem dX2_value_0 : decode cX2_value 0 = .ok (.iload_n 1, 1) := by decide +kernel
theorem dX2_value_1 : decode cX2_value 1 = .ok (.bipush 7, 2) := by decide +kernel
theorem dX2_value_3 : decode cX2_value 3 = .ok (.invokestatic 21, 3) := by decide +kernel
theorem dX2_value_6 : decode cX2_value 6 = .ok (.ifCond .eq 24, 3) := by decide +kernel
theorem dX2_value_9 : decode cX2_value 9 = .ok (.iload_n 2, 1) := by decide +kernel
theorem dX2_value_10 : decode cX2_value 10 = .ok (.bipush 7, 2) := by decide +kernel
theorem dX2_value_12 : decode cX2_value 12 = .ok (.invokestatic 21, 3) := by decide +kernel
theorem dX2_value_15 : decode cX2_value 15 = .ok (.ifCond .eq 15, 3) := by decide +kernel
theorem dX2_value_18 : decode cX2_value 18 = .ok (.aload_n 0, 1) := by decide +kernel
theorem dX2_value_19 : decode cX2_value 19 = .ok (.getfield 9, 3) := by decide +kernel
theorem dX2_value_22 : decode cX2_value 22 = .ok (.iload_n 1, 1) := by decide +kernel
theorem dX2_value_23 : decode cX2_value 23 = .ok (.bipush 8, 2) := by decide +kernel
theorem dX2_value_25 : decode cX2_value 25 = .ok (.imul, 1) := by decide +kernel
theorem dX2_value_26 : decode cX2_value 26 = .ok (.iload_n 2, 1) := by decide +kernel
theorem dX2_value_27 : decode cX2_value 27 = .ok (.iadd, 1) := by decide +kernel
theorem dX2_value_28 : decode cX2_value 28 = .ok (.iload_n 3, 1) := by decide +kernel
theorem dX2_value_29 : decode cX2_value 29 = .ok (.iastore, 1) := by decide +kernel
theorem dX2_value_30 : decode cX2_value 30 = .ok (.return_, 1) := by decide +kernel
theorem dX2_valueOf_0 : decode cX2_valueOf 0 = .ok (.aload_n 0, 1) := by decide +kernel
theorem dX2_valueOf_1 : decode cX2_valueOf 1 = .ok (.getfield 9, 3) := by decide +kernel
theorem dX2_valueOf_4 : decode cX2_valueOf 4 = .ok (.iload_n 1, 1) := by decide +kernel
theorem dX2_valueOf_5 : decode cX2_valueOf 5 = .ok (.iload_n 2, 1) := by decide +kernel
theorem dX2_valueOf_6 : decode cX2_valueOf 6 = .ok (.invokestatic 25, 3) := by decide +kernel
theorem dX2_valueOf_9 : decode cX2_valueOf 9 = .ok (.bipush 8, 2) := by decide +kernel
theorem dX2_valueOf_11 : decode cX2_valueOf 11 = .ok (.imul, 1) := by decide +kernel
theorem dX2_valueOf_12 : decode cX2_valueOf 12 = .ok (.iload_n 1, 1) := by decide +kernel
theorem dX2_valueOf_13 : decode cX2_valueOf 13 = .ok (.iload_n 2, 1) := by decide +kernel
theorem dX2_valueOf_14 : decode cX2_valueOf 14 = .ok (.invokestatic 31, 3) := by decide +kernel
theorem dX2_valueOf_17 : decode cX2_valueOf 17 = .ok (.iadd, 1) := by decide +kernel
theorem dX2_valueOf_18 : decode cX2_valueOf 18 = .ok (.iaload, 1) := by decide +kernel
theorem dX2_valueOf_19 : decode cX2_valueOf 19 = .ok (.ireturn, 1) := by decide +kernel
set_option maxRecDepth 20000 in
theorem ggX2_weigh_X2_weighSet : GoodIn wsX2_weigh wsX2_weighSet := goodIn_r _ [7, 1, 2, 8, 9, 6, 10, 11, 12, 13, 14, 15, 16, 17, 18, 19, 20, 21, 22, 23, 24, 25, 26, 27, 28, 29, 30, 31, 32, 33, 34, 35, 36, 37, 38, 39, 40, 41, 42] (by decide +kernel) (by decide +kernel)
set_option maxRecDepth 20000 in
theorem gX2_weigh_X2_weighSet : GoodIn wsX2_weigh (wsV RX2 34 RX2 yX2_weighSet wsX2_weighSet) := goodIn_app (goodIn_of _ (by decide +kernel)) ggX2_weigh_X2_weighSet
theorem dX2_weigh_0 : decode cX2_weigh 0 = .ok (.aload_n 0, 1) := by decide +kernel
theorem dX2_weigh_1 : decode cX2_weigh 1 = .ok (.getfield 15, 3) := by decide +kernel
theorem dX2_weigh_4 : decode cX2_weigh 4 = .ok (.iconst 0, 1) := by decide +kernel
theorem dX2_weigh_5 : decode cX2_weigh 5 = .ok (.iconst 0, 1) := by decide +kernel
theorem dX2_weigh_6 : decode cX2_weigh 6 = .ok (.iastore, 1) := by decide +kernel
theorem dX2_weigh_7 : decode cX2_weigh 7 = .ok (.aload_n 0, 1) := by decide +kernel
theorem dX2_weigh_8 : decode cX2_weigh 8 = .ok (.getfield 18, 3) := by decide +kernel
theorem dX2_weigh_11 : decode cX2_weigh 11 = .ok (.iconst 0, 1) := by decide +kernel
theorem dX2_weigh_12 : decode cX2_weigh 12 = .ok (.iconst 1, 1) := by decide +kernel
theorem dX2_weigh_13 : decode cX2_weigh 13 = .ok (.iastore, 1) := by decide +kernel
theorem dX2_weigh_14 : decode cX2_weigh 14 = .ok (.iconst 1, 1) := by decide +kernel
theorem dX2_weigh_15 : decode cX2_weigh 15 = .ok (.istore_n 2, 1) := by decide +kernel
theorem dX2_weigh_16 : decode cX2_weigh 16 = .ok (.iload_n 2, 1) := by decide +kernel
theorem dX2_weigh_17 : decode cX2_weigh 17 = .ok (.iload_n 1, 1) := by decide +kernel
theorem dX2_weigh_18 : decode cX2_weigh 18 = .ok (.if_icmp .gt 23, 3) := by decide +kernel
theorem dX2_weigh_21 : decode cX2_weigh 21 = .ok (.iload_n 2, 1) := by decide +kernel
theorem dX2_weigh_22 : decode cX2_weigh 22 = .ok (.aload_n 0, 1) := by decide +kernel
theorem dX2_weigh_23 : decode cX2_weigh 23 = .ok (.getfield 15, 3) := by decide +kernel
theorem dX2_weigh_26 : decode cX2_weigh 26 = .ok (.arraylength, 1) := by decide +kernel
theorem dX2_weigh_27 : decode cX2_weigh 27 = .ok (.if_icmp .ge 14, 3) := by decide +kernel
theorem dX2_weigh_30 : decode cX2_weigh 30 = .ok (.aload_n 0, 1) := by decide +kernel
theorem dX2_weigh_31 : decode cX2_weigh 31 = .ok (.iload_n 2, 1) := by decide +kernel
theorem dX2_weigh_32 : decode cX2_weigh 32 = .ok (.invokevirtual 34, 3) := by decide +kernel
theorem dX2_weigh_35 : decode cX2_weigh 35 = .ok (.iinc 2 1, 3) := by decide +kernel
theorem dX2_weigh_38 : decode cX2_weigh 38 = .ok (.goto (-22), 3) := by decide +kernel
theorem dX2_weigh_41 : decode cX2_weigh 41 = .ok (.return_, 1) := by decide +kernel
set_option maxRecDepth 20000 in
theorem ggX2_weighSet_X2_leastOf : GoodIn wsX2_weighSet wsX2_leastOf := goodIn_r _ [6, 7, 8, 9] (by decide +kernel) (by decide +kernel)
set_option maxRecDepth 20000 in
theorem gX2_weighSet_X2_leastOf : GoodIn wsX2_weighSet (va_wsS RX2 38 yX2_leastOf wsX2_leastOf) := goodIn_app (goodIn_of _ (by decide +kernel)) ggX2_weighSet_X2_leastOf
set_option maxRecDepth 20000 in
theorem ggX2_weighSet_X2_worthWith : GoodIn wsX2_weighSet wsX2_worthWith := goodIn_r _ [13, 1, 7, 8, 9, 14, 15, 16, 17, 18, 19, 20, 21, 22, 23, 5, 24, 25, 26, 27, 28, 29, 30, 31, 32, 33, 34, 35, 36, 37, 38] (by decide +kernel) (by decide +kernel)
set_option maxRecDepth 20000 in
theorem gX2_weighSet_X2_worthWith : GoodIn wsX2_weighSet (wsV RX2 42 RX2 yX2_worthWith wsX2_worthWith) := goodIn_app (goodIn_of _ (by decide +kernel)) ggX2_weighSet_X2_worthWith
set_option maxRecDepth 20000 in
theorem ggX2_weighSet_X2_without : GoodIn wsX2_weighSet wsX2_without := goodIn_r _ [35] (by decide +kernel) (by decide +kernel)
set_option maxRecDepth 20000 in
theorem gX2_weighSet_X2_without : GoodIn wsX2_weighSet (va_wsS RX2 46 yX2_without wsX2_without) := goodIn_app (goodIn_of _ (by decide +kernel)) ggX2_weighSet_X2_without
theorem dX2_weighSet_0 : decode cX2_weighSet 0 = .ok (.iload_n 1, 1) := by decide +kernel
theorem dX2_weighSet_1 : decode cX2_weighSet 1 = .ok (.invokestatic 38, 3) := by decide +kernel
theorem dX2_weighSet_4 : decode cX2_weighSet 4 = .ok (.istore_n 2, 1) := by decide +kernel
theorem dX2_weighSet_5 : decode cX2_weighSet 5 = .ok (.aload_n 0, 1) := by decide +kernel
theorem dX2_weighSet_6 : decode cX2_weighSet 6 = .ok (.getfield 15, 3) := by decide +kernel
theorem dX2_weighSet_9 : decode cX2_weighSet 9 = .ok (.iload_n 1, 1) := by decide +kernel
theorem dX2_weighSet_10 : decode cX2_weighSet 10 = .ok (.iconst (-1), 1) := by decide +kernel
theorem dX2_weighSet_11 : decode cX2_weighSet 11 = .ok (.iastore, 1) := by decide +kernel
theorem dX2_weighSet_12 : decode cX2_weighSet 12 = .ok (.aload_n 0, 1) := by decide +kernel
theorem dX2_weighSet_13 : decode cX2_weighSet 13 = .ok (.getfield 18, 3) := by decide +kernel
theorem dX2_weighSet_16 : decode cX2_weighSet 16 = .ok (.iload_n 1, 1) := by decide +kernel
theorem dX2_weighSet_17 : decode cX2_weighSet 17 = .ok (.iconst 0, 1) := by decide +kernel
theorem dX2_weighSet_18 : decode cX2_weighSet 18 = .ok (.iastore, 1) := by decide +kernel
theorem dX2_weighSet_19 : decode cX2_weighSet 19 = .ok (.iload_n 2, 1) := by decide +kernel
theorem dX2_weighSet_20 : decode cX2_weighSet 20 = .ok (.istore_n 3, 1) := by decide +kernel
theorem dX2_weighSet_21 : decode cX2_weighSet 21 = .ok (.iload_n 3, 1) := by decide +kernel
theorem dX2_weighSet_22 : decode cX2_weighSet 22 = .ok (.bipush 8, 2) := by decide +kernel
theorem dX2_weighSet_24 : decode cX2_weighSet 24 = .ok (.if_icmp .ge 81, 3) := by decide +kernel
theorem dX2_weighSet_27 : decode cX2_weighSet 27 = .ok (.aload_n 0, 1) := by decide +kernel
theorem dX2_weighSet_28 : decode cX2_weighSet 28 = .ok (.iload_n 1, 1) := by decide +kernel
theorem dX2_weighSet_29 : decode cX2_weighSet 29 = .ok (.iload_n 2, 1) := by decide +kernel
theorem dX2_weighSet_30 : decode cX2_weighSet 30 = .ok (.iload_n 3, 1) := by decide +kernel
theorem dX2_weighSet_31 : decode cX2_weighSet 31 = .ok (.invokevirtual 42, 3) := by decide +kernel
theorem dX2_weighSet_34 : decode cX2_weighSet 34 = .ok (.istore 4, 2) := by decide +kernel
theorem dX2_weighSet_36 : decode cX2_weighSet 36 = .ok (.iload 4, 2) := by decide +kernel
theorem dX2_weighSet_38 : decode cX2_weighSet 38 = .ok (.aload_n 0, 1) := by decide +kernel
theorem dX2_weighSet_39 : decode cX2_weighSet 39 = .ok (.getfield 15, 3) := by decide +kernel
theorem dX2_weighSet_42 : decode cX2_weighSet 42 = .ok (.iload_n 1, 1) := by decide +kernel
theorem dX2_weighSet_43 : decode cX2_weighSet 43 = .ok (.iaload, 1) := by decide +kernel
theorem dX2_weighSet_44 : decode cX2_weighSet 44 = .ok (.if_icmp .le 18, 3) := by decide +kernel
theorem dX2_weighSet_47 : decode cX2_weighSet 47 = .ok (.aload_n 0, 1) := by decide +kernel
theorem dX2_weighSet_48 : decode cX2_weighSet 48 = .ok (.getfield 15, 3) := by decide +kernel
theorem dX2_weighSet_51 : decode cX2_weighSet 51 = .ok (.iload_n 1, 1) := by decide +kernel
theorem dX2_weighSet_52 : decode cX2_weighSet 52 = .ok (.iload 4, 2) := by decide +kernel
theorem dX2_weighSet_54 : decode cX2_weighSet 54 = .ok (.iastore, 1) := by decide +kernel
theorem dX2_weighSet_55 : decode cX2_weighSet 55 = .ok (.aload_n 0, 1) := by decide +kernel
theorem dX2_weighSet_56 : decode cX2_weighSet 56 = .ok (.getfield 18, 3) := by decide +kernel
theorem dX2_weighSet_59 : decode cX2_weighSet 59 = .ok (.iload_n 1, 1) := by decide +kernel
theorem dX2_weighSet_60 : decode cX2_weighSet 60 = .ok (.iconst 0, 1) := by decide +kernel
theorem dX2_weighSet_61 : decode cX2_weighSet 61 = .ok (.iastore, 1) := by decide +kernel
theorem dX2_weighSet_62 : decode cX2_weighSet 62 = .ok (.iload 4, 2) := by decide +kernel
theorem dX2_weighSet_64 : decode cX2_weighSet 64 = .ok (.iconst (-1), 1) := by decide +kernel
theorem dX2_weighSet_65 : decode cX2_weighSet 65 = .ok (.if_icmp .eq 34, 3) := by decide +kernel
theorem dX2_weighSet_68 : decode cX2_weighSet 68 = .ok (.iload 4, 2) := by decide +kernel
theorem dX2_weighSet_70 : decode cX2_weighSet 70 = .ok (.aload_n 0, 1) := by decide +kernel
theorem dX2_weighSet_71 : decode cX2_weighSet 71 = .ok (.getfield 15, 3) := by decide +kernel
theorem dX2_weighSet_74 : decode cX2_weighSet 74 = .ok (.iload_n 1, 1) := by decide +kernel
theorem dX2_weighSet_75 : decode cX2_weighSet 75 = .ok (.iaload, 1) := by decide +kernel
theorem dX2_weighSet_76 : decode cX2_weighSet 76 = .ok (.if_icmp .ne 23, 3) := by decide +kernel
theorem dX2_weighSet_79 : decode cX2_weighSet 79 = .ok (.aload_n 0, 1) := by decide +kernel
theorem dX2_weighSet_80 : decode cX2_weighSet 80 = .ok (.getfield 18, 3) := by decide +kernel
theorem dX2_weighSet_83 : decode cX2_weighSet 83 = .ok (.iload_n 1, 1) := by decide +kernel
theorem dX2_weighSet_84 : decode cX2_weighSet 84 = .ok (.dup2, 1) := by decide +kernel
theorem dX2_weighSet_85 : decode cX2_weighSet 85 = .ok (.iaload, 1) := by decide +kernel
theorem dX2_weighSet_86 : decode cX2_weighSet 86 = .ok (.aload_n 0, 1) := by decide +kernel
theorem dX2_weighSet_87 : decode cX2_weighSet 87 = .ok (.getfield 18, 3) := by decide +kernel
theorem dX2_weighSet_90 : decode cX2_weighSet 90 = .ok (.iload_n 1, 1) := by decide +kernel
theorem dX2_weighSet_91 : decode cX2_weighSet 91 = .ok (.iload_n 2, 1) := by decide +kernel
theorem dX2_weighSet_92 : decode cX2_weighSet 92 = .ok (.iload_n 3, 1) := by decide +kernel
theorem dX2_weighSet_93 : decode cX2_weighSet 93 = .ok (.invokestatic 46, 3) := by decide +kernel
theorem dX2_weighSet_96 : decode cX2_weighSet 96 = .ok (.iaload, 1) := by decide +kernel
theorem dX2_weighSet_97 : decode cX2_weighSet 97 = .ok (.iadd, 1) := by decide +kernel
theorem dX2_weighSet_98 : decode cX2_weighSet 98 = .ok (.iastore, 1) := by decide +kernel
theorem dX2_weighSet_99 : decode cX2_weighSet 99 = .ok (.iinc 3 1, 3) := by decide +kernel
theorem dX2_weighSet_102 : decode cX2_weighSet 102 = .ok (.goto (-81), 3) := by decide +kernel
theorem dX2_weighSet_105 : decode cX2_weighSet 105 = .ok (.return_, 1) := by decide +kernel
set_option maxRecDepth 20000 in
theorem ggX2_worthWith_X7_bit : GoodIn wsX2_worthWith wsX7_bit := goodIn_r _ [4] (by decide +kernel) (by decide +kernel)
set_option maxRecDepth 20000 in
theorem gX2_worthWith_X7_bit_n49 : GoodIn wsX2_worthWith (wsX7_bit) := ggX2_worthWith_X7_bit
set_option maxRecDepth 20000 in
theorem ggX2_worthWith_J6_bitCount_0f7a4 : GoodIn wsX2_worthWith wsJ6_bitCount_0f7a4 := goodIn_r _ [8, 9, 10, 11] (by decide +kernel) (by decide +kernel)
set_option maxRecDepth 20000 in
theorem gX2_worthWith_J6_bitCount_0f7a4 : GoodIn wsX2_worthWith (va_wsS RX2 52 yJ6_bitCount_0f7a4 wsJ6_bitCount_0f7a4) := goodIn_app (goodIn_of _ (by decide +kernel)) ggX2_worthWith_J6_bitCount_0f7a4
set_option maxRecDepth 20000 in
theorem ggX2_worthWith_X2_valueOf : GoodIn wsX2_worthWith wsX2_valueOf := goodIn_r _ [16, 17, 18, 19, 20, 21, 22, 23, 24, 28, 29, 30] (by decide +kernel) (by decide +kernel)
set_option maxRecDepth 20000 in
theorem gX2_worthWith_X2_valueOf : GoodIn wsX2_worthWith (wsV RX2 57 RX2 yX2_valueOf wsX2_valueOf) := goodIn_app (goodIn_of _ (by decide +kernel)) ggX2_worthWith_X2_valueOf
set_option maxRecDepth 20000 in
theorem ggX2_worthWith_X2_without : GoodIn wsX2_worthWith wsX2_without := goodIn_r _ [27] (by decide +kernel) (by decide +kernel)
set_option maxRecDepth 20000 in
theorem gX2_worthWith_X2_without : GoodIn wsX2_worthWith (va_wsS RX2 46 yX2_without wsX2_without) := goodIn_app (goodIn_of _ (by decide +kernel)) ggX2_worthWith_X2_without
theorem dX2_worthWith_0 : decode cX2_worthWith 0 = .ok (.iload_n 1, 1) := by decide +kernel
theorem dX2_worthWith_1 : decode cX2_worthWith 1 = .ok (.iload_n 3, 1) := by decide +kernel
theorem dX2_worthWith_2 : decode cX2_worthWith 2 = .ok (.invokestatic 49, 3) := by decide +kernel
theorem dX2_worthWith_5 : decode cX2_worthWith 5 = .ok (.iconst 1, 1) := by decide +kernel
theorem dX2_worthWith_6 : decode cX2_worthWith 6 = .ok (.if_icmp .ne 22, 3) := by decide +kernel
theorem dX2_worthWith_9 : decode cX2_worthWith 9 = .ok (.iload_n 2, 1) := by decide +kernel
theorem dX2_worthWith_10 : decode cX2_worthWith 10 = .ok (.iload_n 3, 1) := by decide +kernel
theorem dX2_worthWith_11 : decode cX2_worthWith 11 = .ok (.if_icmp .ne 13, 3) := by decide +kernel
theorem dX2_worthWith_14 : decode cX2_worthWith 14 = .ok (.iload_n 1, 1) := by decide +kernel
theorem dX2_worthWith_15 : decode cX2_worthWith 15 = .ok (.invokestatic 52, 3) := by decide +kernel
theorem dX2_worthWith_18 : decode cX2_worthWith 18 = .ok (.iconst 2, 1) := by decide +kernel
theorem dX2_worthWith_19 : decode cX2_worthWith 19 = .ok (.irem, 1) := by decide +kernel
theorem dX2_worthWith_20 : decode cX2_worthWith 20 = .ok (.iconst 1, 1) := by decide +kernel
theorem dX2_worthWith_21 : decode cX2_worthWith 21 = .ok (.if_icmp .ne 7, 3) := by decide +kernel
theorem dX2_worthWith_24 : decode cX2_worthWith 24 = .ok (.iconst 1, 1) := by decide +kernel
theorem dX2_worthWith_25 : decode cX2_worthWith 25 = .ok (.goto 4, 3) := by decide +kernel
theorem dX2_worthWith_28 : decode cX2_worthWith 28 = .ok (.iconst 0, 1) := by decide +kernel
theorem dX2_worthWith_29 : decode cX2_worthWith 29 = .ok (.istore 4, 2) := by decide +kernel
theorem dX2_worthWith_31 : decode cX2_worthWith 31 = .ok (.iload 4, 2) := by decide +kernel
theorem dX2_worthWith_33 : decode cX2_worthWith 33 = .ok (.ifCond .eq 28, 3) := by decide +kernel
theorem dX2_worthWith_36 : decode cX2_worthWith 36 = .ok (.aload_n 0, 1) := by decide +kernel
theorem dX2_worthWith_37 : decode cX2_worthWith 37 = .ok (.iload_n 2, 1) := by decide +kernel
theorem dX2_worthWith_38 : decode cX2_worthWith 38 = .ok (.iload_n 3, 1) := by decide +kernel
theorem dX2_worthWith_39 : decode cX2_worthWith 39 = .ok (.invokevirtual 57, 3) := by decide +kernel
theorem dX2_worthWith_42 : decode cX2_worthWith 42 = .ok (.iconst (-1), 1) := by decide +kernel
theorem dX2_worthWith_43 : decode cX2_worthWith 43 = .ok (.if_icmp .eq 18, 3) := by decide +kernel
theorem dX2_worthWith_46 : decode cX2_worthWith 46 = .ok (.aload_n 0, 1) := by decide +kernel
theorem dX2_worthWith_47 : decode cX2_worthWith 47 = .ok (.getfield 15, 3) := by decide +kernel
theorem dX2_worthWith_50 : decode cX2_worthWith 50 = .ok (.iload_n 1, 1) := by decide +kernel
theorem dX2_worthWith_51 : decode cX2_worthWith 51 = .ok (.iload_n 2, 1) := by decide +kernel
theorem dX2_worthWith_52 : decode cX2_worthWith 52 = .ok (.iload_n 3, 1) := by decide +kernel
theorem dX2_worthWith_53 : decode cX2_worthWith 53 = .ok (.invokestatic 46, 3) := by decide +kernel
theorem dX2_worthWith_56 : decode cX2_worthWith 56 = .ok (.iaload, 1) := by decide +kernel
theorem dX2_worthWith_57 : decode cX2_worthWith 57 = .ok (.iconst (-1), 1) := by decide +kernel
theorem dX2_worthWith_58 : decode cX2_worthWith 58 = .ok (.if_icmp .ne 5, 3) := by decide +kernel
theorem dX2_worthWith_61 : decode cX2_worthWith 61 = .ok (.iconst (-1), 1) := by decide +kernel
theorem dX2_worthWith_62 : decode cX2_worthWith 62 = .ok (.ireturn, 1) := by decide +kernel
theorem dX2_worthWith_63 : decode cX2_worthWith 63 = .ok (.aload_n 0, 1) := by decide +kernel
theorem dX2_worthWith_64 : decode cX2_worthWith 64 = .ok (.iload_n 2, 1) := by decide +kernel
theorem dX2_worthWith_65 : decode cX2_worthWith 65 = .ok (.iload_n 3, 1) := by decide +kernel
theorem dX2_worthWith_66 : decode cX2_worthWith 66 = .ok (.invokevirtual 57, 3) := by decide +kernel
theorem dX2_worthWith_69 : decode cX2_worthWith 69 = .ok (.aload_n 0, 1) := by decide +kernel
theorem dX2_worthWith_70 : decode cX2_worthWith 70 = .ok (.getfield 15, 3) := by decide +kernel
theorem dX2_worthWith_73 : decode cX2_worthWith 73 = .ok (.iload_n 1, 1) := by decide +kernel
theorem dX2_worthWith_74 : decode cX2_worthWith 74 = .ok (.iload_n 2, 1) := by decide +kernel
theorem dX2_worthWith_75 : decode cX2_worthWith 75 = .ok (.iload_n 3, 1) := by decide +kernel
theorem dX2_worthWith_76 : decode cX2_worthWith 76 = .ok (.invokestatic 46, 3) := by decide +kernel
theorem dX2_worthWith_79 : decode cX2_worthWith 79 = .ok (.iaload, 1) := by decide +kernel
theorem dX2_worthWith_80 : decode cX2_worthWith 80 = .ok (.iadd, 1) := by decide +kernel
theorem dX2_worthWith_81 : decode cX2_worthWith 81 = .ok (.ireturn, 1) := by decide +kernel
theorem dX2_without_0 : decode cX2_without 0 = .ok (.iload_n 0, 1) := by decide +kernel
theorem dX2_without_1 : decode cX2_without 1 = .ok (.iconst 1, 1) := by decide +kernel
theorem dX2_without_2 : decode cX2_without 2 = .ok (.iload_n 1, 1) := by decide +kernel
theorem dX2_without_3 : decode cX2_without 3 = .ok (.ishl, 1) := by decide +kernel
theorem dX2_without_4 : decode cX2_without 4 = .ok (.iconst (-1), 1) := by decide +kernel
theorem dX2_without_5 : decode cX2_without 5 = .ok (.ixor, 1) := by decide +kernel
theorem dX2_without_6 : decode cX2_without 6 = .ok (.iand, 1) := by decide +kernel
theorem dX2_without_7 : decode cX2_without 7 = .ok (.iconst 1, 1) := by decide +kernel
theorem dX2_without_8 : decode cX2_without 8 = .ok (.iload_n 2, 1) := by decide +kernel
theorem dX2_without_9 : decode cX2_without 9 = .ok (.ishl, 1) := by decide +kernel
theorem dX2_without_10 : decode cX2_without 10 = .ok (.iconst (-1), 1) := by decide +kernel
theorem dX2_without_11 : decode cX2_without 11 = .ok (.ixor, 1) := by decide +kernel
theorem dX2_without_12 : decode cX2_without 12 = .ok (.iand, 1) := by decide +kernel
theorem dX2_without_13 : decode cX2_without 13 = .ok (.ireturn, 1) := by decide +kernel
set_option maxRecDepth 20000 in
theorem ggX2_leastOf_X7_bit : GoodIn wsX2_leastOf wsX7_bit := goodIn_r _ [3] (by decide +kernel) (by decide +kernel)
set_option maxRecDepth 20000 in
theorem gX2_leastOf_X7_bit_n49 : GoodIn wsX2_leastOf (wsX7_bit) := ggX2_leastOf_X7_bit
theorem dX2_leastOf_0 : decode cX2_leastOf 0 = .ok (.iconst 0, 1) := by decide +kernel
theorem dX2_leastOf_1 : decode cX2_leastOf 1 = .ok (.istore_n 1, 1) := by decide +kernel
theorem dX2_leastOf_2 : decode cX2_leastOf 2 = .ok (.iload_n 1, 1) := by decide +kernel
theorem dX2_leastOf_3 : decode cX2_leastOf 3 = .ok (.bipush 7, 2) := by decide +kernel
theorem dX2_leastOf_5 : decode cX2_leastOf 5 = .ok (.if_icmp .ge 20, 3) := by decide +kernel
theorem dX2_leastOf_8 : decode cX2_leastOf 8 = .ok (.iload_n 0, 1) := by decide +kernel
theorem dX2_leastOf_9 : decode cX2_leastOf 9 = .ok (.iload_n 1, 1) := by decide +kernel
theorem dX2_leastOf_10 : decode cX2_leastOf 10 = .ok (.invokestatic 49, 3) := by decide +kernel
theorem dX2_leastOf_13 : decode cX2_leastOf 13 = .ok (.iconst 1, 1) := by decide +kernel
theorem dX2_leastOf_14 : decode cX2_leastOf 14 = .ok (.if_icmp .ne 5, 3) := by decide +kernel
theorem dX2_leastOf_17 : decode cX2_leastOf 17 = .ok (.iload_n 1, 1) := by decide +kernel
theorem dX2_leastOf_18 : decode cX2_leastOf 18 = .ok (.ireturn, 1) := by decide +kernel
theorem dX2_leastOf_19 : decode cX2_leastOf 19 = .ok (.iinc 1 1, 3) := by decide +kernel
theorem dX2_leastOf_22 : decode cX2_leastOf 22 = .ok (.goto (-20), 3) := by decide +kernel
theorem dX2_leastOf_25 : decode cX2_leastOf 25 = .ok (.bipush 7, 2) := by decide +kernel
theorem dX2_leastOf_27 : decode cX2_leastOf 27 = .ok (.ireturn, 1) := by decide +kernel
set_option maxRecDepth 20000 in
theorem ggX2_bestOf_X7_isWithin : GoodIn wsX2_bestOf wsX7_isWithin := goodIn_r _ [4] (by decide +kernel) (by decide +kernel)
set_option maxRecDepth 20000 in
theorem gX2_bestOf_X7_isWithin_n21 : GoodIn wsX2_bestOf (wsX7_isWithin) := ggX2_bestOf_X7_isWithin
theorem dX2_bestOf_0 : decode cX2_bestOf 0 = .ok (.iload_n 1, 1) := by decide +kernel
theorem dX2_bestOf_1 : decode cX2_bestOf 1 = .ok (.aload_n 0, 1) := by decide +kernel
theorem dX2_bestOf_2 : decode cX2_bestOf 2 = .ok (.getfield 15, 3) := by decide +kernel
theorem dX2_bestOf_5 : decode cX2_bestOf 5 = .ok (.arraylength, 1) := by decide +kernel
theorem dX2_bestOf_6 : decode cX2_bestOf 6 = .ok (.iconst 1, 1) := by decide +kernel
theorem dX2_bestOf_7 : decode cX2_bestOf 7 = .ok (.isub, 1) := by decide +kernel
theorem dX2_bestOf_8 : decode cX2_bestOf 8 = .ok (.invokestatic 21, 3) := by decide +kernel
theorem dX2_bestOf_11 : decode cX2_bestOf 11 = .ok (.ifCond .eq 12, 3) := by decide +kernel
theorem dX2_bestOf_14 : decode cX2_bestOf 14 = .ok (.aload_n 0, 1) := by decide +kernel
theorem dX2_bestOf_15 : decode cX2_bestOf 15 = .ok (.getfield 15, 3) := by decide +kernel
theorem dX2_bestOf_18 : decode cX2_bestOf 18 = .ok (.iload_n 1, 1) := by decide +kernel
theorem dX2_bestOf_19 : decode cX2_bestOf 19 = .ok (.iaload, 1) := by decide +kernel
theorem dX2_bestOf_20 : decode cX2_bestOf 20 = .ok (.goto 4, 3) := by decide +kernel
theorem dX2_bestOf_23 : decode cX2_bestOf 23 = .ok (.iconst 0, 1) := by decide +kernel
theorem dX2_bestOf_24 : decode cX2_bestOf 24 = .ok (.ireturn, 1) := by decide +kernel
set_option maxRecDepth 20000 in
theorem ggX2_waysOf_X7_isWithin : GoodIn wsX2_waysOf wsX7_isWithin := goodIn_r _ [4] (by decide +kernel) (by decide +kernel)
set_option maxRecDepth 20000 in
theorem gX2_waysOf_X7_isWithin_n21 : GoodIn wsX2_waysOf (wsX7_isWithin) := ggX2_waysOf_X7_isWithin
theorem dX2_waysOf_0 : decode cX2_waysOf 0 = .ok (.iload_n 1, 1) := by decide +kernel
theorem dX2_waysOf_1 : decode cX2_waysOf 1 = .ok (.aload_n 0, 1) := by decide +kernel
theorem dX2_waysOf_2 : decode cX2_waysOf 2 = .ok (.getfield 18, 3) := by decide +kernel
theorem dX2_waysOf_5 : decode cX2_waysOf 5 = .ok (.arraylength, 1) := by decide +kernel
theorem dX2_waysOf_6 : decode cX2_waysOf 6 = .ok (.iconst 1, 1) := by decide +kernel
theorem dX2_waysOf_7 : decode cX2_waysOf 7 = .ok (.isub, 1) := by decide +kernel
theorem dX2_waysOf_8 : decode cX2_waysOf 8 = .ok (.invokestatic 21, 3) := by decide +kernel
theorem dX2_waysOf_11 : decode cX2_waysOf 11 = .ok (.ifCond .eq 12, 3) := by decide +kernel
theorem dX2_waysOf_14 : decode cX2_waysOf 14 = .ok (.aload_n 0, 1) := by decide +kernel
theorem dX2_waysOf_15 : decode cX2_waysOf 15 = .ok (.getfield 18, 3) := by decide +kernel
theorem dX2_waysOf_18 : decode cX2_waysOf 18 = .ok (.iload_n 1, 1) := by decide +kernel
theorem dX2_waysOf_19 : decode cX2_waysOf 19 = .ok (.iaload, 1) := by decide +kernel
theorem dX2_waysOf_20 : decode cX2_waysOf 20 = .ok (.goto 4, 3) := by decide +kernel
theorem dX2_waysOf_23 : decode cX2_waysOf 23 = .ok (.iconst 0, 1) := by decide +kernel
theorem dX2_waysOf_24 : decode cX2_waysOf 24 = .ok (.ireturn, 1) := by decide +kernel
set_option maxRecDepth 20000 in
theorem ggX2_firstMateOf_X2_leastOf : GoodIn wsX2_firstMateOf wsX2_leastOf := goodIn_r _ [5, 6, 7, 8] (by decide +kernel) (by decide +kernel)
set_option maxRecDepth 20000 in
theorem gX2_firstMateOf_X2_leastOf : GoodIn wsX2_firstMateOf (va_wsS RX2 38 yX2_leastOf wsX2_leastOf) := goodIn_app (goodIn_of _ (by decide +kernel)) ggX2_firstMateOf_X2_leastOf
set_option maxRecDepth 20000 in
theorem ggX2_firstMateOf_X2_firstBest : GoodIn wsX2_firstMateOf wsX2_firstBest := goodIn_r _ [12, 1, 13, 14, 15, 4, 16, 6, 7, 8, 17, 18, 19, 20, 21, 22, 23, 24, 25, 26, 27, 28, 29, 30, 31, 32, 33, 34, 35, 36, 37, 38, 39, 40, 41] (by decide +kernel) (by decide +kernel)
set_option maxRecDepth 20000 in
theorem gX2_firstMateOf_X2_firstBest : GoodIn wsX2_firstMateOf (wsV RX2 60 RX2 yX2_firstBest wsX2_firstBest) := goodIn_app (goodIn_of _ (by decide +kernel)) ggX2_firstMateOf_X2_firstBest
set_option maxRecDepth 20000 in
theorem ggX2_firstMateOf_X2_without : GoodIn wsX2_firstMateOf wsX2_without := goodIn_r _ [38] (by decide +kernel) (by decide +kernel)
set_option maxRecDepth 20000 in
theorem gX2_firstMateOf_X2_without : GoodIn wsX2_firstMateOf (va_wsS RX2 46 yX2_without wsX2_without) := goodIn_app (goodIn_of _ (by decide +kernel)) ggX2_firstMateOf_X2_without
theorem dX2_firstMateOf_0 : decode cX2_firstMateOf 0 = .ok (.iload_n 2, 1) := by decide +kernel
theorem dX2_firstMateOf_1 : decode cX2_firstMateOf 1 = .ok (.aload_n 0, 1) := by decide +kernel
theorem dX2_firstMateOf_2 : decode cX2_firstMateOf 2 = .ok (.getfield 15, 3) := by decide +kernel
theorem dX2_firstMateOf_5 : decode cX2_firstMateOf 5 = .ok (.arraylength, 1) := by decide +kernel
theorem dX2_firstMateOf_6 : decode cX2_firstMateOf 6 = .ok (.iconst 1, 1) := by decide +kernel
theorem dX2_firstMateOf_7 : decode cX2_firstMateOf 7 = .ok (.isub, 1) := by decide +kernel
theorem dX2_firstMateOf_8 : decode cX2_firstMateOf 8 = .ok (.iand, 1) := by decide +kernel
theorem dX2_firstMateOf_9 : decode cX2_firstMateOf 9 = .ok (.istore_n 3, 1) := by decide +kernel
theorem dX2_firstMateOf_10 : decode cX2_firstMateOf 10 = .ok (.iconst 0, 1) := by decide +kernel
theorem dX2_firstMateOf_11 : decode cX2_firstMateOf 11 = .ok (.istore 4, 2) := by decide +kernel
theorem dX2_firstMateOf_13 : decode cX2_firstMateOf 13 = .ok (.iload 4, 2) := by decide +kernel
theorem dX2_firstMateOf_15 : decode cX2_firstMateOf 15 = .ok (.bipush 8, 2) := by decide +kernel
theorem dX2_firstMateOf_17 : decode cX2_firstMateOf 17 = .ok (.if_icmp .ge 66, 3) := by decide +kernel
theorem dX2_firstMateOf_20 : decode cX2_firstMateOf 20 = .ok (.iload_n 3, 1) := by decide +kernel
theorem dX2_firstMateOf_21 : decode cX2_firstMateOf 21 = .ok (.ifCond .eq 62, 3) := by decide +kernel
theorem dX2_firstMateOf_24 : decode cX2_firstMateOf 24 = .ok (.iload_n 3, 1) := by decide +kernel
theorem dX2_firstMateOf_25 : decode cX2_firstMateOf 25 = .ok (.invokestatic 38, 3) := by decide +kernel
theorem dX2_firstMateOf_28 : decode cX2_firstMateOf 28 = .ok (.istore 5, 2) := by decide +kernel
theorem dX2_firstMateOf_30 : decode cX2_firstMateOf 30 = .ok (.aload_n 0, 1) := by decide +kernel
theorem dX2_firstMateOf_31 : decode cX2_firstMateOf 31 = .ok (.iload_n 3, 1) := by decide +kernel
theorem dX2_firstMateOf_32 : decode cX2_firstMateOf 32 = .ok (.iload 5, 2) := by decide +kernel
theorem dX2_firstMateOf_34 : decode cX2_firstMateOf 34 = .ok (.invokevirtual 60, 3) := by decide +kernel
theorem dX2_firstMateOf_37 : decode cX2_firstMateOf 37 = .ok (.istore 6, 2) := by decide +kernel
theorem dX2_firstMateOf_39 : decode cX2_firstMateOf 39 = .ok (.iload 5, 2) := by decide +kernel
theorem dX2_firstMateOf_41 : decode cX2_firstMateOf 41 = .ok (.iload_n 1, 1) := by decide +kernel
theorem dX2_firstMateOf_42 : decode cX2_firstMateOf 42 = .ok (.if_icmp .ne 17, 3) := by decide +kernel
theorem dX2_firstMateOf_45 : decode cX2_firstMateOf 45 = .ok (.iload 6, 2) := by decide +kernel
theorem dX2_firstMateOf_47 : decode cX2_firstMateOf 47 = .ok (.iload 5, 2) := by decide +kernel
theorem dX2_firstMateOf_49 : decode cX2_firstMateOf 49 = .ok (.if_icmp .ne 7, 3) := by decide +kernel
theorem dX2_firstMateOf_52 : decode cX2_firstMateOf 52 = .ok (.iconst (-1), 1) := by decide +kernel
theorem dX2_firstMateOf_53 : decode cX2_firstMateOf 53 = .ok (.goto 5, 3) := by decide +kernel
theorem dX2_firstMateOf_56 : decode cX2_firstMateOf 56 = .ok (.iload 6, 2) := by decide +kernel
theorem dX2_firstMateOf_58 : decode cX2_firstMateOf 58 = .ok (.ireturn, 1) := by decide +kernel
theorem dX2_firstMateOf_59 : decode cX2_firstMateOf 59 = .ok (.iload 6, 2) := by decide +kernel
theorem dX2_firstMateOf_61 : decode cX2_firstMateOf 61 = .ok (.iload_n 1, 1) := by decide +kernel
theorem dX2_firstMateOf_62 : decode cX2_firstMateOf 62 = .ok (.if_icmp .ne 6, 3) := by decide +kernel
theorem dX2_firstMateOf_65 : decode cX2_firstMateOf 65 = .ok (.iload 5, 2) := by decide +kernel
theorem dX2_firstMateOf_67 : decode cX2_firstMateOf 67 = .ok (.ireturn, 1) := by decide +kernel
theorem dX2_firstMateOf_68 : decode cX2_firstMateOf 68 = .ok (.iload_n 3, 1) := by decide +kernel
theorem dX2_firstMateOf_69 : decode cX2_firstMateOf 69 = .ok (.iload 5, 2) := by decide +kernel
theorem dX2_firstMateOf_71 : decode cX2_firstMateOf 71 = .ok (.iload 6, 2) := by decide +kernel
theorem dX2_firstMateOf_73 : decode cX2_firstMateOf 73 = .ok (.invokestatic 46, 3) := by decide +kernel
theorem dX2_firstMateOf_76 : decode cX2_firstMateOf 76 = .ok (.istore_n 3, 1) := by decide +kernel
theorem dX2_firstMateOf_77 : decode cX2_firstMateOf 77 = .ok (.iinc 4 1, 3) := by decide +kernel
theorem dX2_firstMateOf_80 : decode cX2_firstMateOf 80 = .ok (.goto (-67), 3) := by decide +kernel
theorem dX2_firstMateOf_83 : decode cX2_firstMateOf 83 = .ok (.iconst (-1), 1) := by decide +kernel
theorem dX2_firstMateOf_84 : decode cX2_firstMateOf 84 = .ok (.ireturn, 1) := by decide +kernel
set_option maxRecDepth 20000 in
theorem ggX2_firstBest_X2_worthWith : GoodIn wsX2_firstBest wsX2_worthWith := goodIn_r _ [6, 1, 7, 8, 9, 10, 11, 12, 13, 14, 15, 16, 17, 18, 19, 5, 20, 21, 22, 23, 24, 25, 26, 27, 28, 29, 30, 31, 32, 33, 34] (by decide +kernel) (by decide +kernel)
set_option maxRecDepth 20000 in
theorem gX2_firstBest_X2_worthWith : GoodIn wsX2_firstBest (wsV RX2 42 RX2 yX2_worthWith wsX2_worthWith) := goodIn_app (goodIn_of _ (by decide +kernel)) ggX2_firstBest_X2_worthWith
theorem dX2_firstBest_0 : decode cX2_firstBest 0 = .ok (.iload_n 2, 1) := by decide +kernel
theorem dX2_firstBest_1 : decode cX2_firstBest 1 = .ok (.istore_n 3, 1) := by decide +kernel
theorem dX2_firstBest_2 : decode cX2_firstBest 2 = .ok (.iload_n 3, 1) := by decide +kernel
theorem dX2_firstBest_3 : decode cX2_firstBest 3 = .ok (.bipush 8, 2) := by decide +kernel
theorem dX2_firstBest_5 : decode cX2_firstBest 5 = .ok (.if_icmp .ge 27, 3) := by decide +kernel
theorem dX2_firstBest_8 : decode cX2_firstBest 8 = .ok (.aload_n 0, 1) := by decide +kernel
theorem dX2_firstBest_9 : decode cX2_firstBest 9 = .ok (.iload_n 1, 1) := by decide +kernel
theorem dX2_firstBest_10 : decode cX2_firstBest 10 = .ok (.iload_n 2, 1) := by decide +kernel
theorem dX2_firstBest_11 : decode cX2_firstBest 11 = .ok (.iload_n 3, 1) := by decide +kernel
theorem dX2_firstBest_12 : decode cX2_firstBest 12 = .ok (.invokevirtual 42, 3) := by decide +kernel
theorem dX2_firstBest_15 : decode cX2_firstBest 15 = .ok (.aload_n 0, 1) := by decide +kernel
theorem dX2_firstBest_16 : decode cX2_firstBest 16 = .ok (.getfield 15, 3) := by decide +kernel
theorem dX2_firstBest_19 : decode cX2_firstBest 19 = .ok (.iload_n 1, 1) := by decide +kernel
theorem dX2_firstBest_20 : decode cX2_firstBest 20 = .ok (.iaload, 1) := by decide +kernel
theorem dX2_firstBest_21 : decode cX2_firstBest 21 = .ok (.if_icmp .ne 5, 3) := by decide +kernel
theorem dX2_firstBest_24 : decode cX2_firstBest 24 = .ok (.iload_n 3, 1) := by decide +kernel
theorem dX2_firstBest_25 : decode cX2_firstBest 25 = .ok (.ireturn, 1) := by decide +kernel
theorem dX2_firstBest_26 : decode cX2_firstBest 26 = .ok (.iinc 3 1, 3) := by decide +kernel
theorem dX2_firstBest_29 : decode cX2_firstBest 29 = .ok (.goto (-27), 3) := by decide +kernel
theorem dX2_firstBest_32 : decode cX2_firstBest 32 = .ok (.iload_n 2, 1) := by decide +kernel
theorem dX2_firstBest_33 : decode cX2_firstBest 33 = .ok (.ireturn, 1) := by decide +kernel
set_option maxRecDepth 20000 in
theorem ggX2_matesOf_X7_isWithin : GoodIn wsX2_matesOf wsX7_isWithin := goodIn_r _ [4] (by decide +kernel) (by decide +kernel)
set_option maxRecDepth 20000 in
theorem gX2_matesOf_X7_isWithin_n21 : GoodIn wsX2_matesOf (wsX7_isWithin) := ggX2_matesOf_X7_isWithin
set_option maxRecDepth 20000 in
theorem ggX2_matesOf_X2_worthWith : GoodIn wsX2_matesOf wsX2_worthWith := goodIn_r _ [9, 1, 10, 3, 11, 12, 13, 14, 15, 16, 17, 18, 19, 20, 21, 8, 22, 23, 24, 25, 26, 27, 28, 29, 30, 31, 32, 33, 34, 35, 36] (by decide +kernel) (by decide +kernel)
set_option maxRecDepth 20000 in
theorem gX2_matesOf_X2_worthWith : GoodIn wsX2_matesOf (wsV RX2 42 RX2 yX2_worthWith wsX2_worthWith) := goodIn_app (goodIn_of _ (by decide +kernel)) ggX2_matesOf_X2_worthWith
theorem dX2_matesOf_0 : decode cX2_matesOf 0 = .ok (.iconst 0, 1) := by decide +kernel
theorem dX2_matesOf_1 : decode cX2_matesOf 1 = .ok (.istore_n 3, 1) := by decide +kernel
theorem dX2_matesOf_2 : decode cX2_matesOf 2 = .ok (.iload_n 2, 1) := by decide +kernel
theorem dX2_matesOf_3 : decode cX2_matesOf 3 = .ok (.aload_n 0, 1) := by decide +kernel
theorem dX2_matesOf_4 : decode cX2_matesOf 4 = .ok (.getfield 15, 3) := by decide +kernel
theorem dX2_matesOf_7 : decode cX2_matesOf 7 = .ok (.arraylength, 1) := by decide +kernel
theorem dX2_matesOf_8 : decode cX2_matesOf 8 = .ok (.iconst 1, 1) := by decide +kernel
theorem dX2_matesOf_9 : decode cX2_matesOf 9 = .ok (.isub, 1) := by decide +kernel
theorem dX2_matesOf_10 : decode cX2_matesOf 10 = .ok (.iand, 1) := by decide +kernel
theorem dX2_matesOf_11 : decode cX2_matesOf 11 = .ok (.istore 4, 2) := by decide +kernel
theorem dX2_matesOf_13 : decode cX2_matesOf 13 = .ok (.iconst 0, 1) := by decide +kernel
theorem dX2_matesOf_14 : decode cX2_matesOf 14 = .ok (.istore 5, 2) := by decide +kernel
theorem dX2_matesOf_16 : decode cX2_matesOf 16 = .ok (.iload 5, 2) := by decide +kernel
theorem dX2_matesOf_18 : decode cX2_matesOf 18 = .ok (.bipush 8, 2) := by decide +kernel
theorem dX2_matesOf_20 : decode cX2_matesOf 20 = .ok (.if_icmp .ge 38, 3) := by decide +kernel
theorem dX2_matesOf_23 : decode cX2_matesOf 23 = .ok (.iload_n 1, 1) := by decide +kernel
theorem dX2_matesOf_24 : decode cX2_matesOf 24 = .ok (.bipush 7, 2) := by decide +kernel
theorem dX2_matesOf_26 : decode cX2_matesOf 26 = .ok (.invokestatic 21, 3) := by decide +kernel
theorem dX2_matesOf_29 : decode cX2_matesOf 29 = .ok (.ifCond .eq 23, 3) := by decide +kernel
theorem dX2_matesOf_32 : decode cX2_matesOf 32 = .ok (.aload_n 0, 1) := by decide +kernel
theorem dX2_matesOf_33 : decode cX2_matesOf 33 = .ok (.iload 4, 2) := by decide +kernel
theorem dX2_matesOf_35 : decode cX2_matesOf 35 = .ok (.iload_n 1, 1) := by decide +kernel
theorem dX2_matesOf_36 : decode cX2_matesOf 36 = .ok (.iload 5, 2) := by decide +kernel
theorem dX2_matesOf_38 : decode cX2_matesOf 38 = .ok (.invokevirtual 42, 3) := by decide +kernel
theorem dX2_matesOf_41 : decode cX2_matesOf 41 = .ok (.iconst (-1), 1) := by decide +kernel
theorem dX2_matesOf_42 : decode cX2_matesOf 42 = .ok (.if_icmp .eq 10, 3) := by decide +kernel
theorem dX2_matesOf_45 : decode cX2_matesOf 45 = .ok (.iload_n 3, 1) := by decide +kernel
theorem dX2_matesOf_46 : decode cX2_matesOf 46 = .ok (.iconst 1, 1) := by decide +kernel
theorem dX2_matesOf_47 : decode cX2_matesOf 47 = .ok (.iload 5, 2) := by decide +kernel
theorem dX2_matesOf_49 : decode cX2_matesOf 49 = .ok (.ishl, 1) := by decide +kernel
theorem dX2_matesOf_50 : decode cX2_matesOf 50 = .ok (.ior, 1) := by decide +kernel
theorem dX2_matesOf_51 : decode cX2_matesOf 51 = .ok (.istore_n 3, 1) := by decide +kernel
theorem dX2_matesOf_52 : decode cX2_matesOf 52 = .ok (.iinc 5 1, 3) := by decide +kernel
theorem dX2_matesOf_55 : decode cX2_matesOf 55 = .ok (.goto (-39), 3) := by decide +kernel
theorem dX2_matesOf_58 : decode cX2_matesOf 58 = .ok (.iload_n 3, 1) := by decide +kernel
theorem dX2_matesOf_59 : decode cX2_matesOf 59 = .ok (.ireturn, 1) := by decide +kernel
set_option maxRecDepth 20000 in
theorem ggX3_init_X6_init : GoodIn wsX3_init wsX6_init := goodIn_r _ [20, 21, 2, 3, 12, 22, 23, 41, 42] (by decide +kernel) (by decide +kernel)
set_option maxRecDepth 20000 in
theorem gX3_init_X6_init_n11 : GoodIn wsX3_init (wsX6_init) := ggX3_init_X6_init
set_option maxRecDepth 20000 in
theorem ggX3_init_X1_init : GoodIn wsX3_init wsX1_init := goodIn_r _ [26, 27, 2, 3, 12, 28, 29, 30, 31, 32, 33, 34, 35, 36, 37, 38, 39, 40, 51, 52, 53, 54, 55, 56, 57, 58, 59, 60, 61, 62] (by decide +kernel) (by decide +kernel)
set_option maxRecDepth 20000 in
theorem gX3_init_X1_init : GoodIn wsX3_init (wsX1_init) := ggX3_init_X1_init
theorem dX3_init_0 : decode cX3_init 0 = .ok (.aload_n 0, 1) := by decide +kernel
theorem dX3_init_1 : decode cX3_init 1 = .ok (.invokespecial 5, 3) := by decide +kernel
theorem dX3_init_4 : decode cX3_init 4 = .ok (.aload_n 0, 1) := by decide +kernel
theorem dX3_init_5 : decode cX3_init 5 = .ok (.new 1, 3) := by decide +kernel
theorem dX3_init_8 : decode cX3_init 8 = .ok (.dup, 1) := by decide +kernel
theorem dX3_init_9 : decode cX3_init 9 = .ok (.invokespecial 11, 3) := by decide +kernel
theorem dX3_init_12 : decode cX3_init 12 = .ok (.putfield 12, 3) := by decide +kernel
theorem dX3_init_15 : decode cX3_init 15 = .ok (.aload_n 0, 1) := by decide +kernel
theorem dX3_init_16 : decode cX3_init 16 = .ok (.new 18, 3) := by decide +kernel
theorem dX3_init_19 : decode cX3_init 19 = .ok (.dup, 1) := by decide +kernel
theorem dX3_init_20 : decode cX3_init 20 = .ok (.invokespecial 20, 3) := by decide +kernel
theorem dX3_init_23 : decode cX3_init 23 = .ok (.putfield 21, 3) := by decide +kernel
theorem dX3_init_26 : decode cX3_init 26 = .ok (.aload_n 0, 1) := by decide +kernel
theorem dX3_init_27 : decode cX3_init 27 = .ok (.bipush 121, 2) := by decide +kernel
theorem dX3_init_29 : decode cX3_init 29 = .ok (.newarray .int, 2) := by decide +kernel
theorem dX3_init_31 : decode cX3_init 31 = .ok (.putfield 25, 3) := by decide +kernel
theorem dX3_init_34 : decode cX3_init 34 = .ok (.aload_n 0, 1) := by decide +kernel
theorem dX3_init_35 : decode cX3_init 35 = .ok (.bipush 121, 2) := by decide +kernel
theorem dX3_init_37 : decode cX3_init 37 = .ok (.newarray .int, 2) := by decide +kernel
theorem dX3_init_39 : decode cX3_init 39 = .ok (.putfield 29, 3) := by decide +kernel
theorem dX3_init_42 : decode cX3_init 42 = .ok (.aload_n 0, 1) := by decide +kernel
theorem dX3_init_43 : decode cX3_init 43 = .ok (.bipush 121, 2) := by decide +kernel
theorem dX3_init_45 : decode cX3_init 45 = .ok (.newarray .int, 2) := by decide +kernel
theorem dX3_init_47 : decode cX3_init 47 = .ok (.putfield 32, 3) := by decide +kernel
theorem dX3_init_50 : decode cX3_init 50 = .ok (.aload_n 0, 1) := by decide +kernel
theorem dX3_init_51 : decode cX3_init 51 = .ok (.bipush 121, 2) := by decide +kernel
theorem dX3_init_53 : decode cX3_init 53 = .ok (.newarray .int, 2) := by decide +kernel
theorem dX3_init_55 : decode cX3_init 55 = .ok (.putfield 35, 3) := by decide +kernel
theorem dX3_init_58 : decode cX3_init 58 = .ok (.aload_n 0, 1) := by decide +kernel
theorem dX3_init_59 : decode cX3_init 59 = .ok (.iconst 0, 1) := by decide +kernel
theorem dX3_init_60 : decode cX3_init 60 = .ok (.putfield 38, 3) := by decide +kernel
theorem dX3_init_63 : decode cX3_init 63 = .ok (.aload_n 0, 1) := by decide +kernel
theorem dX3_init_64 : decode cX3_init 64 = .ok (.iconst 0, 1) := by decide +kernel
theorem dX3_init_65 : decode cX3_init 65 = .ok (.putfield 42, 3) := by decide +kernel
theorem dX3_init_68 : decode cX3_init 68 = .ok (.return_, 1) := by decide +kernel
set_option maxRecDepth 20000 in
theorem ggX3_read_X3_split : GoodIn wsX3_read wsX3_split := goodIn_r _ [8, 9, 3, 10, 11, 12, 13, 14, 15, 16, 17, 18, 19, 20, 7, 21, 22, 23, 24, 25, 26, 2, 27, 28, 29, 30, 31, 32, 33, 34, 35, 36, 37, 187, 188, 189, 190, 191, 192, 193, 194, 195, 196] (by decide +kernel) (by decide +kernel)
set_option maxRecDepth 20000 in
theorem gX3_read_X3_split : GoodIn wsX3_read (wsV RX3 45 RX3 yX3_split wsX3_split) := goodIn_app (goodIn_of _ (by decide +kernel)) ggX3_read_X3_split
set_option maxRecDepth 20000 in
theorem ggX3_read_X1_become : GoodIn wsX3_read wsX1_become := goodIn_r _ [42, 43, 44, 45, 46, 47, 48, 49, 50, 51, 52, 53, 54, 55, 56, 57, 58, 197, 198, 199, 200, 201, 202, 203, 204, 205, 206, 207, 208] (by decide +kernel) (by decide +kernel)
set_option maxRecDepth 20000 in
theorem gX3_read_X1_become : GoodIn wsX3_read (wsV RX3 48 RX1 yX1_become wsX1_become) := goodIn_app (goodIn_of _ (by decide +kernel)) ggX3_read_X1_become
set_option maxRecDepth 20000 in
theorem ggX3_read_X3_readItem : GoodIn wsX3_read wsX3_readItem := goodIn_r _ [62, 63, 64, 65, 7, 66, 67, 68, 69, 70, 32, 3, 2, 10, 71, 72, 73, 74, 26, 75, 76, 77, 78, 79, 80, 81, 82, 83, 84, 85, 86, 12, 13, 14, 15, 16, 17, 18, 87, 88, 89, 90, 91, 92, 93, 94, 95, 96, 97, 98, 99, 100, 101, 102, 103, 104, 105, 106, 107, 108, 109, 110, 111, 112, 113, 114, 115, 116, 117, 118, 119, 120, 121, 122, 123, 124, 125, 126, 127, 1, 128, 129, 130, 131, 132, 133, 134, 41, 135, 53, 136, 137, 138, 139, 43, 48, 49, 50, 51, 140, 141, 142, 143, 144, 9, 145, 146, 147, 148, 27, 149, 150, 151, 152, 153, 154, 155, 156, 157, 158, 159, 160, 161, 162, 163, 164, 165, 166, 167, 168, 169, 170, 171, 172, 173, 174, 175, 176, 177, 178, 179, 180, 181, 182, 183, 184, 185, 186, 187, 188, 189, 190, 191, 192, 193, 194, 195, 196, 197, 198, 199, 200, 201, 202, 203, 204, 205, 206, 207, 208] (by decide +kernel) (by decide +kernel)
set_option maxRecDepth 20000 in
theorem gX3_read_X3_readItem : GoodIn wsX3_read (wsV RX3 52 RX3 yX3_readItem wsX3_readItem) := goodIn_app (goodIn_of _ (by decide +kernel)) ggX3_read_X3_readItem
set_option maxRecDepth 20000 in
theorem ggX3_read_X3_isNext : GoodIn wsX3_read wsX3_isNext := goodIn_r _ [74, 26, 3, 187, 188, 189, 190, 191, 192, 193, 194] (by decide +kernel) (by decide +kernel)
set_option maxRecDepth 20000 in
theorem gX3_read_X3_isNext : GoodIn wsX3_read (wsV RX3 56 RX3 yX3_isNext wsX3_isNext) := goodIn_app (goodIn_of _ (by decide +kernel)) ggX3_read_X3_isNext
set_option maxRecDepth 20000 in
theorem ggX3_read_X3_step : GoodIn wsX3_read wsX3_step := goodIn_r _ [144, 3, 9, 187, 188, 189, 190, 191, 192, 193, 194] (by decide +kernel) (by decide +kernel)
set_option maxRecDepth 20000 in
theorem gX3_read_X3_step : GoodIn wsX3_read (wsV RX3 60 RX3 yX3_step wsX3_step) := goodIn_app (goodIn_of _ (by decide +kernel)) ggX3_read_X3_step
theorem dX3_read_0 : decode cX3_read 0 = .ok (.aload_n 0, 1) := by decide +kernel
theorem dX3_read_1 : decode cX3_read 1 = .ok (.invokevirtual 45, 3) := by decide +kernel
theorem dX3_read_4 : decode cX3_read 4 = .ok (.aload_n 0, 1) := by decide +kernel
theorem dX3_read_5 : decode cX3_read 5 = .ok (.getfield 21, 3) := by decide +kernel
theorem dX3_read_8 : decode cX3_read 8 = .ok (.aload_n 1, 1) := by decide +kernel
theorem dX3_read_9 : decode cX3_read 9 = .ok (.invokevirtual 48, 3) := by decide +kernel
theorem dX3_read_12 : decode cX3_read 12 = .ok (.iconst 1, 1) := by decide +kernel
theorem dX3_read_13 : decode cX3_read 13 = .ok (.istore_n 2, 1) := by decide +kernel
theorem dX3_read_14 : decode cX3_read 14 = .ok (.iload_n 2, 1) := by decide +kernel
theorem dX3_read_15 : decode cX3_read 15 = .ok (.bipush 121, 2) := by decide +kernel
theorem dX3_read_17 : decode cX3_read 17 = .ok (.if_icmp .ge 49, 3) := by decide +kernel
theorem dX3_read_20 : decode cX3_read 20 = .ok (.aload_n 0, 1) := by decide +kernel
theorem dX3_read_21 : decode cX3_read 21 = .ok (.invokevirtual 52, 3) := by decide +kernel
theorem dX3_read_24 : decode cX3_read 24 = .ok (.ifCond .eq 42, 3) := by decide +kernel
theorem dX3_read_27 : decode cX3_read 27 = .ok (.aload_n 0, 1) := by decide +kernel
theorem dX3_read_28 : decode cX3_read 28 = .ok (.iconst 0, 1) := by decide +kernel
theorem dX3_read_29 : decode cX3_read 29 = .ok (.invokevirtual 56, 3) := by decide +kernel
theorem dX3_read_32 : decode cX3_read 32 = .ok (.ifCond .eq 13, 3) := by decide +kernel
theorem dX3_read_35 : decode cX3_read 35 = .ok (.aload_n 1, 1) := by decide +kernel
theorem dX3_read_36 : decode cX3_read 36 = .ok (.aload_n 0, 1) := by decide +kernel
theorem dX3_read_37 : decode cX3_read 37 = .ok (.getfield 21, 3) := by decide +kernel
theorem dX3_read_40 : decode cX3_read 40 = .ok (.invokevirtual 48, 3) := by decide +kernel
theorem dX3_read_43 : decode cX3_read 43 = .ok (.iload_n 2, 1) := by decide +kernel
theorem dX3_read_44 : decode cX3_read 44 = .ok (.ireturn, 1) := by decide +kernel
theorem dX3_read_45 : decode cX3_read 45 = .ok (.aload_n 0, 1) := by decide +kernel
theorem dX3_read_46 : decode cX3_read 46 = .ok (.iconst 3, 1) := by decide +kernel
theorem dX3_read_47 : decode cX3_read 47 = .ok (.invokevirtual 56, 3) := by decide +kernel
theorem dX3_read_50 : decode cX3_read 50 = .ok (.ifCond .ne 6, 3) := by decide +kernel
theorem dX3_read_53 : decode cX3_read 53 = .ok (.goto 13, 3) := by decide +kernel
theorem dX3_read_56 : decode cX3_read 56 = .ok (.aload_n 0, 1) := by decide +kernel
theorem dX3_read_57 : decode cX3_read 57 = .ok (.invokevirtual 60, 3) := by decide +kernel
theorem dX3_read_60 : decode cX3_read 60 = .ok (.iinc 2 1, 3) := by decide +kernel
theorem dX3_read_63 : decode cX3_read 63 = .ok (.goto (-49), 3) := by decide +kernel
theorem dX3_read_66 : decode cX3_read 66 = .ok (.iconst (-1), 1) := by decide +kernel
theorem dX3_read_67 : decode cX3_read 67 = .ok (.aload_n 0, 1) := by decide +kernel
theorem dX3_read_68 : decode cX3_read 68 = .ok (.getfield 29, 3) := by decide +kernel
theorem dX3_read_71 : decode cX3_read 71 = .ok (.aload_n 0, 1) := by decide +kernel
theorem dX3_read_72 : decode cX3_read 72 = .ok (.getfield 42, 3) := by decide +kernel
theorem dX3_read_75 : decode cX3_read 75 = .ok (.iaload, 1) := by decide +kernel
theorem dX3_read_76 : decode cX3_read 76 = .ok (.isub, 1) := by decide +kernel
theorem dX3_read_77 : decode cX3_read 77 = .ok (.ireturn, 1) := by decide +kernel
set_option maxRecDepth 20000 in
theorem ggX3_split_X6_byteAt : GoodIn wsX3_split wsX6_byteAt := goodIn_r _ [9, 10, 11, 41, 42] (by decide +kernel) (by decide +kernel)
set_option maxRecDepth 20000 in
theorem gX3_split_X6_byteAt : GoodIn wsX3_split (wsV RX3 66 RX6 yX6_byteAt wsX6_byteAt) := goodIn_app (goodIn_of _ (by decide +kernel)) ggX3_split_X6_byteAt
set_option maxRecDepth 20000 in
theorem ggX3_split_X3_typeOf : GoodIn wsX3_split wsX3_typeOf := goodIn_r _ [15] (by decide +kernel) (by decide +kernel)
set_option maxRecDepth 20000 in
theorem gX3_split_X3_typeOf : GoodIn wsX3_split (va_wsS RX3 70 yX3_typeOf wsX3_typeOf) := goodIn_app (goodIn_of _ (by decide +kernel)) ggX3_split_X3_typeOf
set_option maxRecDepth 20000 in
theorem ggX3_split_X3_beginToken : GoodIn wsX3_split wsX3_beginToken := goodIn_r _ [19, 1, 20, 21, 22, 33, 34, 35, 36, 37, 38, 39, 40] (by decide +kernel) (by decide +kernel)
set_option maxRecDepth 20000 in
theorem gX3_split_X3_beginToken : GoodIn wsX3_split (wsV RX3 73 RX3 yX3_beginToken wsX3_beginToken) := goodIn_app (goodIn_of _ (by decide +kernel)) ggX3_split_X3_beginToken
set_option maxRecDepth 20000 in
theorem ggX3_split_X3_lengthenToken : GoodIn wsX3_split wsX3_lengthenToken := goodIn_r _ [26, 1, 27, 22, 3, 28, 29, 30, 31, 32, 5, 6, 7, 8, 9, 10, 11, 33, 34, 35, 36, 37, 38, 39, 40, 41, 42] (by decide +kernel) (by decide +kernel)
set_option maxRecDepth 20000 in
theorem gX3_split_X3_lengthenToken : GoodIn wsX3_split (wsV RX3 77 RX3 yX3_lengthenToken wsX3_lengthenToken) := goodIn_app (goodIn_of _ (by decide +kernel)) ggX3_split_X3_lengthenToken
theorem dX3_split_0 : decode cX3_split 0 = .ok (.aload_n 0, 1) := by decide +kernel
theorem dX3_split_1 : decode cX3_split 1 = .ok (.iconst 0, 1) := by decide +kernel
theorem dX3_split_2 : decode cX3_split 2 = .ok (.putfield 38, 3) := by decide +kernel
theorem dX3_split_5 : decode cX3_split 5 = .ok (.aload_n 0, 1) := by decide +kernel
theorem dX3_split_6 : decode cX3_split 6 = .ok (.iconst 0, 1) := by decide +kernel
theorem dX3_split_7 : decode cX3_split 7 = .ok (.putfield 42, 3) := by decide +kernel
theorem dX3_split_10 : decode cX3_split 10 = .ok (.iconst 0, 1) := by decide +kernel
theorem dX3_split_11 : decode cX3_split 11 = .ok (.istore_n 1, 1) := by decide +kernel
theorem dX3_split_12 : decode cX3_split 12 = .ok (.iload_n 1, 1) := by decide +kernel
theorem dX3_split_13 : decode cX3_split 13 = .ok (.aload_n 0, 1) := by decide +kernel
theorem dX3_split_14 : decode cX3_split 14 = .ok (.getfield 12, 3) := by decide +kernel
theorem dX3_split_17 : decode cX3_split 17 = .ok (.getfield 63, 3) := by decide +kernel
theorem dX3_split_20 : decode cX3_split 20 = .ok (.if_icmp .ge 73, 3) := by decide +kernel
theorem dX3_split_23 : decode cX3_split 23 = .ok (.aload_n 0, 1) := by decide +kernel
theorem dX3_split_24 : decode cX3_split 24 = .ok (.getfield 12, 3) := by decide +kernel
theorem dX3_split_27 : decode cX3_split 27 = .ok (.iload_n 1, 1) := by decide +kernel
theorem dX3_split_28 : decode cX3_split 28 = .ok (.invokevirtual 66, 3) := by decide +kernel
theorem dX3_split_31 : decode cX3_split 31 = .ok (.invokestatic 70, 3) := by decide +kernel
theorem dX3_split_34 : decode cX3_split 34 = .ok (.istore_n 2, 1) := by decide +kernel
theorem dX3_split_35 : decode cX3_split 35 = .ok (.iload_n 2, 1) := by decide +kernel
theorem dX3_split_36 : decode cX3_split 36 = .ok (.iconst 1, 1) := by decide +kernel
theorem dX3_split_37 : decode cX3_split 37 = .ok (.if_icmp .eq 8, 3) := by decide +kernel
theorem dX3_split_40 : decode cX3_split 40 = .ok (.iload_n 2, 1) := by decide +kernel
theorem dX3_split_41 : decode cX3_split 41 = .ok (.iconst 2, 1) := by decide +kernel
theorem dX3_split_42 : decode cX3_split 42 = .ok (.if_icmp .ne 7, 3) := by decide +kernel
theorem dX3_split_45 : decode cX3_split 45 = .ok (.iconst 1, 1) := by decide +kernel
theorem dX3_split_46 : decode cX3_split 46 = .ok (.goto 4, 3) := by decide +kernel
theorem dX3_split_49 : decode cX3_split 49 = .ok (.iconst 0, 1) := by decide +kernel
theorem dX3_split_50 : decode cX3_split 50 = .ok (.istore_n 3, 1) := by decide +kernel
theorem dX3_split_51 : decode cX3_split 51 = .ok (.iload_n 3, 1) := by decide +kernel
theorem dX3_split_52 : decode cX3_split 52 = .ok (.ifCond .eq 20, 3) := by decide +kernel
theorem dX3_split_55 : decode cX3_split 55 = .ok (.aload_n 0, 1) := by decide +kernel
theorem dX3_split_56 : decode cX3_split 56 = .ok (.getfield 12, 3) := by decide +kernel
theorem dX3_split_59 : decode cX3_split 59 = .ok (.iload_n 1, 1) := by decide +kernel
theorem dX3_split_60 : decode cX3_split 60 = .ok (.iconst 1, 1) := by decide +kernel
theorem dX3_split_61 : decode cX3_split 61 = .ok (.isub, 1) := by decide +kernel
theorem dX3_split_62 : decode cX3_split 62 = .ok (.invokevirtual 66, 3) := by decide +kernel
theorem dX3_split_65 : decode cX3_split 65 = .ok (.invokestatic 70, 3) := by decide +kernel
theorem dX3_split_68 : decode cX3_split 68 = .ok (.iload_n 2, 1) := by decide +kernel
theorem dX3_split_69 : decode cX3_split 69 = .ok (.if_icmp .eq 9, 3) := by decide +kernel
theorem dX3_split_72 : decode cX3_split 72 = .ok (.aload_n 0, 1) := by decide +kernel
theorem dX3_split_73 : decode cX3_split 73 = .ok (.iload_n 2, 1) := by decide +kernel
theorem dX3_split_74 : decode cX3_split 74 = .ok (.iload_n 1, 1) := by decide +kernel
theorem dX3_split_75 : decode cX3_split 75 = .ok (.invokevirtual 73, 3) := by decide +kernel
theorem dX3_split_78 : decode cX3_split 78 = .ok (.iload_n 3, 1) := by decide +kernel
theorem dX3_split_79 : decode cX3_split 79 = .ok (.ifCond .eq 8, 3) := by decide +kernel
theorem dX3_split_82 : decode cX3_split 82 = .ok (.aload_n 0, 1) := by decide +kernel
theorem dX3_split_83 : decode cX3_split 83 = .ok (.iload_n 1, 1) := by decide +kernel
theorem dX3_split_84 : decode cX3_split 84 = .ok (.invokevirtual 77, 3) := by decide +kernel
theorem dX3_split_87 : decode cX3_split 87 = .ok (.iinc 1 1, 3) := by decide +kernel
theorem dX3_split_90 : decode cX3_split 90 = .ok (.goto (-78), 3) := by decide +kernel
theorem dX3_split_93 : decode cX3_split 93 = .ok (.aload_n 0, 1) := by decide +kernel
theorem dX3_split_94 : decode cX3_split 94 = .ok (.iconst 0, 1) := by decide +kernel
theorem dX3_split_95 : decode cX3_split 95 = .ok (.aload_n 0, 1) := by decide +kernel
theorem dX3_split_96 : decode cX3_split 96 = .ok (.getfield 12, 3) := by decide +kernel
theorem dX3_split_99 : decode cX3_split 99 = .ok (.getfield 63, 3) := by decide +kernel
theorem dX3_split_102 : decode cX3_split 102 = .ok (.invokevirtual 73, 3) := by decide +kernel
theorem dX3_split_105 : decode cX3_split 105 = .ok (.return_, 1) := by decide +kernel
theorem dX3_beginToken_0 : decode cX3_beginToken 0 = .ok (.iload_n 1, 1) := by decide +kernel
theorem dX3_beginToken_1 : decode cX3_beginToken 1 = .ok (.iconst 4, 1) := by decide +kernel
theorem dX3_beginToken_2 : decode cX3_beginToken 2 = .ok (.if_icmp .eq 52, 3) := by decide +kernel
theorem dX3_beginToken_5 : decode cX3_beginToken 5 = .ok (.aload_n 0, 1) := by decide +kernel
theorem dX3_beginToken_6 : decode cX3_beginToken 6 = .ok (.getfield 38, 3) := by decide +kernel
theorem dX3_beginToken_9 : decode cX3_beginToken 9 = .ok (.bipush 121, 2) := by decide +kernel
theorem dX3_beginToken_11 : decode cX3_beginToken 11 = .ok (.if_icmp .ge 43, 3) := by decide +kernel
theorem dX3_beginToken_14 : decode cX3_beginToken 14 = .ok (.aload_n 0, 1) := by decide +kernel
theorem dX3_beginToken_15 : decode cX3_beginToken 15 = .ok (.getfield 25, 3) := by decide +kernel
theorem dX3_beginToken_18 : decode cX3_beginToken 18 = .ok (.aload_n 0, 1) := by decide +kernel
theorem dX3_beginToken_19 : decode cX3_beginToken 19 = .ok (.getfield 38, 3) := by decide +kernel
theorem dX3_beginToken_22 : decode cX3_beginToken 22 = .ok (.iload_n 1, 1) := by decide +kernel
theorem dX3_beginToken_23 : decode cX3_beginToken 23 = .ok (.iastore, 1) := by decide +kernel
theorem dX3_beginToken_24 : decode cX3_beginToken 24 = .ok (.aload_n 0, 1) := by decide +kernel
theorem dX3_beginToken_25 : decode cX3_beginToken 25 = .ok (.getfield 29, 3) := by decide +kernel
theorem dX3_beginToken_28 : decode cX3_beginToken 28 = .ok (.aload_n 0, 1) := by decide +kernel
theorem dX3_beginToken_29 : decode cX3_beginToken 29 = .ok (.getfield 38, 3) := by decide +kernel
theorem dX3_beginToken_32 : decode cX3_beginToken 32 = .ok (.iload_n 2, 1) := by decide +kernel
theorem dX3_beginToken_33 : decode cX3_beginToken 33 = .ok (.iastore, 1) := by decide +kernel
theorem dX3_beginToken_34 : decode cX3_beginToken 34 = .ok (.aload_n 0, 1) := by decide +kernel
theorem dX3_beginToken_35 : decode cX3_beginToken 35 = .ok (.getfield 35, 3) := by decide +kernel
theorem dX3_beginToken_38 : decode cX3_beginToken 38 = .ok (.aload_n 0, 1) := by decide +kernel
theorem dX3_beginToken_39 : decode cX3_beginToken 39 = .ok (.getfield 38, 3) := by decide +kernel
theorem dX3_beginToken_42 : decode cX3_beginToken 42 = .ok (.iconst 0, 1) := by decide +kernel
theorem dX3_beginToken_43 : decode cX3_beginToken 43 = .ok (.iastore, 1) := by decide +kernel
theorem dX3_beginToken_44 : decode cX3_beginToken 44 = .ok (.aload_n 0, 1) := by decide +kernel
theorem dX3_beginToken_45 : decode cX3_beginToken 45 = .ok (.dup, 1) := by decide +kernel
theorem dX3_beginToken_46 : decode cX3_beginToken 46 = .ok (.getfield 38, 3) := by decide +kernel
theorem dX3_beginToken_49 : decode cX3_beginToken 49 = .ok (.iconst 1, 1) := by decide +kernel
theorem dX3_beginToken_50 : decode cX3_beginToken 50 = .ok (.iadd, 1) := by decide +kernel
theorem dX3_beginToken_51 : decode cX3_beginToken 51 = .ok (.putfield 38, 3) := by decide +kernel
theorem dX3_beginToken_54 : decode cX3_beginToken 54 = .ok (.return_, 1) := by decide +kernel
set_option maxRecDepth 20000 in
theorem ggX3_lengthenToken_X6_byteAt : GoodIn wsX3_lengthenToken wsX6_byteAt := goodIn_r _ [14, 15, 16, 25, 26] (by decide +kernel) (by decide +kernel)
set_option maxRecDepth 20000 in
theorem gX3_lengthenToken_X6_byteAt : GoodIn wsX3_lengthenToken (wsV RX3 66 RX6 yX6_byteAt wsX6_byteAt) := goodIn_app (goodIn_of _ (by decide +kernel)) ggX3_lengthenToken_X6_byteAt
theorem dX3_lengthenToken_0 : decode cX3_lengthenToken 0 = .ok (.aload_n 0, 1) := by decide +kernel
theorem dX3_lengthenToken_1 : decode cX3_lengthenToken 1 = .ok (.getfield 38, 3) := by decide +kernel
theorem dX3_lengthenToken_4 : decode cX3_lengthenToken 4 = .ok (.iconst 1, 1) := by decide +kernel
theorem dX3_lengthenToken_5 : decode cX3_lengthenToken 5 = .ok (.isub, 1) := by decide +kernel
theorem dX3_lengthenToken_6 : decode cX3_lengthenToken 6 = .ok (.istore_n 2, 1) := by decide +kernel
theorem dX3_lengthenToken_7 : decode cX3_lengthenToken 7 = .ok (.iload_n 2, 1) := by decide +kernel
theorem dX3_lengthenToken_8 : decode cX3_lengthenToken 8 = .ok (.ifCond .lt 44, 3) := by decide +kernel
theorem dX3_lengthenToken_11 : decode cX3_lengthenToken 11 = .ok (.aload_n 0, 1) := by decide +kernel
theorem dX3_lengthenToken_12 : decode cX3_lengthenToken 12 = .ok (.getfield 32, 3) := by decide +kernel
theorem dX3_lengthenToken_15 : decode cX3_lengthenToken 15 = .ok (.iload_n 2, 1) := by decide +kernel
theorem dX3_lengthenToken_16 : decode cX3_lengthenToken 16 = .ok (.iload_n 1, 1) := by decide +kernel
theorem dX3_lengthenToken_17 : decode cX3_lengthenToken 17 = .ok (.iconst 1, 1) := by decide +kernel
theorem dX3_lengthenToken_18 : decode cX3_lengthenToken 18 = .ok (.iadd, 1) := by decide +kernel
theorem dX3_lengthenToken_19 : decode cX3_lengthenToken 19 = .ok (.iastore, 1) := by decide +kernel
theorem dX3_lengthenToken_20 : decode cX3_lengthenToken 20 = .ok (.aload_n 0, 1) := by decide +kernel
theorem dX3_lengthenToken_21 : decode cX3_lengthenToken 21 = .ok (.getfield 35, 3) := by decide +kernel
theorem dX3_lengthenToken_24 : decode cX3_lengthenToken 24 = .ok (.iload_n 2, 1) := by decide +kernel
theorem dX3_lengthenToken_25 : decode cX3_lengthenToken 25 = .ok (.bipush 10, 2) := by decide +kernel
theorem dX3_lengthenToken_27 : decode cX3_lengthenToken 27 = .ok (.aload_n 0, 1) := by decide +kernel
theorem dX3_lengthenToken_28 : decode cX3_lengthenToken 28 = .ok (.getfield 35, 3) := by decide +kernel
theorem dX3_lengthenToken_31 : decode cX3_lengthenToken 31 = .ok (.iload_n 2, 1) := by decide +kernel
theorem dX3_lengthenToken_32 : decode cX3_lengthenToken 32 = .ok (.iaload, 1) := by decide +kernel
theorem dX3_lengthenToken_33 : decode cX3_lengthenToken 33 = .ok (.imul, 1) := by decide +kernel
theorem dX3_lengthenToken_34 : decode cX3_lengthenToken 34 = .ok (.aload_n 0, 1) := by decide +kernel
theorem dX3_lengthenToken_35 : decode cX3_lengthenToken 35 = .ok (.getfield 12, 3) := by decide +kernel
theorem dX3_lengthenToken_38 : decode cX3_lengthenToken 38 = .ok (.iload_n 1, 1) := by decide +kernel
theorem dX3_lengthenToken_39 : decode cX3_lengthenToken 39 = .ok (.invokevirtual 66, 3) := by decide +kernel
theorem dX3_lengthenToken_42 : decode cX3_lengthenToken 42 = .ok (.iadd, 1) := by decide +kernel
theorem dX3_lengthenToken_43 : decode cX3_lengthenToken 43 = .ok (.bipush 48, 2) := by decide +kernel
theorem dX3_lengthenToken_45 : decode cX3_lengthenToken 45 = .ok (.isub, 1) := by decide +kernel
theorem dX3_lengthenToken_46 : decode cX3_lengthenToken 46 = .ok (.ldc 81, 2) := by decide +kernel
theorem dX3_lengthenToken_48 : decode cX3_lengthenToken 48 = .ok (.invokestatic 82, 3) := by decide +kernel
theorem dX3_lengthenToken_51 : decode cX3_lengthenToken 51 = .ok (.iastore, 1) := by decide +kernel
theorem dX3_lengthenToken_52 : decode cX3_lengthenToken 52 = .ok (.return_, 1) := by decide +kernel
theorem dX3_typeOf_0 : decode cX3_typeOf 0 = .ok (.iload_n 0, 1) := by decide +kernel
theorem dX3_typeOf_1 : decode cX3_typeOf 1 = .ok (.bipush 97, 2) := by decide +kernel
theorem dX3_typeOf_3 : decode cX3_typeOf 3 = .ok (.if_icmp .lt 11, 3) := by decide +kernel
theorem dX3_typeOf_6 : decode cX3_typeOf 6 = .ok (.iload_n 0, 1) := by decide +kernel
theorem dX3_typeOf_7 : decode cX3_typeOf 7 = .ok (.bipush 122, 2) := by decide +kernel
theorem dX3_typeOf_9 : decode cX3_typeOf 9 = .ok (.if_icmp .gt 5, 3) := by decide +kernel
theorem dX3_typeOf_12 : decode cX3_typeOf 12 = .ok (.iconst 1, 1) := by decide +kernel
theorem dX3_typeOf_13 : decode cX3_typeOf 13 = .ok (.ireturn, 1) := by decide +kernel
theorem dX3_typeOf_14 : decode cX3_typeOf 14 = .ok (.iload_n 0, 1) := by decide +kernel
theorem dX3_typeOf_15 : decode cX3_typeOf 15 = .ok (.bipush 48, 2) := by decide +kernel
theorem dX3_typeOf_17 : decode cX3_typeOf 17 = .ok (.if_icmp .lt 11, 3) := by decide +kernel
theorem dX3_typeOf_20 : decode cX3_typeOf 20 = .ok (.iload_n 0, 1) := by decide +kernel
theorem dX3_typeOf_21 : decode cX3_typeOf 21 = .ok (.bipush 57, 2) := by decide +kernel
theorem dX3_typeOf_23 : decode cX3_typeOf 23 = .ok (.if_icmp .gt 5, 3) := by decide +kernel
theorem dX3_typeOf_26 : decode cX3_typeOf 26 = .ok (.iconst 2, 1) := by decide +kernel
theorem dX3_typeOf_27 : decode cX3_typeOf 27 = .ok (.ireturn, 1) := by decide +kernel
theorem dX3_typeOf_28 : decode cX3_typeOf 28 = .ok (.iload_n 0, 1) := by decide +kernel
theorem dX3_typeOf_29 : decode cX3_typeOf 29 = .ok (.bipush 32, 2) := by decide +kernel
theorem dX3_typeOf_31 : decode cX3_typeOf 31 = .ok (.if_icmp .ne 5, 3) := by decide +kernel
theorem dX3_typeOf_34 : decode cX3_typeOf 34 = .ok (.iconst 4, 1) := by decide +kernel
theorem dX3_typeOf_35 : decode cX3_typeOf 35 = .ok (.ireturn, 1) := by decide +kernel
theorem dX3_typeOf_36 : decode cX3_typeOf 36 = .ok (.iload_n 0, 1) := by decide +kernel
theorem dX3_typeOf_37 : decode cX3_typeOf 37 = .ok (.bipush 59, 2) := by decide +kernel
theorem dX3_typeOf_39 : decode cX3_typeOf 39 = .ok (.if_icmp .ne 7, 3) := by decide +kernel
theorem dX3_typeOf_42 : decode cX3_typeOf 42 = .ok (.iconst 3, 1) := by decide +kernel
theorem dX3_typeOf_43 : decode cX3_typeOf 43 = .ok (.goto 4, 3) := by decide +kernel
theorem dX3_typeOf_46 : decode cX3_typeOf 46 = .ok (.iconst 5, 1) := by decide +kernel
theorem dX3_typeOf_47 : decode cX3_typeOf 47 = .ok (.ireturn, 1) := by decide +kernel
set_option maxRecDepth 20000 in
theorem ggX3_readItem_X3_kindOfWord : GoodIn wsX3_readItem wsX3_kindOfWord := goodIn_r _ [5, 6, 7, 8, 4, 9, 10, 11, 12, 13, 14, 15, 16, 17, 18, 19, 20, 21, 22, 23, 24, 25, 26, 27, 28, 29, 30, 31, 32, 33, 34, 35, 36, 37, 38, 39, 40, 41, 42, 43, 44, 45, 46, 47, 48, 49, 50, 51, 52, 53, 54, 55, 56, 57, 58, 59, 60, 61, 62, 63, 64, 65, 66, 67, 68, 69, 70, 71, 72, 73, 74, 148, 149, 150, 151, 152, 153, 154, 155, 156, 157] (by decide +kernel) (by decide +kernel)
set_option maxRecDepth 20000 in
theorem gX3_readItem_X3_kindOfWord : GoodIn wsX3_readItem (wsV RX3 88 RX3 yX3_kindOfWord wsX3_kindOfWord) := goodIn_app (goodIn_of _ (by decide +kernel)) ggX3_readItem_X3_kindOfWord
set_option maxRecDepth 20000 in
theorem ggX3_readItem_X3_readPerson : GoodIn wsX3_readItem wsX3_readPerson := goodIn_r _ [78, 79, 80, 81, 82, 83, 84, 85, 86, 87, 88, 89, 1, 2, 3, 4, 5, 6, 7, 8, 9, 10, 11, 12, 13, 14, 15, 16, 17, 18, 19, 20, 21, 22, 23, 24, 25, 26, 27, 28, 29, 30, 31, 32, 33, 34, 35, 36, 37, 38, 39, 40, 41, 42, 43, 44, 45, 46, 47, 48, 49, 50, 51, 52, 53, 54, 55, 56, 57, 58, 59, 60, 61, 62, 63, 64, 65, 66, 67, 68, 69, 70, 71, 72, 73, 74, 90, 91, 92, 93, 94, 95, 96, 97, 98, 99, 100, 101, 102, 103, 104, 105, 106, 107, 108, 109, 110, 111, 112, 113, 114, 115, 116, 148, 149, 150, 151, 152, 153, 154, 155, 158, 159, 160, 161, 162, 163, 164, 165, 166, 167, 168, 169, 156, 157] (by decide +kernel) (by decide +kernel)
set_option maxRecDepth 20000 in
theorem gX3_readItem_X3_readPerson : GoodIn wsX3_readItem (wsV RX3 92 RX3 yX3_readPerson wsX3_readPerson) := goodIn_app (goodIn_of _ (by decide +kernel)) ggX3_readItem_X3_readPerson
set_option maxRecDepth 20000 in
theorem ggX3_readItem_X3_isWord : GoodIn wsX3_readItem wsX3_isWord := goodIn_r _ [9, 10, 11, 12, 13, 14, 15, 16, 4, 17, 18, 19, 20, 21, 22, 23, 24, 25, 26, 27, 28, 29, 30, 31, 32, 33, 34, 35, 36, 37, 38, 39, 40, 41, 42, 43, 44, 45, 46, 47, 48, 49, 50, 51, 52, 53, 54, 55, 56, 57, 58, 59, 60, 61, 62, 63, 64, 65, 66, 67, 68, 69, 70, 71, 72, 73, 74, 148, 149, 150, 151, 152, 153, 154, 155, 156, 157] (by decide +kernel) (by decide +kernel)
set_option maxRecDepth 20000 in
theorem gX3_readItem_X3_isWord : GoodIn wsX3_readItem (wsV RX3 97 RX3 yX3_isWord wsX3_isWord) := goodIn_app (goodIn_of _ (by decide +kernel)) ggX3_readItem_X3_isWord
set_option maxRecDepth 20000 in
theorem ggX3_readItem_X3_readShare : GoodIn wsX3_readItem wsX3_readShare := goodIn_r _ [120, 109, 11, 79, 121, 100, 101, 102, 4, 103, 104, 110, 111, 112, 113, 14, 15, 16, 17, 18, 122, 123, 124, 87, 125, 98, 126, 127, 128, 129, 130, 131, 132, 133, 89, 134, 135, 136, 137, 148, 149, 150, 151, 152, 153, 154, 155, 158, 159, 160, 161, 162, 163, 164, 165, 166, 167, 168, 169] (by decide +kernel) (by decide +kernel)
set_option maxRecDepth 20000 in
theorem gX3_readItem_X3_readShare : GoodIn wsX3_readItem (wsV RX3 101 RX3 yX3_readShare wsX3_readShare) := goodIn_app (goodIn_of _ (by decide +kernel)) ggX3_readItem_X3_readShare
set_option maxRecDepth 20000 in
theorem ggX3_readItem_X3_readLight : GoodIn wsX3_readItem wsX3_readLight := goodIn_r _ [141, 109, 11, 83, 79, 142, 100, 101, 102, 4, 103, 104, 110, 111, 112, 113, 14, 15, 16, 17, 18, 148, 149, 150, 151, 152, 153, 154, 155, 158, 159, 160, 161, 162, 163, 164, 165, 166, 167, 168, 169] (by decide +kernel) (by decide +kernel)
set_option maxRecDepth 20000 in
theorem gX3_readItem_X3_readLight : GoodIn wsX3_readItem (wsV RX3 106 RX3 yX3_readLight wsX3_readLight) := goodIn_app (goodIn_of _ (by decide +kernel)) ggX3_readItem_X3_readLight
set_option maxRecDepth 20000 in
theorem ggX3_readItem_X3_readHour : GoodIn wsX3_readItem wsX3_readHour := goodIn_r _ [146, 109, 11, 79, 147, 100, 101, 102, 4, 103, 104, 110, 111, 112, 113, 14, 15, 16, 17, 18, 148, 149, 150, 151, 152, 153, 154, 155, 158, 159, 160, 161, 162, 163, 164, 165, 166, 167, 168, 169] (by decide +kernel) (by decide +kernel)
set_option maxRecDepth 20000 in
theorem gX3_readItem_X3_readHour : GoodIn wsX3_readItem (wsV RX3 111 RX3 yX3_readHour wsX3_readHour) := goodIn_app (goodIn_of _ (by decide +kernel)) ggX3_readItem_X3_readHour
theorem dX3_readItem_0 : decode cX3_readItem 0 = .ok (.aload_n 0, 1) := by decide +kernel
theorem dX3_readItem_1 : decode cX3_readItem 1 = .ok (.invokevirtual 88, 3) := by decide +kernel
theorem dX3_readItem_4 : decode cX3_readItem 4 = .ok (.ifCond .lt 8, 3) := by decide +kernel
theorem dX3_readItem_7 : decode cX3_readItem 7 = .ok (.aload_n 0, 1) := by decide +kernel
theorem dX3_readItem_8 : decode cX3_readItem 8 = .ok (.invokevirtual 92, 3) := by decide +kernel
theorem dX3_readItem_11 : decode cX3_readItem 11 = .ok (.ireturn, 1) := by decide +kernel
theorem dX3_readItem_12 : decode cX3_readItem 12 = .ok (.aload_n 0, 1) := by decide +kernel
theorem dX3_readItem_13 : decode cX3_readItem 13 = .ok (.ldc 95, 2) := by decide +kernel
theorem dX3_readItem_15 : decode cX3_readItem 15 = .ok (.invokevirtual 97, 3) := by decide +kernel
theorem dX3_readItem_18 : decode cX3_readItem 18 = .ok (.ifCond .eq 8, 3) := by decide +kernel
theorem dX3_readItem_21 : decode cX3_readItem 21 = .ok (.aload_n 0, 1) := by decide +kernel
theorem dX3_readItem_22 : decode cX3_readItem 22 = .ok (.invokevirtual 101, 3) := by decide +kernel
theorem dX3_readItem_25 : decode cX3_readItem 25 = .ok (.ireturn, 1) := by decide +kernel
theorem dX3_readItem_26 : decode cX3_readItem 26 = .ok (.aload_n 0, 1) := by decide +kernel
theorem dX3_readItem_27 : decode cX3_readItem 27 = .ok (.ldc 104, 2) := by decide +kernel
theorem dX3_readItem_29 : decode cX3_readItem 29 = .ok (.invokevirtual 97, 3) := by decide +kernel
theorem dX3_readItem_32 : decode cX3_readItem 32 = .ok (.ifCond .eq 8, 3) := by decide +kernel
theorem dX3_readItem_35 : decode cX3_readItem 35 = .ok (.aload_n 0, 1) := by decide +kernel
theorem dX3_readItem_36 : decode cX3_readItem 36 = .ok (.invokevirtual 106, 3) := by decide +kernel
theorem dX3_readItem_39 : decode cX3_readItem 39 = .ok (.ireturn, 1) := by decide +kernel
theorem dX3_readItem_40 : decode cX3_readItem 40 = .ok (.aload_n 0, 1) := by decide +kernel
theorem dX3_readItem_41 : decode cX3_readItem 41 = .ok (.ldc 109, 2) := by decide +kernel
theorem dX3_readItem_43 : decode cX3_readItem 43 = .ok (.invokevirtual 97, 3) := by decide +kernel
theorem dX3_readItem_46 : decode cX3_readItem 46 = .ok (.ifCond .eq 14, 3) := by decide +kernel
theorem dX3_readItem_49 : decode cX3_readItem 49 = .ok (.aload_n 0, 1) := by decide +kernel
theorem dX3_readItem_50 : decode cX3_readItem 50 = .ok (.invokevirtual 111, 3) := by decide +kernel
theorem dX3_readItem_53 : decode cX3_readItem 53 = .ok (.ifCond .eq 7, 3) := by decide +kernel
theorem dX3_readItem_56 : decode cX3_readItem 56 = .ok (.iconst 1, 1) := by decide +kernel
theorem dX3_readItem_57 : decode cX3_readItem 57 = .ok (.goto 4, 3) := by decide +kernel
theorem dX3_readItem_60 : decode cX3_readItem 60 = .ok (.iconst 0, 1) := by decide +kernel
theorem dX3_readItem_61 : decode cX3_readItem 61 = .ok (.ireturn, 1) := by decide +kernel
set_option maxRecDepth 20000 in
theorem ggX3_readLight_X3_step : GoodIn wsX3_readLight wsX3_step := goodIn_r _ [10, 2, 11, 21, 22, 23, 24, 25, 26, 27, 28] (by decide +kernel) (by decide +kernel)
set_option maxRecDepth 20000 in
theorem gX3_readLight_X3_step : GoodIn wsX3_readLight (wsV RX3 60 RX3 yX3_step wsX3_step) := goodIn_app (goodIn_of _ (by decide +kernel)) ggX3_readLight_X3_step
set_option maxRecDepth 20000 in
theorem ggX3_readLight_X3_takeNumber : GoodIn wsX3_readLight wsX3_takeNumber := goodIn_r _ [15, 1, 2, 16, 17, 18, 9, 19, 20, 6, 7, 8, 10, 11, 21, 22, 23, 24, 25, 26, 27, 28] (by decide +kernel) (by decide +kernel)
set_option maxRecDepth 20000 in
theorem gX3_readLight_X3_takeNumber : GoodIn wsX3_readLight (wsV RX3 115 RX3 yX3_takeNumber wsX3_takeNumber) := goodIn_app (goodIn_of _ (by decide +kernel)) ggX3_readLight_X3_takeNumber
theorem dX3_readLight_0 : decode cX3_readLight 0 = .ok (.aload_n 0, 1) := by decide +kernel
theorem dX3_readLight_1 : decode cX3_readLight 1 = .ok (.invokevirtual 60, 3) := by decide +kernel
theorem dX3_readLight_4 : decode cX3_readLight 4 = .ok (.aload_n 0, 1) := by decide +kernel
theorem dX3_readLight_5 : decode cX3_readLight 5 = .ok (.getfield 35, 3) := by decide +kernel
theorem dX3_readLight_8 : decode cX3_readLight 8 = .ok (.aload_n 0, 1) := by decide +kernel
theorem dX3_readLight_9 : decode cX3_readLight 9 = .ok (.getfield 42, 3) := by decide +kernel
theorem dX3_readLight_12 : decode cX3_readLight 12 = .ok (.iaload, 1) := by decide +kernel
theorem dX3_readLight_13 : decode cX3_readLight 13 = .ok (.istore_n 1, 1) := by decide +kernel
theorem dX3_readLight_14 : decode cX3_readLight 14 = .ok (.aload_n 0, 1) := by decide +kernel
theorem dX3_readLight_15 : decode cX3_readLight 15 = .ok (.ldc 114, 2) := by decide +kernel
theorem dX3_readLight_17 : decode cX3_readLight 17 = .ok (.invokevirtual 115, 3) := by decide +kernel
theorem dX3_readLight_20 : decode cX3_readLight 20 = .ok (.ifCond .ne 5, 3) := by decide +kernel
theorem dX3_readLight_23 : decode cX3_readLight 23 = .ok (.iconst 0, 1) := by decide +kernel
theorem dX3_readLight_24 : decode cX3_readLight 24 = .ok (.ireturn, 1) := by decide +kernel
theorem dX3_readLight_25 : decode cX3_readLight 25 = .ok (.aload_n 0, 1) := by decide +kernel
theorem dX3_readLight_26 : decode cX3_readLight 26 = .ok (.getfield 21, 3) := by decide +kernel
theorem dX3_readLight_29 : decode cX3_readLight 29 = .ok (.iload_n 1, 1) := by decide +kernel
theorem dX3_readLight_30 : decode cX3_readLight 30 = .ok (.putfield 118, 3) := by decide +kernel
theorem dX3_readLight_33 : decode cX3_readLight 33 = .ok (.iconst 1, 1) := by decide +kernel
theorem dX3_readLight_34 : decode cX3_readLight 34 = .ok (.ireturn, 1) := by decide +kernel
set_option maxRecDepth 20000 in
theorem ggX3_readHour_X3_step : GoodIn wsX3_readHour wsX3_step := goodIn_r _ [9, 2, 10, 20, 21, 22, 23, 24, 25, 26, 27] (by decide +kernel) (by decide +kernel)
set_option maxRecDepth 20000 in
theorem gX3_readHour_X3_step : GoodIn wsX3_readHour (wsV RX3 60 RX3 yX3_step wsX3_step) := goodIn_app (goodIn_of _ (by decide +kernel)) ggX3_readHour_X3_step
set_option maxRecDepth 20000 in
theorem ggX3_readHour_X3_takeNumber : GoodIn wsX3_readHour wsX3_takeNumber := goodIn_r _ [14, 1, 2, 15, 16, 17, 8, 18, 19, 5, 6, 7, 9, 10, 20, 21, 22, 23, 24, 25, 26, 27] (by decide +kernel) (by decide +kernel)
set_option maxRecDepth 20000 in
theorem gX3_readHour_X3_takeNumber : GoodIn wsX3_readHour (wsV RX3 115 RX3 yX3_takeNumber wsX3_takeNumber) := goodIn_app (goodIn_of _ (by decide +kernel)) ggX3_readHour_X3_takeNumber
theorem dX3_readHour_0 : decode cX3_readHour 0 = .ok (.aload_n 0, 1) := by decide +kernel
theorem dX3_readHour_1 : decode cX3_readHour 1 = .ok (.invokevirtual 60, 3) := by decide +kernel
theorem dX3_readHour_4 : decode cX3_readHour 4 = .ok (.aload_n 0, 1) := by decide +kernel
theorem dX3_readHour_5 : decode cX3_readHour 5 = .ok (.getfield 35, 3) := by decide +kernel
theorem dX3_readHour_8 : decode cX3_readHour 8 = .ok (.aload_n 0, 1) := by decide +kernel
theorem dX3_readHour_9 : decode cX3_readHour 9 = .ok (.getfield 42, 3) := by decide +kernel
theorem dX3_readHour_12 : decode cX3_readHour 12 = .ok (.iaload, 1) := by decide +kernel
theorem dX3_readHour_13 : decode cX3_readHour 13 = .ok (.istore_n 1, 1) := by decide +kernel
theorem dX3_readHour_14 : decode cX3_readHour 14 = .ok (.aload_n 0, 1) := by decide +kernel
theorem dX3_readHour_15 : decode cX3_readHour 15 = .ok (.bipush 16, 2) := by decide +kernel
theorem dX3_readHour_17 : decode cX3_readHour 17 = .ok (.invokevirtual 115, 3) := by decide +kernel
theorem dX3_readHour_20 : decode cX3_readHour 20 = .ok (.ifCond .ne 5, 3) := by decide +kernel
theorem dX3_readHour_23 : decode cX3_readHour 23 = .ok (.iconst 0, 1) := by decide +kernel
theorem dX3_readHour_24 : decode cX3_readHour 24 = .ok (.ireturn, 1) := by decide +kernel
theorem dX3_readHour_25 : decode cX3_readHour 25 = .ok (.aload_n 0, 1) := by decide +kernel
theorem dX3_readHour_26 : decode cX3_readHour 26 = .ok (.getfield 21, 3) := by decide +kernel
theorem dX3_readHour_29 : decode cX3_readHour 29 = .ok (.iload_n 1, 1) := by decide +kernel
theorem dX3_readHour_30 : decode cX3_readHour 30 = .ok (.putfield 121, 3) := by decide +kernel
theorem dX3_readHour_33 : decode cX3_readHour 33 = .ok (.iconst 1, 1) := by decide +kernel
theorem dX3_readHour_34 : decode cX3_readHour 34 = .ok (.ireturn, 1) := by decide +kernel
set_option maxRecDepth 20000 in
theorem ggX3_readPerson_X1_isFull : GoodIn wsX3_readPerson wsX1_isFull := goodIn_r _ [10, 11, 121, 122, 123, 124, 125, 126, 127, 128, 129, 130, 131, 132] (by decide +kernel) (by decide +kernel)
set_option maxRecDepth 20000 in
theorem gX3_readPerson_X1_isFull : GoodIn wsX3_readPerson (wsV RX3 123 RX1 yX1_isFull wsX1_isFull) := goodIn_app (goodIn_of _ (by decide +kernel)) ggX3_readPerson_X1_isFull
set_option maxRecDepth 20000 in
theorem ggX3_readPerson_X3_kindOfWord : GoodIn wsX3_readPerson wsX3_kindOfWord := goodIn_r _ [16, 17, 18, 19, 15, 20, 21, 22, 23, 24, 25, 26, 27, 28, 29, 30, 31, 32, 33, 34, 35, 36, 37, 38, 39, 40, 41, 42, 43, 44, 45, 46, 47, 48, 49, 50, 51, 52, 53, 54, 55, 56, 57, 58, 59, 60, 61, 62, 63, 64, 65, 66, 67, 68, 69, 70, 71, 72, 73, 74, 75, 76, 77, 78, 79, 80, 81, 82, 83, 84, 85, 113, 114, 115, 116, 117, 118, 119, 120, 133, 134] (by decide +kernel) (by decide +kernel)
set_option maxRecDepth 20000 in
theorem gX3_readPerson_X3_kindOfWord : GoodIn wsX3_readPerson (wsV RX3 88 RX3 yX3_kindOfWord wsX3_kindOfWord) := goodIn_app (goodIn_of _ (by decide +kernel)) ggX3_readPerson_X3_kindOfWord
set_option maxRecDepth 20000 in
theorem ggX3_readPerson_X1_add : GoodIn wsX3_readPerson wsX1_add := goodIn_r _ [89, 90, 11, 91, 92, 93, 94, 95, 7, 8, 9, 10, 121, 122, 123, 124, 125, 126, 127, 128, 129, 130, 131, 132] (by decide +kernel) (by decide +kernel)
set_option maxRecDepth 20000 in
theorem gX3_readPerson_X1_add : GoodIn wsX3_readPerson (wsV RX3 126 RX1 yX1_add wsX1_add) := goodIn_app (goodIn_of _ (by decide +kernel)) ggX3_readPerson_X1_add
set_option maxRecDepth 20000 in
theorem ggX3_readPerson_X3_step : GoodIn wsX3_readPerson wsX3_step := goodIn_r _ [99, 22, 100, 113, 114, 115, 116, 117, 118, 119, 120] (by decide +kernel) (by decide +kernel)
set_option maxRecDepth 20000 in
theorem gX3_readPerson_X3_step : GoodIn wsX3_readPerson (wsV RX3 60 RX3 yX3_step wsX3_step) := goodIn_app (goodIn_of _ (by decide +kernel)) ggX3_readPerson_X3_step
set_option maxRecDepth 20000 in
theorem ggX3_readPerson_X3_readTrait : GoodIn wsX3_readPerson wsX3_readTrait := goodIn_r _ [104, 105, 22, 17, 18, 19, 15, 20, 21, 23, 24, 25, 26, 27, 28, 29, 30, 31, 32, 33, 34, 35, 36, 37, 38, 39, 40, 41, 42, 43, 44, 45, 46, 47, 48, 49, 50, 51, 52, 53, 54, 55, 56, 57, 58, 59, 60, 61, 62, 63, 64, 65, 66, 67, 68, 69, 70, 71, 72, 73, 74, 75, 76, 77, 78, 79, 80, 81, 82, 83, 84, 85, 96, 97, 98, 99, 100, 106, 107, 108, 109, 110, 111, 112, 113, 114, 115, 116, 117, 118, 119, 120, 133, 134] (by decide +kernel) (by decide +kernel)
set_option maxRecDepth 20000 in
theorem gX3_readPerson_X3_readTrait : GoodIn wsX3_readPerson (wsV RX3 133 RX3 yX3_readTrait wsX3_readTrait) := goodIn_app (goodIn_of _ (by decide +kernel)) ggX3_readPerson_X3_readTrait
theorem dX3_readPerson_0 : decode cX3_readPerson 0 = .ok (.aload_n 0, 1) := by decide +kernel
theorem dX3_readPerson_1 : decode cX3_readPerson 1 = .ok (.getfield 21, 3) := by decide +kernel
theorem dX3_readPerson_4 : decode cX3_readPerson 4 = .ok (.invokevirtual 123, 3) := by decide +kernel
theorem dX3_readPerson_7 : decode cX3_readPerson 7 = .ok (.ifCond .eq 5, 3) := by decide +kernel
theorem dX3_readPerson_10 : decode cX3_readPerson 10 = .ok (.iconst 0, 1) := by decide +kernel
theorem dX3_readPerson_11 : decode cX3_readPerson 11 = .ok (.ireturn, 1) := by decide +kernel
theorem dX3_readPerson_12 : decode cX3_readPerson 12 = .ok (.aload_n 0, 1) := by decide +kernel
theorem dX3_readPerson_13 : decode cX3_readPerson 13 = .ok (.getfield 21, 3) := by decide +kernel
theorem dX3_readPerson_16 : decode cX3_readPerson 16 = .ok (.aload_n 0, 1) := by decide +kernel
theorem dX3_readPerson_17 : decode cX3_readPerson 17 = .ok (.invokevirtual 88, 3) := by decide +kernel
theorem dX3_readPerson_20 : decode cX3_readPerson 20 = .ok (.invokevirtual 126, 3) := by decide +kernel
theorem dX3_readPerson_23 : decode cX3_readPerson 23 = .ok (.istore_n 1, 1) := by decide +kernel
theorem dX3_readPerson_24 : decode cX3_readPerson 24 = .ok (.aload_n 0, 1) := by decide +kernel
theorem dX3_readPerson_25 : decode cX3_readPerson 25 = .ok (.invokevirtual 60, 3) := by decide +kernel
theorem dX3_readPerson_28 : decode cX3_readPerson 28 = .ok (.aload_n 0, 1) := by decide +kernel
theorem dX3_readPerson_29 : decode cX3_readPerson 29 = .ok (.ldc 129, 2) := by decide +kernel
theorem dX3_readPerson_31 : decode cX3_readPerson 31 = .ok (.aload_n 0, 1) := by decide +kernel
theorem dX3_readPerson_32 : decode cX3_readPerson 32 = .ok (.getfield 21, 3) := by decide +kernel
theorem dX3_readPerson_35 : decode cX3_readPerson 35 = .ok (.getfield 131, 3) := by decide +kernel
theorem dX3_readPerson_38 : decode cX3_readPerson 38 = .ok (.iload_n 1, 1) := by decide +kernel
theorem dX3_readPerson_39 : decode cX3_readPerson 39 = .ok (.bipush 99, 2) := by decide +kernel
theorem dX3_readPerson_41 : decode cX3_readPerson 41 = .ok (.invokevirtual 133, 3) := by decide +kernel
theorem dX3_readPerson_44 : decode cX3_readPerson 44 = .ok (.ifCond .eq 45, 3) := by decide +kernel
theorem dX3_readPerson_47 : decode cX3_readPerson 47 = .ok (.aload_n 0, 1) := by decide +kernel
theorem dX3_readPerson_48 : decode cX3_readPerson 48 = .ok (.ldc 137, 2) := by decide +kernel
theorem dX3_readPerson_50 : decode cX3_readPerson 50 = .ok (.aload_n 0, 1) := by decide +kernel
theorem dX3_readPerson_51 : decode cX3_readPerson 51 = .ok (.getfield 21, 3) := by decide +kernel
theorem dX3_readPerson_54 : decode cX3_readPerson 54 = .ok (.getfield 139, 3) := by decide +kernel
theorem dX3_readPerson_57 : decode cX3_readPerson 57 = .ok (.iload_n 1, 1) := by decide +kernel
theorem dX3_readPerson_58 : decode cX3_readPerson 58 = .ok (.bipush 9, 2) := by decide +kernel
theorem dX3_readPerson_60 : decode cX3_readPerson 60 = .ok (.invokevirtual 133, 3) := by decide +kernel
theorem dX3_readPerson_63 : decode cX3_readPerson 63 = .ok (.ifCond .eq 26, 3) := by decide +kernel
theorem dX3_readPerson_66 : decode cX3_readPerson 66 = .ok (.aload_n 0, 1) := by decide +kernel
theorem dX3_readPerson_67 : decode cX3_readPerson 67 = .ok (.ldc 141, 2) := by decide +kernel
theorem dX3_readPerson_69 : decode cX3_readPerson 69 = .ok (.aload_n 0, 1) := by decide +kernel
theorem dX3_readPerson_70 : decode cX3_readPerson 70 = .ok (.getfield 21, 3) := by decide +kernel
theorem dX3_readPerson_73 : decode cX3_readPerson 73 = .ok (.getfield 143, 3) := by decide +kernel
theorem dX3_readPerson_76 : decode cX3_readPerson 76 = .ok (.iload_n 1, 1) := by decide +kernel
theorem dX3_readPerson_77 : decode cX3_readPerson 77 = .ok (.ldc 114, 2) := by decide +kernel
theorem dX3_readPerson_79 : decode cX3_readPerson 79 = .ok (.invokevirtual 133, 3) := by decide +kernel
theorem dX3_readPerson_82 : decode cX3_readPerson 82 = .ok (.ifCond .eq 7, 3) := by decide +kernel
theorem dX3_readPerson_85 : decode cX3_readPerson 85 = .ok (.iconst 1, 1) := by decide +kernel
theorem dX3_readPerson_86 : decode cX3_readPerson 86 = .ok (.goto 4, 3) := by decide +kernel
theorem dX3_readPerson_89 : decode cX3_readPerson 89 = .ok (.iconst 0, 1) := by decide +kernel
theorem dX3_readPerson_90 : decode cX3_readPerson 90 = .ok (.ireturn, 1) := by decide +kernel
set_option maxRecDepth 20000 in
theorem ggX3_readTrait_X3_isWord : GoodIn wsX3_readTrait wsX3_isWord := goodIn_r _ [7, 8, 2, 9, 10, 11, 12, 13, 6, 14, 15, 16, 17, 18, 19, 20, 21, 22, 23, 24, 25, 26, 27, 28, 29, 30, 31, 32, 33, 34, 35, 36, 37, 38, 39, 40, 41, 42, 43, 44, 45, 46, 47, 48, 49, 50, 51, 52, 53, 54, 55, 56, 57, 58, 59, 60, 61, 62, 63, 64, 65, 66, 67, 68, 69, 70, 71, 84, 85, 86, 87, 88, 89, 90, 91, 92, 93] (by decide +kernel) (by decide +kernel)
set_option maxRecDepth 20000 in
theorem gX3_readTrait_X3_isWord : GoodIn wsX3_readTrait (wsV RX3 97 RX3 yX3_isWord wsX3_isWord) := goodIn_app (goodIn_of _ (by decide +kernel)) ggX3_readTrait_X3_isWord
set_option maxRecDepth 20000 in
theorem ggX3_readTrait_X3_step : GoodIn wsX3_readTrait wsX3_step := goodIn_r _ [75, 2, 76, 84, 85, 86, 87, 88, 89, 90, 91] (by decide +kernel) (by decide +kernel)
set_option maxRecDepth 20000 in
theorem gX3_readTrait_X3_step : GoodIn wsX3_readTrait (wsV RX3 60 RX3 yX3_step wsX3_step) := goodIn_app (goodIn_of _ (by decide +kernel)) ggX3_readTrait_X3_step
set_option maxRecDepth 20000 in
theorem ggX3_readTrait_X3_takeNumber : GoodIn wsX3_readTrait wsX3_takeNumber := goodIn_r _ [80, 1, 2, 11, 12, 13, 6, 14, 15, 72, 73, 74, 75, 76, 84, 85, 86, 87, 88, 89, 90, 91] (by decide +kernel) (by decide +kernel)
set_option maxRecDepth 20000 in
theorem gX3_readTrait_X3_takeNumber : GoodIn wsX3_readTrait (wsV RX3 115 RX3 yX3_takeNumber wsX3_takeNumber) := goodIn_app (goodIn_of _ (by decide +kernel)) ggX3_readTrait_X3_takeNumber
set_option maxRecDepth 20000 in
theorem ggX3_readTrait_X7_isWithin : GoodIn wsX3_readTrait wsX7_isWithin := goodIn_r _ [83] (by decide +kernel) (by decide +kernel)
set_option maxRecDepth 20000 in
theorem gX3_readTrait_X7_isWithin_n145 : GoodIn wsX3_readTrait (wsX7_isWithin) := ggX3_readTrait_X7_isWithin
theorem dX3_readTrait_0 : decode cX3_readTrait 0 = .ok (.aload_n 0, 1) := by decide +kernel
theorem dX3_readTrait_1 : decode cX3_readTrait 1 = .ok (.aload_n 1, 1) := by decide +kernel
theorem dX3_readTrait_2 : decode cX3_readTrait 2 = .ok (.invokevirtual 97, 3) := by decide +kernel
theorem dX3_readTrait_5 : decode cX3_readTrait 5 = .ok (.ifCond .ne 5, 3) := by decide +kernel
theorem dX3_readTrait_8 : decode cX3_readTrait 8 = .ok (.iconst 1, 1) := by decide +kernel
theorem dX3_readTrait_9 : decode cX3_readTrait 9 = .ok (.ireturn, 1) := by decide +kernel
theorem dX3_readTrait_10 : decode cX3_readTrait 10 = .ok (.aload_n 0, 1) := by decide +kernel
theorem dX3_readTrait_11 : decode cX3_readTrait 11 = .ok (.invokevirtual 60, 3) := by decide +kernel
theorem dX3_readTrait_14 : decode cX3_readTrait 14 = .ok (.aload_n 0, 1) := by decide +kernel
theorem dX3_readTrait_15 : decode cX3_readTrait 15 = .ok (.getfield 35, 3) := by decide +kernel
theorem dX3_readTrait_18 : decode cX3_readTrait 18 = .ok (.aload_n 0, 1) := by decide +kernel
theorem dX3_readTrait_19 : decode cX3_readTrait 19 = .ok (.getfield 42, 3) := by decide +kernel
theorem dX3_readTrait_22 : decode cX3_readTrait 22 = .ok (.iaload, 1) := by decide +kernel
theorem dX3_readTrait_23 : decode cX3_readTrait 23 = .ok (.istore 5, 2) := by decide +kernel
theorem dX3_readTrait_25 : decode cX3_readTrait 25 = .ok (.aload_n 0, 1) := by decide +kernel
theorem dX3_readTrait_26 : decode cX3_readTrait 26 = .ok (.iload 4, 2) := by decide +kernel
theorem dX3_readTrait_28 : decode cX3_readTrait 28 = .ok (.invokevirtual 115, 3) := by decide +kernel
theorem dX3_readTrait_31 : decode cX3_readTrait 31 = .ok (.ifCond .eq 14, 3) := by decide +kernel
theorem dX3_readTrait_34 : decode cX3_readTrait 34 = .ok (.iload_n 3, 1) := by decide +kernel
theorem dX3_readTrait_35 : decode cX3_readTrait 35 = .ok (.aload_n 2, 1) := by decide +kernel
theorem dX3_readTrait_36 : decode cX3_readTrait 36 = .ok (.arraylength, 1) := by decide +kernel
theorem dX3_readTrait_37 : decode cX3_readTrait 37 = .ok (.iconst 1, 1) := by decide +kernel
theorem dX3_readTrait_38 : decode cX3_readTrait 38 = .ok (.isub, 1) := by decide +kernel
theorem dX3_readTrait_39 : decode cX3_readTrait 39 = .ok (.invokestatic 145, 3) := by decide +kernel
theorem dX3_readTrait_42 : decode cX3_readTrait 42 = .ok (.ifCond .ne 5, 3) := by decide +kernel
theorem dX3_readTrait_45 : decode cX3_readTrait 45 = .ok (.iconst 0, 1) := by decide +kernel
theorem dX3_readTrait_46 : decode cX3_readTrait 46 = .ok (.ireturn, 1) := by decide +kernel
theorem dX3_readTrait_47 : decode cX3_readTrait 47 = .ok (.aload_n 2, 1) := by decide +kernel
theorem dX3_readTrait_48 : decode cX3_readTrait 48 = .ok (.iload_n 3, 1) := by decide +kernel
theorem dX3_readTrait_49 : decode cX3_readTrait 49 = .ok (.iload 5, 2) := by decide +kernel
theorem dX3_readTrait_51 : decode cX3_readTrait 51 = .ok (.iastore, 1) := by decide +kernel
theorem dX3_readTrait_52 : decode cX3_readTrait 52 = .ok (.iconst 1, 1) := by decide +kernel
theorem dX3_readTrait_53 : decode cX3_readTrait 53 = .ok (.ireturn, 1) := by decide +kernel
set_option maxRecDepth 20000 in
theorem ggX3_readShare_X3_step : GoodIn wsX3_readShare wsX3_step := goodIn_r _ [9, 2, 10, 39, 40, 41, 42, 43, 44, 45, 46] (by decide +kernel) (by decide +kernel)
set_option maxRecDepth 20000 in
theorem gX3_readShare_X3_step : GoodIn wsX3_readShare (wsV RX3 60 RX3 yX3_step wsX3_step) := goodIn_app (goodIn_of _ (by decide +kernel)) ggX3_readShare_X3_step
set_option maxRecDepth 20000 in
theorem ggX3_readShare_X3_takeNumber : GoodIn wsX3_readShare wsX3_takeNumber := goodIn_r _ [14, 1, 2, 15, 16, 17, 8, 18, 19, 5, 6, 7, 9, 10, 39, 40, 41, 42, 43, 44, 45, 46] (by decide +kernel) (by decide +kernel)
set_option maxRecDepth 20000 in
theorem gX3_readShare_X3_takeNumber : GoodIn wsX3_readShare (wsV RX3 115 RX3 yX3_takeNumber wsX3_takeNumber) := goodIn_app (goodIn_of _ (by decide +kernel)) ggX3_readShare_X3_takeNumber
set_option maxRecDepth 20000 in
theorem ggX3_readShare_X1_join : GoodIn wsX3_readShare wsX1_join := goodIn_r _ [24, 25, 26, 27, 28, 23, 29, 30, 31, 32, 33, 34, 35, 36, 37, 38, 47, 48, 49, 50, 51, 52, 53, 54, 55, 56, 57, 58] (by decide +kernel) (by decide +kernel)
set_option maxRecDepth 20000 in
theorem gX3_readShare_X1_join : GoodIn wsX3_readShare (wsV RX3 152 RX1 yX1_join wsX1_join) := goodIn_app (goodIn_of _ (by decide +kernel)) ggX3_readShare_X1_join
theorem dX3_readShare_0 : decode cX3_readShare 0 = .ok (.aload_n 0, 1) := by decide +kernel
theorem dX3_readShare_1 : decode cX3_readShare 1 = .ok (.invokevirtual 60, 3) := by decide +kernel
theorem dX3_readShare_4 : decode cX3_readShare 4 = .ok (.aload_n 0, 1) := by decide +kernel
theorem dX3_readShare_5 : decode cX3_readShare 5 = .ok (.getfield 35, 3) := by decide +kernel
theorem dX3_readShare_8 : decode cX3_readShare 8 = .ok (.aload_n 0, 1) := by decide +kernel
theorem dX3_readShare_9 : decode cX3_readShare 9 = .ok (.getfield 42, 3) := by decide +kernel
theorem dX3_readShare_12 : decode cX3_readShare 12 = .ok (.iaload, 1) := by decide +kernel
theorem dX3_readShare_13 : decode cX3_readShare 13 = .ok (.istore_n 1, 1) := by decide +kernel
theorem dX3_readShare_14 : decode cX3_readShare 14 = .ok (.aload_n 0, 1) := by decide +kernel
theorem dX3_readShare_15 : decode cX3_readShare 15 = .ok (.aload_n 0, 1) := by decide +kernel
theorem dX3_readShare_16 : decode cX3_readShare 16 = .ok (.getfield 21, 3) := by decide +kernel
theorem dX3_readShare_19 : decode cX3_readShare 19 = .ok (.getfield 149, 3) := by decide +kernel
theorem dX3_readShare_22 : decode cX3_readShare 22 = .ok (.iconst 1, 1) := by decide +kernel
theorem dX3_readShare_23 : decode cX3_readShare 23 = .ok (.isub, 1) := by decide +kernel
theorem dX3_readShare_24 : decode cX3_readShare 24 = .ok (.invokevirtual 115, 3) := by decide +kernel
theorem dX3_readShare_27 : decode cX3_readShare 27 = .ok (.ifCond .ne 5, 3) := by decide +kernel
theorem dX3_readShare_30 : decode cX3_readShare 30 = .ok (.iconst 0, 1) := by decide +kernel
theorem dX3_readShare_31 : decode cX3_readShare 31 = .ok (.ireturn, 1) := by decide +kernel
theorem dX3_readShare_32 : decode cX3_readShare 32 = .ok (.aload_n 0, 1) := by decide +kernel
theorem dX3_readShare_33 : decode cX3_readShare 33 = .ok (.getfield 35, 3) := by decide +kernel
theorem dX3_readShare_36 : decode cX3_readShare 36 = .ok (.aload_n 0, 1) := by decide +kernel
theorem dX3_readShare_37 : decode cX3_readShare 37 = .ok (.getfield 42, 3) := by decide +kernel
theorem dX3_readShare_40 : decode cX3_readShare 40 = .ok (.iaload, 1) := by decide +kernel
theorem dX3_readShare_41 : decode cX3_readShare 41 = .ok (.istore_n 2, 1) := by decide +kernel
theorem dX3_readShare_42 : decode cX3_readShare 42 = .ok (.iload_n 2, 1) := by decide +kernel
theorem dX3_readShare_43 : decode cX3_readShare 43 = .ok (.iload_n 1, 1) := by decide +kernel
theorem dX3_readShare_44 : decode cX3_readShare 44 = .ok (.if_icmp .eq 19, 3) := by decide +kernel
theorem dX3_readShare_47 : decode cX3_readShare 47 = .ok (.aload_n 0, 1) := by decide +kernel
theorem dX3_readShare_48 : decode cX3_readShare 48 = .ok (.aload_n 0, 1) := by decide +kernel
theorem dX3_readShare_49 : decode cX3_readShare 49 = .ok (.getfield 21, 3) := by decide +kernel
theorem dX3_readShare_52 : decode cX3_readShare 52 = .ok (.getfield 149, 3) := by decide +kernel
theorem dX3_readShare_55 : decode cX3_readShare 55 = .ok (.iconst 1, 1) := by decide +kernel
theorem dX3_readShare_56 : decode cX3_readShare 56 = .ok (.isub, 1) := by decide +kernel
theorem dX3_readShare_57 : decode cX3_readShare 57 = .ok (.invokevirtual 115, 3) := by decide +kernel
theorem dX3_readShare_60 : decode cX3_readShare 60 = .ok (.ifCond .ne 5, 3) := by decide +kernel
theorem dX3_readShare_63 : decode cX3_readShare 63 = .ok (.iconst 0, 1) := by decide +kernel
theorem dX3_readShare_64 : decode cX3_readShare 64 = .ok (.ireturn, 1) := by decide +kernel
theorem dX3_readShare_65 : decode cX3_readShare 65 = .ok (.aload_n 0, 1) := by decide +kernel
theorem dX3_readShare_66 : decode cX3_readShare 66 = .ok (.getfield 21, 3) := by decide +kernel
theorem dX3_readShare_69 : decode cX3_readShare 69 = .ok (.iload_n 1, 1) := by decide +kernel
theorem dX3_readShare_70 : decode cX3_readShare 70 = .ok (.iload_n 2, 1) := by decide +kernel
theorem dX3_readShare_71 : decode cX3_readShare 71 = .ok (.invokevirtual 152, 3) := by decide +kernel
theorem dX3_readShare_74 : decode cX3_readShare 74 = .ok (.iconst 1, 1) := by decide +kernel
theorem dX3_readShare_75 : decode cX3_readShare 75 = .ok (.ireturn, 1) := by decide +kernel
theorem dX3_step_0 : decode cX3_step 0 = .ok (.aload_n 0, 1) := by decide +kernel
theorem dX3_step_1 : decode cX3_step 1 = .ok (.getfield 42, 3) := by decide +kernel
theorem dX3_step_4 : decode cX3_step 4 = .ok (.aload_n 0, 1) := by decide +kernel
theorem dX3_step_5 : decode cX3_step 5 = .ok (.getfield 38, 3) := by decide +kernel
theorem dX3_step_8 : decode cX3_step 8 = .ok (.iconst 1, 1) := by decide +kernel
theorem dX3_step_9 : decode cX3_step 9 = .ok (.isub, 1) := by decide +kernel
theorem dX3_step_10 : decode cX3_step 10 = .ok (.if_icmp .ge 13, 3) := by decide +kernel
theorem dX3_step_13 : decode cX3_step 13 = .ok (.aload_n 0, 1) := by decide +kernel
theorem dX3_step_14 : decode cX3_step 14 = .ok (.dup, 1) := by decide +kernel
theorem dX3_step_15 : decode cX3_step 15 = .ok (.getfield 42, 3) := by decide +kernel
theorem dX3_step_18 : decode cX3_step 18 = .ok (.iconst 1, 1) := by decide +kernel
theorem dX3_step_19 : decode cX3_step 19 = .ok (.iadd, 1) := by decide +kernel
theorem dX3_step_20 : decode cX3_step 20 = .ok (.putfield 42, 3) := by decide +kernel
theorem dX3_step_23 : decode cX3_step 23 = .ok (.return_, 1) := by decide +kernel
theorem dX3_isNext_0 : decode cX3_isNext 0 = .ok (.aload_n 0, 1) := by decide +kernel
theorem dX3_isNext_1 : decode cX3_isNext 1 = .ok (.getfield 25, 3) := by decide +kernel
theorem dX3_isNext_4 : decode cX3_isNext 4 = .ok (.aload_n 0, 1) := by decide +kernel
theorem dX3_isNext_5 : decode cX3_isNext 5 = .ok (.getfield 42, 3) := by decide +kernel
theorem dX3_isNext_8 : decode cX3_isNext 8 = .ok (.iaload, 1) := by decide +kernel
theorem dX3_isNext_9 : decode cX3_isNext 9 = .ok (.iload_n 1, 1) := by decide +kernel
theorem dX3_isNext_10 : decode cX3_isNext 10 = .ok (.if_icmp .ne 7, 3) := by decide +kernel
theorem dX3_isNext_13 : decode cX3_isNext 13 = .ok (.iconst 1, 1) := by decide +kernel
theorem dX3_isNext_14 : decode cX3_isNext 14 = .ok (.goto 4, 3) := by decide +kernel
theorem dX3_isNext_17 : decode cX3_isNext 17 = .ok (.iconst 0, 1) := by decide +kernel
theorem dX3_isNext_18 : decode cX3_isNext 18 = .ok (.ireturn, 1) := by decide +kernel
set_option maxRecDepth 20000 in
theorem ggX3_takeNumber_X3_isNext : GoodIn wsX3_takeNumber wsX3_isNext := goodIn_r _ [7, 8, 2, 14, 15, 16, 17, 18, 19, 20, 21] (by decide +kernel) (by decide +kernel)
set_option maxRecDepth 20000 in
theorem gX3_takeNumber_X3_isNext : GoodIn wsX3_takeNumber (wsV RX3 56 RX3 yX3_isNext wsX3_isNext) := goodIn_app (goodIn_of _ (by decide +kernel)) ggX3_takeNumber_X3_isNext
set_option maxRecDepth 20000 in
theorem ggX3_takeNumber_X3_step : GoodIn wsX3_takeNumber wsX3_step := goodIn_r _ [12, 2, 13, 14, 15, 16, 17, 18, 19, 20, 21] (by decide +kernel) (by decide +kernel)
set_option maxRecDepth 20000 in
theorem gX3_takeNumber_X3_step : GoodIn wsX3_takeNumber (wsV RX3 60 RX3 yX3_step wsX3_step) := goodIn_app (goodIn_of _ (by decide +kernel)) ggX3_takeNumber_X3_step
theorem dX3_takeNumber_0 : decode cX3_takeNumber 0 = .ok (.aload_n 0, 1) := by decide +kernel
theorem dX3_takeNumber_1 : decode cX3_takeNumber 1 = .ok (.iconst 2, 1) := by decide +kernel
theorem dX3_takeNumber_2 : decode cX3_takeNumber 2 = .ok (.invokevirtual 56, 3) := by decide +kernel
theorem dX3_takeNumber_5 : decode cX3_takeNumber 5 = .ok (.ifCond .eq 16, 3) := by decide +kernel
theorem dX3_takeNumber_8 : decode cX3_takeNumber 8 = .ok (.aload_n 0, 1) := by decide +kernel
theorem dX3_takeNumber_9 : decode cX3_takeNumber 9 = .ok (.getfield 35, 3) := by decide +kernel
theorem dX3_takeNumber_12 : decode cX3_takeNumber 12 = .ok (.aload_n 0, 1) := by decide +kernel
theorem dX3_takeNumber_13 : decode cX3_takeNumber 13 = .ok (.getfield 42, 3) := by decide +kernel
theorem dX3_takeNumber_16 : decode cX3_takeNumber 16 = .ok (.iaload, 1) := by decide +kernel
theorem dX3_takeNumber_17 : decode cX3_takeNumber 17 = .ok (.iload_n 1, 1) := by decide +kernel
theorem dX3_takeNumber_18 : decode cX3_takeNumber 18 = .ok (.if_icmp .le 5, 3) := by decide +kernel
theorem dX3_takeNumber_21 : decode cX3_takeNumber 21 = .ok (.iconst 0, 1) := by decide +kernel
theorem dX3_takeNumber_22 : decode cX3_takeNumber 22 = .ok (.ireturn, 1) := by decide +kernel
theorem dX3_takeNumber_23 : decode cX3_takeNumber 23 = .ok (.aload_n 0, 1) := by decide +kernel
theorem dX3_takeNumber_24 : decode cX3_takeNumber 24 = .ok (.invokevirtual 60, 3) := by decide +kernel
theorem dX3_takeNumber_27 : decode cX3_takeNumber 27 = .ok (.iconst 1, 1) := by decide +kernel
theorem dX3_takeNumber_28 : decode cX3_takeNumber 28 = .ok (.ireturn, 1) := by decide +kernel
set_option maxRecDepth 20000 in
theorem ggX3_isWord_X3_isNext : GoodIn wsX3_isWord wsX3_isNext := goodIn_r _ [9, 10, 2, 67, 68, 69, 70, 71, 72, 73, 74] (by decide +kernel) (by decide +kernel)
set_option maxRecDepth 20000 in
theorem gX3_isWord_X3_isNext : GoodIn wsX3_isWord (wsV RX3 56 RX3 yX3_isNext wsX3_isNext) := goodIn_app (goodIn_of _ (by decide +kernel)) ggX3_isWord_X3_isNext
set_option maxRecDepth 20000 in
theorem ggX3_isWord_J0_length_8abf5 : GoodIn wsX3_isWord wsJ0_length_8abf5 := goodIn_r _ [15, 16, 17, 18, 19, 14, 20, 21, 22] (by decide +kernel) (by decide +kernel)
set_option maxRecDepth 20000 in
theorem gX3_isWord_J0_length_8abf5 : GoodIn wsX3_isWord (wsV RX3 155 RJ0 yJ0_length_8abf5 wsJ0_length_8abf5) := goodIn_app (goodIn_of _ (by decide +kernel)) ggX3_isWord_J0_length_8abf5
set_option maxRecDepth 20000 in
theorem ggX3_isWord_X6_byteAt : GoodIn wsX3_isWord wsX6_byteAt := goodIn_r _ [27, 28, 29, 75, 76] (by decide +kernel) (by decide +kernel)
set_option maxRecDepth 20000 in
theorem gX3_isWord_X6_byteAt : GoodIn wsX3_isWord (wsV RX3 66 RX6 yX6_byteAt wsX6_byteAt) := goodIn_app (goodIn_of _ (by decide +kernel)) ggX3_isWord_X6_byteAt
set_option maxRecDepth 20000 in
theorem ggX3_isWord_J0_charAt_5068e : GoodIn wsX3_isWord wsJ0_charAt_5068e := goodIn_r _ [33, 16, 34, 35, 36, 14, 37, 21, 22, 38, 39, 40, 41, 42, 43, 44, 45, 46, 47, 48, 49, 50, 51, 52, 53, 54, 55, 56, 57, 58, 59, 60, 61, 62, 63, 64, 65, 66] (by decide +kernel) (by decide +kernel)
set_option maxRecDepth 20000 in
theorem gX3_isWord_J0_charAt_5068e : GoodIn wsX3_isWord (wsV RX3 159 RJ0 yJ0_charAt_5068e wsJ0_charAt_5068e) := goodIn_app (goodIn_of _ (by decide +kernel)) ggX3_isWord_J0_charAt_5068e
theorem dX3_isWord_0 : decode cX3_isWord 0 = .ok (.aload_n 0, 1) := by decide +kernel
theorem dX3_isWord_1 : decode cX3_isWord 1 = .ok (.iconst 1, 1) := by decide +kernel
theorem dX3_isWord_2 : decode cX3_isWord 2 = .ok (.invokevirtual 56, 3) := by decide +kernel
theorem dX3_isWord_5 : decode cX3_isWord 5 = .ok (.ifCond .eq 29, 3) := by decide +kernel
theorem dX3_isWord_8 : decode cX3_isWord 8 = .ok (.aload_n 0, 1) := by decide +kernel
theorem dX3_isWord_9 : decode cX3_isWord 9 = .ok (.getfield 32, 3) := by decide +kernel
theorem dX3_isWord_12 : decode cX3_isWord 12 = .ok (.aload_n 0, 1) := by decide +kernel
theorem dX3_isWord_13 : decode cX3_isWord 13 = .ok (.getfield 42, 3) := by decide +kernel
theorem dX3_isWord_16 : decode cX3_isWord 16 = .ok (.iaload, 1) := by decide +kernel
theorem dX3_isWord_17 : decode cX3_isWord 17 = .ok (.aload_n 0, 1) := by decide +kernel
theorem dX3_isWord_18 : decode cX3_isWord 18 = .ok (.getfield 29, 3) := by decide +kernel
theorem dX3_isWord_21 : decode cX3_isWord 21 = .ok (.aload_n 0, 1) := by decide +kernel
theorem dX3_isWord_22 : decode cX3_isWord 22 = .ok (.getfield 42, 3) := by decide +kernel
theorem dX3_isWord_25 : decode cX3_isWord 25 = .ok (.iaload, 1) := by decide +kernel
theorem dX3_isWord_26 : decode cX3_isWord 26 = .ok (.isub, 1) := by decide +kernel
theorem dX3_isWord_27 : decode cX3_isWord 27 = .ok (.aload_n 1, 1) := by decide +kernel
theorem dX3_isWord_28 : decode cX3_isWord 28 = .ok (.invokevirtual 155, 3) := by decide +kernel
theorem dX3_isWord_31 : decode cX3_isWord 31 = .ok (.if_icmp .eq 5, 3) := by decide +kernel
theorem dX3_isWord_34 : decode cX3_isWord 34 = .ok (.iconst 0, 1) := by decide +kernel
theorem dX3_isWord_35 : decode cX3_isWord 35 = .ok (.ireturn, 1) := by decide +kernel
theorem dX3_isWord_36 : decode cX3_isWord 36 = .ok (.iconst 0, 1) := by decide +kernel
theorem dX3_isWord_37 : decode cX3_isWord 37 = .ok (.istore_n 2, 1) := by decide +kernel
theorem dX3_isWord_38 : decode cX3_isWord 38 = .ok (.iload_n 2, 1) := by decide +kernel
theorem dX3_isWord_39 : decode cX3_isWord 39 = .ok (.aload_n 1, 1) := by decide +kernel
theorem dX3_isWord_40 : decode cX3_isWord 40 = .ok (.invokevirtual 155, 3) := by decide +kernel
theorem dX3_isWord_43 : decode cX3_isWord 43 = .ok (.if_icmp .ge 37, 3) := by decide +kernel
theorem dX3_isWord_46 : decode cX3_isWord 46 = .ok (.aload_n 0, 1) := by decide +kernel
theorem dX3_isWord_47 : decode cX3_isWord 47 = .ok (.getfield 12, 3) := by decide +kernel
theorem dX3_isWord_50 : decode cX3_isWord 50 = .ok (.aload_n 0, 1) := by decide +kernel
theorem dX3_isWord_51 : decode cX3_isWord 51 = .ok (.getfield 29, 3) := by decide +kernel
theorem dX3_isWord_54 : decode cX3_isWord 54 = .ok (.aload_n 0, 1) := by decide +kernel
theorem dX3_isWord_55 : decode cX3_isWord 55 = .ok (.getfield 42, 3) := by decide +kernel
theorem dX3_isWord_58 : decode cX3_isWord 58 = .ok (.iaload, 1) := by decide +kernel
theorem dX3_isWord_59 : decode cX3_isWord 59 = .ok (.iload_n 2, 1) := by decide +kernel
theorem dX3_isWord_60 : decode cX3_isWord 60 = .ok (.iadd, 1) := by decide +kernel
theorem dX3_isWord_61 : decode cX3_isWord 61 = .ok (.invokevirtual 66, 3) := by decide +kernel
theorem dX3_isWord_64 : decode cX3_isWord 64 = .ok (.aload_n 1, 1) := by decide +kernel
theorem dX3_isWord_65 : decode cX3_isWord 65 = .ok (.iload_n 2, 1) := by decide +kernel
theorem dX3_isWord_66 : decode cX3_isWord 66 = .ok (.invokevirtual 159, 3) := by decide +kernel
theorem dX3_isWord_69 : decode cX3_isWord 69 = .ok (.if_icmp .eq 5, 3) := by decide +kernel
theorem dX3_isWord_72 : decode cX3_isWord 72 = .ok (.iconst 0, 1) := by decide +kernel
theorem dX3_isWord_73 : decode cX3_isWord 73 = .ok (.ireturn, 1) := by decide +kernel
theorem dX3_isWord_74 : decode cX3_isWord 74 = .ok (.iinc 2 1, 3) := by decide +kernel
theorem dX3_isWord_77 : decode cX3_isWord 77 = .ok (.goto (-39), 3) := by decide +kernel
theorem dX3_isWord_80 : decode cX3_isWord 80 = .ok (.iconst 1, 1) := by decide +kernel
theorem dX3_isWord_81 : decode cX3_isWord 81 = .ok (.ireturn, 1) := by decide +kernel
set_option maxRecDepth 20000 in
theorem ggX3_kindOfWord_X3_isWord : GoodIn wsX3_kindOfWord wsX3_isWord := goodIn_r _ [5, 6, 7, 8, 9, 10, 11, 12, 4, 13, 14, 15, 16, 17, 18, 19, 20, 21, 22, 23, 24, 25, 26, 27, 28, 29, 30, 31, 32, 33, 34, 35, 36, 37, 38, 39, 40, 41, 42, 43, 44, 45, 46, 47, 48, 49, 50, 51, 52, 53, 54, 55, 56, 57, 58, 59, 60, 61, 62, 63, 64, 65, 66, 67, 68, 69, 70, 71, 72, 73, 74, 75, 76, 77, 78, 79, 80] (by decide +kernel) (by decide +kernel)
set_option maxRecDepth 20000 in
theorem gX3_kindOfWord_X3_isWord : GoodIn wsX3_kindOfWord (wsV RX3 97 RX3 yX3_isWord wsX3_isWord) := goodIn_app (goodIn_of _ (by decide +kernel)) ggX3_kindOfWord_X3_isWord
theorem dX3_kindOfWord_0 : decode cX3_kindOfWord 0 = .ok (.aload_n 0, 1) := by decide +kernel
theorem dX3_kindOfWord_1 : decode cX3_kindOfWord 1 = .ok (.ldc 163, 2) := by decide +kernel
theorem dX3_kindOfWord_3 : decode cX3_kindOfWord 3 = .ok (.invokevirtual 97, 3) := by decide +kernel
theorem dX3_kindOfWord_6 : decode cX3_kindOfWord 6 = .ok (.ifCond .eq 5, 3) := by decide +kernel
theorem dX3_kindOfWord_9 : decode cX3_kindOfWord 9 = .ok (.iconst 0, 1) := by decide +kernel
theorem dX3_kindOfWord_10 : decode cX3_kindOfWord 10 = .ok (.ireturn, 1) := by decide +kernel
theorem dX3_kindOfWord_11 : decode cX3_kindOfWord 11 = .ok (.aload_n 0, 1) := by decide +kernel
theorem dX3_kindOfWord_12 : decode cX3_kindOfWord 12 = .ok (.ldc 165, 2) := by decide +kernel
theorem dX3_kindOfWord_14 : decode cX3_kindOfWord 14 = .ok (.invokevirtual 97, 3) := by decide +kernel
theorem dX3_kindOfWord_17 : decode cX3_kindOfWord 17 = .ok (.ifCond .eq 5, 3) := by decide +kernel
theorem dX3_kindOfWord_20 : decode cX3_kindOfWord 20 = .ok (.iconst 1, 1) := by decide +kernel
theorem dX3_kindOfWord_21 : decode cX3_kindOfWord 21 = .ok (.ireturn, 1) := by decide +kernel
theorem dX3_kindOfWord_22 : decode cX3_kindOfWord 22 = .ok (.aload_n 0, 1) := by decide +kernel
theorem dX3_kindOfWord_23 : decode cX3_kindOfWord 23 = .ok (.ldc 167, 2) := by decide +kernel
theorem dX3_kindOfWord_25 : decode cX3_kindOfWord 25 = .ok (.invokevirtual 97, 3) := by decide +kernel
theorem dX3_kindOfWord_28 : decode cX3_kindOfWord 28 = .ok (.ifCond .eq 5, 3) := by decide +kernel
theorem dX3_kindOfWord_31 : decode cX3_kindOfWord 31 = .ok (.iconst 2, 1) := by decide +kernel
theorem dX3_kindOfWord_32 : decode cX3_kindOfWord 32 = .ok (.ireturn, 1) := by decide +kernel
theorem dX3_kindOfWord_33 : decode cX3_kindOfWord 33 = .ok (.aload_n 0, 1) := by decide +kernel
theorem dX3_kindOfWord_34 : decode cX3_kindOfWord 34 = .ok (.ldc 169, 2) := by decide +kernel
theorem dX3_kindOfWord_36 : decode cX3_kindOfWord 36 = .ok (.invokevirtual 97, 3) := by decide +kernel
theorem dX3_kindOfWord_39 : decode cX3_kindOfWord 39 = .ok (.ifCond .eq 5, 3) := by decide +kernel
theorem dX3_kindOfWord_42 : decode cX3_kindOfWord 42 = .ok (.iconst 3, 1) := by decide +kernel
theorem dX3_kindOfWord_43 : decode cX3_kindOfWord 43 = .ok (.ireturn, 1) := by decide +kernel
theorem dX3_kindOfWord_44 : decode cX3_kindOfWord 44 = .ok (.aload_n 0, 1) := by decide +kernel
theorem dX3_kindOfWord_45 : decode cX3_kindOfWord 45 = .ok (.ldc 171, 2) := by decide +kernel
theorem dX3_kindOfWord_47 : decode cX3_kindOfWord 47 = .ok (.invokevirtual 97, 3) := by decide +kernel
theorem dX3_kindOfWord_50 : decode cX3_kindOfWord 50 = .ok (.ifCond .eq 5, 3) := by decide +kernel
theorem dX3_kindOfWord_53 : decode cX3_kindOfWord 53 = .ok (.iconst 4, 1) := by decide +kernel
theorem dX3_kindOfWord_54 : decode cX3_kindOfWord 54 = .ok (.ireturn, 1) := by decide +kernel
theorem dX3_kindOfWord_55 : decode cX3_kindOfWord 55 = .ok (.aload_n 0, 1) := by decide +kernel
theorem dX3_kindOfWord_56 : decode cX3_kindOfWord 56 = .ok (.ldc 173, 2) := by decide +kernel
theorem dX3_kindOfWord_58 : decode cX3_kindOfWord 58 = .ok (.invokevirtual 97, 3) := by decide +kernel
theorem dX3_kindOfWord_61 : decode cX3_kindOfWord 61 = .ok (.ifCond .eq 5, 3) := by decide +kernel
theorem dX3_kindOfWord_64 : decode cX3_kindOfWord 64 = .ok (.iconst 5, 1) := by decide +kernel
theorem dX3_kindOfWord_65 : decode cX3_kindOfWord 65 = .ok (.ireturn, 1) := by decide +kernel
theorem dX3_kindOfWord_66 : decode cX3_kindOfWord 66 = .ok (.aload_n 0, 1) := by decide +kernel
theorem dX3_kindOfWord_67 : decode cX3_kindOfWord 67 = .ok (.ldc 175, 2) := by decide +kernel
theorem dX3_kindOfWord_69 : decode cX3_kindOfWord 69 = .ok (.invokevirtual 97, 3) := by decide +kernel
theorem dX3_kindOfWord_72 : decode cX3_kindOfWord 72 = .ok (.ifCond .eq 8, 3) := by decide +kernel
theorem dX3_kindOfWord_75 : decode cX3_kindOfWord 75 = .ok (.bipush 6, 2) := by decide +kernel
theorem dX3_kindOfWord_77 : decode cX3_kindOfWord 77 = .ok (.goto 4, 3) := by decide +kernel
theorem dX3_kindOfWord_80 : decode cX3_kindOfWord 80 = .ok (.iconst (-1), 1) := by decide +kernel
theorem dX3_kindOfWord_81 : decode cX3_kindOfWord 81 = .ok (.ireturn, 1) := by decide +kernel
set_option maxRecDepth 20000 in
theorem ggX4_init_X1_init : GoodIn wsX4_init wsX1_init := goodIn_r _ [14, 15, 2, 3, 8, 16, 17, 18, 19, 20, 21, 22, 23, 24, 25, 26, 27, 28, 29, 30, 31, 32, 33, 34, 35, 36, 37, 38, 39, 40] (by decide +kernel) (by decide +kernel)
set_option maxRecDepth 20000 in
theorem gX4_init_X1_init : GoodIn wsX4_init (wsX1_init) := ggX4_init_X1_init
theorem dX4_init_0 : decode cX4_init 0 = .ok (.aload_n 0, 1) := by decide +kernel
theorem dX4_init_1 : decode cX4_init 1 = .ok (.invokespecial 3, 3) := by decide +kernel
theorem dX4_init_4 : decode cX4_init 4 = .ok (.aload_n 0, 1) := by decide +kernel
theorem dX4_init_5 : decode cX4_init 5 = .ok (.new 9, 3) := by decide +kernel
theorem dX4_init_8 : decode cX4_init 8 = .ok (.dup, 1) := by decide +kernel
theorem dX4_init_9 : decode cX4_init 9 = .ok (.invokespecial 11, 3) := by decide +kernel
theorem dX4_init_12 : decode cX4_init 12 = .ok (.putfield 12, 3) := by decide +kernel
theorem dX4_init_15 : decode cX4_init 15 = .ok (.aload_n 0, 1) := by decide +kernel
theorem dX4_init_16 : decode cX4_init 16 = .ok (.bipush 16, 2) := by decide +kernel
theorem dX4_init_18 : decode cX4_init 18 = .ok (.newarray .int, 2) := by decide +kernel
theorem dX4_init_20 : decode cX4_init 20 = .ok (.putfield 18, 3) := by decide +kernel
theorem dX4_init_23 : decode cX4_init 23 = .ok (.aload_n 0, 1) := by decide +kernel
theorem dX4_init_24 : decode cX4_init 24 = .ok (.iconst 0, 1) := by decide +kernel
theorem dX4_init_25 : decode cX4_init 25 = .ok (.putfield 22, 3) := by decide +kernel
theorem dX4_init_28 : decode cX4_init 28 = .ok (.aload_n 0, 1) := by decide +kernel
theorem dX4_init_29 : decode cX4_init 29 = .ok (.iconst 0, 1) := by decide +kernel
theorem dX4_init_30 : decode cX4_init 30 = .ok (.putfield 26, 3) := by decide +kernel
theorem dX4_init_33 : decode cX4_init 33 = .ok (.return_, 1) := by decide +kernel
set_option maxRecDepth 20000 in
theorem ggX4_see_X4_begin : GoodIn wsX4_see wsX4_begin := goodIn_r _ [5, 6, 7, 8, 9, 10, 11, 12, 13, 14, 15, 16, 17, 18, 19, 20, 21, 22, 23, 24, 25, 26, 27, 28, 29, 30, 31, 32, 33, 34, 35, 71, 72, 73, 74, 75, 76, 77, 78, 79, 80, 81, 82, 83, 84, 85, 86] (by decide +kernel) (by decide +kernel)
set_option maxRecDepth 20000 in
theorem gX4_see_X4_begin : GoodIn wsX4_see (wsV RX4 29 RX4 yX4_begin wsX4_begin) := goodIn_app (goodIn_of _ (by decide +kernel)) ggX4_see_X4_begin
set_option maxRecDepth 20000 in
theorem ggX4_see_X4_run : GoodIn wsX4_see wsX4_run := goodIn_r _ [39, 8, 40, 6, 41, 42, 43, 13, 44, 27, 26, 25, 23, 45, 46, 47, 48, 49, 50, 51, 52, 53, 54, 55, 56, 57, 58, 59, 60, 61, 62, 20, 15, 21, 63, 64, 65, 66, 22, 67, 68, 69, 70, 28, 29, 71, 72, 73, 74, 75, 76, 77, 78, 79, 80, 81, 82, 83, 84, 85, 86] (by decide +kernel) (by decide +kernel)
set_option maxRecDepth 20000 in
theorem gX4_see_X4_run : GoodIn wsX4_see (wsV RX4 33 RX4 yX4_run wsX4_run) := goodIn_app (goodIn_of _ (by decide +kernel)) ggX4_see_X4_run
theorem dX4_see_0 : decode cX4_see 0 = .ok (.aload_n 0, 1) := by decide +kernel
theorem dX4_see_1 : decode cX4_see 1 = .ok (.aload_n 1, 1) := by decide +kernel
theorem dX4_see_2 : decode cX4_see 2 = .ok (.invokevirtual 29, 3) := by decide +kernel
theorem dX4_see_5 : decode cX4_see 5 = .ok (.aload_n 0, 1) := by decide +kernel
theorem dX4_see_6 : decode cX4_see 6 = .ok (.invokevirtual 33, 3) := by decide +kernel
theorem dX4_see_9 : decode cX4_see 9 = .ok (.return_, 1) := by decide +kernel
set_option maxRecDepth 20000 in
theorem ggX4_begin_X1_become : GoodIn wsX4_begin wsX1_become := goodIn_r _ [9, 10, 11, 12, 13, 14, 15, 16, 17, 18, 19, 20, 21, 22, 23, 24, 25, 35, 36, 37, 38, 39, 40, 41, 42, 43, 44, 45, 46] (by decide +kernel) (by decide +kernel)
set_option maxRecDepth 20000 in
theorem gX4_begin_X1_become : GoodIn wsX4_begin (wsV RX4 36 RX1 yX1_become wsX1_become) := goodIn_app (goodIn_of _ (by decide +kernel)) ggX4_begin_X1_become
set_option maxRecDepth 20000 in
theorem ggX4_begin_X1_hoursLeft : GoodIn wsX4_begin wsX1_hoursLeft := goodIn_r _ [29, 30, 22, 35, 36, 37, 38, 39, 40, 41, 42, 43, 44, 45, 46] (by decide +kernel) (by decide +kernel)
set_option maxRecDepth 20000 in
theorem gX4_begin_X1_hoursLeft : GoodIn wsX4_begin (wsV RX4 42 RX1 yX1_hoursLeft wsX1_hoursLeft) := goodIn_app (goodIn_of _ (by decide +kernel)) ggX4_begin_X1_hoursLeft
theorem dX4_begin_0 : decode cX4_begin 0 = .ok (.aload_n 0, 1) := by decide +kernel
theorem dX4_begin_1 : decode cX4_begin 1 = .ok (.getfield 12, 3) := by decide +kernel
theorem dX4_begin_4 : decode cX4_begin 4 = .ok (.aload_n 1, 1) := by decide +kernel
theorem dX4_begin_5 : decode cX4_begin 5 = .ok (.invokevirtual 36, 3) := by decide +kernel
theorem dX4_begin_8 : decode cX4_begin 8 = .ok (.aload_n 0, 1) := by decide +kernel
theorem dX4_begin_9 : decode cX4_begin 9 = .ok (.aload_n 1, 1) := by decide +kernel
theorem dX4_begin_10 : decode cX4_begin 10 = .ok (.getfield 39, 3) := by decide +kernel
theorem dX4_begin_13 : decode cX4_begin 13 = .ok (.putfield 22, 3) := by decide +kernel
theorem dX4_begin_16 : decode cX4_begin 16 = .ok (.aload_n 0, 1) := by decide +kernel
theorem dX4_begin_17 : decode cX4_begin 17 = .ok (.aload_n 1, 1) := by decide +kernel
theorem dX4_begin_18 : decode cX4_begin 18 = .ok (.invokevirtual 42, 3) := by decide +kernel
theorem dX4_begin_21 : decode cX4_begin 21 = .ok (.putfield 26, 3) := by decide +kernel
theorem dX4_begin_24 : decode cX4_begin 24 = .ok (.return_, 1) := by decide +kernel
set_option maxRecDepth 20000 in
theorem ggX4_run_X1_havers : GoodIn wsX4_run wsX1_havers := goodIn_r _ [8, 9, 10, 11, 12, 13, 14, 15, 16, 17, 18, 7, 19, 20, 21, 22, 23, 24, 25, 26, 27, 28, 29, 30, 31, 32, 33, 49, 50, 51, 52, 53, 54, 55, 56, 57, 58, 59, 60] (by decide +kernel) (by decide +kernel)
set_option maxRecDepth 20000 in
theorem gX4_run_X1_havers : GoodIn wsX4_run (wsV RX4 46 RX1 yX1_havers wsX1_havers) := goodIn_app (goodIn_of _ (by decide +kernel)) ggX4_run_X1_havers
set_option maxRecDepth 20000 in
theorem ggX4_run_X1_passHour : GoodIn wsX4_run wsX1_passHour := goodIn_r _ [37, 10, 9, 11, 38, 31, 24, 25, 22, 26, 20, 21, 23, 13, 14, 15, 39, 40, 41, 7, 42, 43, 44, 49, 50, 51, 52, 53, 54, 55, 56, 57, 58, 59, 60] (by decide +kernel) (by decide +kernel)
set_option maxRecDepth 20000 in
theorem gX4_run_X1_passHour : GoodIn wsX4_run (wsV RX4 49 RX1 yX1_passHour wsX1_passHour) := goodIn_app (goodIn_of _ (by decide +kernel)) ggX4_run_X1_passHour
theorem dX4_run_0 : decode cX4_run 0 = .ok (.aload_n 0, 1) := by decide +kernel
theorem dX4_run_1 : decode cX4_run 1 = .ok (.getfield 22, 3) := by decide +kernel
theorem dX4_run_4 : decode cX4_run 4 = .ok (.istore_n 1, 1) := by decide +kernel
theorem dX4_run_5 : decode cX4_run 5 = .ok (.iload_n 1, 1) := by decide +kernel
theorem dX4_run_6 : decode cX4_run 6 = .ok (.bipush 16, 2) := by decide +kernel
theorem dX4_run_8 : decode cX4_run 8 = .ok (.if_icmp .ge 35, 3) := by decide +kernel
theorem dX4_run_11 : decode cX4_run 11 = .ok (.aload_n 0, 1) := by decide +kernel
theorem dX4_run_12 : decode cX4_run 12 = .ok (.getfield 18, 3) := by decide +kernel
theorem dX4_run_15 : decode cX4_run 15 = .ok (.iload_n 1, 1) := by decide +kernel
theorem dX4_run_16 : decode cX4_run 16 = .ok (.aload_n 0, 1) := by decide +kernel
theorem dX4_run_17 : decode cX4_run 17 = .ok (.getfield 12, 3) := by decide +kernel
theorem dX4_run_20 : decode cX4_run 20 = .ok (.invokevirtual 46, 3) := by decide +kernel
theorem dX4_run_23 : decode cX4_run 23 = .ok (.iastore, 1) := by decide +kernel
theorem dX4_run_24 : decode cX4_run 24 = .ok (.aload_n 0, 1) := by decide +kernel
theorem dX4_run_25 : decode cX4_run 25 = .ok (.getfield 12, 3) := by decide +kernel
theorem dX4_run_28 : decode cX4_run 28 = .ok (.aload_n 0, 1) := by decide +kernel
theorem dX4_run_29 : decode cX4_run 29 = .ok (.getfield 18, 3) := by decide +kernel
theorem dX4_run_32 : decode cX4_run 32 = .ok (.iload_n 1, 1) := by decide +kernel
theorem dX4_run_33 : decode cX4_run 33 = .ok (.iaload, 1) := by decide +kernel
theorem dX4_run_34 : decode cX4_run 34 = .ok (.invokevirtual 49, 3) := by decide +kernel
theorem dX4_run_37 : decode cX4_run 37 = .ok (.iinc 1 1, 3) := by decide +kernel
theorem dX4_run_40 : decode cX4_run 40 = .ok (.goto (-35), 3) := by decide +kernel
theorem dX4_run_43 : decode cX4_run 43 = .ok (.return_, 1) := by decide +kernel
set_option maxRecDepth 20000 in
theorem ggX4_shadeOf_X7_bit : GoodIn wsX4_shadeOf wsX7_bit := goodIn_r _ [5] (by decide +kernel) (by decide +kernel)
set_option maxRecDepth 20000 in
theorem gX4_shadeOf_X7_bit_n53 : GoodIn wsX4_shadeOf (wsX7_bit) := ggX4_shadeOf_X7_bit
theorem dX4_shadeOf_0 : decode cX4_shadeOf 0 = .ok (.iconst 0, 1) := by decide +kernel
theorem dX4_shadeOf_1 : decode cX4_shadeOf 1 = .ok (.istore_n 2, 1) := by decide +kernel
theorem dX4_shadeOf_2 : decode cX4_shadeOf 2 = .ok (.iconst 0, 1) := by decide +kernel
theorem dX4_shadeOf_3 : decode cX4_shadeOf 3 = .ok (.istore_n 3, 1) := by decide +kernel
theorem dX4_shadeOf_4 : decode cX4_shadeOf 4 = .ok (.iload_n 3, 1) := by decide +kernel
theorem dX4_shadeOf_5 : decode cX4_shadeOf 5 = .ok (.bipush 16, 2) := by decide +kernel
theorem dX4_shadeOf_7 : decode cX4_shadeOf 7 = .ok (.if_icmp .ge 41, 3) := by decide +kernel
theorem dX4_shadeOf_10 : decode cX4_shadeOf 10 = .ok (.aload_n 0, 1) := by decide +kernel
theorem dX4_shadeOf_11 : decode cX4_shadeOf 11 = .ok (.getfield 26, 3) := by decide +kernel
theorem dX4_shadeOf_14 : decode cX4_shadeOf 14 = .ok (.iload_n 3, 1) := by decide +kernel
theorem dX4_shadeOf_15 : decode cX4_shadeOf 15 = .ok (.invokestatic 53, 3) := by decide +kernel
theorem dX4_shadeOf_18 : decode cX4_shadeOf 18 = .ok (.iconst 1, 1) := by decide +kernel
theorem dX4_shadeOf_19 : decode cX4_shadeOf 19 = .ok (.if_icmp .ne 23, 3) := by decide +kernel
theorem dX4_shadeOf_22 : decode cX4_shadeOf 22 = .ok (.aload_n 0, 1) := by decide +kernel
theorem dX4_shadeOf_23 : decode cX4_shadeOf 23 = .ok (.getfield 18, 3) := by decide +kernel
theorem dX4_shadeOf_26 : decode cX4_shadeOf 26 = .ok (.iload_n 3, 1) := by decide +kernel
theorem dX4_shadeOf_27 : decode cX4_shadeOf 27 = .ok (.iaload, 1) := by decide +kernel
theorem dX4_shadeOf_28 : decode cX4_shadeOf 28 = .ok (.iload_n 1, 1) := by decide +kernel
theorem dX4_shadeOf_29 : decode cX4_shadeOf 29 = .ok (.invokestatic 53, 3) := by decide +kernel
theorem dX4_shadeOf_32 : decode cX4_shadeOf 32 = .ok (.iconst 1, 1) := by decide +kernel
theorem dX4_shadeOf_33 : decode cX4_shadeOf 33 = .ok (.if_icmp .ne 9, 3) := by decide +kernel
theorem dX4_shadeOf_36 : decode cX4_shadeOf 36 = .ok (.iload_n 2, 1) := by decide +kernel
theorem dX4_shadeOf_37 : decode cX4_shadeOf 37 = .ok (.iconst 1, 1) := by decide +kernel
theorem dX4_shadeOf_38 : decode cX4_shadeOf 38 = .ok (.iload_n 3, 1) := by decide +kernel
theorem dX4_shadeOf_39 : decode cX4_shadeOf 39 = .ok (.ishl, 1) := by decide +kernel
theorem dX4_shadeOf_40 : decode cX4_shadeOf 40 = .ok (.ior, 1) := by decide +kernel
theorem dX4_shadeOf_41 : decode cX4_shadeOf 41 = .ok (.istore_n 2, 1) := by decide +kernel
theorem dX4_shadeOf_42 : decode cX4_shadeOf 42 = .ok (.iinc 3 1, 3) := by decide +kernel
theorem dX4_shadeOf_45 : decode cX4_shadeOf 45 = .ok (.goto (-41), 3) := by decide +kernel
theorem dX4_shadeOf_48 : decode cX4_shadeOf 48 = .ok (.iload_n 2, 1) := by decide +kernel
theorem dX4_shadeOf_49 : decode cX4_shadeOf 49 = .ok (.ireturn, 1) := by decide +kernel
set_option maxRecDepth 20000 in
theorem ggX4_servedOf_X4_shadeOf : GoodIn wsX4_servedOf wsX4_shadeOf := goodIn_r _ [9, 4, 10, 11, 12, 13, 14, 15, 16, 17] (by decide +kernel) (by decide +kernel)
set_option maxRecDepth 20000 in
theorem gX4_servedOf_X4_shadeOf : GoodIn wsX4_servedOf (wsV RX4 63 RX4 yX4_shadeOf wsX4_shadeOf) := goodIn_app (goodIn_of _ (by decide +kernel)) ggX4_servedOf_X4_shadeOf
theorem dX4_servedOf_0 : decode cX4_servedOf 0 = .ok (.aload_n 0, 1) := by decide +kernel
theorem dX4_servedOf_1 : decode cX4_servedOf 1 = .ok (.getfield 12, 3) := by decide +kernel
theorem dX4_servedOf_4 : decode cX4_servedOf 4 = .ok (.getfield 57, 3) := by decide +kernel
theorem dX4_servedOf_7 : decode cX4_servedOf 7 = .ok (.iload_n 1, 1) := by decide +kernel
theorem dX4_servedOf_8 : decode cX4_servedOf 8 = .ok (.iaload, 1) := by decide +kernel
theorem dX4_servedOf_9 : decode cX4_servedOf 9 = .ok (.iconst (-1), 1) := by decide +kernel
theorem dX4_servedOf_10 : decode cX4_servedOf 10 = .ok (.ixor, 1) := by decide +kernel
theorem dX4_servedOf_11 : decode cX4_servedOf 11 = .ok (.aload_n 0, 1) := by decide +kernel
theorem dX4_servedOf_12 : decode cX4_servedOf 12 = .ok (.getfield 12, 3) := by decide +kernel
theorem dX4_servedOf_15 : decode cX4_servedOf 15 = .ok (.getfield 60, 3) := by decide +kernel
theorem dX4_servedOf_18 : decode cX4_servedOf 18 = .ok (.iconst (-1), 1) := by decide +kernel
theorem dX4_servedOf_19 : decode cX4_servedOf 19 = .ok (.ixor, 1) := by decide +kernel
theorem dX4_servedOf_20 : decode cX4_servedOf 20 = .ok (.ior, 1) := by decide +kernel
theorem dX4_servedOf_21 : decode cX4_servedOf 21 = .ok (.aload_n 0, 1) := by decide +kernel
theorem dX4_servedOf_22 : decode cX4_servedOf 22 = .ok (.iload_n 1, 1) := by decide +kernel
theorem dX4_servedOf_23 : decode cX4_servedOf 23 = .ok (.invokevirtual 63, 3) := by decide +kernel
theorem dX4_servedOf_26 : decode cX4_servedOf 26 = .ok (.ior, 1) := by decide +kernel
theorem dX4_servedOf_27 : decode cX4_servedOf 27 = .ok (.aload_n 0, 1) := by decide +kernel
theorem dX4_servedOf_28 : decode cX4_servedOf 28 = .ok (.getfield 26, 3) := by decide +kernel
theorem dX4_servedOf_31 : decode cX4_servedOf 31 = .ok (.iand, 1) := by decide +kernel
theorem dX4_servedOf_32 : decode cX4_servedOf 32 = .ok (.ireturn, 1) := by decide +kernel
set_option maxRecDepth 20000 in
theorem ggX4_metOf_X1_isPerson : GoodIn wsX4_metOf wsX1_isPerson := goodIn_r _ [7, 8, 35, 36, 37, 38, 39, 40, 41, 42, 43, 44, 45, 46] (by decide +kernel) (by decide +kernel)
set_option maxRecDepth 20000 in
theorem gX4_metOf_X1_isPerson : GoodIn wsX4_metOf (wsV RX4 67 RX1 yX1_isPerson wsX1_isPerson) := goodIn_app (goodIn_of _ (by decide +kernel)) ggX4_metOf_X1_isPerson
set_option maxRecDepth 20000 in
theorem ggX4_metOf_X4_servedOf : GoodIn wsX4_metOf wsX4_servedOf := goodIn_r _ [13, 1, 2, 14, 15, 16, 17, 18, 12, 19, 20, 21, 22, 23, 31, 32, 33, 34, 35, 36, 37, 38, 39, 40, 41, 42, 43, 44, 45, 46] (by decide +kernel) (by decide +kernel)
set_option maxRecDepth 20000 in
theorem gX4_metOf_X4_servedOf : GoodIn wsX4_metOf (wsV RX4 71 RX4 yX4_servedOf wsX4_servedOf) := goodIn_app (goodIn_of _ (by decide +kernel)) ggX4_metOf_X4_servedOf
set_option maxRecDepth 20000 in
theorem ggX4_metOf_J6_bitCount_0f7a4 : GoodIn wsX4_metOf wsJ6_bitCount_0f7a4 := goodIn_r _ [27, 28, 29, 30] (by decide +kernel) (by decide +kernel)
set_option maxRecDepth 20000 in
theorem gX4_metOf_J6_bitCount_0f7a4 : GoodIn wsX4_metOf (va_wsS RX4 74 yJ6_bitCount_0f7a4 wsJ6_bitCount_0f7a4) := goodIn_app (goodIn_of _ (by decide +kernel)) ggX4_metOf_J6_bitCount_0f7a4
theorem dX4_metOf_0 : decode cX4_metOf 0 = .ok (.aload_n 0, 1) := by decide +kernel
theorem dX4_metOf_1 : decode cX4_metOf 1 = .ok (.getfield 12, 3) := by decide +kernel
theorem dX4_metOf_4 : decode cX4_metOf 4 = .ok (.iload_n 1, 1) := by decide +kernel
theorem dX4_metOf_5 : decode cX4_metOf 5 = .ok (.invokevirtual 67, 3) := by decide +kernel
theorem dX4_metOf_8 : decode cX4_metOf 8 = .ok (.ifCond .eq 24, 3) := by decide +kernel
theorem dX4_metOf_11 : decode cX4_metOf 11 = .ok (.aload_n 0, 1) := by decide +kernel
theorem dX4_metOf_12 : decode cX4_metOf 12 = .ok (.getfield 12, 3) := by decide +kernel
theorem dX4_metOf_15 : decode cX4_metOf 15 = .ok (.getfield 57, 3) := by decide +kernel
theorem dX4_metOf_18 : decode cX4_metOf 18 = .ok (.iload_n 1, 1) := by decide +kernel
theorem dX4_metOf_19 : decode cX4_metOf 19 = .ok (.iaload, 1) := by decide +kernel
theorem dX4_metOf_20 : decode cX4_metOf 20 = .ok (.aload_n 0, 1) := by decide +kernel
theorem dX4_metOf_21 : decode cX4_metOf 21 = .ok (.iload_n 1, 1) := by decide +kernel
theorem dX4_metOf_22 : decode cX4_metOf 22 = .ok (.invokevirtual 71, 3) := by decide +kernel
theorem dX4_metOf_25 : decode cX4_metOf 25 = .ok (.iand, 1) := by decide +kernel
theorem dX4_metOf_26 : decode cX4_metOf 26 = .ok (.invokestatic 74, 3) := by decide +kernel
theorem dX4_metOf_29 : decode cX4_metOf 29 = .ok (.goto 4, 3) := by decide +kernel
theorem dX4_metOf_32 : decode cX4_metOf 32 = .ok (.iconst 0, 1) := by decide +kernel
theorem dX4_metOf_33 : decode cX4_metOf 33 = .ok (.ireturn, 1) := by decide +kernel
set_option maxRecDepth 20000 in
theorem ggX4_metOfAll_X4_metOf : GoodIn wsX4_metOfAll wsX4_metOf := goodIn_r _ [7, 1, 8, 9, 10, 11, 12, 13, 14, 15, 16, 17, 6, 18, 19, 20, 21, 22, 23, 24, 25, 26, 27, 28, 29, 30, 31, 32, 33, 34, 35, 36, 37, 38, 39, 40, 41, 42, 43, 44, 45, 46, 47, 48, 49, 50, 51] (by decide +kernel) (by decide +kernel)
set_option maxRecDepth 20000 in
theorem gX4_metOfAll_X4_metOf : GoodIn wsX4_metOfAll (wsV RX4 82 RX4 yX4_metOf wsX4_metOf) := goodIn_app (goodIn_of _ (by decide +kernel)) ggX4_metOfAll_X4_metOf
theorem dX4_metOfAll_0 : decode cX4_metOfAll 0 = .ok (.iconst 0, 1) := by decide +kernel
theorem dX4_metOfAll_1 : decode cX4_metOfAll 1 = .ok (.istore_n 1, 1) := by decide +kernel
theorem dX4_metOfAll_2 : decode cX4_metOfAll 2 = .ok (.iconst 0, 1) := by decide +kernel
theorem dX4_metOfAll_3 : decode cX4_metOfAll 3 = .ok (.istore_n 2, 1) := by decide +kernel
theorem dX4_metOfAll_4 : decode cX4_metOfAll 4 = .ok (.iload_n 2, 1) := by decide +kernel
theorem dX4_metOfAll_5 : decode cX4_metOfAll 5 = .ok (.aload_n 0, 1) := by decide +kernel
theorem dX4_metOfAll_6 : decode cX4_metOfAll 6 = .ok (.getfield 12, 3) := by decide +kernel
theorem dX4_metOfAll_9 : decode cX4_metOfAll 9 = .ok (.getfield 79, 3) := by decide +kernel
theorem dX4_metOfAll_12 : decode cX4_metOfAll 12 = .ok (.if_icmp .ge 17, 3) := by decide +kernel
theorem dX4_metOfAll_15 : decode cX4_metOfAll 15 = .ok (.iload_n 1, 1) := by decide +kernel
theorem dX4_metOfAll_16 : decode cX4_metOfAll 16 = .ok (.aload_n 0, 1) := by decide +kernel
theorem dX4_metOfAll_17 : decode cX4_metOfAll 17 = .ok (.iload_n 2, 1) := by decide +kernel
theorem dX4_metOfAll_18 : decode cX4_metOfAll 18 = .ok (.invokevirtual 82, 3) := by decide +kernel
theorem dX4_metOfAll_21 : decode cX4_metOfAll 21 = .ok (.iadd, 1) := by decide +kernel
theorem dX4_metOfAll_22 : decode cX4_metOfAll 22 = .ok (.istore_n 1, 1) := by decide +kernel
theorem dX4_metOfAll_23 : decode cX4_metOfAll 23 = .ok (.iinc 2 1, 3) := by decide +kernel
theorem dX4_metOfAll_26 : decode cX4_metOfAll 26 = .ok (.goto (-22), 3) := by decide +kernel
theorem dX4_metOfAll_29 : decode cX4_metOfAll 29 = .ok (.iload_n 1, 1) := by decide +kernel
theorem dX4_metOfAll_30 : decode cX4_metOfAll 30 = .ok (.ireturn, 1) := by decide +kernel
set_option maxRecDepth 20000 in
theorem ggX4_firstCold_X1_isPerson : GoodIn wsX4_firstCold wsX1_isPerson := goodIn_r _ [7, 8, 28, 29, 30, 31, 32, 33, 34, 35, 36, 37, 38, 39] (by decide +kernel) (by decide +kernel)
set_option maxRecDepth 20000 in
theorem gX4_firstCold_X1_isPerson : GoodIn wsX4_firstCold (wsV RX4 67 RX1 yX1_isPerson wsX1_isPerson) := goodIn_app (goodIn_of _ (by decide +kernel)) ggX4_firstCold_X1_isPerson
set_option maxRecDepth 20000 in
theorem ggX4_firstCold_X4_servedOf : GoodIn wsX4_firstCold wsX4_servedOf := goodIn_r _ [13, 1, 14, 15, 2, 16, 17, 18, 12, 19, 20, 21, 22, 23, 24, 25, 26, 27, 28, 29, 30, 31, 32, 33, 34, 35, 36, 37, 38, 39] (by decide +kernel) (by decide +kernel)
set_option maxRecDepth 20000 in
theorem gX4_firstCold_X4_servedOf : GoodIn wsX4_firstCold (wsV RX4 71 RX4 yX4_servedOf wsX4_servedOf) := goodIn_app (goodIn_of _ (by decide +kernel)) ggX4_firstCold_X4_servedOf
set_option maxRecDepth 20000 in
theorem ggX4_firstCold_X7_bit : GoodIn wsX4_firstCold wsX7_bit := goodIn_r _ [23] (by decide +kernel) (by decide +kernel)
set_option maxRecDepth 20000 in
theorem gX4_firstCold_X7_bit_n53 : GoodIn wsX4_firstCold (wsX7_bit) := ggX4_firstCold_X7_bit
theorem dX4_firstCold_0 : decode cX4_firstCold 0 = .ok (.aload_n 0, 1) := by decide +kernel
theorem dX4_firstCold_1 : decode cX4_firstCold 1 = .ok (.getfield 12, 3) := by decide +kernel
theorem dX4_firstCold_4 : decode cX4_firstCold 4 = .ok (.iload_n 1, 1) := by decide +kernel
theorem dX4_firstCold_5 : decode cX4_firstCold 5 = .ok (.invokevirtual 67, 3) := by decide +kernel
theorem dX4_firstCold_8 : decode cX4_firstCold 8 = .ok (.ifCond .ne 6, 3) := by decide +kernel
theorem dX4_firstCold_11 : decode cX4_firstCold 11 = .ok (.bipush 16, 2) := by decide +kernel
theorem dX4_firstCold_13 : decode cX4_firstCold 13 = .ok (.ireturn, 1) := by decide +kernel
theorem dX4_firstCold_14 : decode cX4_firstCold 14 = .ok (.aload_n 0, 1) := by decide +kernel
theorem dX4_firstCold_15 : decode cX4_firstCold 15 = .ok (.getfield 26, 3) := by decide +kernel
theorem dX4_firstCold_18 : decode cX4_firstCold 18 = .ok (.aload_n 0, 1) := by decide +kernel
theorem dX4_firstCold_19 : decode cX4_firstCold 19 = .ok (.iload_n 1, 1) := by decide +kernel
theorem dX4_firstCold_20 : decode cX4_firstCold 20 = .ok (.invokevirtual 71, 3) := by decide +kernel
theorem dX4_firstCold_23 : decode cX4_firstCold 23 = .ok (.iconst (-1), 1) := by decide +kernel
theorem dX4_firstCold_24 : decode cX4_firstCold 24 = .ok (.ixor, 1) := by decide +kernel
theorem dX4_firstCold_25 : decode cX4_firstCold 25 = .ok (.iand, 1) := by decide +kernel
theorem dX4_firstCold_26 : decode cX4_firstCold 26 = .ok (.istore_n 2, 1) := by decide +kernel
theorem dX4_firstCold_27 : decode cX4_firstCold 27 = .ok (.iconst 0, 1) := by decide +kernel
theorem dX4_firstCold_28 : decode cX4_firstCold 28 = .ok (.istore_n 3, 1) := by decide +kernel
theorem dX4_firstCold_29 : decode cX4_firstCold 29 = .ok (.iload_n 3, 1) := by decide +kernel
theorem dX4_firstCold_30 : decode cX4_firstCold 30 = .ok (.bipush 16, 2) := by decide +kernel
theorem dX4_firstCold_32 : decode cX4_firstCold 32 = .ok (.if_icmp .ge 20, 3) := by decide +kernel
theorem dX4_firstCold_35 : decode cX4_firstCold 35 = .ok (.iload_n 2, 1) := by decide +kernel
theorem dX4_firstCold_36 : decode cX4_firstCold 36 = .ok (.iload_n 3, 1) := by decide +kernel
theorem dX4_firstCold_37 : decode cX4_firstCold 37 = .ok (.invokestatic 53, 3) := by decide +kernel
theorem dX4_firstCold_40 : decode cX4_firstCold 40 = .ok (.iconst 1, 1) := by decide +kernel
theorem dX4_firstCold_41 : decode cX4_firstCold 41 = .ok (.if_icmp .ne 5, 3) := by decide +kernel
theorem dX4_firstCold_44 : decode cX4_firstCold 44 = .ok (.iload_n 3, 1) := by decide +kernel
theorem dX4_firstCold_45 : decode cX4_firstCold 45 = .ok (.ireturn, 1) := by decide +kernel
theorem dX4_firstCold_46 : decode cX4_firstCold 46 = .ok (.iinc 3 1, 3) := by decide +kernel
theorem dX4_firstCold_49 : decode cX4_firstCold 49 = .ok (.goto (-20), 3) := by decide +kernel
theorem dX4_firstCold_52 : decode cX4_firstCold 52 = .ok (.bipush 16, 2) := by decide +kernel
theorem dX4_firstCold_54 : decode cX4_firstCold 54 = .ok (.ireturn, 1) := by decide +kernel
set_option maxRecDepth 20000 in
theorem ggX4_sunOf_X1_isPerson : GoodIn wsX4_sunOf wsX1_isPerson := goodIn_r _ [7, 8, 13, 14, 15, 16, 17, 18, 19, 20, 21, 22, 23, 24] (by decide +kernel) (by decide +kernel)
set_option maxRecDepth 20000 in
theorem gX4_sunOf_X1_isPerson : GoodIn wsX4_sunOf (wsV RX4 67 RX1 yX1_isPerson wsX1_isPerson) := goodIn_app (goodIn_of _ (by decide +kernel)) ggX4_sunOf_X1_isPerson
theorem dX4_sunOf_0 : decode cX4_sunOf 0 = .ok (.aload_n 0, 1) := by decide +kernel
theorem dX4_sunOf_1 : decode cX4_sunOf 1 = .ok (.getfield 12, 3) := by decide +kernel
theorem dX4_sunOf_4 : decode cX4_sunOf 4 = .ok (.iload_n 1, 1) := by decide +kernel
theorem dX4_sunOf_5 : decode cX4_sunOf 5 = .ok (.invokevirtual 67, 3) := by decide +kernel
theorem dX4_sunOf_8 : decode cX4_sunOf 8 = .ok (.ifCond .eq 15, 3) := by decide +kernel
theorem dX4_sunOf_11 : decode cX4_sunOf 11 = .ok (.aload_n 0, 1) := by decide +kernel
theorem dX4_sunOf_12 : decode cX4_sunOf 12 = .ok (.getfield 12, 3) := by decide +kernel
theorem dX4_sunOf_15 : decode cX4_sunOf 15 = .ok (.getfield 85, 3) := by decide +kernel
theorem dX4_sunOf_18 : decode cX4_sunOf 18 = .ok (.iload_n 1, 1) := by decide +kernel
theorem dX4_sunOf_19 : decode cX4_sunOf 19 = .ok (.iaload, 1) := by decide +kernel
theorem dX4_sunOf_20 : decode cX4_sunOf 20 = .ok (.goto 4, 3) := by decide +kernel
theorem dX4_sunOf_23 : decode cX4_sunOf 23 = .ok (.iconst 0, 1) := by decide +kernel
theorem dX4_sunOf_24 : decode cX4_sunOf 24 = .ok (.ireturn, 1) := by decide +kernel
theorem dX4_isShadowSet_0 : decode cX4_isShadowSet 0 = .ok (.iload_n 1, 1) := by decide +kernel
theorem dX4_isShadowSet_1 : decode cX4_isShadowSet 1 = .ok (.aload_n 0, 1) := by decide +kernel
theorem dX4_isShadowSet_2 : decode cX4_isShadowSet 2 = .ok (.getfield 22, 3) := by decide +kernel
theorem dX4_isShadowSet_5 : decode cX4_isShadowSet 5 = .ok (.if_icmp .lt 23, 3) := by decide +kernel
theorem dX4_isShadowSet_8 : decode cX4_isShadowSet 8 = .ok (.iload_n 1, 1) := by decide +kernel
theorem dX4_isShadowSet_9 : decode cX4_isShadowSet 9 = .ok (.bipush 16, 2) := by decide +kernel
theorem dX4_isShadowSet_11 : decode cX4_isShadowSet 11 = .ok (.if_icmp .ge 17, 3) := by decide +kernel
theorem dX4_isShadowSet_14 : decode cX4_isShadowSet 14 = .ok (.aload_n 0, 1) := by decide +kernel
theorem dX4_isShadowSet_15 : decode cX4_isShadowSet 15 = .ok (.getfield 18, 3) := by decide +kernel
theorem dX4_isShadowSet_18 : decode cX4_isShadowSet 18 = .ok (.iload_n 1, 1) := by decide +kernel
theorem dX4_isShadowSet_19 : decode cX4_isShadowSet 19 = .ok (.iaload, 1) := by decide +kernel
theorem dX4_isShadowSet_20 : decode cX4_isShadowSet 20 = .ok (.iload_n 2, 1) := by decide +kernel
theorem dX4_isShadowSet_21 : decode cX4_isShadowSet 21 = .ok (.if_icmp .ne 7, 3) := by decide +kernel
theorem dX4_isShadowSet_24 : decode cX4_isShadowSet 24 = .ok (.iconst 1, 1) := by decide +kernel
theorem dX4_isShadowSet_25 : decode cX4_isShadowSet 25 = .ok (.goto 4, 3) := by decide +kernel
theorem dX4_isShadowSet_28 : decode cX4_isShadowSet 28 = .ok (.iconst 0, 1) := by decide +kernel
theorem dX4_isShadowSet_29 : decode cX4_isShadowSet 29 = .ok (.ireturn, 1) := by decide +kernel
set_option maxRecDepth 20000 in
theorem ggX4_isShadeOf_X7_bit : GoodIn wsX4_isShadeOf wsX7_bit := goodIn_r _ [7] (by decide +kernel) (by decide +kernel)
set_option maxRecDepth 20000 in
theorem gX4_isShadeOf_X7_bit_n53 : GoodIn wsX4_isShadeOf (wsX7_bit) := ggX4_isShadeOf_X7_bit
theorem dX4_isShadeOf_0 : decode cX4_isShadeOf 0 = .ok (.aload_n 0, 1) := by decide +kernel
theorem dX4_isShadeOf_1 : decode cX4_isShadeOf 1 = .ok (.getfield 22, 3) := by decide +kernel
theorem dX4_isShadeOf_4 : decode cX4_isShadeOf 4 = .ok (.istore_n 3, 1) := by decide +kernel
theorem dX4_isShadeOf_5 : decode cX4_isShadeOf 5 = .ok (.iload_n 3, 1) := by decide +kernel
theorem dX4_isShadeOf_6 : decode cX4_isShadeOf 6 = .ok (.bipush 16, 2) := by decide +kernel
theorem dX4_isShadeOf_8 : decode cX4_isShadeOf 8 = .ok (.if_icmp .ge 52, 3) := by decide +kernel
theorem dX4_isShadeOf_11 : decode cX4_isShadeOf 11 = .ok (.iload_n 3, 1) := by decide +kernel
theorem dX4_isShadeOf_12 : decode cX4_isShadeOf 12 = .ok (.aload_n 0, 1) := by decide +kernel
theorem dX4_isShadeOf_13 : decode cX4_isShadeOf 13 = .ok (.getfield 22, 3) := by decide +kernel
theorem dX4_isShadeOf_16 : decode cX4_isShadeOf 16 = .ok (.isub, 1) := by decide +kernel
theorem dX4_isShadeOf_17 : decode cX4_isShadeOf 17 = .ok (.aload_n 2, 1) := by decide +kernel
theorem dX4_isShadeOf_18 : decode cX4_isShadeOf 18 = .ok (.getfield 88, 3) := by decide +kernel
theorem dX4_isShadeOf_21 : decode cX4_isShadeOf 21 = .ok (.if_icmp .ge 39, 3) := by decide +kernel
theorem dX4_isShadeOf_24 : decode cX4_isShadeOf 24 = .ok (.aload_n 0, 1) := by decide +kernel
theorem dX4_isShadeOf_25 : decode cX4_isShadeOf 25 = .ok (.getfield 18, 3) := by decide +kernel
theorem dX4_isShadeOf_28 : decode cX4_isShadeOf 28 = .ok (.iload_n 3, 1) := by decide +kernel
theorem dX4_isShadeOf_29 : decode cX4_isShadeOf 29 = .ok (.iaload, 1) := by decide +kernel
theorem dX4_isShadeOf_30 : decode cX4_isShadeOf 30 = .ok (.iload_n 1, 1) := by decide +kernel
theorem dX4_isShadeOf_31 : decode cX4_isShadeOf 31 = .ok (.invokestatic 53, 3) := by decide +kernel
theorem dX4_isShadeOf_34 : decode cX4_isShadeOf 34 = .ok (.aload_n 2, 1) := by decide +kernel
theorem dX4_isShadeOf_35 : decode cX4_isShadeOf 35 = .ok (.getfield 93, 3) := by decide +kernel
theorem dX4_isShadeOf_38 : decode cX4_isShadeOf 38 = .ok (.iload_n 3, 1) := by decide +kernel
theorem dX4_isShadeOf_39 : decode cX4_isShadeOf 39 = .ok (.aload_n 0, 1) := by decide +kernel
theorem dX4_isShadeOf_40 : decode cX4_isShadeOf 40 = .ok (.getfield 22, 3) := by decide +kernel
theorem dX4_isShadeOf_43 : decode cX4_isShadeOf 43 = .ok (.isub, 1) := by decide +kernel
theorem dX4_isShadeOf_44 : decode cX4_isShadeOf 44 = .ok (.iaload, 1) := by decide +kernel
theorem dX4_isShadeOf_45 : decode cX4_isShadeOf 45 = .ok (.iload_n 1, 1) := by decide +kernel
theorem dX4_isShadeOf_46 : decode cX4_isShadeOf 46 = .ok (.invokestatic 53, 3) := by decide +kernel
theorem dX4_isShadeOf_49 : decode cX4_isShadeOf 49 = .ok (.if_icmp .eq 5, 3) := by decide +kernel
theorem dX4_isShadeOf_52 : decode cX4_isShadeOf 52 = .ok (.iconst 0, 1) := by decide +kernel
theorem dX4_isShadeOf_53 : decode cX4_isShadeOf 53 = .ok (.ireturn, 1) := by decide +kernel
theorem dX4_isShadeOf_54 : decode cX4_isShadeOf 54 = .ok (.iinc 3 1, 3) := by decide +kernel
theorem dX4_isShadeOf_57 : decode cX4_isShadeOf 57 = .ok (.goto (-52), 3) := by decide +kernel
theorem dX4_isShadeOf_60 : decode cX4_isShadeOf 60 = .ok (.iconst 1, 1) := by decide +kernel
theorem dX4_isShadeOf_61 : decode cX4_isShadeOf 61 = .ok (.ireturn, 1) := by decide +kernel
theorem dX5_init_0 : decode cX5_init 0 = .ok (.aload_n 0, 1) := by decide +kernel
theorem dX5_init_1 : decode cX5_init 1 = .ok (.invokespecial 3, 3) := by decide +kernel
theorem dX5_init_4 : decode cX5_init 4 = .ok (.aload_n 0, 1) := by decide +kernel
theorem dX5_init_5 : decode cX5_init 5 = .ok (.bipush 40, 2) := by decide +kernel
theorem dX5_init_7 : decode cX5_init 7 = .ok (.newarray .int, 2) := by decide +kernel
theorem dX5_init_9 : decode cX5_init 9 = .ok (.putfield 9, 3) := by decide +kernel
theorem dX5_init_12 : decode cX5_init 12 = .ok (.aload_n 0, 1) := by decide +kernel
theorem dX5_init_13 : decode cX5_init 13 = .ok (.iconst 0, 1) := by decide +kernel
theorem dX5_init_14 : decode cX5_init 14 = .ok (.putfield 15, 3) := by decide +kernel
theorem dX5_init_17 : decode cX5_init 17 = .ok (.aload_n 0, 1) := by decide +kernel
theorem dX5_init_18 : decode cX5_init 18 = .ok (.iconst 0, 1) := by decide +kernel
theorem dX5_init_19 : decode cX5_init 19 = .ok (.putfield 19, 3) := by decide +kernel
theorem dX5_init_22 : decode cX5_init 22 = .ok (.return_, 1) := by decide +kernel
theorem dX5_isMissing_0 : decode cX5_isMissing 0 = .ok (.aload_n 0, 1) := by decide +kernel
theorem dX5_isMissing_1 : decode cX5_isMissing 1 = .ok (.getfield 15, 3) := by decide +kernel
theorem dX5_isMissing_4 : decode cX5_isMissing 4 = .ok (.ifCond .ne 7, 3) := by decide +kernel
theorem dX5_isMissing_7 : decode cX5_isMissing 7 = .ok (.iconst 1, 1) := by decide +kernel
theorem dX5_isMissing_8 : decode cX5_isMissing 8 = .ok (.goto 4, 3) := by decide +kernel
theorem dX5_isMissing_11 : decode cX5_isMissing 11 = .ok (.iconst 0, 1) := by decide +kernel
theorem dX5_isMissing_12 : decode cX5_isMissing 12 = .ok (.ireturn, 1) := by decide +kernel
theorem dX5_renew_0 : decode cX5_renew 0 = .ok (.aload_n 0, 1) := by decide +kernel
theorem dX5_renew_1 : decode cX5_renew 1 = .ok (.iload_n 1, 1) := by decide +kernel
theorem dX5_renew_2 : decode cX5_renew 2 = .ok (.putfield 15, 3) := by decide +kernel
theorem dX5_renew_5 : decode cX5_renew 5 = .ok (.aload_n 0, 1) := by decide +kernel
theorem dX5_renew_6 : decode cX5_renew 6 = .ok (.iload_n 1, 1) := by decide +kernel
theorem dX5_renew_7 : decode cX5_renew 7 = .ok (.ifCond .ne 7, 3) := by decide +kernel
theorem dX5_renew_10 : decode cX5_renew 10 = .ok (.iconst 0, 1) := by decide +kernel
theorem dX5_renew_11 : decode cX5_renew 11 = .ok (.goto 13, 3) := by decide +kernel
theorem dX5_renew_14 : decode cX5_renew 14 = .ok (.iconst 0, 1) := by decide +kernel
theorem dX5_renew_15 : decode cX5_renew 15 = .ok (.iload_n 2, 1) := by decide +kernel
theorem dX5_renew_16 : decode cX5_renew 16 = .ok (.bipush 40, 2) := by decide +kernel
theorem dX5_renew_18 : decode cX5_renew 18 = .ok (.invokestatic 22, 3) := by decide +kernel
theorem dX5_renew_21 : decode cX5_renew 21 = .ok (.invokestatic 28, 3) := by decide +kernel
theorem dX5_renew_24 : decode cX5_renew 24 = .ok (.putfield 19, 3) := by decide +kernel
theorem dX5_renew_27 : decode cX5_renew 27 = .ok (.iconst 0, 1) := by decide +kernel
theorem dX5_renew_28 : decode cX5_renew 28 = .ok (.istore_n 3, 1) := by decide +kernel
theorem dX5_renew_29 : decode cX5_renew 29 = .ok (.iload_n 3, 1) := by decide +kernel
theorem dX5_renew_30 : decode cX5_renew 30 = .ok (.bipush 40, 2) := by decide +kernel
theorem dX5_renew_32 : decode cX5_renew 32 = .ok (.if_icmp .ge 16, 3) := by decide +kernel
theorem dX5_renew_35 : decode cX5_renew 35 = .ok (.aload_n 0, 1) := by decide +kernel
theorem dX5_renew_36 : decode cX5_renew 36 = .ok (.getfield 9, 3) := by decide +kernel
theorem dX5_renew_39 : decode cX5_renew 39 = .ok (.iload_n 3, 1) := by decide +kernel
theorem dX5_renew_40 : decode cX5_renew 40 = .ok (.iconst 0, 1) := by decide +kernel
theorem dX5_renew_41 : decode cX5_renew 41 = .ok (.iastore, 1) := by decide +kernel
theorem dX5_renew_42 : decode cX5_renew 42 = .ok (.iinc 3 1, 3) := by decide +kernel
theorem dX5_renew_45 : decode cX5_renew 45 = .ok (.goto (-16), 3) := by decide +kernel
theorem dX5_renew_48 : decode cX5_renew 48 = .ok (.return_, 1) := by decide +kernel
set_option maxRecDepth 20000 in
theorem ggX5_put_X7_isWithin : GoodIn wsX5_put wsX7_isWithin := goodIn_r _ [6] (by decide +kernel) (by decide +kernel)
set_option maxRecDepth 20000 in
theorem gX5_put_X7_isWithin_n31 : GoodIn wsX5_put (wsX7_isWithin) := ggX5_put_X7_isWithin
theorem dX5_put_0 : decode cX5_put 0 = .ok (.iload_n 1, 1) := by decide +kernel
theorem dX5_put_1 : decode cX5_put 1 = .ok (.aload_n 0, 1) := by decide +kernel
theorem dX5_put_2 : decode cX5_put 2 = .ok (.getfield 19, 3) := by decide +kernel
theorem dX5_put_5 : decode cX5_put 5 = .ok (.iconst 1, 1) := by decide +kernel
theorem dX5_put_6 : decode cX5_put 6 = .ok (.isub, 1) := by decide +kernel
theorem dX5_put_7 : decode cX5_put 7 = .ok (.invokestatic 31, 3) := by decide +kernel
theorem dX5_put_10 : decode cX5_put 10 = .ok (.ifCond .eq 38, 3) := by decide +kernel
theorem dX5_put_13 : decode cX5_put 13 = .ok (.aload_n 0, 1) := by decide +kernel
theorem dX5_put_14 : decode cX5_put 14 = .ok (.getfield 9, 3) := by decide +kernel
theorem dX5_put_17 : decode cX5_put 17 = .ok (.iload_n 1, 1) := by decide +kernel
theorem dX5_put_18 : decode cX5_put 18 = .ok (.aload_n 0, 1) := by decide +kernel
theorem dX5_put_19 : decode cX5_put 19 = .ok (.getfield 15, 3) := by decide +kernel
theorem dX5_put_22 : decode cX5_put 22 = .ok (.bipush 8, 2) := by decide +kernel
theorem dX5_put_24 : decode cX5_put 24 = .ok (.if_icmp .ne 8, 3) := by decide +kernel
theorem dX5_put_27 : decode cX5_put 27 = .ok (.iload_n 2, 1) := by decide +kernel
theorem dX5_put_28 : decode cX5_put 28 = .ok (.i2b, 1) := by decide +kernel
theorem dX5_put_29 : decode cX5_put 29 = .ok (.goto 18, 3) := by decide +kernel
theorem dX5_put_32 : decode cX5_put 32 = .ok (.aload_n 0, 1) := by decide +kernel
theorem dX5_put_33 : decode cX5_put 33 = .ok (.getfield 15, 3) := by decide +kernel
theorem dX5_put_36 : decode cX5_put 36 = .ok (.bipush 16, 2) := by decide +kernel
theorem dX5_put_38 : decode cX5_put 38 = .ok (.if_icmp .ne 8, 3) := by decide +kernel
theorem dX5_put_41 : decode cX5_put 41 = .ok (.iload_n 2, 1) := by decide +kernel
theorem dX5_put_42 : decode cX5_put 42 = .ok (.i2s, 1) := by decide +kernel
theorem dX5_put_43 : decode cX5_put 43 = .ok (.goto 4, 3) := by decide +kernel
theorem dX5_put_46 : decode cX5_put 46 = .ok (.iload_n 2, 1) := by decide +kernel
theorem dX5_put_47 : decode cX5_put 47 = .ok (.iastore, 1) := by decide +kernel
theorem dX5_put_48 : decode cX5_put 48 = .ok (.return_, 1) := by decide +kernel
theorem dX5_hasRun_0 : decode cX5_hasRun 0 = .ok (.iload_n 1, 1) := by decide +kernel
theorem dX5_hasRun_1 : decode cX5_hasRun 1 = .ok (.ifCond .lt 29, 3) := by decide +kernel
theorem dX5_hasRun_4 : decode cX5_hasRun 4 = .ok (.iload_n 2, 1) := by decide +kernel
theorem dX5_hasRun_5 : decode cX5_hasRun 5 = .ok (.ifCond .lt 25, 3) := by decide +kernel
theorem dX5_hasRun_8 : decode cX5_hasRun 8 = .ok (.iload_n 2, 1) := by decide +kernel
theorem dX5_hasRun_9 : decode cX5_hasRun 9 = .ok (.aload_n 0, 1) := by decide +kernel
theorem dX5_hasRun_10 : decode cX5_hasRun 10 = .ok (.getfield 19, 3) := by decide +kernel
theorem dX5_hasRun_13 : decode cX5_hasRun 13 = .ok (.if_icmp .gt 17, 3) := by decide +kernel
theorem dX5_hasRun_16 : decode cX5_hasRun 16 = .ok (.iload_n 1, 1) := by decide +kernel
theorem dX5_hasRun_17 : decode cX5_hasRun 17 = .ok (.aload_n 0, 1) := by decide +kernel
theorem dX5_hasRun_18 : decode cX5_hasRun 18 = .ok (.getfield 19, 3) := by decide +kernel
theorem dX5_hasRun_21 : decode cX5_hasRun 21 = .ok (.iload_n 2, 1) := by decide +kernel
theorem dX5_hasRun_22 : decode cX5_hasRun 22 = .ok (.isub, 1) := by decide +kernel
theorem dX5_hasRun_23 : decode cX5_hasRun 23 = .ok (.if_icmp .gt 7, 3) := by decide +kernel
theorem dX5_hasRun_26 : decode cX5_hasRun 26 = .ok (.iconst 1, 1) := by decide +kernel
theorem dX5_hasRun_27 : decode cX5_hasRun 27 = .ok (.goto 4, 3) := by decide +kernel
theorem dX5_hasRun_30 : decode cX5_hasRun 30 = .ok (.iconst 0, 1) := by decide +kernel
theorem dX5_hasRun_31 : decode cX5_hasRun 31 = .ok (.ireturn, 1) := by decide +kernel
theorem dX5_tellsSetsOf_0 : decode cX5_tellsSetsOf 0 = .ok (.iconst 0, 1) := by decide +kernel
theorem dX5_tellsSetsOf_1 : decode cX5_tellsSetsOf 1 = .ok (.istore_n 3, 1) := by decide +kernel
theorem dX5_tellsSetsOf_2 : decode cX5_tellsSetsOf 2 = .ok (.iload_n 3, 1) := by decide +kernel
theorem dX5_tellsSetsOf_3 : decode cX5_tellsSetsOf 3 = .ok (.aload_n 0, 1) := by decide +kernel
theorem dX5_tellsSetsOf_4 : decode cX5_tellsSetsOf 4 = .ok (.getfield 19, 3) := by decide +kernel
theorem dX5_tellsSetsOf_7 : decode cX5_tellsSetsOf 7 = .ok (.if_icmp .ge 29, 3) := by decide +kernel
theorem dX5_tellsSetsOf_10 : decode cX5_tellsSetsOf 10 = .ok (.iload_n 3, 1) := by decide +kernel
theorem dX5_tellsSetsOf_11 : decode cX5_tellsSetsOf 11 = .ok (.iload_n 2, 1) := by decide +kernel
theorem dX5_tellsSetsOf_12 : decode cX5_tellsSetsOf 12 = .ok (.if_icmp .ge 24, 3) := by decide +kernel
theorem dX5_tellsSetsOf_15 : decode cX5_tellsSetsOf 15 = .ok (.aload_n 0, 1) := by decide +kernel
theorem dX5_tellsSetsOf_16 : decode cX5_tellsSetsOf 16 = .ok (.getfield 9, 3) := by decide +kernel
theorem dX5_tellsSetsOf_19 : decode cX5_tellsSetsOf 19 = .ok (.iload_n 3, 1) := by decide +kernel
theorem dX5_tellsSetsOf_20 : decode cX5_tellsSetsOf 20 = .ok (.iaload, 1) := by decide +kernel
theorem dX5_tellsSetsOf_21 : decode cX5_tellsSetsOf 21 = .ok (.iload_n 1, 1) := by decide +kernel
theorem dX5_tellsSetsOf_22 : decode cX5_tellsSetsOf 22 = .ok (.iconst (-1), 1) := by decide +kernel
theorem dX5_tellsSetsOf_23 : decode cX5_tellsSetsOf 23 = .ok (.ixor, 1) := by decide +kernel
theorem dX5_tellsSetsOf_24 : decode cX5_tellsSetsOf 24 = .ok (.iand, 1) := by decide +kernel
theorem dX5_tellsSetsOf_25 : decode cX5_tellsSetsOf 25 = .ok (.ifCond .eq 5, 3) := by decide +kernel
theorem dX5_tellsSetsOf_28 : decode cX5_tellsSetsOf 28 = .ok (.iconst 0, 1) := by decide +kernel
theorem dX5_tellsSetsOf_29 : decode cX5_tellsSetsOf 29 = .ok (.ireturn, 1) := by decide +kernel
theorem dX5_tellsSetsOf_30 : decode cX5_tellsSetsOf 30 = .ok (.iinc 3 1, 3) := by decide +kernel
theorem dX5_tellsSetsOf_33 : decode cX5_tellsSetsOf 33 = .ok (.goto (-31), 3) := by decide +kernel
theorem dX5_tellsSetsOf_36 : decode cX5_tellsSetsOf 36 = .ok (.iconst 1, 1) := by decide +kernel
theorem dX5_tellsSetsOf_37 : decode cX5_tellsSetsOf 37 = .ok (.ireturn, 1) := by decide +kernel
theorem dX6_init_0 : decode cX6_init 0 = .ok (.aload_n 0, 1) := by decide +kernel
theorem dX6_init_1 : decode cX6_init 1 = .ok (.invokespecial 1, 3) := by decide +kernel
theorem dX6_init_4 : decode cX6_init 4 = .ok (.aload_n 0, 1) := by decide +kernel
theorem dX6_init_5 : decode cX6_init 5 = .ok (.bipush 120, 2) := by decide +kernel
theorem dX6_init_7 : decode cX6_init 7 = .ok (.newarray .int, 2) := by decide +kernel
theorem dX6_init_9 : decode cX6_init 9 = .ok (.putfield 9, 3) := by decide +kernel
theorem dX6_init_12 : decode cX6_init 12 = .ok (.aload_n 0, 1) := by decide +kernel
theorem dX6_init_13 : decode cX6_init 13 = .ok (.iconst 0, 1) := by decide +kernel
theorem dX6_init_14 : decode cX6_init 14 = .ok (.putfield 13, 3) := by decide +kernel
theorem dX6_init_17 : decode cX6_init 17 = .ok (.return_, 1) := by decide +kernel
theorem dX6_append_0 : decode cX6_append 0 = .ok (.aload_n 0, 1) := by decide +kernel
theorem dX6_append_1 : decode cX6_append 1 = .ok (.getfield 13, 3) := by decide +kernel
theorem dX6_append_4 : decode cX6_append 4 = .ok (.bipush 120, 2) := by decide +kernel
theorem dX6_append_6 : decode cX6_append 6 = .ok (.if_icmp .ge 27, 3) := by decide +kernel
theorem dX6_append_9 : decode cX6_append 9 = .ok (.aload_n 0, 1) := by decide +kernel
theorem dX6_append_10 : decode cX6_append 10 = .ok (.getfield 9, 3) := by decide +kernel
theorem dX6_append_13 : decode cX6_append 13 = .ok (.aload_n 0, 1) := by decide +kernel
theorem dX6_append_14 : decode cX6_append 14 = .ok (.getfield 13, 3) := by decide +kernel
theorem dX6_append_17 : decode cX6_append 17 = .ok (.iload_n 1, 1) := by decide +kernel
theorem dX6_append_18 : decode cX6_append 18 = .ok (.sipush 255, 3) := by decide +kernel
theorem dX6_append_21 : decode cX6_append 21 = .ok (.iand, 1) := by decide +kernel
theorem dX6_append_22 : decode cX6_append 22 = .ok (.iastore, 1) := by decide +kernel
theorem dX6_append_23 : decode cX6_append 23 = .ok (.aload_n 0, 1) := by decide +kernel
theorem dX6_append_24 : decode cX6_append 24 = .ok (.dup, 1) := by decide +kernel
theorem dX6_append_25 : decode cX6_append 25 = .ok (.getfield 13, 3) := by decide +kernel
theorem dX6_append_28 : decode cX6_append 28 = .ok (.iconst 1, 1) := by decide +kernel
theorem dX6_append_29 : decode cX6_append 29 = .ok (.iadd, 1) := by decide +kernel
theorem dX6_append_30 : decode cX6_append 30 = .ok (.putfield 13, 3) := by decide +kernel
theorem dX6_append_33 : decode cX6_append 33 = .ok (.return_, 1) := by decide +kernel
theorem dX6_byteAt_0 : decode cX6_byteAt 0 = .ok (.iload_n 1, 1) := by decide +kernel
theorem dX6_byteAt_1 : decode cX6_byteAt 1 = .ok (.ifCond .lt 20, 3) := by decide +kernel
theorem dX6_byteAt_4 : decode cX6_byteAt 4 = .ok (.iload_n 1, 1) := by decide +kernel
theorem dX6_byteAt_5 : decode cX6_byteAt 5 = .ok (.aload_n 0, 1) := by decide +kernel
theorem dX6_byteAt_6 : decode cX6_byteAt 6 = .ok (.getfield 13, 3) := by decide +kernel
theorem dX6_byteAt_9 : decode cX6_byteAt 9 = .ok (.if_icmp .ge 12, 3) := by decide +kernel
theorem dX6_byteAt_12 : decode cX6_byteAt 12 = .ok (.aload_n 0, 1) := by decide +kernel
theorem dX6_byteAt_13 : decode cX6_byteAt 13 = .ok (.getfield 9, 3) := by decide +kernel
theorem dX6_byteAt_16 : decode cX6_byteAt 16 = .ok (.iload_n 1, 1) := by decide +kernel
theorem dX6_byteAt_17 : decode cX6_byteAt 17 = .ok (.iaload, 1) := by decide +kernel
theorem dX6_byteAt_18 : decode cX6_byteAt 18 = .ok (.goto 4, 3) := by decide +kernel
theorem dX6_byteAt_21 : decode cX6_byteAt 21 = .ok (.iconst (-1), 1) := by decide +kernel
theorem dX6_byteAt_22 : decode cX6_byteAt 22 = .ok (.ireturn, 1) := by decide +kernel
set_option maxRecDepth 20000 in
theorem ggX7_init_X1_init : GoodIn wsX7_init wsX1_init := goodIn_r _ [36, 37, 2, 3, 29, 38, 39, 40, 41, 42, 43, 44, 45, 46, 47, 48, 49, 50, 102, 103, 104, 105, 106, 107, 108, 109, 110, 111, 112, 113] (by decide +kernel) (by decide +kernel)
set_option maxRecDepth 20000 in
theorem gX7_init_X1_init : GoodIn wsX7_init (wsX1_init) := ggX7_init_X1_init
set_option maxRecDepth 20000 in
theorem ggX7_init_X4_init : GoodIn wsX7_init wsX4_init := goodIn_r _ [52, 53, 2, 3, 54, 5, 6, 55, 29, 56, 57, 58, 59, 35, 36, 37, 38, 39, 40, 41, 42, 43, 44, 45, 46, 47, 48, 49, 50, 102, 103, 104, 105, 106, 107, 108, 109, 110, 111, 112, 113, 124, 125, 126, 127] (by decide +kernel) (by decide +kernel)
set_option maxRecDepth 20000 in
theorem gX7_init_X4_init_n21 : GoodIn wsX7_init (wsX4_init) := ggX7_init_X4_init
set_option maxRecDepth 20000 in
theorem ggX7_init_X0_init : GoodIn wsX7_init wsX0_init := goodIn_r _ [61, 62, 2, 3, 29, 63, 64, 65, 66, 67, 68, 128, 129, 130, 131, 132, 133] (by decide +kernel) (by decide +kernel)
set_option maxRecDepth 20000 in
theorem gX7_init_X0_init_n28 : GoodIn wsX7_init (wsX0_init) := ggX7_init_X0_init
set_option maxRecDepth 20000 in
theorem ggX7_init_X2_init : GoodIn wsX7_init wsX2_init := goodIn_r _ [70, 71, 2, 3, 29, 72, 73, 74, 134, 135, 136] (by decide +kernel) (by decide +kernel)
set_option maxRecDepth 20000 in
theorem gX7_init_X2_init_n35 : GoodIn wsX7_init (wsX2_init) := ggX7_init_X2_init
set_option maxRecDepth 20000 in
theorem ggX7_init_X3_init : GoodIn wsX7_init wsX3_init := goodIn_r _ [76, 77, 2, 3, 78, 79, 80, 81, 82, 5, 6, 83, 29, 84, 85, 86, 87, 88, 89, 90, 91, 92, 93, 94, 95, 35, 36, 37, 38, 39, 40, 41, 42, 43, 44, 45, 46, 47, 48, 49, 50, 148, 149, 137, 138, 139, 140, 141, 142, 143, 144, 102, 103, 104, 105, 106, 107, 108, 109, 110, 111, 112, 113] (by decide +kernel) (by decide +kernel)
set_option maxRecDepth 20000 in
theorem gX7_init_X3_init_n42 : GoodIn wsX7_init (wsX3_init) := ggX7_init_X3_init
set_option maxRecDepth 20000 in
theorem ggX7_init_X5_init : GoodIn wsX7_init wsX5_init := goodIn_r _ [97, 98, 2, 3, 29, 99, 100, 101, 145, 146, 147] (by decide +kernel) (by decide +kernel)
set_option maxRecDepth 20000 in
theorem gX7_init_X5_init_n66 : GoodIn wsX7_init (wsX5_init) := ggX7_init_X5_init
theorem dX7_init_0 : decode cX7_init 0 = .ok (.aload_n 0, 1) := by decide +kernel
theorem dX7_init_1 : decode cX7_init 1 = .ok (.invokespecial 1, 3) := by decide +kernel
theorem dX7_init_4 : decode cX7_init 4 = .ok (.aload_n 0, 1) := by decide +kernel
theorem dX7_init_5 : decode cX7_init 5 = .ok (.new 7, 3) := by decide +kernel
theorem dX7_init_8 : decode cX7_init 8 = .ok (.dup, 1) := by decide +kernel
theorem dX7_init_9 : decode cX7_init 9 = .ok (.invokespecial 9, 3) := by decide +kernel
theorem dX7_init_12 : decode cX7_init 12 = .ok (.putfield 10, 3) := by decide +kernel
theorem dX7_init_15 : decode cX7_init 15 = .ok (.aload_n 0, 1) := by decide +kernel
theorem dX7_init_16 : decode cX7_init 16 = .ok (.new 7, 3) := by decide +kernel
theorem dX7_init_19 : decode cX7_init 19 = .ok (.dup, 1) := by decide +kernel
theorem dX7_init_20 : decode cX7_init 20 = .ok (.invokespecial 9, 3) := by decide +kernel
theorem dX7_init_23 : decode cX7_init 23 = .ok (.putfield 16, 3) := by decide +kernel
theorem dX7_init_26 : decode cX7_init 26 = .ok (.aload_n 0, 1) := by decide +kernel
theorem dX7_init_27 : decode cX7_init 27 = .ok (.new 19, 3) := by decide +kernel
theorem dX7_init_30 : decode cX7_init 30 = .ok (.dup, 1) := by decide +kernel
theorem dX7_init_31 : decode cX7_init 31 = .ok (.invokespecial 21, 3) := by decide +kernel
theorem dX7_init_34 : decode cX7_init 34 = .ok (.putfield 22, 3) := by decide +kernel
theorem dX7_init_37 : decode cX7_init 37 = .ok (.aload_n 0, 1) := by decide +kernel
theorem dX7_init_38 : decode cX7_init 38 = .ok (.new 26, 3) := by decide +kernel
theorem dX7_init_41 : decode cX7_init 41 = .ok (.dup, 1) := by decide +kernel
theorem dX7_init_42 : decode cX7_init 42 = .ok (.invokespecial 28, 3) := by decide +kernel
theorem dX7_init_45 : decode cX7_init 45 = .ok (.putfield 29, 3) := by decide +kernel
theorem dX7_init_48 : decode cX7_init 48 = .ok (.aload_n 0, 1) := by decide +kernel
theorem dX7_init_49 : decode cX7_init 49 = .ok (.new 33, 3) := by decide +kernel
theorem dX7_init_52 : decode cX7_init 52 = .ok (.dup, 1) := by decide +kernel
theorem dX7_init_53 : decode cX7_init 53 = .ok (.invokespecial 35, 3) := by decide +kernel
theorem dX7_init_56 : decode cX7_init 56 = .ok (.putfield 36, 3) := by decide +kernel
theorem dX7_init_59 : decode cX7_init 59 = .ok (.aload_n 0, 1) := by decide +kernel
theorem dX7_init_60 : decode cX7_init 60 = .ok (.new 40, 3) := by decide +kernel
theorem dX7_init_63 : decode cX7_init 63 = .ok (.dup, 1) := by decide +kernel
theorem dX7_init_64 : decode cX7_init 64 = .ok (.invokespecial 42, 3) := by decide +kernel
theorem dX7_init_67 : decode cX7_init 67 = .ok (.putfield 43, 3) := by decide +kernel
theorem dX7_init_70 : decode cX7_init 70 = .ok (.aload_n 0, 1) := by decide +kernel
theorem dX7_init_71 : decode cX7_init 71 = .ok (.aload_n 0, 1) := by decide +kernel
theorem dX7_init_72 : decode cX7_init 72 = .ok (.getfield 43, 3) := by decide +kernel
theorem dX7_init_75 : decode cX7_init 75 = .ok (.getfield 47, 3) := by decide +kernel
theorem dX7_init_78 : decode cX7_init 78 = .ok (.putfield 51, 3) := by decide +kernel
theorem dX7_init_81 : decode cX7_init 81 = .ok (.aload_n 0, 1) := by decide +kernel
theorem dX7_init_82 : decode cX7_init 82 = .ok (.iconst 4, 1) := by decide +kernel
theorem dX7_init_83 : decode cX7_init 83 = .ok (.anewarray 52, 3) := by decide +kernel
theorem dX7_init_86 : decode cX7_init 86 = .ok (.putfield 54, 3) := by decide +kernel
theorem dX7_init_89 : decode cX7_init 89 = .ok (.aload_n 0, 1) := by decide +kernel
theorem dX7_init_90 : decode cX7_init 90 = .ok (.bipush 7, 2) := by decide +kernel
theorem dX7_init_92 : decode cX7_init 92 = .ok (.newarray .int, 2) := by decide +kernel
theorem dX7_init_94 : decode cX7_init 94 = .ok (.putfield 58, 3) := by decide +kernel
theorem dX7_init_97 : decode cX7_init 97 = .ok (.aload_n 0, 1) := by decide +kernel
theorem dX7_init_98 : decode cX7_init 98 = .ok (.iconst 0, 1) := by decide +kernel
theorem dX7_init_99 : decode cX7_init 99 = .ok (.putfield 62, 3) := by decide +kernel
theorem dX7_init_102 : decode cX7_init 102 = .ok (.iconst 0, 1) := by decide +kernel
theorem dX7_init_103 : decode cX7_init 103 = .ok (.istore_n 1, 1) := by decide +kernel
theorem dX7_init_104 : decode cX7_init 104 = .ok (.iload_n 1, 1) := by decide +kernel
theorem dX7_init_105 : decode cX7_init 105 = .ok (.iconst 4, 1) := by decide +kernel
theorem dX7_init_106 : decode cX7_init 106 = .ok (.if_icmp .ge 22, 3) := by decide +kernel
theorem dX7_init_109 : decode cX7_init 109 = .ok (.aload_n 0, 1) := by decide +kernel
theorem dX7_init_110 : decode cX7_init 110 = .ok (.getfield 54, 3) := by decide +kernel
theorem dX7_init_113 : decode cX7_init 113 = .ok (.iload_n 1, 1) := by decide +kernel
theorem dX7_init_114 : decode cX7_init 114 = .ok (.new 52, 3) := by decide +kernel
theorem dX7_init_117 : decode cX7_init 117 = .ok (.dup, 1) := by decide +kernel
theorem dX7_init_118 : decode cX7_init 118 = .ok (.invokespecial 66, 3) := by decide +kernel
theorem dX7_init_121 : decode cX7_init 121 = .ok (.aastore, 1) := by decide +kernel
theorem dX7_init_122 : decode cX7_init 122 = .ok (.iinc 1 1, 3) := by decide +kernel
theorem dX7_init_125 : decode cX7_init 125 = .ok (.goto (-21), 3) := by decide +kernel
theorem dX7_init_128 : decode cX7_init 128 = .ok (.return_, 1) := by decide +kernel
set_option maxRecDepth 20000 in
theorem ggX7_person_X7_isWithin : GoodIn wsX7_person wsX7_isWithin := goodIn_r _ [5] (by decide +kernel) (by decide +kernel)
set_option maxRecDepth 20000 in
theorem gX7_person_X7_isWithin : GoodIn wsX7_person (va_wsS RX7 67 yX7_isWithin wsX7_isWithin) := goodIn_app (goodIn_of _ (by decide +kernel)) ggX7_person_X7_isWithin
set_option maxRecDepth 20000 in
theorem ggX7_person_X7_found : GoodIn wsX7_person wsX7_found := goodIn_r _ [9, 10, 11, 28, 29, 30, 31, 32, 33, 34, 35, 36, 37] (by decide +kernel) (by decide +kernel)
set_option maxRecDepth 20000 in
theorem gX7_person_X7_found : GoodIn wsX7_person (wsV RX7 71 RX7 yX7_found wsX7_found) := goodIn_app (goodIn_of _ (by decide +kernel)) ggX7_person_X7_found
set_option maxRecDepth 20000 in
theorem ggX7_person_X1_isFull : GoodIn wsX7_person wsX1_isFull := goodIn_r _ [16, 17, 38, 39, 40, 41, 42, 43, 44, 45, 46, 47, 48, 49] (by decide +kernel) (by decide +kernel)
set_option maxRecDepth 20000 in
theorem gX7_person_X1_isFull : GoodIn wsX7_person (wsV RX7 75 RX1 yX1_isFull wsX1_isFull) := goodIn_app (goodIn_of _ (by decide +kernel)) ggX7_person_X1_isFull
set_option maxRecDepth 20000 in
theorem ggX7_person_X1_add : GoodIn wsX7_person wsX1_add := goodIn_r _ [21, 22, 17, 23, 24, 25, 26, 27, 13, 14, 15, 16, 38, 39, 40, 41, 42, 43, 44, 45, 46, 47, 48, 49] (by decide +kernel) (by decide +kernel)
set_option maxRecDepth 20000 in
theorem gX7_person_X1_add : GoodIn wsX7_person (wsV RX7 79 RX1 yX1_add wsX1_add) := goodIn_app (goodIn_of _ (by decide +kernel)) ggX7_person_X1_add
theorem dX7_person_0 : decode cX7_person 0 = .ok (.iload_n 1, 1) := by decide +kernel
theorem dX7_person_1 : decode cX7_person 1 = .ok (.bipush 6, 2) := by decide +kernel
theorem dX7_person_3 : decode cX7_person 3 = .ok (.invokestatic 67, 3) := by decide +kernel
theorem dX7_person_6 : decode cX7_person 6 = .ok (.ifCond .ne 9, 3) := by decide +kernel
theorem dX7_person_9 : decode cX7_person 9 = .ok (.aload_n 0, 1) := by decide +kernel
theorem dX7_person_10 : decode cX7_person 10 = .ok (.iconst 0, 1) := by decide +kernel
theorem dX7_person_11 : decode cX7_person 11 = .ok (.invokevirtual 71, 3) := by decide +kernel
theorem dX7_person_14 : decode cX7_person 14 = .ok (.ireturn, 1) := by decide +kernel
theorem dX7_person_15 : decode cX7_person 15 = .ok (.aload_n 0, 1) := by decide +kernel
theorem dX7_person_16 : decode cX7_person 16 = .ok (.getfield 10, 3) := by decide +kernel
theorem dX7_person_19 : decode cX7_person 19 = .ok (.invokevirtual 75, 3) := by decide +kernel
theorem dX7_person_22 : decode cX7_person 22 = .ok (.ifCond .eq 9, 3) := by decide +kernel
theorem dX7_person_25 : decode cX7_person 25 = .ok (.aload_n 0, 1) := by decide +kernel
theorem dX7_person_26 : decode cX7_person 26 = .ok (.iconst 1, 1) := by decide +kernel
theorem dX7_person_27 : decode cX7_person 27 = .ok (.invokevirtual 71, 3) := by decide +kernel
theorem dX7_person_30 : decode cX7_person 30 = .ok (.ireturn, 1) := by decide +kernel
theorem dX7_person_31 : decode cX7_person 31 = .ok (.aload_n 0, 1) := by decide +kernel
theorem dX7_person_32 : decode cX7_person 32 = .ok (.getfield 10, 3) := by decide +kernel
theorem dX7_person_35 : decode cX7_person 35 = .ok (.iload_n 1, 1) := by decide +kernel
theorem dX7_person_36 : decode cX7_person 36 = .ok (.invokevirtual 79, 3) := by decide +kernel
theorem dX7_person_39 : decode cX7_person 39 = .ok (.ireturn, 1) := by decide +kernel
set_option maxRecDepth 20000 in
theorem ggX7_of_X1_isPerson : GoodIn wsX7_of wsX1_isPerson := goodIn_r _ [12, 13, 60, 61, 62, 63, 64, 65, 66, 67, 68, 69, 70, 71] (by decide +kernel) (by decide +kernel)
set_option maxRecDepth 20000 in
theorem gX7_of_X1_isPerson : GoodIn wsX7_of (wsV RX7 82 RX1 yX1_isPerson wsX1_isPerson) := goodIn_app (goodIn_of _ (by decide +kernel)) ggX7_of_X1_isPerson
set_option maxRecDepth 20000 in
theorem ggX7_of_X7_found : GoodIn wsX7_of wsX7_found := goodIn_r _ [18, 19, 20, 50, 51, 52, 53, 54, 55, 56, 57, 58, 59] (by decide +kernel) (by decide +kernel)
set_option maxRecDepth 20000 in
theorem gX7_of_X7_found : GoodIn wsX7_of (wsV RX7 71 RX7 yX7_found wsX7_found) := goodIn_app (goodIn_of _ (by decide +kernel)) ggX7_of_X7_found
set_option maxRecDepth 20000 in
theorem ggX7_of_X1_claimOf : GoodIn wsX7_of wsX1_claimOf := goodIn_r _ [24, 13, 25, 26, 27, 60, 61, 62, 63, 64, 65, 66, 67, 68, 69, 70, 71] (by decide +kernel) (by decide +kernel)
set_option maxRecDepth 20000 in
theorem gX7_of_X1_claimOf : GoodIn wsX7_of (wsV RX7 105 RX1 yX1_claimOf wsX1_claimOf) := goodIn_app (goodIn_of _ (by decide +kernel)) ggX7_of_X1_claimOf
set_option maxRecDepth 20000 in
theorem ggX7_of_X1_havers : GoodIn wsX7_of wsX1_havers := goodIn_r _ [31, 32, 33, 13, 34, 35, 17, 36, 37, 38, 39, 11, 40, 41, 42, 43, 44, 45, 46, 47, 48, 22, 23, 24, 25, 26, 27, 60, 61, 62, 63, 64, 65, 66, 67, 68, 69, 70, 71] (by decide +kernel) (by decide +kernel)
set_option maxRecDepth 20000 in
theorem gX7_of_X1_havers : GoodIn wsX7_of (wsV RX7 109 RX1 yX1_havers wsX1_havers) := goodIn_app (goodIn_of _ (by decide +kernel)) ggX7_of_X1_havers
set_option maxRecDepth 20000 in
theorem ggX7_of_X7_bit : GoodIn wsX7_of wsX7_bit := goodIn_r _ [36] (by decide +kernel) (by decide +kernel)
set_option maxRecDepth 20000 in
theorem gX7_of_X7_bit : GoodIn wsX7_of (va_wsS RX7 113 yX7_bit wsX7_bit) := goodIn_app (goodIn_of _ (by decide +kernel)) ggX7_of_X7_bit
theorem dX7_of_0 : decode cX7_of 0 = .ok (.aload_n 0, 1) := by decide +kernel
theorem dX7_of_1 : decode cX7_of 1 = .ok (.getfield 10, 3) := by decide +kernel
theorem dX7_of_4 : decode cX7_of 4 = .ok (.iload_n 1, 1) := by decide +kernel
theorem dX7_of_5 : decode cX7_of 5 = .ok (.invokevirtual 82, 3) := by decide +kernel
theorem dX7_of_8 : decode cX7_of 8 = .ok (.ifCond .ne 9, 3) := by decide +kernel
theorem dX7_of_11 : decode cX7_of 11 = .ok (.aload_n 0, 1) := by decide +kernel
theorem dX7_of_12 : decode cX7_of 12 = .ok (.iconst 0, 1) := by decide +kernel
theorem dX7_of_13 : decode cX7_of 13 = .ok (.invokevirtual 71, 3) := by decide +kernel
theorem dX7_of_16 : decode cX7_of 16 = .ok (.ireturn, 1) := by decide +kernel
theorem dX7_of_17 : decode cX7_of 17 = .ok (.iload_n 2, 1) := by decide +kernel
theorem dX7_of_18 : decode cX7_of 18 = .ok (.tableswitch 136 0 6 #[42, 52, 62, 72, 82, 92, 124], 42) := by decide +kernel
theorem dX7_of_60 : decode cX7_of 60 = .ok (.aload_n 0, 1) := by decide +kernel
theorem dX7_of_61 : decode cX7_of 61 = .ok (.getfield 10, 3) := by decide +kernel
theorem dX7_of_64 : decode cX7_of 64 = .ok (.getfield 86, 3) := by decide +kernel
theorem dX7_of_67 : decode cX7_of 67 = .ok (.iload_n 1, 1) := by decide +kernel
theorem dX7_of_68 : decode cX7_of 68 = .ok (.iaload, 1) := by decide +kernel
theorem dX7_of_69 : decode cX7_of 69 = .ok (.ireturn, 1) := by decide +kernel
theorem dX7_of_70 : decode cX7_of 70 = .ok (.aload_n 0, 1) := by decide +kernel
theorem dX7_of_71 : decode cX7_of 71 = .ok (.getfield 10, 3) := by decide +kernel
theorem dX7_of_74 : decode cX7_of 74 = .ok (.getfield 89, 3) := by decide +kernel
theorem dX7_of_77 : decode cX7_of 77 = .ok (.iload_n 1, 1) := by decide +kernel
theorem dX7_of_78 : decode cX7_of 78 = .ok (.iaload, 1) := by decide +kernel
theorem dX7_of_79 : decode cX7_of 79 = .ok (.ireturn, 1) := by decide +kernel
theorem dX7_of_80 : decode cX7_of 80 = .ok (.aload_n 0, 1) := by decide +kernel
theorem dX7_of_81 : decode cX7_of 81 = .ok (.getfield 10, 3) := by decide +kernel
theorem dX7_of_84 : decode cX7_of 84 = .ok (.getfield 92, 3) := by decide +kernel
theorem dX7_of_87 : decode cX7_of 87 = .ok (.iload_n 1, 1) := by decide +kernel
theorem dX7_of_88 : decode cX7_of 88 = .ok (.iaload, 1) := by decide +kernel
theorem dX7_of_89 : decode cX7_of 89 = .ok (.ireturn, 1) := by decide +kernel
theorem dX7_of_90 : decode cX7_of 90 = .ok (.aload_n 0, 1) := by decide +kernel
theorem dX7_of_91 : decode cX7_of 91 = .ok (.getfield 10, 3) := by decide +kernel
theorem dX7_of_94 : decode cX7_of 94 = .ok (.getfield 95, 3) := by decide +kernel
theorem dX7_of_97 : decode cX7_of 97 = .ok (.iload_n 1, 1) := by decide +kernel
theorem dX7_of_98 : decode cX7_of 98 = .ok (.iaload, 1) := by decide +kernel
theorem dX7_of_99 : decode cX7_of 99 = .ok (.ireturn, 1) := by decide +kernel
theorem dX7_of_100 : decode cX7_of 100 = .ok (.aload_n 0, 1) := by decide +kernel
theorem dX7_of_101 : decode cX7_of 101 = .ok (.getfield 10, 3) := by decide +kernel
theorem dX7_of_104 : decode cX7_of 104 = .ok (.getfield 98, 3) := by decide +kernel
theorem dX7_of_107 : decode cX7_of 107 = .ok (.iload_n 1, 1) := by decide +kernel
theorem dX7_of_108 : decode cX7_of 108 = .ok (.iaload, 1) := by decide +kernel
theorem dX7_of_109 : decode cX7_of 109 = .ok (.ireturn, 1) := by decide +kernel
theorem dX7_of_110 : decode cX7_of 110 = .ok (.aload_n 0, 1) := by decide +kernel
theorem dX7_of_111 : decode cX7_of 111 = .ok (.getfield 10, 3) := by decide +kernel
theorem dX7_of_114 : decode cX7_of 114 = .ok (.getfield 101, 3) := by decide +kernel
theorem dX7_of_117 : decode cX7_of 117 = .ok (.bipush 16, 2) := by decide +kernel
theorem dX7_of_119 : decode cX7_of 119 = .ok (.if_icmp .ge 21, 3) := by decide +kernel
theorem dX7_of_122 : decode cX7_of 122 = .ok (.aload_n 0, 1) := by decide +kernel
theorem dX7_of_123 : decode cX7_of 123 = .ok (.getfield 10, 3) := by decide +kernel
theorem dX7_of_126 : decode cX7_of 126 = .ok (.iload_n 1, 1) := by decide +kernel
theorem dX7_of_127 : decode cX7_of 127 = .ok (.aload_n 0, 1) := by decide +kernel
theorem dX7_of_128 : decode cX7_of 128 = .ok (.getfield 10, 3) := by decide +kernel
theorem dX7_of_131 : decode cX7_of 131 = .ok (.getfield 101, 3) := by decide +kernel
theorem dX7_of_134 : decode cX7_of 134 = .ok (.invokevirtual 105, 3) := by decide +kernel
theorem dX7_of_137 : decode cX7_of 137 = .ok (.goto 4, 3) := by decide +kernel
theorem dX7_of_140 : decode cX7_of 140 = .ok (.iconst 0, 1) := by decide +kernel
theorem dX7_of_141 : decode cX7_of 141 = .ok (.ireturn, 1) := by decide +kernel
theorem dX7_of_142 : decode cX7_of 142 = .ok (.aload_n 0, 1) := by decide +kernel
theorem dX7_of_143 : decode cX7_of 143 = .ok (.getfield 10, 3) := by decide +kernel
theorem dX7_of_146 : decode cX7_of 146 = .ok (.invokevirtual 109, 3) := by decide +kernel
theorem dX7_of_149 : decode cX7_of 149 = .ok (.iload_n 1, 1) := by decide +kernel
theorem dX7_of_150 : decode cX7_of 150 = .ok (.invokestatic 113, 3) := by decide +kernel
theorem dX7_of_153 : decode cX7_of 153 = .ok (.ireturn, 1) := by decide +kernel
theorem dX7_of_154 : decode cX7_of 154 = .ok (.aload_n 0, 1) := by decide +kernel
theorem dX7_of_155 : decode cX7_of 155 = .ok (.iconst 0, 1) := by decide +kernel
theorem dX7_of_156 : decode cX7_of 156 = .ok (.invokevirtual 71, 3) := by decide +kernel
theorem dX7_of_159 : decode cX7_of 159 = .ok (.ireturn, 1) := by decide +kernel
set_option maxRecDepth 20000 in
theorem ggX7_change_X1_isPerson : GoodIn wsX7_change wsX1_isPerson := goodIn_r _ [11, 12, 37, 38, 39, 40, 41, 42, 43, 44, 45, 46, 47, 48] (by decide +kernel) (by decide +kernel)
set_option maxRecDepth 20000 in
theorem gX7_change_X1_isPerson : GoodIn wsX7_change (wsV RX7 82 RX1 yX1_isPerson wsX1_isPerson) := goodIn_app (goodIn_of _ (by decide +kernel)) ggX7_change_X1_isPerson
set_option maxRecDepth 20000 in
theorem ggX7_change_X7_found : GoodIn wsX7_change wsX7_found := goodIn_r _ [17, 18, 19, 27, 28, 29, 30, 31, 32, 33, 34, 35, 36] (by decide +kernel) (by decide +kernel)
set_option maxRecDepth 20000 in
theorem gX7_change_X7_found : GoodIn wsX7_change (wsV RX7 71 RX7 yX7_found wsX7_found) := goodIn_app (goodIn_of _ (by decide +kernel)) ggX7_change_X7_found
set_option maxRecDepth 20000 in
theorem ggX7_change_X7_replace : GoodIn wsX7_change wsX7_replace := goodIn_r _ [23, 24, 25, 16, 26, 13, 14, 15, 17, 18, 19, 27, 28, 29, 30, 31, 32, 33, 34, 35, 36] (by decide +kernel) (by decide +kernel)
set_option maxRecDepth 20000 in
theorem gX7_change_X7_replace : GoodIn wsX7_change (wsV RX7 116 RX7 yX7_replace wsX7_replace) := goodIn_app (goodIn_of _ (by decide +kernel)) ggX7_change_X7_replace
theorem dX7_change_0 : decode cX7_change 0 = .ok (.aload_n 0, 1) := by decide +kernel
theorem dX7_change_1 : decode cX7_change 1 = .ok (.getfield 10, 3) := by decide +kernel
theorem dX7_change_4 : decode cX7_change 4 = .ok (.iload_n 1, 1) := by decide +kernel
theorem dX7_change_5 : decode cX7_change 5 = .ok (.invokevirtual 82, 3) := by decide +kernel
theorem dX7_change_8 : decode cX7_change 8 = .ok (.ifCond .ne 9, 3) := by decide +kernel
theorem dX7_change_11 : decode cX7_change 11 = .ok (.aload_n 0, 1) := by decide +kernel
theorem dX7_change_12 : decode cX7_change 12 = .ok (.iconst 0, 1) := by decide +kernel
theorem dX7_change_13 : decode cX7_change 13 = .ok (.invokevirtual 71, 3) := by decide +kernel
theorem dX7_change_16 : decode cX7_change 16 = .ok (.ireturn, 1) := by decide +kernel
theorem dX7_change_17 : decode cX7_change 17 = .ok (.iload_n 2, 1) := by decide +kernel
theorem dX7_change_18 : decode cX7_change 18 = .ok (.tableswitch 94 0 3 #[30, 46, 62, 78], 30) := by decide +kernel
theorem dX7_change_48 : decode cX7_change 48 = .ok (.aload_n 0, 1) := by decide +kernel
theorem dX7_change_49 : decode cX7_change 49 = .ok (.aload_n 0, 1) := by decide +kernel
theorem dX7_change_50 : decode cX7_change 50 = .ok (.getfield 10, 3) := by decide +kernel
theorem dX7_change_53 : decode cX7_change 53 = .ok (.getfield 86, 3) := by decide +kernel
theorem dX7_change_56 : decode cX7_change 56 = .ok (.iload_n 1, 1) := by decide +kernel
theorem dX7_change_57 : decode cX7_change 57 = .ok (.iload_n 3, 1) := by decide +kernel
theorem dX7_change_58 : decode cX7_change 58 = .ok (.bipush 6, 2) := by decide +kernel
theorem dX7_change_60 : decode cX7_change 60 = .ok (.invokevirtual 116, 3) := by decide +kernel
theorem dX7_change_63 : decode cX7_change 63 = .ok (.ireturn, 1) := by decide +kernel
theorem dX7_change_64 : decode cX7_change 64 = .ok (.aload_n 0, 1) := by decide +kernel
theorem dX7_change_65 : decode cX7_change 65 = .ok (.aload_n 0, 1) := by decide +kernel
theorem dX7_change_66 : decode cX7_change 66 = .ok (.getfield 10, 3) := by decide +kernel
theorem dX7_change_69 : decode cX7_change 69 = .ok (.getfield 89, 3) := by decide +kernel
theorem dX7_change_72 : decode cX7_change 72 = .ok (.iload_n 1, 1) := by decide +kernel
theorem dX7_change_73 : decode cX7_change 73 = .ok (.iload_n 3, 1) := by decide +kernel
theorem dX7_change_74 : decode cX7_change 74 = .ok (.bipush 99, 2) := by decide +kernel
theorem dX7_change_76 : decode cX7_change 76 = .ok (.invokevirtual 116, 3) := by decide +kernel
theorem dX7_change_79 : decode cX7_change 79 = .ok (.ireturn, 1) := by decide +kernel
theorem dX7_change_80 : decode cX7_change 80 = .ok (.aload_n 0, 1) := by decide +kernel
theorem dX7_change_81 : decode cX7_change 81 = .ok (.aload_n 0, 1) := by decide +kernel
theorem dX7_change_82 : decode cX7_change 82 = .ok (.getfield 10, 3) := by decide +kernel
theorem dX7_change_85 : decode cX7_change 85 = .ok (.getfield 92, 3) := by decide +kernel
theorem dX7_change_88 : decode cX7_change 88 = .ok (.iload_n 1, 1) := by decide +kernel
theorem dX7_change_89 : decode cX7_change 89 = .ok (.iload_n 3, 1) := by decide +kernel
theorem dX7_change_90 : decode cX7_change 90 = .ok (.bipush 9, 2) := by decide +kernel
theorem dX7_change_92 : decode cX7_change 92 = .ok (.invokevirtual 116, 3) := by decide +kernel
theorem dX7_change_95 : decode cX7_change 95 = .ok (.ireturn, 1) := by decide +kernel
theorem dX7_change_96 : decode cX7_change 96 = .ok (.aload_n 0, 1) := by decide +kernel
theorem dX7_change_97 : decode cX7_change 97 = .ok (.aload_n 0, 1) := by decide +kernel
theorem dX7_change_98 : decode cX7_change 98 = .ok (.getfield 10, 3) := by decide +kernel
theorem dX7_change_101 : decode cX7_change 101 = .ok (.getfield 95, 3) := by decide +kernel
theorem dX7_change_104 : decode cX7_change 104 = .ok (.iload_n 1, 1) := by decide +kernel
theorem dX7_change_105 : decode cX7_change 105 = .ok (.iload_n 3, 1) := by decide +kernel
theorem dX7_change_106 : decode cX7_change 106 = .ok (.ldc 120, 2) := by decide +kernel
theorem dX7_change_108 : decode cX7_change 108 = .ok (.invokevirtual 116, 3) := by decide +kernel
theorem dX7_change_111 : decode cX7_change 111 = .ok (.ireturn, 1) := by decide +kernel
theorem dX7_change_112 : decode cX7_change 112 = .ok (.aload_n 0, 1) := by decide +kernel
theorem dX7_change_113 : decode cX7_change 113 = .ok (.iconst 0, 1) := by decide +kernel
theorem dX7_change_114 : decode cX7_change 114 = .ok (.invokevirtual 71, 3) := by decide +kernel
theorem dX7_change_117 : decode cX7_change 117 = .ok (.ireturn, 1) := by decide +kernel
set_option maxRecDepth 20000 in
theorem ggX7_share_X1_areTwo : GoodIn wsX7_share wsX1_areTwo := goodIn_r _ [7, 8, 9, 10, 6, 11, 12, 40, 41, 42, 43, 44, 45, 46, 47, 48, 49, 50, 51] (by decide +kernel) (by decide +kernel)
set_option maxRecDepth 20000 in
theorem gX7_share_X1_areTwo : GoodIn wsX7_share (wsV RX7 121 RX1 yX1_areTwo wsX1_areTwo) := goodIn_app (goodIn_of _ (by decide +kernel)) ggX7_share_X1_areTwo
set_option maxRecDepth 20000 in
theorem ggX7_share_X7_found : GoodIn wsX7_share wsX7_found := goodIn_r _ [17, 18, 19, 30, 31, 32, 33, 34, 35, 36, 37, 38, 39] (by decide +kernel) (by decide +kernel)
set_option maxRecDepth 20000 in
theorem gX7_share_X7_found : GoodIn wsX7_share (wsV RX7 71 RX7 yX7_found wsX7_found) := goodIn_app (goodIn_of _ (by decide +kernel)) ggX7_share_X7_found
set_option maxRecDepth 20000 in
theorem ggX7_share_X1_join : GoodIn wsX7_share wsX1_join := goodIn_r _ [23, 24, 25, 4, 5, 6, 7, 8, 9, 10, 11, 12, 26, 27, 28, 29, 40, 41, 42, 43, 44, 45, 46, 47, 48, 49, 50, 51] (by decide +kernel) (by decide +kernel)
set_option maxRecDepth 20000 in
theorem gX7_share_X1_join : GoodIn wsX7_share (wsV RX7 124 RX1 yX1_join wsX1_join) := goodIn_app (goodIn_of _ (by decide +kernel)) ggX7_share_X1_join
theorem dX7_share_0 : decode cX7_share 0 = .ok (.aload_n 0, 1) := by decide +kernel
theorem dX7_share_1 : decode cX7_share 1 = .ok (.getfield 10, 3) := by decide +kernel
theorem dX7_share_4 : decode cX7_share 4 = .ok (.iload_n 1, 1) := by decide +kernel
theorem dX7_share_5 : decode cX7_share 5 = .ok (.iload_n 2, 1) := by decide +kernel
theorem dX7_share_6 : decode cX7_share 6 = .ok (.invokevirtual 121, 3) := by decide +kernel
theorem dX7_share_9 : decode cX7_share 9 = .ok (.ifCond .ne 9, 3) := by decide +kernel
theorem dX7_share_12 : decode cX7_share 12 = .ok (.aload_n 0, 1) := by decide +kernel
theorem dX7_share_13 : decode cX7_share 13 = .ok (.iconst 0, 1) := by decide +kernel
theorem dX7_share_14 : decode cX7_share 14 = .ok (.invokevirtual 71, 3) := by decide +kernel
theorem dX7_share_17 : decode cX7_share 17 = .ok (.ireturn, 1) := by decide +kernel
theorem dX7_share_18 : decode cX7_share 18 = .ok (.aload_n 0, 1) := by decide +kernel
theorem dX7_share_19 : decode cX7_share 19 = .ok (.getfield 10, 3) := by decide +kernel
theorem dX7_share_22 : decode cX7_share 22 = .ok (.getfield 98, 3) := by decide +kernel
theorem dX7_share_25 : decode cX7_share 25 = .ok (.iload_n 1, 1) := by decide +kernel
theorem dX7_share_26 : decode cX7_share 26 = .ok (.iaload, 1) := by decide +kernel
theorem dX7_share_27 : decode cX7_share 27 = .ok (.iload_n 2, 1) := by decide +kernel
theorem dX7_share_28 : decode cX7_share 28 = .ok (.if_icmp .ne 5, 3) := by decide +kernel
theorem dX7_share_31 : decode cX7_share 31 = .ok (.iconst 0, 1) := by decide +kernel
theorem dX7_share_32 : decode cX7_share 32 = .ok (.ireturn, 1) := by decide +kernel
theorem dX7_share_33 : decode cX7_share 33 = .ok (.aload_n 0, 1) := by decide +kernel
theorem dX7_share_34 : decode cX7_share 34 = .ok (.getfield 10, 3) := by decide +kernel
theorem dX7_share_37 : decode cX7_share 37 = .ok (.iload_n 1, 1) := by decide +kernel
theorem dX7_share_38 : decode cX7_share 38 = .ok (.iload_n 2, 1) := by decide +kernel
theorem dX7_share_39 : decode cX7_share 39 = .ok (.invokevirtual 124, 3) := by decide +kernel
theorem dX7_share_42 : decode cX7_share 42 = .ok (.iconst 1, 1) := by decide +kernel
theorem dX7_share_43 : decode cX7_share 43 = .ok (.ireturn, 1) := by decide +kernel
set_option maxRecDepth 20000 in
theorem ggX7_part_X1_isPerson : GoodIn wsX7_part wsX1_isPerson := goodIn_r _ [7, 8, 32, 33, 34, 35, 36, 37, 38, 39, 40, 41, 42, 43] (by decide +kernel) (by decide +kernel)
set_option maxRecDepth 20000 in
theorem gX7_part_X1_isPerson : GoodIn wsX7_part (wsV RX7 82 RX1 yX1_isPerson wsX1_isPerson) := goodIn_app (goodIn_of _ (by decide +kernel)) ggX7_part_X1_isPerson
set_option maxRecDepth 20000 in
theorem ggX7_part_X7_found : GoodIn wsX7_part wsX7_found := goodIn_r _ [13, 14, 15, 22, 23, 24, 25, 26, 27, 28, 29, 30, 31] (by decide +kernel) (by decide +kernel)
set_option maxRecDepth 20000 in
theorem gX7_part_X7_found : GoodIn wsX7_part (wsV RX7 71 RX7 yX7_found wsX7_found) := goodIn_app (goodIn_of _ (by decide +kernel)) ggX7_part_X7_found
set_option maxRecDepth 20000 in
theorem ggX7_part_X1_separate : GoodIn wsX7_part wsX1_separate := goodIn_r _ [19, 20, 21, 4, 5, 6, 7, 8, 32, 33, 34, 35, 36, 37, 38, 39, 40, 41, 42, 43] (by decide +kernel) (by decide +kernel)
set_option maxRecDepth 20000 in
theorem gX7_part_X1_separate : GoodIn wsX7_part (wsV RX7 128 RX1 yX1_separate wsX1_separate) := goodIn_app (goodIn_of _ (by decide +kernel)) ggX7_part_X1_separate
theorem dX7_part_0 : decode cX7_part 0 = .ok (.aload_n 0, 1) := by decide +kernel
theorem dX7_part_1 : decode cX7_part 1 = .ok (.getfield 10, 3) := by decide +kernel
theorem dX7_part_4 : decode cX7_part 4 = .ok (.iload_n 1, 1) := by decide +kernel
theorem dX7_part_5 : decode cX7_part 5 = .ok (.invokevirtual 82, 3) := by decide +kernel
theorem dX7_part_8 : decode cX7_part 8 = .ok (.ifCond .ne 9, 3) := by decide +kernel
theorem dX7_part_11 : decode cX7_part 11 = .ok (.aload_n 0, 1) := by decide +kernel
theorem dX7_part_12 : decode cX7_part 12 = .ok (.iconst 0, 1) := by decide +kernel
theorem dX7_part_13 : decode cX7_part 13 = .ok (.invokevirtual 71, 3) := by decide +kernel
theorem dX7_part_16 : decode cX7_part 16 = .ok (.ireturn, 1) := by decide +kernel
theorem dX7_part_17 : decode cX7_part 17 = .ok (.aload_n 0, 1) := by decide +kernel
theorem dX7_part_18 : decode cX7_part 18 = .ok (.getfield 10, 3) := by decide +kernel
theorem dX7_part_21 : decode cX7_part 21 = .ok (.getfield 98, 3) := by decide +kernel
theorem dX7_part_24 : decode cX7_part 24 = .ok (.iload_n 1, 1) := by decide +kernel
theorem dX7_part_25 : decode cX7_part 25 = .ok (.iaload, 1) := by decide +kernel
theorem dX7_part_26 : decode cX7_part 26 = .ok (.istore_n 2, 1) := by decide +kernel
theorem dX7_part_27 : decode cX7_part 27 = .ok (.iload_n 2, 1) := by decide +kernel
theorem dX7_part_28 : decode cX7_part 28 = .ok (.iconst (-1), 1) := by decide +kernel
theorem dX7_part_29 : decode cX7_part 29 = .ok (.if_icmp .ne 9, 3) := by decide +kernel
theorem dX7_part_32 : decode cX7_part 32 = .ok (.aload_n 0, 1) := by decide +kernel
theorem dX7_part_33 : decode cX7_part 33 = .ok (.iconst 3, 1) := by decide +kernel
theorem dX7_part_34 : decode cX7_part 34 = .ok (.invokevirtual 71, 3) := by decide +kernel
theorem dX7_part_37 : decode cX7_part 37 = .ok (.ireturn, 1) := by decide +kernel
theorem dX7_part_38 : decode cX7_part 38 = .ok (.aload_n 0, 1) := by decide +kernel
theorem dX7_part_39 : decode cX7_part 39 = .ok (.getfield 10, 3) := by decide +kernel
theorem dX7_part_42 : decode cX7_part 42 = .ok (.iload_n 1, 1) := by decide +kernel
theorem dX7_part_43 : decode cX7_part 43 = .ok (.invokevirtual 128, 3) := by decide +kernel
theorem dX7_part_46 : decode cX7_part 46 = .ok (.iload_n 2, 1) := by decide +kernel
theorem dX7_part_47 : decode cX7_part 47 = .ok (.ireturn, 1) := by decide +kernel
set_option maxRecDepth 20000 in
theorem ggX7_light_X7_isWithin : GoodIn wsX7_light wsX7_isWithin := goodIn_r _ [7] (by decide +kernel) (by decide +kernel)
set_option maxRecDepth 20000 in
theorem gX7_light_X7_isWithin : GoodIn wsX7_light (va_wsS RX7 67 yX7_isWithin wsX7_isWithin) := goodIn_app (goodIn_of _ (by decide +kernel)) ggX7_light_X7_isWithin
set_option maxRecDepth 20000 in
theorem ggX7_light_X7_found : GoodIn wsX7_light wsX7_found := goodIn_r _ [11, 12, 13, 14, 15, 16, 17, 18, 19, 20, 21, 22, 23] (by decide +kernel) (by decide +kernel)
set_option maxRecDepth 20000 in
theorem gX7_light_X7_found : GoodIn wsX7_light (wsV RX7 71 RX7 yX7_found wsX7_found) := goodIn_app (goodIn_of _ (by decide +kernel)) ggX7_light_X7_found
theorem dX7_light_0 : decode cX7_light 0 = .ok (.iload_n 1, 1) := by decide +kernel
theorem dX7_light_1 : decode cX7_light 1 = .ok (.ldc 120, 2) := by decide +kernel
theorem dX7_light_3 : decode cX7_light 3 = .ok (.invokestatic 67, 3) := by decide +kernel
theorem dX7_light_6 : decode cX7_light 6 = .ok (.ifCond .ne 9, 3) := by decide +kernel
theorem dX7_light_9 : decode cX7_light 9 = .ok (.aload_n 0, 1) := by decide +kernel
theorem dX7_light_10 : decode cX7_light 10 = .ok (.iconst 0, 1) := by decide +kernel
theorem dX7_light_11 : decode cX7_light 11 = .ok (.invokevirtual 71, 3) := by decide +kernel
theorem dX7_light_14 : decode cX7_light 14 = .ok (.ireturn, 1) := by decide +kernel
theorem dX7_light_15 : decode cX7_light 15 = .ok (.aload_n 0, 1) := by decide +kernel
theorem dX7_light_16 : decode cX7_light 16 = .ok (.getfield 10, 3) := by decide +kernel
theorem dX7_light_19 : decode cX7_light 19 = .ok (.getfield 132, 3) := by decide +kernel
theorem dX7_light_22 : decode cX7_light 22 = .ok (.istore_n 2, 1) := by decide +kernel
theorem dX7_light_23 : decode cX7_light 23 = .ok (.aload_n 0, 1) := by decide +kernel
theorem dX7_light_24 : decode cX7_light 24 = .ok (.getfield 10, 3) := by decide +kernel
theorem dX7_light_27 : decode cX7_light 27 = .ok (.iload_n 1, 1) := by decide +kernel
theorem dX7_light_28 : decode cX7_light 28 = .ok (.putfield 132, 3) := by decide +kernel
theorem dX7_light_31 : decode cX7_light 31 = .ok (.iload_n 2, 1) := by decide +kernel
theorem dX7_light_32 : decode cX7_light 32 = .ok (.ireturn, 1) := by decide +kernel
set_option maxRecDepth 20000 in
theorem ggX7_claim_X1_isPerson : GoodIn wsX7_claim wsX1_isPerson := goodIn_r _ [6, 7, 35, 36, 37, 38, 39, 40, 41, 42, 43, 44, 45, 46] (by decide +kernel) (by decide +kernel)
set_option maxRecDepth 20000 in
theorem gX7_claim_X1_isPerson : GoodIn wsX7_claim (wsV RX7 82 RX1 yX1_isPerson wsX1_isPerson) := goodIn_app (goodIn_of _ (by decide +kernel)) ggX7_claim_X1_isPerson
set_option maxRecDepth 20000 in
theorem ggX7_claim_X7_isWithin : GoodIn wsX7_claim wsX7_isWithin := goodIn_r _ [11] (by decide +kernel) (by decide +kernel)
set_option maxRecDepth 20000 in
theorem gX7_claim_X7_isWithin : GoodIn wsX7_claim (va_wsS RX7 67 yX7_isWithin wsX7_isWithin) := goodIn_app (goodIn_of _ (by decide +kernel)) ggX7_claim_X7_isWithin
set_option maxRecDepth 20000 in
theorem ggX7_claim_X7_found : GoodIn wsX7_claim wsX7_found := goodIn_r _ [15, 16, 17, 25, 26, 27, 28, 29, 30, 31, 32, 33, 34] (by decide +kernel) (by decide +kernel)
set_option maxRecDepth 20000 in
theorem gX7_claim_X7_found : GoodIn wsX7_claim (wsV RX7 71 RX7 yX7_found wsX7_found) := goodIn_app (goodIn_of _ (by decide +kernel)) ggX7_claim_X7_found
set_option maxRecDepth 20000 in
theorem ggX7_claim_X1_claimOf : GoodIn wsX7_claim wsX1_claimOf := goodIn_r _ [21, 7, 22, 23, 24, 35, 36, 37, 38, 39, 40, 41, 42, 43, 44, 45, 46] (by decide +kernel) (by decide +kernel)
set_option maxRecDepth 20000 in
theorem gX7_claim_X1_claimOf : GoodIn wsX7_claim (wsV RX7 105 RX1 yX1_claimOf wsX1_claimOf) := goodIn_app (goodIn_of _ (by decide +kernel)) ggX7_claim_X1_claimOf
theorem dX7_claim_0 : decode cX7_claim 0 = .ok (.aload_n 0, 1) := by decide +kernel
theorem dX7_claim_1 : decode cX7_claim 1 = .ok (.getfield 10, 3) := by decide +kernel
theorem dX7_claim_4 : decode cX7_claim 4 = .ok (.iload_n 1, 1) := by decide +kernel
theorem dX7_claim_5 : decode cX7_claim 5 = .ok (.invokevirtual 82, 3) := by decide +kernel
theorem dX7_claim_8 : decode cX7_claim 8 = .ok (.ifCond .eq 12, 3) := by decide +kernel
theorem dX7_claim_11 : decode cX7_claim 11 = .ok (.iload_n 2, 1) := by decide +kernel
theorem dX7_claim_12 : decode cX7_claim 12 = .ok (.bipush 15, 2) := by decide +kernel
theorem dX7_claim_14 : decode cX7_claim 14 = .ok (.invokestatic 67, 3) := by decide +kernel
theorem dX7_claim_17 : decode cX7_claim 17 = .ok (.ifCond .ne 9, 3) := by decide +kernel
theorem dX7_claim_20 : decode cX7_claim 20 = .ok (.aload_n 0, 1) := by decide +kernel
theorem dX7_claim_21 : decode cX7_claim 21 = .ok (.iconst 0, 1) := by decide +kernel
theorem dX7_claim_22 : decode cX7_claim 22 = .ok (.invokevirtual 71, 3) := by decide +kernel
theorem dX7_claim_25 : decode cX7_claim 25 = .ok (.ireturn, 1) := by decide +kernel
theorem dX7_claim_26 : decode cX7_claim 26 = .ok (.aload_n 0, 1) := by decide +kernel
theorem dX7_claim_27 : decode cX7_claim 27 = .ok (.getfield 10, 3) := by decide +kernel
theorem dX7_claim_30 : decode cX7_claim 30 = .ok (.iload_n 1, 1) := by decide +kernel
theorem dX7_claim_31 : decode cX7_claim 31 = .ok (.iload_n 2, 1) := by decide +kernel
theorem dX7_claim_32 : decode cX7_claim 32 = .ok (.invokevirtual 105, 3) := by decide +kernel
theorem dX7_claim_35 : decode cX7_claim 35 = .ok (.ireturn, 1) := by decide +kernel
set_option maxRecDepth 20000 in
theorem ggX7_go_X7_found : GoodIn wsX7_go wsX7_found := goodIn_r _ [8, 9, 10, 55, 56, 57, 58, 59, 60, 61, 62, 63, 64] (by decide +kernel) (by decide +kernel)
set_option maxRecDepth 20000 in
theorem gX7_go_X7_found : GoodIn wsX7_go (wsV RX7 71 RX7 yX7_found wsX7_found) := goodIn_app (goodIn_of _ (by decide +kernel)) ggX7_go_X7_found
set_option maxRecDepth 20000 in
theorem ggX7_go_X1_passHours : GoodIn wsX7_go wsX1_passHours := goodIn_r _ [15, 16, 17, 18, 19, 14, 20, 21, 22, 23, 24, 7, 25, 26, 27, 28, 29, 30, 31, 32, 33, 34, 35, 36, 37, 38, 39, 40, 41, 42, 43, 44, 45, 46, 47, 48, 49, 50, 51, 52, 53, 54, 65, 66, 67, 68, 69, 70, 71, 72, 73, 74, 75, 76] (by decide +kernel) (by decide +kernel)
set_option maxRecDepth 20000 in
theorem gX7_go_X1_passHours : GoodIn wsX7_go (wsV RX7 135 RX1 yX1_passHours wsX1_passHours) := goodIn_app (goodIn_of _ (by decide +kernel)) ggX7_go_X1_passHours
theorem dX7_go_0 : decode cX7_go 0 = .ok (.iload_n 1, 1) := by decide +kernel
theorem dX7_go_1 : decode cX7_go 1 = .ok (.iconst 1, 1) := by decide +kernel
theorem dX7_go_2 : decode cX7_go 2 = .ok (.if_icmp .lt 9, 3) := by decide +kernel
theorem dX7_go_5 : decode cX7_go 5 = .ok (.iload_n 1, 1) := by decide +kernel
theorem dX7_go_6 : decode cX7_go 6 = .ok (.bipush 16, 2) := by decide +kernel
theorem dX7_go_8 : decode cX7_go 8 = .ok (.if_icmp .le 9, 3) := by decide +kernel
theorem dX7_go_11 : decode cX7_go 11 = .ok (.aload_n 0, 1) := by decide +kernel
theorem dX7_go_12 : decode cX7_go 12 = .ok (.iconst 0, 1) := by decide +kernel
theorem dX7_go_13 : decode cX7_go 13 = .ok (.invokevirtual 71, 3) := by decide +kernel
theorem dX7_go_16 : decode cX7_go 16 = .ok (.ireturn, 1) := by decide +kernel
theorem dX7_go_17 : decode cX7_go 17 = .ok (.iload_n 1, 1) := by decide +kernel
theorem dX7_go_18 : decode cX7_go 18 = .ok (.bipush 16, 2) := by decide +kernel
theorem dX7_go_20 : decode cX7_go 20 = .ok (.aload_n 0, 1) := by decide +kernel
theorem dX7_go_21 : decode cX7_go 21 = .ok (.getfield 10, 3) := by decide +kernel
theorem dX7_go_24 : decode cX7_go 24 = .ok (.getfield 101, 3) := by decide +kernel
theorem dX7_go_27 : decode cX7_go 27 = .ok (.isub, 1) := by decide +kernel
theorem dX7_go_28 : decode cX7_go 28 = .ok (.if_icmp .le 9, 3) := by decide +kernel
theorem dX7_go_31 : decode cX7_go 31 = .ok (.aload_n 0, 1) := by decide +kernel
theorem dX7_go_32 : decode cX7_go 32 = .ok (.iconst 4, 1) := by decide +kernel
theorem dX7_go_33 : decode cX7_go 33 = .ok (.invokevirtual 71, 3) := by decide +kernel
theorem dX7_go_36 : decode cX7_go 36 = .ok (.ireturn, 1) := by decide +kernel
theorem dX7_go_37 : decode cX7_go 37 = .ok (.aload_n 0, 1) := by decide +kernel
theorem dX7_go_38 : decode cX7_go 38 = .ok (.getfield 10, 3) := by decide +kernel
theorem dX7_go_41 : decode cX7_go 41 = .ok (.iload_n 1, 1) := by decide +kernel
theorem dX7_go_42 : decode cX7_go 42 = .ok (.invokevirtual 135, 3) := by decide +kernel
theorem dX7_go_45 : decode cX7_go 45 = .ok (.aload_n 0, 1) := by decide +kernel
theorem dX7_go_46 : decode cX7_go 46 = .ok (.getfield 10, 3) := by decide +kernel
theorem dX7_go_49 : decode cX7_go 49 = .ok (.getfield 138, 3) := by decide +kernel
theorem dX7_go_52 : decode cX7_go 52 = .ok (.ireturn, 1) := by decide +kernel
set_option maxRecDepth 20000 in
theorem ggX7_at_X7_isWithin : GoodIn wsX7_at wsX7_isWithin := goodIn_r _ [6] (by decide +kernel) (by decide +kernel)
set_option maxRecDepth 20000 in
theorem gX7_at_X7_isWithin : GoodIn wsX7_at (va_wsS RX7 67 yX7_isWithin wsX7_isWithin) := goodIn_app (goodIn_of _ (by decide +kernel)) ggX7_at_X7_isWithin
set_option maxRecDepth 20000 in
theorem ggX7_at_X7_found : GoodIn wsX7_at wsX7_found := goodIn_r _ [10, 11, 12, 13, 14, 15, 16, 17, 18, 19, 20, 21, 22] (by decide +kernel) (by decide +kernel)
set_option maxRecDepth 20000 in
theorem gX7_at_X7_found : GoodIn wsX7_at (wsV RX7 71 RX7 yX7_found wsX7_found) := goodIn_app (goodIn_of _ (by decide +kernel)) ggX7_at_X7_found
theorem dX7_at_0 : decode cX7_at 0 = .ok (.iload_n 1, 1) := by decide +kernel
theorem dX7_at_1 : decode cX7_at 1 = .ok (.bipush 16, 2) := by decide +kernel
theorem dX7_at_3 : decode cX7_at 3 = .ok (.invokestatic 67, 3) := by decide +kernel
theorem dX7_at_6 : decode cX7_at 6 = .ok (.ifCond .ne 9, 3) := by decide +kernel
theorem dX7_at_9 : decode cX7_at 9 = .ok (.aload_n 0, 1) := by decide +kernel
theorem dX7_at_10 : decode cX7_at 10 = .ok (.iconst 0, 1) := by decide +kernel
theorem dX7_at_11 : decode cX7_at 11 = .ok (.invokevirtual 71, 3) := by decide +kernel
theorem dX7_at_14 : decode cX7_at 14 = .ok (.ireturn, 1) := by decide +kernel
theorem dX7_at_15 : decode cX7_at 15 = .ok (.aload_n 0, 1) := by decide +kernel
theorem dX7_at_16 : decode cX7_at 16 = .ok (.getfield 10, 3) := by decide +kernel
theorem dX7_at_19 : decode cX7_at 19 = .ok (.getfield 101, 3) := by decide +kernel
theorem dX7_at_22 : decode cX7_at 22 = .ok (.istore_n 2, 1) := by decide +kernel
theorem dX7_at_23 : decode cX7_at 23 = .ok (.aload_n 0, 1) := by decide +kernel
theorem dX7_at_24 : decode cX7_at 24 = .ok (.getfield 10, 3) := by decide +kernel
theorem dX7_at_27 : decode cX7_at 27 = .ok (.iload_n 1, 1) := by decide +kernel
theorem dX7_at_28 : decode cX7_at 28 = .ok (.putfield 101, 3) := by decide +kernel
theorem dX7_at_31 : decode cX7_at 31 = .ok (.iload_n 2, 1) := by decide +kernel
theorem dX7_at_32 : decode cX7_at 32 = .ok (.ireturn, 1) := by decide +kernel
set_option maxRecDepth 20000 in
theorem ggX7_now_X1_havers : GoodIn wsX7_now wsX1_havers := goodIn_r _ [10, 11, 12, 13, 14, 15, 16, 17, 18, 19, 20, 9, 21, 22, 23, 24, 25, 26, 27, 28, 29, 30, 31, 32, 33, 34, 35, 52, 53, 54, 55, 56, 57, 58, 59, 60, 61, 62, 63] (by decide +kernel) (by decide +kernel)
set_option maxRecDepth 20000 in
theorem gX7_now_X1_havers : GoodIn wsX7_now (wsV RX7 109 RX1 yX1_havers wsX1_havers) := goodIn_app (goodIn_of _ (by decide +kernel)) ggX7_now_X1_havers
set_option maxRecDepth 20000 in
theorem ggX7_now_X7_found : GoodIn wsX7_now wsX7_found := goodIn_r _ [39, 40, 41, 42, 43, 44, 45, 46, 47, 48, 49, 50, 51] (by decide +kernel) (by decide +kernel)
set_option maxRecDepth 20000 in
theorem gX7_now_X7_found : GoodIn wsX7_now (wsV RX7 71 RX7 yX7_found wsX7_found) := goodIn_app (goodIn_of _ (by decide +kernel)) ggX7_now_X7_found
theorem dX7_now_0 : decode cX7_now 0 = .ok (.iload_n 1, 1) := by decide +kernel
theorem dX7_now_1 : decode cX7_now 1 = .ok (.tableswitch 75 0 4 #[35, 43, 51, 59, 67], 35) := by decide +kernel
theorem dX7_now_36 : decode cX7_now 36 = .ok (.aload_n 0, 1) := by decide +kernel
theorem dX7_now_37 : decode cX7_now 37 = .ok (.getfield 10, 3) := by decide +kernel
theorem dX7_now_40 : decode cX7_now 40 = .ok (.getfield 101, 3) := by decide +kernel
theorem dX7_now_43 : decode cX7_now 43 = .ok (.ireturn, 1) := by decide +kernel
theorem dX7_now_44 : decode cX7_now 44 = .ok (.aload_n 0, 1) := by decide +kernel
theorem dX7_now_45 : decode cX7_now 45 = .ok (.getfield 10, 3) := by decide +kernel
theorem dX7_now_48 : decode cX7_now 48 = .ok (.getfield 138, 3) := by decide +kernel
theorem dX7_now_51 : decode cX7_now 51 = .ok (.ireturn, 1) := by decide +kernel
theorem dX7_now_52 : decode cX7_now 52 = .ok (.aload_n 0, 1) := by decide +kernel
theorem dX7_now_53 : decode cX7_now 53 = .ok (.getfield 10, 3) := by decide +kernel
theorem dX7_now_56 : decode cX7_now 56 = .ok (.getfield 141, 3) := by decide +kernel
theorem dX7_now_59 : decode cX7_now 59 = .ok (.ireturn, 1) := by decide +kernel
theorem dX7_now_60 : decode cX7_now 60 = .ok (.aload_n 0, 1) := by decide +kernel
theorem dX7_now_61 : decode cX7_now 61 = .ok (.getfield 10, 3) := by decide +kernel
theorem dX7_now_64 : decode cX7_now 64 = .ok (.getfield 132, 3) := by decide +kernel
theorem dX7_now_67 : decode cX7_now 67 = .ok (.ireturn, 1) := by decide +kernel
theorem dX7_now_68 : decode cX7_now 68 = .ok (.aload_n 0, 1) := by decide +kernel
theorem dX7_now_69 : decode cX7_now 69 = .ok (.getfield 10, 3) := by decide +kernel
theorem dX7_now_72 : decode cX7_now 72 = .ok (.invokevirtual 109, 3) := by decide +kernel
theorem dX7_now_75 : decode cX7_now 75 = .ok (.ireturn, 1) := by decide +kernel
theorem dX7_now_76 : decode cX7_now 76 = .ok (.aload_n 0, 1) := by decide +kernel
theorem dX7_now_77 : decode cX7_now 77 = .ok (.iconst 0, 1) := by decide +kernel
theorem dX7_now_78 : decode cX7_now 78 = .ok (.invokevirtual 71, 3) := by decide +kernel
theorem dX7_now_81 : decode cX7_now 81 = .ok (.ireturn, 1) := by decide +kernel
set_option maxRecDepth 20000 in
theorem ggX7_met_X1_isPerson : GoodIn wsX7_met wsX1_isPerson := goodIn_r _ [7, 8, 119, 120, 121, 122, 123, 124, 125, 126, 127, 128, 129, 130] (by decide +kernel) (by decide +kernel)
set_option maxRecDepth 20000 in
theorem gX7_met_X1_isPerson : GoodIn wsX7_met (wsV RX7 82 RX1 yX1_isPerson wsX1_isPerson) := goodIn_app (goodIn_of _ (by decide +kernel)) ggX7_met_X1_isPerson
set_option maxRecDepth 20000 in
theorem ggX7_met_X7_found : GoodIn wsX7_met wsX7_found := goodIn_r _ [13, 14, 15, 109, 110, 111, 112, 113, 114, 115, 116, 117, 118] (by decide +kernel) (by decide +kernel)
set_option maxRecDepth 20000 in
theorem gX7_met_X7_found : GoodIn wsX7_met (wsV RX7 71 RX7 yX7_found wsX7_found) := goodIn_app (goodIn_of _ (by decide +kernel)) ggX7_met_X7_found
set_option maxRecDepth 20000 in
theorem ggX7_met_X4_see : GoodIn wsX7_met wsX4_see := goodIn_r _ [20, 21, 22, 23, 19, 24, 25, 26, 27, 28, 29, 30, 31, 6, 32, 33, 34, 35, 36, 37, 38, 39, 40, 41, 42, 8, 43, 44, 45, 46, 47, 48, 49, 50, 51, 52, 53, 54, 55, 56, 57, 58, 59, 60, 61, 62, 12, 63, 64, 65, 66, 67, 68, 69, 70, 71, 72, 73, 74, 75, 76, 77, 78, 79, 80, 81, 82, 83, 84, 85, 86, 131, 132, 133, 134, 119, 120, 121, 122, 123, 124, 125, 126, 127, 128, 129, 130] (by decide +kernel) (by decide +kernel)
set_option maxRecDepth 20000 in
theorem gX7_met_X4_see : GoodIn wsX7_met (wsV RX7 144 RX4 yX4_see wsX4_see) := goodIn_app (goodIn_of _ (by decide +kernel)) ggX7_met_X4_see
set_option maxRecDepth 20000 in
theorem ggX7_met_X4_metOf : GoodIn wsX7_met wsX4_metOf := goodIn_r _ [90, 25, 91, 92, 4, 5, 6, 7, 8, 93, 94, 95, 19, 96, 97, 28, 98, 99, 100, 101, 57, 62, 12, 63, 102, 103, 104, 105, 106, 107, 108, 131, 132, 133, 134, 119, 120, 121, 122, 123, 124, 125, 126, 127, 128, 129, 130] (by decide +kernel) (by decide +kernel)
set_option maxRecDepth 20000 in
theorem gX7_met_X4_metOf : GoodIn wsX7_met (wsV RX7 148 RX4 yX4_metOf wsX4_metOf) := goodIn_app (goodIn_of _ (by decide +kernel)) ggX7_met_X4_metOf
theorem dX7_met_0 : decode cX7_met 0 = .ok (.aload_n 0, 1) := by decide +kernel
theorem dX7_met_1 : decode cX7_met 1 = .ok (.getfield 10, 3) := by decide +kernel
theorem dX7_met_4 : decode cX7_met 4 = .ok (.iload_n 1, 1) := by decide +kernel
theorem dX7_met_5 : decode cX7_met 5 = .ok (.invokevirtual 82, 3) := by decide +kernel
theorem dX7_met_8 : decode cX7_met 8 = .ok (.ifCond .ne 9, 3) := by decide +kernel
theorem dX7_met_11 : decode cX7_met 11 = .ok (.aload_n 0, 1) := by decide +kernel
theorem dX7_met_12 : decode cX7_met 12 = .ok (.iconst 0, 1) := by decide +kernel
theorem dX7_met_13 : decode cX7_met 13 = .ok (.invokevirtual 71, 3) := by decide +kernel
theorem dX7_met_16 : decode cX7_met 16 = .ok (.ireturn, 1) := by decide +kernel
theorem dX7_met_17 : decode cX7_met 17 = .ok (.aload_n 0, 1) := by decide +kernel
theorem dX7_met_18 : decode cX7_met 18 = .ok (.getfield 22, 3) := by decide +kernel
theorem dX7_met_21 : decode cX7_met 21 = .ok (.aload_n 0, 1) := by decide +kernel
theorem dX7_met_22 : decode cX7_met 22 = .ok (.getfield 10, 3) := by decide +kernel
theorem dX7_met_25 : decode cX7_met 25 = .ok (.invokevirtual 144, 3) := by decide +kernel
theorem dX7_met_28 : decode cX7_met 28 = .ok (.aload_n 0, 1) := by decide +kernel
theorem dX7_met_29 : decode cX7_met 29 = .ok (.getfield 22, 3) := by decide +kernel
theorem dX7_met_32 : decode cX7_met 32 = .ok (.iload_n 1, 1) := by decide +kernel
theorem dX7_met_33 : decode cX7_met 33 = .ok (.invokevirtual 148, 3) := by decide +kernel
theorem dX7_met_36 : decode cX7_met 36 = .ok (.ireturn, 1) := by decide +kernel
set_option maxRecDepth 20000 in
theorem ggX7_cold_X1_isPerson : GoodIn wsX7_cold wsX1_isPerson := goodIn_r _ [7, 8, 112, 113, 114, 115, 116, 117, 118, 119, 120, 121, 122, 123] (by decide +kernel) (by decide +kernel)
set_option maxRecDepth 20000 in
theorem gX7_cold_X1_isPerson : GoodIn wsX7_cold (wsV RX7 82 RX1 yX1_isPerson wsX1_isPerson) := goodIn_app (goodIn_of _ (by decide +kernel)) ggX7_cold_X1_isPerson
set_option maxRecDepth 20000 in
theorem ggX7_cold_X7_found : GoodIn wsX7_cold wsX7_found := goodIn_r _ [13, 14, 15, 102, 103, 104, 105, 106, 107, 108, 109, 110, 111] (by decide +kernel) (by decide +kernel)
set_option maxRecDepth 20000 in
theorem gX7_cold_X7_found : GoodIn wsX7_cold (wsV RX7 71 RX7 yX7_found wsX7_found) := goodIn_app (goodIn_of _ (by decide +kernel)) ggX7_cold_X7_found
set_option maxRecDepth 20000 in
theorem ggX7_cold_X4_see : GoodIn wsX7_cold wsX4_see := goodIn_r _ [20, 21, 22, 23, 19, 24, 25, 26, 27, 28, 29, 30, 31, 6, 32, 33, 34, 35, 36, 37, 38, 39, 40, 41, 42, 8, 43, 44, 45, 46, 47, 48, 49, 50, 51, 52, 53, 54, 55, 56, 57, 58, 59, 60, 61, 62, 12, 63, 64, 65, 66, 67, 68, 69, 70, 71, 72, 73, 74, 75, 76, 77, 78, 79, 80, 81, 82, 83, 84, 85, 86, 124, 125, 126, 127, 112, 113, 114, 115, 116, 117, 118, 119, 120, 121, 122, 123] (by decide +kernel) (by decide +kernel)
set_option maxRecDepth 20000 in
theorem gX7_cold_X4_see : GoodIn wsX7_cold (wsV RX7 144 RX4 yX4_see wsX4_see) := goodIn_app (goodIn_of _ (by decide +kernel)) ggX7_cold_X4_see
set_option maxRecDepth 20000 in
theorem ggX7_cold_X4_firstCold : GoodIn wsX7_cold wsX4_firstCold := goodIn_r _ [90, 25, 28, 91, 4, 5, 6, 7, 8, 92, 93, 94, 19, 95, 96, 97, 98, 99, 100, 101, 57, 62, 12, 63, 124, 125, 126, 127, 112, 113, 114, 115, 116, 117, 118, 119, 120, 121, 122, 123] (by decide +kernel) (by decide +kernel)
set_option maxRecDepth 20000 in
theorem gX7_cold_X4_firstCold : GoodIn wsX7_cold (wsV RX7 151 RX4 yX4_firstCold wsX4_firstCold) := goodIn_app (goodIn_of _ (by decide +kernel)) ggX7_cold_X4_firstCold
theorem dX7_cold_0 : decode cX7_cold 0 = .ok (.aload_n 0, 1) := by decide +kernel
theorem dX7_cold_1 : decode cX7_cold 1 = .ok (.getfield 10, 3) := by decide +kernel
theorem dX7_cold_4 : decode cX7_cold 4 = .ok (.iload_n 1, 1) := by decide +kernel
theorem dX7_cold_5 : decode cX7_cold 5 = .ok (.invokevirtual 82, 3) := by decide +kernel
theorem dX7_cold_8 : decode cX7_cold 8 = .ok (.ifCond .ne 9, 3) := by decide +kernel
theorem dX7_cold_11 : decode cX7_cold 11 = .ok (.aload_n 0, 1) := by decide +kernel
theorem dX7_cold_12 : decode cX7_cold 12 = .ok (.iconst 0, 1) := by decide +kernel
theorem dX7_cold_13 : decode cX7_cold 13 = .ok (.invokevirtual 71, 3) := by decide +kernel
theorem dX7_cold_16 : decode cX7_cold 16 = .ok (.ireturn, 1) := by decide +kernel
theorem dX7_cold_17 : decode cX7_cold 17 = .ok (.aload_n 0, 1) := by decide +kernel
theorem dX7_cold_18 : decode cX7_cold 18 = .ok (.getfield 22, 3) := by decide +kernel
theorem dX7_cold_21 : decode cX7_cold 21 = .ok (.aload_n 0, 1) := by decide +kernel
theorem dX7_cold_22 : decode cX7_cold 22 = .ok (.getfield 10, 3) := by decide +kernel
theorem dX7_cold_25 : decode cX7_cold 25 = .ok (.invokevirtual 144, 3) := by decide +kernel
theorem dX7_cold_28 : decode cX7_cold 28 = .ok (.aload_n 0, 1) := by decide +kernel
theorem dX7_cold_29 : decode cX7_cold 29 = .ok (.getfield 22, 3) := by decide +kernel
theorem dX7_cold_32 : decode cX7_cold 32 = .ok (.iload_n 1, 1) := by decide +kernel
theorem dX7_cold_33 : decode cX7_cold 33 = .ok (.invokevirtual 151, 3) := by decide +kernel
theorem dX7_cold_36 : decode cX7_cold 36 = .ok (.istore_n 2, 1) := by decide +kernel
theorem dX7_cold_37 : decode cX7_cold 37 = .ok (.iload_n 2, 1) := by decide +kernel
theorem dX7_cold_38 : decode cX7_cold 38 = .ok (.bipush 16, 2) := by decide +kernel
theorem dX7_cold_40 : decode cX7_cold 40 = .ok (.if_icmp .ge 7, 3) := by decide +kernel
theorem dX7_cold_43 : decode cX7_cold 43 = .ok (.iload_n 2, 1) := by decide +kernel
theorem dX7_cold_44 : decode cX7_cold 44 = .ok (.goto 8, 3) := by decide +kernel
theorem dX7_cold_47 : decode cX7_cold 47 = .ok (.aload_n 0, 1) := by decide +kernel
theorem dX7_cold_48 : decode cX7_cold 48 = .ok (.iconst 3, 1) := by decide +kernel
theorem dX7_cold_49 : decode cX7_cold 49 = .ok (.invokevirtual 71, 3) := by decide +kernel
theorem dX7_cold_52 : decode cX7_cold 52 = .ok (.ireturn, 1) := by decide +kernel
set_option maxRecDepth 20000 in
theorem ggX7_shade_X1_isPerson : GoodIn wsX7_shade wsX1_isPerson := goodIn_r _ [7, 8, 101, 102, 103, 104, 105, 106, 107, 108, 109, 110, 111, 112] (by decide +kernel) (by decide +kernel)
set_option maxRecDepth 20000 in
theorem gX7_shade_X1_isPerson : GoodIn wsX7_shade (wsV RX7 82 RX1 yX1_isPerson wsX1_isPerson) := goodIn_app (goodIn_of _ (by decide +kernel)) ggX7_shade_X1_isPerson
set_option maxRecDepth 20000 in
theorem ggX7_shade_X7_found : GoodIn wsX7_shade wsX7_found := goodIn_r _ [13, 14, 15, 91, 92, 93, 94, 95, 96, 97, 98, 99, 100] (by decide +kernel) (by decide +kernel)
set_option maxRecDepth 20000 in
theorem gX7_shade_X7_found : GoodIn wsX7_shade (wsV RX7 71 RX7 yX7_found wsX7_found) := goodIn_app (goodIn_of _ (by decide +kernel)) ggX7_shade_X7_found
set_option maxRecDepth 20000 in
theorem ggX7_shade_X4_see : GoodIn wsX7_shade wsX4_see := goodIn_r _ [20, 21, 22, 23, 19, 24, 25, 26, 27, 28, 29, 30, 31, 6, 32, 33, 34, 35, 36, 37, 38, 39, 40, 41, 42, 8, 43, 44, 45, 46, 47, 48, 49, 50, 51, 52, 53, 54, 55, 56, 57, 58, 59, 60, 61, 62, 12, 63, 64, 65, 66, 67, 68, 69, 70, 71, 72, 73, 74, 75, 76, 77, 78, 79, 80, 81, 82, 83, 84, 85, 86, 113, 114, 115, 116, 101, 102, 103, 104, 105, 106, 107, 108, 109, 110, 111, 112] (by decide +kernel) (by decide +kernel)
set_option maxRecDepth 20000 in
theorem gX7_shade_X4_see : GoodIn wsX7_shade (wsV RX7 144 RX4 yX4_see wsX4_see) := goodIn_app (goodIn_of _ (by decide +kernel)) ggX7_shade_X4_see
set_option maxRecDepth 20000 in
theorem ggX7_shade_X4_shadeOf : GoodIn wsX7_shade wsX4_shadeOf := goodIn_r _ [90, 28, 57, 62, 12, 63, 113, 114, 115, 116] (by decide +kernel) (by decide +kernel)
set_option maxRecDepth 20000 in
theorem gX7_shade_X4_shadeOf : GoodIn wsX7_shade (wsV RX7 154 RX4 yX4_shadeOf wsX4_shadeOf) := goodIn_app (goodIn_of _ (by decide +kernel)) ggX7_shade_X4_shadeOf
