theorem dX5_init_0 : decode cX5_init 0 = .ok (.aload_n 0, 1) := by decide +kernel
theorem dX5_init_1 : decode cX5_init 1 = .ok (.invokespecial 1, 3) := by decide +kernel
theorem dX5_init_4 : decode cX5_init 4 = .ok (.aload_n 0, 1) := by decide +kernel
theorem dX5_init_5 : decode cX5_init 5 = .ok (.iconst 4, 1) := by decide +kernel
theorem dX5_init_6 : decode cX5_init 6 = .ok (.newarray .int, 2) := by decide +kernel
theorem dX5_init_8 : decode cX5_init 8 = .ok (.dup, 1) := by decide +kernel
theorem dX5_init_9 : decode cX5_init 9 = .ok (.iconst 0, 1) := by decide +kernel
theorem dX5_init_10 : decode cX5_init 10 = .ok (.bipush (-9), 2) := by decide +kernel
theorem dX5_init_12 : decode cX5_init 12 = .ok (.iastore, 1) := by decide +kernel
theorem dX5_init_13 : decode cX5_init 13 = .ok (.dup, 1) := by decide +kernel
theorem dX5_init_14 : decode cX5_init 14 = .ok (.iconst 1, 1) := by decide +kernel
theorem dX5_init_15 : decode cX5_init 15 = .ok (.bipush (-9), 2) := by decide +kernel
theorem dX5_init_17 : decode cX5_init 17 = .ok (.iastore, 1) := by decide +kernel
theorem dX5_init_18 : decode cX5_init 18 = .ok (.dup, 1) := by decide +kernel
theorem dX5_init_19 : decode cX5_init 19 = .ok (.iconst 2, 1) := by decide +kernel
theorem dX5_init_20 : decode cX5_init 20 = .ok (.bipush (-9), 2) := by decide +kernel
theorem dX5_init_22 : decode cX5_init 22 = .ok (.iastore, 1) := by decide +kernel
theorem dX5_init_23 : decode cX5_init 23 = .ok (.dup, 1) := by decide +kernel
theorem dX5_init_24 : decode cX5_init 24 = .ok (.iconst 3, 1) := by decide +kernel
theorem dX5_init_25 : decode cX5_init 25 = .ok (.bipush (-9), 2) := by decide +kernel
theorem dX5_init_27 : decode cX5_init 27 = .ok (.iastore, 1) := by decide +kernel
theorem dX5_init_28 : decode cX5_init 28 = .ok (.putfield 9, 3) := by decide +kernel
theorem dX5_init_31 : decode cX5_init 31 = .ok (.aload_n 0, 1) := by decide +kernel
theorem dX5_init_32 : decode cX5_init 32 = .ok (.iconst 4, 1) := by decide +kernel
theorem dX5_init_33 : decode cX5_init 33 = .ok (.newarray .int, 2) := by decide +kernel
theorem dX5_init_35 : decode cX5_init 35 = .ok (.putfield 13, 3) := by decide +kernel
theorem dX5_init_38 : decode cX5_init 38 = .ok (.aload_n 0, 1) := by decide +kernel
theorem dX5_init_39 : decode cX5_init 39 = .ok (.sipush 240, 3) := by decide +kernel
theorem dX5_init_42 : decode cX5_init 42 = .ok (.newarray .int, 2) := by decide +kernel
theorem dX5_init_44 : decode cX5_init 44 = .ok (.putfield 16, 3) := by decide +kernel
theorem dX5_init_47 : decode cX5_init 47 = .ok (.aload_n 0, 1) := by decide +kernel
theorem dX5_init_48 : decode cX5_init 48 = .ok (.iconst 5, 1) := by decide +kernel
theorem dX5_init_49 : decode cX5_init 49 = .ok (.newarray .int, 2) := by decide +kernel
theorem dX5_init_51 : decode cX5_init 51 = .ok (.putfield 19, 3) := by decide +kernel
theorem dX5_init_54 : decode cX5_init 54 = .ok (.aload_n 0, 1) := by decide +kernel
theorem dX5_init_55 : decode cX5_init 55 = .ok (.iconst 5, 1) := by decide +kernel
theorem dX5_init_56 : decode cX5_init 56 = .ok (.newarray .int, 2) := by decide +kernel
theorem dX5_init_58 : decode cX5_init 58 = .ok (.putfield 22, 3) := by decide +kernel
theorem dX5_init_61 : decode cX5_init 61 = .ok (.aload_n 0, 1) := by decide +kernel
theorem dX5_init_62 : decode cX5_init 62 = .ok (.iconst 5, 1) := by decide +kernel
theorem dX5_init_63 : decode cX5_init 63 = .ok (.newarray .int, 2) := by decide +kernel
theorem dX5_init_65 : decode cX5_init 65 = .ok (.putfield 25, 3) := by decide +kernel
theorem dX5_init_68 : decode cX5_init 68 = .ok (.aload_n 0, 1) := by decide +kernel
theorem dX5_init_69 : decode cX5_init 69 = .ok (.iconst 5, 1) := by decide +kernel
theorem dX5_init_70 : decode cX5_init 70 = .ok (.newarray .int, 2) := by decide +kernel
theorem dX5_init_72 : decode cX5_init 72 = .ok (.putfield 28, 3) := by decide +kernel
theorem dX5_init_75 : decode cX5_init 75 = .ok (.aload_n 0, 1) := by decide +kernel
theorem dX5_init_76 : decode cX5_init 76 = .ok (.iconst 5, 1) := by decide +kernel
theorem dX5_init_77 : decode cX5_init 77 = .ok (.newarray .int, 2) := by decide +kernel
theorem dX5_init_79 : decode cX5_init 79 = .ok (.putfield 31, 3) := by decide +kernel
theorem dX5_init_82 : decode cX5_init 82 = .ok (.aload_n 0, 1) := by decide +kernel
theorem dX5_init_83 : decode cX5_init 83 = .ok (.iconst 5, 1) := by decide +kernel
theorem dX5_init_84 : decode cX5_init 84 = .ok (.newarray .int, 2) := by decide +kernel
theorem dX5_init_86 : decode cX5_init 86 = .ok (.putfield 34, 3) := by decide +kernel
theorem dX5_init_89 : decode cX5_init 89 = .ok (.aload_n 0, 1) := by decide +kernel
theorem dX5_init_90 : decode cX5_init 90 = .ok (.bipush 40, 2) := by decide +kernel
theorem dX5_init_92 : decode cX5_init 92 = .ok (.newarray .boolean, 2) := by decide +kernel
theorem dX5_init_94 : decode cX5_init 94 = .ok (.putfield 37, 3) := by decide +kernel
theorem dX5_init_97 : decode cX5_init 97 = .ok (.aload_n 0, 1) := by decide +kernel
theorem dX5_init_98 : decode cX5_init 98 = .ok (.iconst 5, 1) := by decide +kernel
theorem dX5_init_99 : decode cX5_init 99 = .ok (.newarray .int, 2) := by decide +kernel
theorem dX5_init_101 : decode cX5_init 101 = .ok (.putfield 41, 3) := by decide +kernel
theorem dX5_init_104 : decode cX5_init 104 = .ok (.aload_n 0, 1) := by decide +kernel
theorem dX5_init_105 : decode cX5_init 105 = .ok (.bipush 8, 2) := by decide +kernel
theorem dX5_init_107 : decode cX5_init 107 = .ok (.newarray .int, 2) := by decide +kernel
theorem dX5_init_109 : decode cX5_init 109 = .ok (.putfield 44, 3) := by decide +kernel
theorem dX5_init_112 : decode cX5_init 112 = .ok (.aload_n 0, 1) := by decide +kernel
theorem dX5_init_113 : decode cX5_init 113 = .ok (.bipush 8, 2) := by decide +kernel
theorem dX5_init_115 : decode cX5_init 115 = .ok (.newarray .int, 2) := by decide +kernel
theorem dX5_init_117 : decode cX5_init 117 = .ok (.putfield 47, 3) := by decide +kernel
theorem dX5_init_120 : decode cX5_init 120 = .ok (.return_, 1) := by decide +kernel
theorem dX5_fails_0 : decode cX5_fails 0 = .ok (.aload_n 0, 1) := by decide +kernel
theorem dX5_fails_1 : decode cX5_fails 1 = .ok (.iload_n 1, 1) := by decide +kernel
theorem dX5_fails_2 : decode cX5_fails 2 = .ok (.putfield 50, 3) := by decide +kernel
theorem dX5_fails_5 : decode cX5_fails 5 = .ok (.bipush (-10), 2) := by decide +kernel
theorem dX5_fails_7 : decode cX5_fails 7 = .ok (.iload_n 1, 1) := by decide +kernel
theorem dX5_fails_8 : decode cX5_fails 8 = .ok (.isub, 1) := by decide +kernel
theorem dX5_fails_9 : decode cX5_fails 9 = .ok (.ireturn, 1) := by decide +kernel
theorem dX5_lost_0 : decode cX5_lost 0 = .ok (.aload_n 0, 1) := by decide +kernel
theorem dX5_lost_1 : decode cX5_lost 1 = .ok (.iload_n 1, 1) := by decide +kernel
theorem dX5_lost_2 : decode cX5_lost 2 = .ok (.putfield 50, 3) := by decide +kernel
theorem dX5_lost_5 : decode cX5_lost 5 = .ok (.ldc2_w 54, 3) := by decide +kernel
theorem dX5_lost_8 : decode cX5_lost 8 = .ok (.lreturn, 1) := by decide +kernel
theorem dX5_within_0 : decode cX5_within 0 = .ok (.iload_n 0, 1) := by decide +kernel
theorem dX5_within_1 : decode cX5_within 1 = .ok (.iload_n 1, 1) := by decide +kernel
theorem dX5_within_2 : decode cX5_within 2 = .ok (.if_icmp .lt 12, 3) := by decide +kernel
theorem dX5_within_5 : decode cX5_within 5 = .ok (.iload_n 0, 1) := by decide +kernel
theorem dX5_within_6 : decode cX5_within 6 = .ok (.iload_n 2, 1) := by decide +kernel
theorem dX5_within_7 : decode cX5_within 7 = .ok (.if_icmp .gt 7, 3) := by decide +kernel
theorem dX5_within_10 : decode cX5_within 10 = .ok (.iconst 1, 1) := by decide +kernel
theorem dX5_within_11 : decode cX5_within 11 = .ok (.goto 4, 3) := by decide +kernel
theorem dX5_within_14 : decode cX5_within 14 = .ok (.iconst 0, 1) := by decide +kernel
theorem dX5_within_15 : decode cX5_within 15 = .ok (.ireturn, 1) := by decide +kernel
set_option maxRecDepth 20000 in
theorem ggX5_isSheet_X5_within : GoodIn wsX5_isSheet wsX5_within := goodIn_r _ [4] (by decide +kernel) (by decide +kernel)
set_option maxRecDepth 20000 in
theorem gX5_isSheet_X5_within : GoodIn wsX5_isSheet (va_wsS RX5 56 yX5_within wsX5_within) := goodIn_app (goodIn_of _ (by decide +kernel)) ggX5_isSheet_X5_within
theorem dX5_isSheet_0 : decode cX5_isSheet 0 = .ok (.iload_n 0, 1) := by decide +kernel
theorem dX5_isSheet_1 : decode cX5_isSheet 1 = .ok (.iconst 0, 1) := by decide +kernel
theorem dX5_isSheet_2 : decode cX5_isSheet 2 = .ok (.iconst 3, 1) := by decide +kernel
theorem dX5_isSheet_3 : decode cX5_isSheet 3 = .ok (.invokestatic 56, 3) := by decide +kernel
theorem dX5_isSheet_6 : decode cX5_isSheet 6 = .ok (.ireturn, 1) := by decide +kernel
set_option maxRecDepth 20000 in
theorem ggX5_isSort_X5_within : GoodIn wsX5_isSort wsX5_within := goodIn_r _ [4] (by decide +kernel) (by decide +kernel)
set_option maxRecDepth 20000 in
theorem gX5_isSort_X5_within : GoodIn wsX5_isSort (va_wsS RX5 56 yX5_within wsX5_within) := goodIn_app (goodIn_of _ (by decide +kernel)) ggX5_isSort_X5_within
theorem dX5_isSort_0 : decode cX5_isSort 0 = .ok (.iload_n 0, 1) := by decide +kernel
theorem dX5_isSort_1 : decode cX5_isSort 1 = .ok (.iconst 0, 1) := by decide +kernel
theorem dX5_isSort_2 : decode cX5_isSort 2 = .ok (.iconst 2, 1) := by decide +kernel
theorem dX5_isSort_3 : decode cX5_isSort 3 = .ok (.invokestatic 56, 3) := by decide +kernel
theorem dX5_isSort_6 : decode cX5_isSort 6 = .ok (.ireturn, 1) := by decide +kernel
theorem dX5_against_0 : decode cX5_against 0 = .ok (.aload_n 0, 1) := by decide +kernel
theorem dX5_against_1 : decode cX5_against 1 = .ok (.getfield 9, 3) := by decide +kernel
theorem dX5_against_4 : decode cX5_against 4 = .ok (.iload_n 1, 1) := by decide +kernel
theorem dX5_against_5 : decode cX5_against 5 = .ok (.iaload, 1) := by decide +kernel
theorem dX5_against_6 : decode cX5_against 6 = .ok (.bipush (-9), 2) := by decide +kernel
theorem dX5_against_8 : decode cX5_against 8 = .ok (.if_icmp .eq 15, 3) := by decide +kernel
theorem dX5_against_11 : decode cX5_against 11 = .ok (.aload_n 0, 1) := by decide +kernel
theorem dX5_against_12 : decode cX5_against 12 = .ok (.getfield 9, 3) := by decide +kernel
theorem dX5_against_15 : decode cX5_against 15 = .ok (.iload_n 1, 1) := by decide +kernel
theorem dX5_against_16 : decode cX5_against 16 = .ok (.iaload, 1) := by decide +kernel
theorem dX5_against_17 : decode cX5_against 17 = .ok (.iload_n 2, 1) := by decide +kernel
theorem dX5_against_18 : decode cX5_against 18 = .ok (.if_icmp .eq 5, 3) := by decide +kernel
theorem dX5_against_21 : decode cX5_against 21 = .ok (.iconst 2, 1) := by decide +kernel
theorem dX5_against_22 : decode cX5_against 22 = .ok (.ireturn, 1) := by decide +kernel
theorem dX5_against_23 : decode cX5_against 23 = .ok (.aload_n 0, 1) := by decide +kernel
theorem dX5_against_24 : decode cX5_against 24 = .ok (.getfield 9, 3) := by decide +kernel
theorem dX5_against_27 : decode cX5_against 27 = .ok (.iload_n 1, 1) := by decide +kernel
theorem dX5_against_28 : decode cX5_against 28 = .ok (.iaload, 1) := by decide +kernel
theorem dX5_against_29 : decode cX5_against 29 = .ok (.bipush (-9), 2) := by decide +kernel
theorem dX5_against_31 : decode cX5_against 31 = .ok (.if_icmp .ne 5, 3) := by decide +kernel
theorem dX5_against_34 : decode cX5_against 34 = .ok (.iconst 1, 1) := by decide +kernel
theorem dX5_against_35 : decode cX5_against 35 = .ok (.ireturn, 1) := by decide +kernel
theorem dX5_against_36 : decode cX5_against 36 = .ok (.iload 4, 2) := by decide +kernel
theorem dX5_against_38 : decode cX5_against 38 = .ok (.ifCond .ge 5, 3) := by decide +kernel
theorem dX5_against_41 : decode cX5_against 41 = .ok (.iconst 4, 1) := by decide +kernel
theorem dX5_against_42 : decode cX5_against 42 = .ok (.ireturn, 1) := by decide +kernel
theorem dX5_against_43 : decode cX5_against 43 = .ok (.iload_n 3, 1) := by decide +kernel
theorem dX5_against_44 : decode cX5_against 44 = .ok (.ifCond .lt 26, 3) := by decide +kernel
theorem dX5_against_47 : decode cX5_against 47 = .ok (.iload_n 3, 1) := by decide +kernel
theorem dX5_against_48 : decode cX5_against 48 = .ok (.aload_n 0, 1) := by decide +kernel
theorem dX5_against_49 : decode cX5_against 49 = .ok (.getfield 13, 3) := by decide +kernel
theorem dX5_against_52 : decode cX5_against 52 = .ok (.iload_n 1, 1) := by decide +kernel
theorem dX5_against_53 : decode cX5_against 53 = .ok (.iaload, 1) := by decide +kernel
theorem dX5_against_54 : decode cX5_against 54 = .ok (.if_icmp .gt 16, 3) := by decide +kernel
theorem dX5_against_57 : decode cX5_against 57 = .ok (.iload 4, 2) := by decide +kernel
theorem dX5_against_59 : decode cX5_against 59 = .ok (.aload_n 0, 1) := by decide +kernel
theorem dX5_against_60 : decode cX5_against 60 = .ok (.getfield 13, 3) := by decide +kernel
theorem dX5_against_63 : decode cX5_against 63 = .ok (.iload_n 1, 1) := by decide +kernel
theorem dX5_against_64 : decode cX5_against 64 = .ok (.iaload, 1) := by decide +kernel
theorem dX5_against_65 : decode cX5_against 65 = .ok (.iload_n 3, 1) := by decide +kernel
theorem dX5_against_66 : decode cX5_against 66 = .ok (.isub, 1) := by decide +kernel
theorem dX5_against_67 : decode cX5_against 67 = .ok (.if_icmp .le 7, 3) := by decide +kernel
theorem dX5_against_70 : decode cX5_against 70 = .ok (.iconst 3, 1) := by decide +kernel
theorem dX5_against_71 : decode cX5_against 71 = .ok (.goto 4, 3) := by decide +kernel
theorem dX5_against_74 : decode cX5_against 74 = .ok (.iconst 0, 1) := by decide +kernel
theorem dX5_against_75 : decode cX5_against 75 = .ok (.ireturn, 1) := by decide +kernel
theorem dX5_isStander_0 : decode cX5_isStander 0 = .ok (.iload_n 1, 1) := by decide +kernel
theorem dX5_isStander_1 : decode cX5_isStander 1 = .ok (.ifCond .lt 15, 3) := by decide +kernel
theorem dX5_isStander_4 : decode cX5_isStander 4 = .ok (.iload_n 1, 1) := by decide +kernel
theorem dX5_isStander_5 : decode cX5_isStander 5 = .ok (.aload_n 0, 1) := by decide +kernel
theorem dX5_isStander_6 : decode cX5_isStander 6 = .ok (.getfield 60, 3) := by decide +kernel
theorem dX5_isStander_9 : decode cX5_isStander 9 = .ok (.if_icmp .ge 7, 3) := by decide +kernel
theorem dX5_isStander_12 : decode cX5_isStander 12 = .ok (.iconst 1, 1) := by decide +kernel
theorem dX5_isStander_13 : decode cX5_isStander 13 = .ok (.goto 4, 3) := by decide +kernel
theorem dX5_isStander_16 : decode cX5_isStander 16 = .ok (.iconst 0, 1) := by decide +kernel
theorem dX5_isStander_17 : decode cX5_isStander 17 = .ok (.ireturn, 1) := by decide +kernel
set_option maxRecDepth 20000 in
theorem ggX5_isDigit_X5_within : GoodIn wsX5_isDigit wsX5_within := goodIn_r _ [4] (by decide +kernel) (by decide +kernel)
set_option maxRecDepth 20000 in
theorem gX5_isDigit_X5_within : GoodIn wsX5_isDigit (va_wsS RX5 56 yX5_within wsX5_within) := goodIn_app (goodIn_of _ (by decide +kernel)) ggX5_isDigit_X5_within
theorem dX5_isDigit_0 : decode cX5_isDigit 0 = .ok (.iload_n 0, 1) := by decide +kernel
theorem dX5_isDigit_1 : decode cX5_isDigit 1 = .ok (.iconst 0, 1) := by decide +kernel
theorem dX5_isDigit_2 : decode cX5_isDigit 2 = .ok (.bipush 9, 2) := by decide +kernel
theorem dX5_isDigit_4 : decode cX5_isDigit 4 = .ok (.invokestatic 56, 3) := by decide +kernel
theorem dX5_isDigit_7 : decode cX5_isDigit 7 = .ok (.ireturn, 1) := by decide +kernel
set_option maxRecDepth 20000 in
theorem ggX5_isSun_X5_within : GoodIn wsX5_isSun wsX5_within := goodIn_r _ [4] (by decide +kernel) (by decide +kernel)
set_option maxRecDepth 20000 in
theorem gX5_isSun_X5_within : GoodIn wsX5_isSun (va_wsS RX5 56 yX5_within wsX5_within) := goodIn_app (goodIn_of _ (by decide +kernel)) ggX5_isSun_X5_within
theorem dX5_isSun_0 : decode cX5_isSun 0 = .ok (.iload_n 0, 1) := by decide +kernel
theorem dX5_isSun_1 : decode cX5_isSun 1 = .ok (.iconst 1, 1) := by decide +kernel
theorem dX5_isSun_2 : decode cX5_isSun 2 = .ok (.iconst 3, 1) := by decide +kernel
theorem dX5_isSun_3 : decode cX5_isSun 3 = .ok (.invokestatic 56, 3) := by decide +kernel
theorem dX5_isSun_6 : decode cX5_isSun 6 = .ok (.ireturn, 1) := by decide +kernel
set_option maxRecDepth 20000 in
theorem ggX5_digit_X5_within : GoodIn wsX5_digit wsX5_within := goodIn_r _ [6] (by decide +kernel) (by decide +kernel)
set_option maxRecDepth 20000 in
theorem gX5_digit_X5_within : GoodIn wsX5_digit (va_wsS RX5 56 yX5_within wsX5_within) := goodIn_app (goodIn_of _ (by decide +kernel)) ggX5_digit_X5_within
theorem dX5_digit_0 : decode cX5_digit 0 = .ok (.aload_n 0, 1) := by decide +kernel
theorem dX5_digit_1 : decode cX5_digit 1 = .ok (.getfield 63, 3) := by decide +kernel
theorem dX5_digit_4 : decode cX5_digit 4 = .ok (.iload_n 1, 1) := by decide +kernel
theorem dX5_digit_5 : decode cX5_digit 5 = .ok (.if_icmp .ge 24, 3) := by decide +kernel
theorem dX5_digit_8 : decode cX5_digit 8 = .ok (.aload_n 0, 1) := by decide +kernel
theorem dX5_digit_9 : decode cX5_digit 9 = .ok (.getfield 16, 3) := by decide +kernel
theorem dX5_digit_12 : decode cX5_digit 12 = .ok (.aload_n 0, 1) := by decide +kernel
theorem dX5_digit_13 : decode cX5_digit 13 = .ok (.getfield 63, 3) := by decide +kernel
theorem dX5_digit_16 : decode cX5_digit 16 = .ok (.iaload, 1) := by decide +kernel
theorem dX5_digit_17 : decode cX5_digit 17 = .ok (.bipush 48, 2) := by decide +kernel
theorem dX5_digit_19 : decode cX5_digit 19 = .ok (.iload_n 2, 1) := by decide +kernel
theorem dX5_digit_20 : decode cX5_digit 20 = .ok (.iadd, 1) := by decide +kernel
theorem dX5_digit_21 : decode cX5_digit 21 = .ok (.bipush 57, 2) := by decide +kernel
theorem dX5_digit_23 : decode cX5_digit 23 = .ok (.invokestatic 56, 3) := by decide +kernel
theorem dX5_digit_26 : decode cX5_digit 26 = .ok (.ifCond .ne 6, 3) := by decide +kernel
theorem dX5_digit_29 : decode cX5_digit 29 = .ok (.bipush (-9), 2) := by decide +kernel
theorem dX5_digit_31 : decode cX5_digit 31 = .ok (.ireturn, 1) := by decide +kernel
theorem dX5_digit_32 : decode cX5_digit 32 = .ok (.aload_n 0, 1) := by decide +kernel
theorem dX5_digit_33 : decode cX5_digit 33 = .ok (.dup, 1) := by decide +kernel
theorem dX5_digit_34 : decode cX5_digit 34 = .ok (.getfield 63, 3) := by decide +kernel
theorem dX5_digit_37 : decode cX5_digit 37 = .ok (.iconst 1, 1) := by decide +kernel
theorem dX5_digit_38 : decode cX5_digit 38 = .ok (.iadd, 1) := by decide +kernel
theorem dX5_digit_39 : decode cX5_digit 39 = .ok (.putfield 63, 3) := by decide +kernel
theorem dX5_digit_42 : decode cX5_digit 42 = .ok (.aload_n 0, 1) := by decide +kernel
theorem dX5_digit_43 : decode cX5_digit 43 = .ok (.getfield 16, 3) := by decide +kernel
theorem dX5_digit_46 : decode cX5_digit 46 = .ok (.aload_n 0, 1) := by decide +kernel
theorem dX5_digit_47 : decode cX5_digit 47 = .ok (.getfield 63, 3) := by decide +kernel
theorem dX5_digit_50 : decode cX5_digit 50 = .ok (.iconst 1, 1) := by decide +kernel
theorem dX5_digit_51 : decode cX5_digit 51 = .ok (.isub, 1) := by decide +kernel
theorem dX5_digit_52 : decode cX5_digit 52 = .ok (.iaload, 1) := by decide +kernel
theorem dX5_digit_53 : decode cX5_digit 53 = .ok (.bipush 48, 2) := by decide +kernel
theorem dX5_digit_55 : decode cX5_digit 55 = .ok (.isub, 1) := by decide +kernel
theorem dX5_digit_56 : decode cX5_digit 56 = .ok (.ireturn, 1) := by decide +kernel
theorem dX5_isSign_0 : decode cX5_isSign 0 = .ok (.aload_n 0, 1) := by decide +kernel
theorem dX5_isSign_1 : decode cX5_isSign 1 = .ok (.getfield 63, 3) := by decide +kernel
theorem dX5_isSign_4 : decode cX5_isSign 4 = .ok (.iload_n 1, 1) := by decide +kernel
theorem dX5_isSign_5 : decode cX5_isSign 5 = .ok (.if_icmp .ge 16, 3) := by decide +kernel
theorem dX5_isSign_8 : decode cX5_isSign 8 = .ok (.aload_n 0, 1) := by decide +kernel
theorem dX5_isSign_9 : decode cX5_isSign 9 = .ok (.getfield 16, 3) := by decide +kernel
theorem dX5_isSign_12 : decode cX5_isSign 12 = .ok (.aload_n 0, 1) := by decide +kernel
theorem dX5_isSign_13 : decode cX5_isSign 13 = .ok (.getfield 63, 3) := by decide +kernel
theorem dX5_isSign_16 : decode cX5_isSign 16 = .ok (.iaload, 1) := by decide +kernel
theorem dX5_isSign_17 : decode cX5_isSign 17 = .ok (.iload_n 2, 1) := by decide +kernel
theorem dX5_isSign_18 : decode cX5_isSign 18 = .ok (.if_icmp .eq 5, 3) := by decide +kernel
theorem dX5_isSign_21 : decode cX5_isSign 21 = .ok (.iconst 0, 1) := by decide +kernel
theorem dX5_isSign_22 : decode cX5_isSign 22 = .ok (.ireturn, 1) := by decide +kernel
theorem dX5_isSign_23 : decode cX5_isSign 23 = .ok (.aload_n 0, 1) := by decide +kernel
theorem dX5_isSign_24 : decode cX5_isSign 24 = .ok (.dup, 1) := by decide +kernel
theorem dX5_isSign_25 : decode cX5_isSign 25 = .ok (.getfield 63, 3) := by decide +kernel
theorem dX5_isSign_28 : decode cX5_isSign 28 = .ok (.iconst 1, 1) := by decide +kernel
theorem dX5_isSign_29 : decode cX5_isSign 29 = .ok (.iadd, 1) := by decide +kernel
theorem dX5_isSign_30 : decode cX5_isSign 30 = .ok (.putfield 63, 3) := by decide +kernel
theorem dX5_isSign_33 : decode cX5_isSign 33 = .ok (.iconst 1, 1) := by decide +kernel
theorem dX5_isSign_34 : decode cX5_isSign 34 = .ok (.ireturn, 1) := by decide +kernel
set_option maxRecDepth 20000 in
theorem ggX5_field_X5_isSheet : GoodIn wsX5_field wsX5_isSheet := goodIn_r _ [19, 20, 21, 18, 22] (by decide +kernel) (by decide +kernel)
set_option maxRecDepth 20000 in
theorem gX5_field_X5_isSheet : GoodIn wsX5_field (va_wsS RX5 66 yX5_isSheet wsX5_isSheet) := goodIn_app (goodIn_of _ (by decide +kernel)) ggX5_field_X5_isSheet
set_option maxRecDepth 20000 in
theorem ggX5_field_X5_isSort : GoodIn wsX5_field wsX5_isSort := goodIn_r _ [25, 20, 21, 18, 22] (by decide +kernel) (by decide +kernel)
set_option maxRecDepth 20000 in
theorem gX5_field_X5_isSort : GoodIn wsX5_field (va_wsS RX5 70 yX5_isSort wsX5_isSort) := goodIn_app (goodIn_of _ (by decide +kernel)) ggX5_field_X5_isSort
set_option maxRecDepth 20000 in
theorem ggX5_field_X5_against : GoodIn wsX5_field wsX5_against := goodIn_r _ [29, 30, 31, 53, 54, 55, 56, 57, 58, 59, 60, 61, 62, 63, 64, 65, 66, 67, 68, 69, 70, 71, 72, 73, 74, 75, 76, 77, 78, 79, 80, 81] (by decide +kernel) (by decide +kernel)
set_option maxRecDepth 20000 in
theorem gX5_field_X5_against : GoodIn wsX5_field (wsV RX5 73 RX5 yX5_against wsX5_against) := goodIn_app (goodIn_of _ (by decide +kernel)) ggX5_field_X5_against
set_option maxRecDepth 20000 in
theorem ggX5_field_X5_fails : GoodIn wsX5_field wsX5_fails := goodIn_r _ [35, 1, 53, 54, 55, 56, 57, 58, 59, 60, 61, 62, 63, 64, 65, 66, 67, 68, 69, 70, 71, 72, 73, 74, 75, 76, 77, 78, 79, 80, 81] (by decide +kernel) (by decide +kernel)
set_option maxRecDepth 20000 in
theorem gX5_field_X5_fails : GoodIn wsX5_field (wsV RX5 77 RX5 yX5_fails wsX5_fails) := goodIn_app (goodIn_of _ (by decide +kernel)) ggX5_field_X5_fails
set_option maxRecDepth 20000 in
theorem ggX5_field_X5_readField : GoodIn wsX5_field wsX5_readField := goodIn_r _ [39, 7, 3, 5, 2, 40, 41, 42, 18, 43, 44, 45, 46, 47, 48, 20, 21, 22, 49, 50, 51, 52, 10, 12, 14, 53, 54, 55, 56, 57, 58, 59, 60, 61, 62, 63, 64, 65, 66, 67, 68, 69, 70, 71, 72, 73, 74, 75, 76, 77, 78, 79, 80, 81] (by decide +kernel) (by decide +kernel)
set_option maxRecDepth 20000 in
theorem gX5_field_X5_readField : GoodIn wsX5_field (wsV RX5 81 RX5 yX5_readField wsX5_readField) := goodIn_app (goodIn_of _ (by decide +kernel)) ggX5_field_X5_readField
theorem dX5_field_0 : decode cX5_field 0 = .ok (.aload_n 0, 1) := by decide +kernel
theorem dX5_field_1 : decode cX5_field 1 = .ok (.iconst 0, 1) := by decide +kernel
theorem dX5_field_2 : decode cX5_field 2 = .ok (.putfield 50, 3) := by decide +kernel
theorem dX5_field_5 : decode cX5_field 5 = .ok (.iload_n 1, 1) := by decide +kernel
theorem dX5_field_6 : decode cX5_field 6 = .ok (.invokestatic 66, 3) := by decide +kernel
theorem dX5_field_9 : decode cX5_field 9 = .ok (.ifCond .ne 5, 3) := by decide +kernel
theorem dX5_field_12 : decode cX5_field 12 = .ok (.iconst (-1), 1) := by decide +kernel
theorem dX5_field_13 : decode cX5_field 13 = .ok (.ireturn, 1) := by decide +kernel
theorem dX5_field_14 : decode cX5_field 14 = .ok (.iload_n 2, 1) := by decide +kernel
theorem dX5_field_15 : decode cX5_field 15 = .ok (.invokestatic 70, 3) := by decide +kernel
theorem dX5_field_18 : decode cX5_field 18 = .ok (.ifCond .ne 6, 3) := by decide +kernel
theorem dX5_field_21 : decode cX5_field 21 = .ok (.bipush (-2), 2) := by decide +kernel
theorem dX5_field_23 : decode cX5_field 23 = .ok (.ireturn, 1) := by decide +kernel
theorem dX5_field_24 : decode cX5_field 24 = .ok (.aload_n 0, 1) := by decide +kernel
theorem dX5_field_25 : decode cX5_field 25 = .ok (.iload_n 1, 1) := by decide +kernel
theorem dX5_field_26 : decode cX5_field 26 = .ok (.iload_n 2, 1) := by decide +kernel
theorem dX5_field_27 : decode cX5_field 27 = .ok (.iload_n 3, 1) := by decide +kernel
theorem dX5_field_28 : decode cX5_field 28 = .ok (.iload 4, 2) := by decide +kernel
theorem dX5_field_30 : decode cX5_field 30 = .ok (.invokevirtual 73, 3) := by decide +kernel
theorem dX5_field_33 : decode cX5_field 33 = .ok (.istore 5, 2) := by decide +kernel
theorem dX5_field_35 : decode cX5_field 35 = .ok (.iload 5, 2) := by decide +kernel
theorem dX5_field_37 : decode cX5_field 37 = .ok (.ifCond .eq 10, 3) := by decide +kernel
theorem dX5_field_40 : decode cX5_field 40 = .ok (.aload_n 0, 1) := by decide +kernel
theorem dX5_field_41 : decode cX5_field 41 = .ok (.iload 5, 2) := by decide +kernel
theorem dX5_field_43 : decode cX5_field 43 = .ok (.invokevirtual 77, 3) := by decide +kernel
theorem dX5_field_46 : decode cX5_field 46 = .ok (.ireturn, 1) := by decide +kernel
theorem dX5_field_47 : decode cX5_field 47 = .ok (.bipush 60, 2) := by decide +kernel
theorem dX5_field_49 : decode cX5_field 49 = .ok (.iload_n 1, 1) := by decide +kernel
theorem dX5_field_50 : decode cX5_field 50 = .ok (.imul, 1) := by decide +kernel
theorem dX5_field_51 : decode cX5_field 51 = .ok (.iload_n 3, 1) := by decide +kernel
theorem dX5_field_52 : decode cX5_field 52 = .ok (.iadd, 1) := by decide +kernel
theorem dX5_field_53 : decode cX5_field 53 = .ok (.istore 6, 2) := by decide +kernel
theorem dX5_field_55 : decode cX5_field 55 = .ok (.aload_n 0, 1) := by decide +kernel
theorem dX5_field_56 : decode cX5_field 56 = .ok (.iload 6, 2) := by decide +kernel
theorem dX5_field_58 : decode cX5_field 58 = .ok (.putfield 63, 3) := by decide +kernel
theorem dX5_field_61 : decode cX5_field 61 = .ok (.aload_n 0, 1) := by decide +kernel
theorem dX5_field_62 : decode cX5_field 62 = .ok (.iload 6, 2) := by decide +kernel
theorem dX5_field_64 : decode cX5_field 64 = .ok (.iload 4, 2) := by decide +kernel
theorem dX5_field_66 : decode cX5_field 66 = .ok (.iadd, 1) := by decide +kernel
theorem dX5_field_67 : decode cX5_field 67 = .ok (.invokevirtual 81, 3) := by decide +kernel
theorem dX5_field_70 : decode cX5_field 70 = .ok (.ifCond .ne 14, 3) := by decide +kernel
theorem dX5_field_73 : decode cX5_field 73 = .ok (.bipush (-100), 2) := by decide +kernel
theorem dX5_field_75 : decode cX5_field 75 = .ok (.aload_n 0, 1) := by decide +kernel
theorem dX5_field_76 : decode cX5_field 76 = .ok (.getfield 63, 3) := by decide +kernel
theorem dX5_field_79 : decode cX5_field 79 = .ok (.iload 6, 2) := by decide +kernel
theorem dX5_field_81 : decode cX5_field 81 = .ok (.isub, 1) := by decide +kernel
theorem dX5_field_82 : decode cX5_field 82 = .ok (.isub, 1) := by decide +kernel
theorem dX5_field_83 : decode cX5_field 83 = .ok (.ireturn, 1) := by decide +kernel
theorem dX5_field_84 : decode cX5_field 84 = .ok (.aload_n 0, 1) := by decide +kernel
theorem dX5_field_85 : decode cX5_field 85 = .ok (.aload_n 0, 1) := by decide +kernel
theorem dX5_field_86 : decode cX5_field 86 = .ok (.getfield 84, 3) := by decide +kernel
theorem dX5_field_89 : decode cX5_field 89 = .ok (.putfield 87, 3) := by decide +kernel
theorem dX5_field_92 : decode cX5_field 92 = .ok (.aload_n 0, 1) := by decide +kernel
theorem dX5_field_93 : decode cX5_field 93 = .ok (.aload_n 0, 1) := by decide +kernel
theorem dX5_field_94 : decode cX5_field 94 = .ok (.getfield 90, 3) := by decide +kernel
theorem dX5_field_97 : decode cX5_field 97 = .ok (.putfield 93, 3) := by decide +kernel
theorem dX5_field_100 : decode cX5_field 100 = .ok (.aload_n 0, 1) := by decide +kernel
theorem dX5_field_101 : decode cX5_field 101 = .ok (.aload_n 0, 1) := by decide +kernel
theorem dX5_field_102 : decode cX5_field 102 = .ok (.getfield 96, 3) := by decide +kernel
theorem dX5_field_105 : decode cX5_field 105 = .ok (.putfield 60, 3) := by decide +kernel
theorem dX5_field_108 : decode cX5_field 108 = .ok (.iconst 0, 1) := by decide +kernel
theorem dX5_field_109 : decode cX5_field 109 = .ok (.istore 7, 2) := by decide +kernel
theorem dX5_field_111 : decode cX5_field 111 = .ok (.iload 7, 2) := by decide +kernel
theorem dX5_field_113 : decode cX5_field 113 = .ok (.aload_n 0, 1) := by decide +kernel
theorem dX5_field_114 : decode cX5_field 114 = .ok (.getfield 60, 3) := by decide +kernel
theorem dX5_field_117 : decode cX5_field 117 = .ok (.if_icmp .ge 51, 3) := by decide +kernel
theorem dX5_field_120 : decode cX5_field 120 = .ok (.aload_n 0, 1) := by decide +kernel
theorem dX5_field_121 : decode cX5_field 121 = .ok (.getfield 19, 3) := by decide +kernel
theorem dX5_field_124 : decode cX5_field 124 = .ok (.iload 7, 2) := by decide +kernel
theorem dX5_field_126 : decode cX5_field 126 = .ok (.aload_n 0, 1) := by decide +kernel
theorem dX5_field_127 : decode cX5_field 127 = .ok (.getfield 28, 3) := by decide +kernel
theorem dX5_field_130 : decode cX5_field 130 = .ok (.iload 7, 2) := by decide +kernel
theorem dX5_field_132 : decode cX5_field 132 = .ok (.iaload, 1) := by decide +kernel
theorem dX5_field_133 : decode cX5_field 133 = .ok (.iastore, 1) := by decide +kernel
theorem dX5_field_134 : decode cX5_field 134 = .ok (.aload_n 0, 1) := by decide +kernel
theorem dX5_field_135 : decode cX5_field 135 = .ok (.getfield 22, 3) := by decide +kernel
theorem dX5_field_138 : decode cX5_field 138 = .ok (.iload 7, 2) := by decide +kernel
theorem dX5_field_140 : decode cX5_field 140 = .ok (.aload_n 0, 1) := by decide +kernel
theorem dX5_field_141 : decode cX5_field 141 = .ok (.getfield 31, 3) := by decide +kernel
theorem dX5_field_144 : decode cX5_field 144 = .ok (.iload 7, 2) := by decide +kernel
theorem dX5_field_146 : decode cX5_field 146 = .ok (.iaload, 1) := by decide +kernel
theorem dX5_field_147 : decode cX5_field 147 = .ok (.iastore, 1) := by decide +kernel
theorem dX5_field_148 : decode cX5_field 148 = .ok (.aload_n 0, 1) := by decide +kernel
theorem dX5_field_149 : decode cX5_field 149 = .ok (.getfield 25, 3) := by decide +kernel
theorem dX5_field_152 : decode cX5_field 152 = .ok (.iload 7, 2) := by decide +kernel
theorem dX5_field_154 : decode cX5_field 154 = .ok (.aload_n 0, 1) := by decide +kernel
theorem dX5_field_155 : decode cX5_field 155 = .ok (.getfield 34, 3) := by decide +kernel
theorem dX5_field_158 : decode cX5_field 158 = .ok (.iload 7, 2) := by decide +kernel
theorem dX5_field_160 : decode cX5_field 160 = .ok (.iaload, 1) := by decide +kernel
theorem dX5_field_161 : decode cX5_field 161 = .ok (.iastore, 1) := by decide +kernel
theorem dX5_field_162 : decode cX5_field 162 = .ok (.iinc 7 1, 3) := by decide +kernel
theorem dX5_field_165 : decode cX5_field 165 = .ok (.goto (-54), 3) := by decide +kernel
theorem dX5_field_168 : decode cX5_field 168 = .ok (.aload_n 0, 1) := by decide +kernel
theorem dX5_field_169 : decode cX5_field 169 = .ok (.iconst 0, 1) := by decide +kernel
theorem dX5_field_170 : decode cX5_field 170 = .ok (.putfield 99, 3) := by decide +kernel
theorem dX5_field_173 : decode cX5_field 173 = .ok (.aload_n 0, 1) := by decide +kernel
theorem dX5_field_174 : decode cX5_field 174 = .ok (.getfield 60, 3) := by decide +kernel
theorem dX5_field_177 : decode cX5_field 177 = .ok (.ireturn, 1) := by decide +kernel
set_option maxRecDepth 20000 in
theorem ggX5_readField_X5_isSign : GoodIn wsX5_readField wsX5_isSign := goodIn_r _ [9, 4, 10, 25, 26, 27, 28, 29, 30, 31, 32, 33, 34, 35, 36, 37, 38, 39, 40, 41, 42, 43, 44, 45, 46, 47, 48, 49, 50, 51, 52, 53] (by decide +kernel) (by decide +kernel)
set_option maxRecDepth 20000 in
theorem gX5_readField_X5_isSign : GoodIn wsX5_readField (wsV RX5 102 RX5 yX5_isSign wsX5_isSign) := goodIn_app (goodIn_of _ (by decide +kernel)) ggX5_readField_X5_isSign
set_option maxRecDepth 20000 in
theorem ggX5_readField_X5_digit : GoodIn wsX5_readField wsX5_digit := goodIn_r _ [14, 4, 10, 15, 16, 8, 17, 25, 26, 27, 28, 29, 30, 31, 32, 33, 34, 35, 36, 37, 38, 39, 40, 41, 42, 43, 44, 45, 46, 47, 48, 49, 50, 51, 52, 53] (by decide +kernel) (by decide +kernel)
set_option maxRecDepth 20000 in
theorem gX5_readField_X5_digit : GoodIn wsX5_readField (wsV RX5 106 RX5 yX5_digit wsX5_digit) := goodIn_app (goodIn_of _ (by decide +kernel)) ggX5_readField_X5_digit
set_option maxRecDepth 20000 in
theorem ggX5_readField_X5_readStander : GoodIn wsX5_readField wsX5_readStander := goodIn_r _ [21, 4, 10, 22, 1, 23, 24, 11, 12, 13, 8, 14, 15, 16, 17, 25, 26, 27, 28, 29, 30, 31, 32, 33, 34, 35, 36, 37, 38, 39, 40, 41, 42, 43, 44, 45, 46, 47, 48, 49, 50, 51, 52, 53] (by decide +kernel) (by decide +kernel)
set_option maxRecDepth 20000 in
theorem gX5_readField_X5_readStander : GoodIn wsX5_readField (wsV RX5 110 RX5 yX5_readStander wsX5_readStander) := goodIn_app (goodIn_of _ (by decide +kernel)) ggX5_readField_X5_readStander
theorem dX5_readField_0 : decode cX5_readField 0 = .ok (.aload_n 0, 1) := by decide +kernel
theorem dX5_readField_1 : decode cX5_readField 1 = .ok (.iconst 0, 1) := by decide +kernel
theorem dX5_readField_2 : decode cX5_readField 2 = .ok (.putfield 96, 3) := by decide +kernel
theorem dX5_readField_5 : decode cX5_readField 5 = .ok (.aload_n 0, 1) := by decide +kernel
theorem dX5_readField_6 : decode cX5_readField 6 = .ok (.iload_n 1, 1) := by decide +kernel
theorem dX5_readField_7 : decode cX5_readField 7 = .ok (.bipush 102, 2) := by decide +kernel
theorem dX5_readField_9 : decode cX5_readField 9 = .ok (.invokevirtual 102, 3) := by decide +kernel
theorem dX5_readField_12 : decode cX5_readField 12 = .ok (.ifCond .ne 5, 3) := by decide +kernel
theorem dX5_readField_15 : decode cX5_readField 15 = .ok (.iconst 0, 1) := by decide +kernel
theorem dX5_readField_16 : decode cX5_readField 16 = .ok (.ireturn, 1) := by decide +kernel
theorem dX5_readField_17 : decode cX5_readField 17 = .ok (.aload_n 0, 1) := by decide +kernel
theorem dX5_readField_18 : decode cX5_readField 18 = .ok (.aload_n 0, 1) := by decide +kernel
theorem dX5_readField_19 : decode cX5_readField 19 = .ok (.iload_n 1, 1) := by decide +kernel
theorem dX5_readField_20 : decode cX5_readField 20 = .ok (.iconst 1, 1) := by decide +kernel
theorem dX5_readField_21 : decode cX5_readField 21 = .ok (.invokevirtual 106, 3) := by decide +kernel
theorem dX5_readField_24 : decode cX5_readField 24 = .ok (.putfield 84, 3) := by decide +kernel
theorem dX5_readField_27 : decode cX5_readField 27 = .ok (.aload_n 0, 1) := by decide +kernel
theorem dX5_readField_28 : decode cX5_readField 28 = .ok (.getfield 84, 3) := by decide +kernel
theorem dX5_readField_31 : decode cX5_readField 31 = .ok (.bipush (-9), 2) := by decide +kernel
theorem dX5_readField_33 : decode cX5_readField 33 = .ok (.if_icmp .ne 5, 3) := by decide +kernel
theorem dX5_readField_36 : decode cX5_readField 36 = .ok (.iconst 0, 1) := by decide +kernel
theorem dX5_readField_37 : decode cX5_readField 37 = .ok (.ireturn, 1) := by decide +kernel
theorem dX5_readField_38 : decode cX5_readField 38 = .ok (.aload_n 0, 1) := by decide +kernel
theorem dX5_readField_39 : decode cX5_readField 39 = .ok (.aload_n 0, 1) := by decide +kernel
theorem dX5_readField_40 : decode cX5_readField 40 = .ok (.iload_n 1, 1) := by decide +kernel
theorem dX5_readField_41 : decode cX5_readField 41 = .ok (.iconst 0, 1) := by decide +kernel
theorem dX5_readField_42 : decode cX5_readField 42 = .ok (.invokevirtual 106, 3) := by decide +kernel
theorem dX5_readField_45 : decode cX5_readField 45 = .ok (.putfield 90, 3) := by decide +kernel
theorem dX5_readField_48 : decode cX5_readField 48 = .ok (.aload_n 0, 1) := by decide +kernel
theorem dX5_readField_49 : decode cX5_readField 49 = .ok (.getfield 90, 3) := by decide +kernel
theorem dX5_readField_52 : decode cX5_readField 52 = .ok (.bipush (-9), 2) := by decide +kernel
theorem dX5_readField_54 : decode cX5_readField 54 = .ok (.if_icmp .ne 5, 3) := by decide +kernel
theorem dX5_readField_57 : decode cX5_readField 57 = .ok (.iconst 0, 1) := by decide +kernel
theorem dX5_readField_58 : decode cX5_readField 58 = .ok (.ireturn, 1) := by decide +kernel
theorem dX5_readField_59 : decode cX5_readField 59 = .ok (.aload_n 0, 1) := by decide +kernel
theorem dX5_readField_60 : decode cX5_readField 60 = .ok (.getfield 96, 3) := by decide +kernel
theorem dX5_readField_63 : decode cX5_readField 63 = .ok (.ifCond .eq 19, 3) := by decide +kernel
theorem dX5_readField_66 : decode cX5_readField 66 = .ok (.aload_n 0, 1) := by decide +kernel
theorem dX5_readField_67 : decode cX5_readField 67 = .ok (.getfield 96, 3) := by decide +kernel
theorem dX5_readField_70 : decode cX5_readField 70 = .ok (.iconst 5, 1) := by decide +kernel
theorem dX5_readField_71 : decode cX5_readField 71 = .ok (.if_icmp .ge 31, 3) := by decide +kernel
theorem dX5_readField_74 : decode cX5_readField 74 = .ok (.aload_n 0, 1) := by decide +kernel
theorem dX5_readField_75 : decode cX5_readField 75 = .ok (.getfield 63, 3) := by decide +kernel
theorem dX5_readField_78 : decode cX5_readField 78 = .ok (.iload_n 1, 1) := by decide +kernel
theorem dX5_readField_79 : decode cX5_readField 79 = .ok (.if_icmp .ge 23, 3) := by decide +kernel
theorem dX5_readField_82 : decode cX5_readField 82 = .ok (.aload_n 0, 1) := by decide +kernel
theorem dX5_readField_83 : decode cX5_readField 83 = .ok (.iload_n 1, 1) := by decide +kernel
theorem dX5_readField_84 : decode cX5_readField 84 = .ok (.bipush 59, 2) := by decide +kernel
theorem dX5_readField_86 : decode cX5_readField 86 = .ok (.invokevirtual 102, 3) := by decide +kernel
theorem dX5_readField_89 : decode cX5_readField 89 = .ok (.ifCond .eq 11, 3) := by decide +kernel
theorem dX5_readField_92 : decode cX5_readField 92 = .ok (.aload_n 0, 1) := by decide +kernel
theorem dX5_readField_93 : decode cX5_readField 93 = .ok (.iload_n 1, 1) := by decide +kernel
theorem dX5_readField_94 : decode cX5_readField 94 = .ok (.invokevirtual 110, 3) := by decide +kernel
theorem dX5_readField_97 : decode cX5_readField 97 = .ok (.ifCond .ne (-38), 3) := by decide +kernel
theorem dX5_readField_100 : decode cX5_readField 100 = .ok (.iconst 0, 1) := by decide +kernel
theorem dX5_readField_101 : decode cX5_readField 101 = .ok (.ireturn, 1) := by decide +kernel
theorem dX5_readField_102 : decode cX5_readField 102 = .ok (.aload_n 0, 1) := by decide +kernel
theorem dX5_readField_103 : decode cX5_readField 103 = .ok (.getfield 63, 3) := by decide +kernel
theorem dX5_readField_106 : decode cX5_readField 106 = .ok (.iload_n 1, 1) := by decide +kernel
theorem dX5_readField_107 : decode cX5_readField 107 = .ok (.if_icmp .ne 7, 3) := by decide +kernel
theorem dX5_readField_110 : decode cX5_readField 110 = .ok (.iconst 1, 1) := by decide +kernel
theorem dX5_readField_111 : decode cX5_readField 111 = .ok (.goto 4, 3) := by decide +kernel
theorem dX5_readField_114 : decode cX5_readField 114 = .ok (.iconst 0, 1) := by decide +kernel
theorem dX5_readField_115 : decode cX5_readField 115 = .ok (.ireturn, 1) := by decide +kernel
set_option maxRecDepth 20000 in
theorem ggX5_readStander_X5_digit : GoodIn wsX5_readStander wsX5_digit := goodIn_r _ [11, 1, 2, 12, 13, 10, 14, 15, 16, 17, 18, 19, 20, 21, 22, 23, 24, 25, 26, 27, 28, 29, 30, 31, 32, 33, 34, 35, 36, 37, 38, 39, 40, 41, 42, 43] (by decide +kernel) (by decide +kernel)
set_option maxRecDepth 20000 in
theorem gX5_readStander_X5_digit : GoodIn wsX5_readStander (wsV RX5 106 RX5 yX5_digit wsX5_digit) := goodIn_app (goodIn_of _ (by decide +kernel)) ggX5_readStander_X5_digit
theorem dX5_readStander_0 : decode cX5_readStander 0 = .ok (.aload_n 0, 1) := by decide +kernel
theorem dX5_readStander_1 : decode cX5_readStander 1 = .ok (.getfield 63, 3) := by decide +kernel
theorem dX5_readStander_4 : decode cX5_readStander 4 = .ok (.iload_n 1, 1) := by decide +kernel
theorem dX5_readStander_5 : decode cX5_readStander 5 = .ok (.if_icmp .ge 15, 3) := by decide +kernel
theorem dX5_readStander_8 : decode cX5_readStander 8 = .ok (.aload_n 0, 1) := by decide +kernel
theorem dX5_readStander_9 : decode cX5_readStander 9 = .ok (.getfield 16, 3) := by decide +kernel
theorem dX5_readStander_12 : decode cX5_readStander 12 = .ok (.aload_n 0, 1) := by decide +kernel
theorem dX5_readStander_13 : decode cX5_readStander 13 = .ok (.getfield 63, 3) := by decide +kernel
theorem dX5_readStander_16 : decode cX5_readStander 16 = .ok (.iaload, 1) := by decide +kernel
theorem dX5_readStander_17 : decode cX5_readStander 17 = .ok (.goto 4, 3) := by decide +kernel
theorem dX5_readStander_20 : decode cX5_readStander 20 = .ok (.iconst 0, 1) := by decide +kernel
theorem dX5_readStander_21 : decode cX5_readStander 21 = .ok (.istore_n 2, 1) := by decide +kernel
theorem dX5_readStander_22 : decode cX5_readStander 22 = .ok (.aload_n 0, 1) := by decide +kernel
theorem dX5_readStander_23 : decode cX5_readStander 23 = .ok (.getfield 28, 3) := by decide +kernel
theorem dX5_readStander_26 : decode cX5_readStander 26 = .ok (.aload_n 0, 1) := by decide +kernel
theorem dX5_readStander_27 : decode cX5_readStander 27 = .ok (.getfield 96, 3) := by decide +kernel
theorem dX5_readStander_30 : decode cX5_readStander 30 = .ok (.iload_n 2, 1) := by decide +kernel
theorem dX5_readStander_31 : decode cX5_readStander 31 = .ok (.bipush 115, 2) := by decide +kernel
theorem dX5_readStander_33 : decode cX5_readStander 33 = .ok (.if_icmp .ne 7, 3) := by decide +kernel
theorem dX5_readStander_36 : decode cX5_readStander 36 = .ok (.iconst 0, 1) := by decide +kernel
theorem dX5_readStander_37 : decode cX5_readStander 37 = .ok (.goto 25, 3) := by decide +kernel
theorem dX5_readStander_40 : decode cX5_readStander 40 = .ok (.iload_n 2, 1) := by decide +kernel
theorem dX5_readStander_41 : decode cX5_readStander 41 = .ok (.bipush 114, 2) := by decide +kernel
theorem dX5_readStander_43 : decode cX5_readStander 43 = .ok (.if_icmp .ne 7, 3) := by decide +kernel
theorem dX5_readStander_46 : decode cX5_readStander 46 = .ok (.iconst 1, 1) := by decide +kernel
theorem dX5_readStander_47 : decode cX5_readStander 47 = .ok (.goto 15, 3) := by decide +kernel
theorem dX5_readStander_50 : decode cX5_readStander 50 = .ok (.iload_n 2, 1) := by decide +kernel
theorem dX5_readStander_51 : decode cX5_readStander 51 = .ok (.bipush 112, 2) := by decide +kernel
theorem dX5_readStander_53 : decode cX5_readStander 53 = .ok (.if_icmp .ne 7, 3) := by decide +kernel
theorem dX5_readStander_56 : decode cX5_readStander 56 = .ok (.iconst 2, 1) := by decide +kernel
theorem dX5_readStander_57 : decode cX5_readStander 57 = .ok (.goto 5, 3) := by decide +kernel
theorem dX5_readStander_60 : decode cX5_readStander 60 = .ok (.bipush (-9), 2) := by decide +kernel
theorem dX5_readStander_62 : decode cX5_readStander 62 = .ok (.iastore, 1) := by decide +kernel
theorem dX5_readStander_63 : decode cX5_readStander 63 = .ok (.aload_n 0, 1) := by decide +kernel
theorem dX5_readStander_64 : decode cX5_readStander 64 = .ok (.getfield 28, 3) := by decide +kernel
theorem dX5_readStander_67 : decode cX5_readStander 67 = .ok (.aload_n 0, 1) := by decide +kernel
theorem dX5_readStander_68 : decode cX5_readStander 68 = .ok (.getfield 96, 3) := by decide +kernel
theorem dX5_readStander_71 : decode cX5_readStander 71 = .ok (.iaload, 1) := by decide +kernel
theorem dX5_readStander_72 : decode cX5_readStander 72 = .ok (.bipush (-9), 2) := by decide +kernel
theorem dX5_readStander_74 : decode cX5_readStander 74 = .ok (.if_icmp .ne 5, 3) := by decide +kernel
theorem dX5_readStander_77 : decode cX5_readStander 77 = .ok (.iconst 0, 1) := by decide +kernel
theorem dX5_readStander_78 : decode cX5_readStander 78 = .ok (.ireturn, 1) := by decide +kernel
theorem dX5_readStander_79 : decode cX5_readStander 79 = .ok (.aload_n 0, 1) := by decide +kernel
theorem dX5_readStander_80 : decode cX5_readStander 80 = .ok (.dup, 1) := by decide +kernel
theorem dX5_readStander_81 : decode cX5_readStander 81 = .ok (.getfield 63, 3) := by decide +kernel
theorem dX5_readStander_84 : decode cX5_readStander 84 = .ok (.iconst 1, 1) := by decide +kernel
theorem dX5_readStander_85 : decode cX5_readStander 85 = .ok (.iadd, 1) := by decide +kernel
theorem dX5_readStander_86 : decode cX5_readStander 86 = .ok (.putfield 63, 3) := by decide +kernel
theorem dX5_readStander_89 : decode cX5_readStander 89 = .ok (.aload_n 0, 1) := by decide +kernel
theorem dX5_readStander_90 : decode cX5_readStander 90 = .ok (.getfield 31, 3) := by decide +kernel
theorem dX5_readStander_93 : decode cX5_readStander 93 = .ok (.aload_n 0, 1) := by decide +kernel
theorem dX5_readStander_94 : decode cX5_readStander 94 = .ok (.getfield 96, 3) := by decide +kernel
theorem dX5_readStander_97 : decode cX5_readStander 97 = .ok (.aload_n 0, 1) := by decide +kernel
theorem dX5_readStander_98 : decode cX5_readStander 98 = .ok (.iload_n 1, 1) := by decide +kernel
theorem dX5_readStander_99 : decode cX5_readStander 99 = .ok (.iconst 0, 1) := by decide +kernel
theorem dX5_readStander_100 : decode cX5_readStander 100 = .ok (.invokevirtual 106, 3) := by decide +kernel
theorem dX5_readStander_103 : decode cX5_readStander 103 = .ok (.iastore, 1) := by decide +kernel
theorem dX5_readStander_104 : decode cX5_readStander 104 = .ok (.aload_n 0, 1) := by decide +kernel
theorem dX5_readStander_105 : decode cX5_readStander 105 = .ok (.getfield 31, 3) := by decide +kernel
theorem dX5_readStander_108 : decode cX5_readStander 108 = .ok (.aload_n 0, 1) := by decide +kernel
theorem dX5_readStander_109 : decode cX5_readStander 109 = .ok (.getfield 96, 3) := by decide +kernel
theorem dX5_readStander_112 : decode cX5_readStander 112 = .ok (.iaload, 1) := by decide +kernel
theorem dX5_readStander_113 : decode cX5_readStander 113 = .ok (.bipush (-9), 2) := by decide +kernel
theorem dX5_readStander_115 : decode cX5_readStander 115 = .ok (.if_icmp .ne 5, 3) := by decide +kernel
theorem dX5_readStander_118 : decode cX5_readStander 118 = .ok (.iconst 0, 1) := by decide +kernel
theorem dX5_readStander_119 : decode cX5_readStander 119 = .ok (.ireturn, 1) := by decide +kernel
theorem dX5_readStander_120 : decode cX5_readStander 120 = .ok (.aload_n 0, 1) := by decide +kernel
theorem dX5_readStander_121 : decode cX5_readStander 121 = .ok (.getfield 34, 3) := by decide +kernel
theorem dX5_readStander_124 : decode cX5_readStander 124 = .ok (.aload_n 0, 1) := by decide +kernel
theorem dX5_readStander_125 : decode cX5_readStander 125 = .ok (.getfield 96, 3) := by decide +kernel
theorem dX5_readStander_128 : decode cX5_readStander 128 = .ok (.aload_n 0, 1) := by decide +kernel
theorem dX5_readStander_129 : decode cX5_readStander 129 = .ok (.iload_n 1, 1) := by decide +kernel
theorem dX5_readStander_130 : decode cX5_readStander 130 = .ok (.iconst 0, 1) := by decide +kernel
theorem dX5_readStander_131 : decode cX5_readStander 131 = .ok (.invokevirtual 106, 3) := by decide +kernel
theorem dX5_readStander_134 : decode cX5_readStander 134 = .ok (.iastore, 1) := by decide +kernel
theorem dX5_readStander_135 : decode cX5_readStander 135 = .ok (.aload_n 0, 1) := by decide +kernel
theorem dX5_readStander_136 : decode cX5_readStander 136 = .ok (.dup, 1) := by decide +kernel
theorem dX5_readStander_137 : decode cX5_readStander 137 = .ok (.getfield 96, 3) := by decide +kernel
theorem dX5_readStander_140 : decode cX5_readStander 140 = .ok (.iconst 1, 1) := by decide +kernel
theorem dX5_readStander_141 : decode cX5_readStander 141 = .ok (.iadd, 1) := by decide +kernel
theorem dX5_readStander_142 : decode cX5_readStander 142 = .ok (.putfield 96, 3) := by decide +kernel
theorem dX5_readStander_145 : decode cX5_readStander 145 = .ok (.aload_n 0, 1) := by decide +kernel
theorem dX5_readStander_146 : decode cX5_readStander 146 = .ok (.getfield 34, 3) := by decide +kernel
theorem dX5_readStander_149 : decode cX5_readStander 149 = .ok (.aload_n 0, 1) := by decide +kernel
theorem dX5_readStander_150 : decode cX5_readStander 150 = .ok (.getfield 96, 3) := by decide +kernel
theorem dX5_readStander_153 : decode cX5_readStander 153 = .ok (.iconst 1, 1) := by decide +kernel
theorem dX5_readStander_154 : decode cX5_readStander 154 = .ok (.isub, 1) := by decide +kernel
theorem dX5_readStander_155 : decode cX5_readStander 155 = .ok (.iaload, 1) := by decide +kernel
theorem dX5_readStander_156 : decode cX5_readStander 156 = .ok (.bipush (-9), 2) := by decide +kernel
theorem dX5_readStander_158 : decode cX5_readStander 158 = .ok (.if_icmp .eq 7, 3) := by decide +kernel
theorem dX5_readStander_161 : decode cX5_readStander 161 = .ok (.iconst 1, 1) := by decide +kernel
theorem dX5_readStander_162 : decode cX5_readStander 162 = .ok (.goto 4, 3) := by decide +kernel
theorem dX5_readStander_165 : decode cX5_readStander 165 = .ok (.iconst 0, 1) := by decide +kernel
theorem dX5_readStander_166 : decode cX5_readStander 166 = .ok (.ireturn, 1) := by decide +kernel
theorem dX5_shadeOf_0 : decode cX5_shadeOf 0 = .ok (.aload_n 0, 1) := by decide +kernel
theorem dX5_shadeOf_1 : decode cX5_shadeOf 1 = .ok (.getfield 25, 3) := by decide +kernel
theorem dX5_shadeOf_4 : decode cX5_shadeOf 4 = .ok (.iload_n 1, 1) := by decide +kernel
theorem dX5_shadeOf_5 : decode cX5_shadeOf 5 = .ok (.iaload, 1) := by decide +kernel
theorem dX5_shadeOf_6 : decode cX5_shadeOf 6 = .ok (.iload_n 2, 1) := by decide +kernel
theorem dX5_shadeOf_7 : decode cX5_shadeOf 7 = .ok (.imul, 1) := by decide +kernel
theorem dX5_shadeOf_8 : decode cX5_shadeOf 8 = .ok (.istore_n 3, 1) := by decide +kernel
theorem dX5_shadeOf_9 : decode cX5_shadeOf 9 = .ok (.aload_n 0, 1) := by decide +kernel
theorem dX5_shadeOf_10 : decode cX5_shadeOf 10 = .ok (.getfield 19, 3) := by decide +kernel
theorem dX5_shadeOf_13 : decode cX5_shadeOf 13 = .ok (.iload_n 1, 1) := by decide +kernel
theorem dX5_shadeOf_14 : decode cX5_shadeOf 14 = .ok (.iaload, 1) := by decide +kernel
theorem dX5_shadeOf_15 : decode cX5_shadeOf 15 = .ok (.iconst 1, 1) := by decide +kernel
theorem dX5_shadeOf_16 : decode cX5_shadeOf 16 = .ok (.if_icmp .ne 15, 3) := by decide +kernel
theorem dX5_shadeOf_19 : decode cX5_shadeOf 19 = .ok (.iload_n 3, 1) := by decide +kernel
theorem dX5_shadeOf_20 : decode cX5_shadeOf 20 = .ok (.ifCond .le 9, 3) := by decide +kernel
theorem dX5_shadeOf_23 : decode cX5_shadeOf 23 = .ok (.iload_n 3, 1) := by decide +kernel
theorem dX5_shadeOf_24 : decode cX5_shadeOf 24 = .ok (.iconst 1, 1) := by decide +kernel
theorem dX5_shadeOf_25 : decode cX5_shadeOf 25 = .ok (.isub, 1) := by decide +kernel
theorem dX5_shadeOf_26 : decode cX5_shadeOf 26 = .ok (.goto 4, 3) := by decide +kernel
theorem dX5_shadeOf_29 : decode cX5_shadeOf 29 = .ok (.iconst 0, 1) := by decide +kernel
theorem dX5_shadeOf_30 : decode cX5_shadeOf 30 = .ok (.ireturn, 1) := by decide +kernel
theorem dX5_shadeOf_31 : decode cX5_shadeOf 31 = .ok (.aload_n 0, 1) := by decide +kernel
theorem dX5_shadeOf_32 : decode cX5_shadeOf 32 = .ok (.getfield 19, 3) := by decide +kernel
theorem dX5_shadeOf_35 : decode cX5_shadeOf 35 = .ok (.iload_n 1, 1) := by decide +kernel
theorem dX5_shadeOf_36 : decode cX5_shadeOf 36 = .ok (.iaload, 1) := by decide +kernel
theorem dX5_shadeOf_37 : decode cX5_shadeOf 37 = .ok (.ifCond .ne 7, 3) := by decide +kernel
theorem dX5_shadeOf_40 : decode cX5_shadeOf 40 = .ok (.iload_n 3, 1) := by decide +kernel
theorem dX5_shadeOf_41 : decode cX5_shadeOf 41 = .ok (.goto 6, 3) := by decide +kernel
theorem dX5_shadeOf_44 : decode cX5_shadeOf 44 = .ok (.iload_n 3, 1) := by decide +kernel
theorem dX5_shadeOf_45 : decode cX5_shadeOf 45 = .ok (.iconst 2, 1) := by decide +kernel
theorem dX5_shadeOf_46 : decode cX5_shadeOf 46 = .ok (.idiv, 1) := by decide +kernel
theorem dX5_shadeOf_47 : decode cX5_shadeOf 47 = .ok (.ireturn, 1) := by decide +kernel
set_option maxRecDepth 20000 in
theorem ggX5_ofStander_X5_isStander : GoodIn wsX5_ofStander wsX5_isStander := goodIn_r _ [8, 9, 10, 11, 12, 13, 14, 15, 16, 17, 18, 19, 20, 21, 22, 23, 24, 25, 26, 27, 28, 29, 30, 31, 32, 33, 34, 35, 36, 37, 38] (by decide +kernel) (by decide +kernel)
set_option maxRecDepth 20000 in
theorem gX5_ofStander_X5_isStander : GoodIn wsX5_ofStander (wsV RX5 113 RX5 yX5_isStander wsX5_isStander) := goodIn_app (goodIn_of _ (by decide +kernel)) ggX5_ofStander_X5_isStander
theorem dX5_ofStander_0 : decode cX5_ofStander 0 = .ok (.aload_n 0, 1) := by decide +kernel
theorem dX5_ofStander_1 : decode cX5_ofStander 1 = .ok (.iload_n 1, 1) := by decide +kernel
theorem dX5_ofStander_2 : decode cX5_ofStander 2 = .ok (.invokevirtual 113, 3) := by decide +kernel
theorem dX5_ofStander_5 : decode cX5_ofStander 5 = .ok (.ifCond .ne 5, 3) := by decide +kernel
theorem dX5_ofStander_8 : decode cX5_ofStander 8 = .ok (.iconst (-1), 1) := by decide +kernel
theorem dX5_ofStander_9 : decode cX5_ofStander 9 = .ok (.ireturn, 1) := by decide +kernel
theorem dX5_ofStander_10 : decode cX5_ofStander 10 = .ok (.iload_n 2, 1) := by decide +kernel
theorem dX5_ofStander_11 : decode cX5_ofStander 11 = .ok (.ifCond .ne 12, 3) := by decide +kernel
theorem dX5_ofStander_14 : decode cX5_ofStander 14 = .ok (.aload_n 0, 1) := by decide +kernel
theorem dX5_ofStander_15 : decode cX5_ofStander 15 = .ok (.getfield 19, 3) := by decide +kernel
theorem dX5_ofStander_18 : decode cX5_ofStander 18 = .ok (.iload_n 1, 1) := by decide +kernel
theorem dX5_ofStander_19 : decode cX5_ofStander 19 = .ok (.iaload, 1) := by decide +kernel
theorem dX5_ofStander_20 : decode cX5_ofStander 20 = .ok (.goto 33, 3) := by decide +kernel
theorem dX5_ofStander_23 : decode cX5_ofStander 23 = .ok (.iload_n 2, 1) := by decide +kernel
theorem dX5_ofStander_24 : decode cX5_ofStander 24 = .ok (.iconst 1, 1) := by decide +kernel
theorem dX5_ofStander_25 : decode cX5_ofStander 25 = .ok (.if_icmp .ne 12, 3) := by decide +kernel
theorem dX5_ofStander_28 : decode cX5_ofStander 28 = .ok (.aload_n 0, 1) := by decide +kernel
theorem dX5_ofStander_29 : decode cX5_ofStander 29 = .ok (.getfield 22, 3) := by decide +kernel
theorem dX5_ofStander_32 : decode cX5_ofStander 32 = .ok (.iload_n 1, 1) := by decide +kernel
theorem dX5_ofStander_33 : decode cX5_ofStander 33 = .ok (.iaload, 1) := by decide +kernel
theorem dX5_ofStander_34 : decode cX5_ofStander 34 = .ok (.goto 19, 3) := by decide +kernel
theorem dX5_ofStander_37 : decode cX5_ofStander 37 = .ok (.iload_n 2, 1) := by decide +kernel
theorem dX5_ofStander_38 : decode cX5_ofStander 38 = .ok (.iconst 2, 1) := by decide +kernel
theorem dX5_ofStander_39 : decode cX5_ofStander 39 = .ok (.if_icmp .ne 12, 3) := by decide +kernel
theorem dX5_ofStander_42 : decode cX5_ofStander 42 = .ok (.aload_n 0, 1) := by decide +kernel
theorem dX5_ofStander_43 : decode cX5_ofStander 43 = .ok (.getfield 25, 3) := by decide +kernel
theorem dX5_ofStander_46 : decode cX5_ofStander 46 = .ok (.iload_n 1, 1) := by decide +kernel
theorem dX5_ofStander_47 : decode cX5_ofStander 47 = .ok (.iaload, 1) := by decide +kernel
theorem dX5_ofStander_48 : decode cX5_ofStander 48 = .ok (.goto 5, 3) := by decide +kernel
theorem dX5_ofStander_51 : decode cX5_ofStander 51 = .ok (.bipush (-2), 2) := by decide +kernel
theorem dX5_ofStander_53 : decode cX5_ofStander 53 = .ok (.ireturn, 1) := by decide +kernel
set_option maxRecDepth 20000 in
theorem ggX5_walk_X5_isStander : GoodIn wsX5_walk wsX5_isStander := goodIn_r _ [6, 7, 14, 15, 16, 17, 18, 19, 20, 21, 22, 23, 24, 25, 26, 27, 28, 29, 30, 31, 32, 33, 34, 35, 36, 37, 38, 39, 40, 41, 42] (by decide +kernel) (by decide +kernel)
set_option maxRecDepth 20000 in
theorem gX5_walk_X5_isStander : GoodIn wsX5_walk (wsV RX5 113 RX5 yX5_isStander wsX5_isStander) := goodIn_app (goodIn_of _ (by decide +kernel)) ggX5_walk_X5_isStander
set_option maxRecDepth 20000 in
theorem ggX5_walk_X5_isDigit : GoodIn wsX5_walk wsX5_isDigit := goodIn_r _ [10, 11, 12, 5, 13] (by decide +kernel) (by decide +kernel)
set_option maxRecDepth 20000 in
theorem gX5_walk_X5_isDigit : GoodIn wsX5_walk (va_wsS RX5 116 yX5_isDigit wsX5_isDigit) := goodIn_app (goodIn_of _ (by decide +kernel)) ggX5_walk_X5_isDigit
theorem dX5_walk_0 : decode cX5_walk 0 = .ok (.aload_n 0, 1) := by decide +kernel
theorem dX5_walk_1 : decode cX5_walk 1 = .ok (.iload_n 1, 1) := by decide +kernel
theorem dX5_walk_2 : decode cX5_walk 2 = .ok (.invokevirtual 113, 3) := by decide +kernel
theorem dX5_walk_5 : decode cX5_walk 5 = .ok (.ifCond .ne 5, 3) := by decide +kernel
theorem dX5_walk_8 : decode cX5_walk 8 = .ok (.iconst (-1), 1) := by decide +kernel
theorem dX5_walk_9 : decode cX5_walk 9 = .ok (.ireturn, 1) := by decide +kernel
theorem dX5_walk_10 : decode cX5_walk 10 = .ok (.iload_n 2, 1) := by decide +kernel
theorem dX5_walk_11 : decode cX5_walk 11 = .ok (.invokestatic 116, 3) := by decide +kernel
theorem dX5_walk_14 : decode cX5_walk 14 = .ok (.ifCond .ne 6, 3) := by decide +kernel
theorem dX5_walk_17 : decode cX5_walk 17 = .ok (.bipush (-2), 2) := by decide +kernel
theorem dX5_walk_19 : decode cX5_walk 19 = .ok (.ireturn, 1) := by decide +kernel
theorem dX5_walk_20 : decode cX5_walk 20 = .ok (.aload_n 0, 1) := by decide +kernel
theorem dX5_walk_21 : decode cX5_walk 21 = .ok (.getfield 22, 3) := by decide +kernel
theorem dX5_walk_24 : decode cX5_walk 24 = .ok (.iload_n 1, 1) := by decide +kernel
theorem dX5_walk_25 : decode cX5_walk 25 = .ok (.iaload, 1) := by decide +kernel
theorem dX5_walk_26 : decode cX5_walk 26 = .ok (.istore_n 3, 1) := by decide +kernel
theorem dX5_walk_27 : decode cX5_walk 27 = .ok (.aload_n 0, 1) := by decide +kernel
theorem dX5_walk_28 : decode cX5_walk 28 = .ok (.getfield 22, 3) := by decide +kernel
theorem dX5_walk_31 : decode cX5_walk 31 = .ok (.iload_n 1, 1) := by decide +kernel
theorem dX5_walk_32 : decode cX5_walk 32 = .ok (.iload_n 2, 1) := by decide +kernel
theorem dX5_walk_33 : decode cX5_walk 33 = .ok (.iastore, 1) := by decide +kernel
theorem dX5_walk_34 : decode cX5_walk 34 = .ok (.iload_n 3, 1) := by decide +kernel
theorem dX5_walk_35 : decode cX5_walk 35 = .ok (.ireturn, 1) := by decide +kernel
set_option maxRecDepth 20000 in
theorem ggX5_grow_X5_isStander : GoodIn wsX5_grow wsX5_isStander := goodIn_r _ [6, 7, 14, 15, 16, 17, 18, 19, 20, 21, 22, 23, 24, 25, 26, 27, 28, 29, 30, 31, 32, 33, 34, 35, 36, 37, 38, 39, 40, 41, 42] (by decide +kernel) (by decide +kernel)
set_option maxRecDepth 20000 in
theorem gX5_grow_X5_isStander : GoodIn wsX5_grow (wsV RX5 113 RX5 yX5_isStander wsX5_isStander) := goodIn_app (goodIn_of _ (by decide +kernel)) ggX5_grow_X5_isStander
set_option maxRecDepth 20000 in
theorem ggX5_grow_X5_isDigit : GoodIn wsX5_grow wsX5_isDigit := goodIn_r _ [10, 11, 12, 5, 13] (by decide +kernel) (by decide +kernel)
set_option maxRecDepth 20000 in
theorem gX5_grow_X5_isDigit : GoodIn wsX5_grow (va_wsS RX5 116 yX5_isDigit wsX5_isDigit) := goodIn_app (goodIn_of _ (by decide +kernel)) ggX5_grow_X5_isDigit
theorem dX5_grow_0 : decode cX5_grow 0 = .ok (.aload_n 0, 1) := by decide +kernel
theorem dX5_grow_1 : decode cX5_grow 1 = .ok (.iload_n 1, 1) := by decide +kernel
theorem dX5_grow_2 : decode cX5_grow 2 = .ok (.invokevirtual 113, 3) := by decide +kernel
theorem dX5_grow_5 : decode cX5_grow 5 = .ok (.ifCond .ne 5, 3) := by decide +kernel
theorem dX5_grow_8 : decode cX5_grow 8 = .ok (.iconst (-1), 1) := by decide +kernel
theorem dX5_grow_9 : decode cX5_grow 9 = .ok (.ireturn, 1) := by decide +kernel
theorem dX5_grow_10 : decode cX5_grow 10 = .ok (.iload_n 2, 1) := by decide +kernel
theorem dX5_grow_11 : decode cX5_grow 11 = .ok (.invokestatic 116, 3) := by decide +kernel
theorem dX5_grow_14 : decode cX5_grow 14 = .ok (.ifCond .ne 6, 3) := by decide +kernel
theorem dX5_grow_17 : decode cX5_grow 17 = .ok (.bipush (-2), 2) := by decide +kernel
theorem dX5_grow_19 : decode cX5_grow 19 = .ok (.ireturn, 1) := by decide +kernel
theorem dX5_grow_20 : decode cX5_grow 20 = .ok (.aload_n 0, 1) := by decide +kernel
theorem dX5_grow_21 : decode cX5_grow 21 = .ok (.getfield 25, 3) := by decide +kernel
theorem dX5_grow_24 : decode cX5_grow 24 = .ok (.iload_n 1, 1) := by decide +kernel
theorem dX5_grow_25 : decode cX5_grow 25 = .ok (.iaload, 1) := by decide +kernel
theorem dX5_grow_26 : decode cX5_grow 26 = .ok (.istore_n 3, 1) := by decide +kernel
theorem dX5_grow_27 : decode cX5_grow 27 = .ok (.aload_n 0, 1) := by decide +kernel
theorem dX5_grow_28 : decode cX5_grow 28 = .ok (.getfield 25, 3) := by decide +kernel
theorem dX5_grow_31 : decode cX5_grow 31 = .ok (.iload_n 1, 1) := by decide +kernel
theorem dX5_grow_32 : decode cX5_grow 32 = .ok (.iload_n 2, 1) := by decide +kernel
theorem dX5_grow_33 : decode cX5_grow 33 = .ok (.iastore, 1) := by decide +kernel
theorem dX5_grow_34 : decode cX5_grow 34 = .ok (.iload_n 3, 1) := by decide +kernel
theorem dX5_grow_35 : decode cX5_grow 35 = .ok (.ireturn, 1) := by decide +kernel
set_option maxRecDepth 20000 in
theorem ggX5_build_X5_isDigit : GoodIn wsX5_build wsX5_isDigit := goodIn_r _ [6, 7, 8, 5, 9] (by decide +kernel) (by decide +kernel)
set_option maxRecDepth 20000 in
theorem gX5_build_X5_isDigit : GoodIn wsX5_build (va_wsS RX5 116 yX5_isDigit wsX5_isDigit) := goodIn_app (goodIn_of _ (by decide +kernel)) ggX5_build_X5_isDigit
theorem dX5_build_0 : decode cX5_build 0 = .ok (.iload_n 1, 1) := by decide +kernel
theorem dX5_build_1 : decode cX5_build 1 = .ok (.invokestatic 116, 3) := by decide +kernel
theorem dX5_build_4 : decode cX5_build 4 = .ok (.ifCond .ne 6, 3) := by decide +kernel
theorem dX5_build_7 : decode cX5_build 7 = .ok (.bipush (-2), 2) := by decide +kernel
theorem dX5_build_9 : decode cX5_build 9 = .ok (.ireturn, 1) := by decide +kernel
theorem dX5_build_10 : decode cX5_build 10 = .ok (.aload_n 0, 1) := by decide +kernel
theorem dX5_build_11 : decode cX5_build 11 = .ok (.getfield 60, 3) := by decide +kernel
theorem dX5_build_14 : decode cX5_build 14 = .ok (.ifCond .ne 6, 3) := by decide +kernel
theorem dX5_build_17 : decode cX5_build 17 = .ok (.bipush (-3), 2) := by decide +kernel
theorem dX5_build_19 : decode cX5_build 19 = .ok (.ireturn, 1) := by decide +kernel
theorem dX5_build_20 : decode cX5_build 20 = .ok (.aload_n 0, 1) := by decide +kernel
theorem dX5_build_21 : decode cX5_build 21 = .ok (.getfield 93, 3) := by decide +kernel
theorem dX5_build_24 : decode cX5_build 24 = .ok (.istore_n 2, 1) := by decide +kernel
theorem dX5_build_25 : decode cX5_build 25 = .ok (.aload_n 0, 1) := by decide +kernel
theorem dX5_build_26 : decode cX5_build 26 = .ok (.iload_n 1, 1) := by decide +kernel
theorem dX5_build_27 : decode cX5_build 27 = .ok (.putfield 93, 3) := by decide +kernel
theorem dX5_build_30 : decode cX5_build 30 = .ok (.iload_n 2, 1) := by decide +kernel
theorem dX5_build_31 : decode cX5_build 31 = .ok (.ireturn, 1) := by decide +kernel
set_option maxRecDepth 20000 in
theorem ggX5_shade_X5_isStander : GoodIn wsX5_shade wsX5_isStander := goodIn_r _ [5, 6, 19, 20, 21, 22, 23, 24, 25, 26, 27, 28, 29, 30, 31, 32, 33, 34, 35, 36, 37, 38, 39, 40, 41, 42, 43, 44, 45, 46, 47] (by decide +kernel) (by decide +kernel)
set_option maxRecDepth 20000 in
theorem gX5_shade_X5_isStander : GoodIn wsX5_shade (wsV RX5 113 RX5 yX5_isStander wsX5_isStander) := goodIn_app (goodIn_of _ (by decide +kernel)) ggX5_shade_X5_isStander
set_option maxRecDepth 20000 in
theorem ggX5_shade_X5_isSun : GoodIn wsX5_shade wsX5_isSun := goodIn_r _ [9, 10, 11, 4, 12] (by decide +kernel) (by decide +kernel)
set_option maxRecDepth 20000 in
theorem gX5_shade_X5_isSun : GoodIn wsX5_shade (va_wsS RX5 119 yX5_isSun wsX5_isSun) := goodIn_app (goodIn_of _ (by decide +kernel)) ggX5_shade_X5_isSun
set_option maxRecDepth 20000 in
theorem ggX5_shade_X5_shadeOf : GoodIn wsX5_shade wsX5_shadeOf := goodIn_r _ [16, 17, 18, 19, 20, 21, 22, 23, 24, 25, 26, 27, 28, 29, 30, 31, 32, 33, 34, 35, 36, 37, 38, 39, 40, 41, 42, 43, 44, 45, 46, 47] (by decide +kernel) (by decide +kernel)
set_option maxRecDepth 20000 in
theorem gX5_shade_X5_shadeOf : GoodIn wsX5_shade (wsV RX5 122 RX5 yX5_shadeOf wsX5_shadeOf) := goodIn_app (goodIn_of _ (by decide +kernel)) ggX5_shade_X5_shadeOf
theorem dX5_shade_0 : decode cX5_shade 0 = .ok (.aload_n 0, 1) := by decide +kernel
theorem dX5_shade_1 : decode cX5_shade 1 = .ok (.iload_n 1, 1) := by decide +kernel
theorem dX5_shade_2 : decode cX5_shade 2 = .ok (.invokevirtual 113, 3) := by decide +kernel
theorem dX5_shade_5 : decode cX5_shade 5 = .ok (.ifCond .ne 5, 3) := by decide +kernel
theorem dX5_shade_8 : decode cX5_shade 8 = .ok (.iconst (-1), 1) := by decide +kernel
theorem dX5_shade_9 : decode cX5_shade 9 = .ok (.ireturn, 1) := by decide +kernel
theorem dX5_shade_10 : decode cX5_shade 10 = .ok (.iload_n 2, 1) := by decide +kernel
theorem dX5_shade_11 : decode cX5_shade 11 = .ok (.invokestatic 119, 3) := by decide +kernel
theorem dX5_shade_14 : decode cX5_shade 14 = .ok (.ifCond .eq 12, 3) := by decide +kernel
theorem dX5_shade_17 : decode cX5_shade 17 = .ok (.aload_n 0, 1) := by decide +kernel
theorem dX5_shade_18 : decode cX5_shade 18 = .ok (.iload_n 1, 1) := by decide +kernel
theorem dX5_shade_19 : decode cX5_shade 19 = .ok (.iload_n 2, 1) := by decide +kernel
theorem dX5_shade_20 : decode cX5_shade 20 = .ok (.invokevirtual 122, 3) := by decide +kernel
theorem dX5_shade_23 : decode cX5_shade 23 = .ok (.goto 5, 3) := by decide +kernel
theorem dX5_shade_26 : decode cX5_shade 26 = .ok (.bipush (-2), 2) := by decide +kernel
theorem dX5_shade_28 : decode cX5_shade 28 = .ok (.ireturn, 1) := by decide +kernel
theorem dX5_isHidden_0 : decode cX5_isHidden 0 = .ok (.aload_n 0, 1) := by decide +kernel
theorem dX5_isHidden_1 : decode cX5_isHidden 1 = .ok (.getfield 22, 3) := by decide +kernel
theorem dX5_isHidden_4 : decode cX5_isHidden 4 = .ok (.iload_n 1, 1) := by decide +kernel
theorem dX5_isHidden_5 : decode cX5_isHidden 5 = .ok (.iaload, 1) := by decide +kernel
theorem dX5_isHidden_6 : decode cX5_isHidden 6 = .ok (.aload_n 0, 1) := by decide +kernel
theorem dX5_isHidden_7 : decode cX5_isHidden 7 = .ok (.getfield 93, 3) := by decide +kernel
theorem dX5_isHidden_10 : decode cX5_isHidden 10 = .ok (.iload_n 2, 1) := by decide +kernel
theorem dX5_isHidden_11 : decode cX5_isHidden 11 = .ok (.imul, 1) := by decide +kernel
theorem dX5_isHidden_12 : decode cX5_isHidden 12 = .ok (.if_icmp .ge 7, 3) := by decide +kernel
theorem dX5_isHidden_15 : decode cX5_isHidden 15 = .ok (.iconst 1, 1) := by decide +kernel
theorem dX5_isHidden_16 : decode cX5_isHidden 16 = .ok (.goto 4, 3) := by decide +kernel
theorem dX5_isHidden_19 : decode cX5_isHidden 19 = .ok (.iconst 0, 1) := by decide +kernel
theorem dX5_isHidden_20 : decode cX5_isHidden 20 = .ok (.ireturn, 1) := by decide +kernel
set_option maxRecDepth 20000 in
theorem ggX5_darken_X5_isHidden : GoodIn wsX5_darken wsX5_isHidden := goodIn_r _ [9, 4, 10, 17, 18, 19, 20, 21, 22, 23, 24, 25, 26, 27, 28, 29, 30, 31, 32, 33, 34, 35, 36, 37, 38, 39, 40, 41, 42, 43, 44, 45] (by decide +kernel) (by decide +kernel)
set_option maxRecDepth 20000 in
theorem gX5_darken_X5_isHidden : GoodIn wsX5_darken (wsV RX5 128 RX5 yX5_isHidden wsX5_isHidden) := goodIn_app (goodIn_of _ (by decide +kernel)) ggX5_darken_X5_isHidden
set_option maxRecDepth 20000 in
theorem ggX5_darken_X5_shadeOf : GoodIn wsX5_darken wsX5_shadeOf := goodIn_r _ [14, 15, 16, 17, 18, 19, 20, 21, 22, 23, 24, 25, 26, 27, 28, 29, 30, 31, 32, 33, 34, 35, 36, 37, 38, 39, 40, 41, 42, 43, 44, 45] (by decide +kernel) (by decide +kernel)
set_option maxRecDepth 20000 in
theorem gX5_darken_X5_shadeOf : GoodIn wsX5_darken (wsV RX5 122 RX5 yX5_shadeOf wsX5_shadeOf) := goodIn_app (goodIn_of _ (by decide +kernel)) ggX5_darken_X5_shadeOf
theorem dX5_darken_0 : decode cX5_darken 0 = .ok (.iconst 0, 1) := by decide +kernel
theorem dX5_darken_1 : decode cX5_darken 1 = .ok (.istore_n 2, 1) := by decide +kernel
theorem dX5_darken_2 : decode cX5_darken 2 = .ok (.iload_n 2, 1) := by decide +kernel
theorem dX5_darken_3 : decode cX5_darken 3 = .ok (.bipush 40, 2) := by decide +kernel
theorem dX5_darken_5 : decode cX5_darken 5 = .ok (.if_icmp .ge 16, 3) := by decide +kernel
theorem dX5_darken_8 : decode cX5_darken 8 = .ok (.aload_n 0, 1) := by decide +kernel
theorem dX5_darken_9 : decode cX5_darken 9 = .ok (.getfield 37, 3) := by decide +kernel
theorem dX5_darken_12 : decode cX5_darken 12 = .ok (.iload_n 2, 1) := by decide +kernel
theorem dX5_darken_13 : decode cX5_darken 13 = .ok (.iconst 0, 1) := by decide +kernel
theorem dX5_darken_14 : decode cX5_darken 14 = .ok (.bastore, 1) := by decide +kernel
theorem dX5_darken_15 : decode cX5_darken 15 = .ok (.iinc 2 1, 3) := by decide +kernel
theorem dX5_darken_18 : decode cX5_darken 18 = .ok (.goto (-16), 3) := by decide +kernel
theorem dX5_darken_21 : decode cX5_darken 21 = .ok (.iconst 0, 1) := by decide +kernel
theorem dX5_darken_22 : decode cX5_darken 22 = .ok (.istore_n 2, 1) := by decide +kernel
theorem dX5_darken_23 : decode cX5_darken 23 = .ok (.iload_n 2, 1) := by decide +kernel
theorem dX5_darken_24 : decode cX5_darken 24 = .ok (.aload_n 0, 1) := by decide +kernel
theorem dX5_darken_25 : decode cX5_darken 25 = .ok (.getfield 60, 3) := by decide +kernel
theorem dX5_darken_28 : decode cX5_darken 28 = .ok (.if_icmp .ge 79, 3) := by decide +kernel
theorem dX5_darken_31 : decode cX5_darken 31 = .ok (.aload_n 0, 1) := by decide +kernel
theorem dX5_darken_32 : decode cX5_darken 32 = .ok (.getfield 125, 3) := by decide +kernel
theorem dX5_darken_35 : decode cX5_darken 35 = .ok (.iload_n 2, 1) := by decide +kernel
theorem dX5_darken_36 : decode cX5_darken 36 = .ok (.ishr, 1) := by decide +kernel
theorem dX5_darken_37 : decode cX5_darken 37 = .ok (.iconst 1, 1) := by decide +kernel
theorem dX5_darken_38 : decode cX5_darken 38 = .ok (.iand, 1) := by decide +kernel
theorem dX5_darken_39 : decode cX5_darken 39 = .ok (.ifCond .ne 16, 3) := by decide +kernel
theorem dX5_darken_42 : decode cX5_darken 42 = .ok (.aload_n 0, 1) := by decide +kernel
theorem dX5_darken_43 : decode cX5_darken 43 = .ok (.iload_n 2, 1) := by decide +kernel
theorem dX5_darken_44 : decode cX5_darken 44 = .ok (.iload_n 1, 1) := by decide +kernel
theorem dX5_darken_45 : decode cX5_darken 45 = .ok (.invokevirtual 128, 3) := by decide +kernel
theorem dX5_darken_48 : decode cX5_darken 48 = .ok (.ifCond .ne 7, 3) := by decide +kernel
theorem dX5_darken_51 : decode cX5_darken 51 = .ok (.iconst 1, 1) := by decide +kernel
theorem dX5_darken_52 : decode cX5_darken 52 = .ok (.goto 4, 3) := by decide +kernel
theorem dX5_darken_55 : decode cX5_darken 55 = .ok (.iconst 0, 1) := by decide +kernel
theorem dX5_darken_56 : decode cX5_darken 56 = .ok (.istore_n 3, 1) := by decide +kernel
theorem dX5_darken_57 : decode cX5_darken 57 = .ok (.aload_n 0, 1) := by decide +kernel
theorem dX5_darken_58 : decode cX5_darken 58 = .ok (.getfield 22, 3) := by decide +kernel
theorem dX5_darken_61 : decode cX5_darken 61 = .ok (.iload_n 2, 1) := by decide +kernel
theorem dX5_darken_62 : decode cX5_darken 62 = .ok (.iaload, 1) := by decide +kernel
theorem dX5_darken_63 : decode cX5_darken 63 = .ok (.istore 4, 2) := by decide +kernel
theorem dX5_darken_65 : decode cX5_darken 65 = .ok (.iload_n 3, 1) := by decide +kernel
theorem dX5_darken_66 : decode cX5_darken 66 = .ok (.ifCond .eq 35, 3) := by decide +kernel
theorem dX5_darken_69 : decode cX5_darken 69 = .ok (.iload 4, 2) := by decide +kernel
theorem dX5_darken_71 : decode cX5_darken 71 = .ok (.aload_n 0, 1) := by decide +kernel
theorem dX5_darken_72 : decode cX5_darken 72 = .ok (.getfield 22, 3) := by decide +kernel
theorem dX5_darken_75 : decode cX5_darken 75 = .ok (.iload_n 2, 1) := by decide +kernel
theorem dX5_darken_76 : decode cX5_darken 76 = .ok (.iaload, 1) := by decide +kernel
theorem dX5_darken_77 : decode cX5_darken 77 = .ok (.aload_n 0, 1) := by decide +kernel
theorem dX5_darken_78 : decode cX5_darken 78 = .ok (.iload_n 2, 1) := by decide +kernel
theorem dX5_darken_79 : decode cX5_darken 79 = .ok (.iload_n 1, 1) := by decide +kernel
theorem dX5_darken_80 : decode cX5_darken 80 = .ok (.invokevirtual 122, 3) := by decide +kernel
theorem dX5_darken_83 : decode cX5_darken 83 = .ok (.iadd, 1) := by decide +kernel
theorem dX5_darken_84 : decode cX5_darken 84 = .ok (.if_icmp .gt 17, 3) := by decide +kernel
theorem dX5_darken_87 : decode cX5_darken 87 = .ok (.aload_n 0, 1) := by decide +kernel
theorem dX5_darken_88 : decode cX5_darken 88 = .ok (.getfield 37, 3) := by decide +kernel
theorem dX5_darken_91 : decode cX5_darken 91 = .ok (.iload 4, 2) := by decide +kernel
theorem dX5_darken_93 : decode cX5_darken 93 = .ok (.iconst 1, 1) := by decide +kernel
theorem dX5_darken_94 : decode cX5_darken 94 = .ok (.bastore, 1) := by decide +kernel
theorem dX5_darken_95 : decode cX5_darken 95 = .ok (.iinc 4 1, 3) := by decide +kernel
theorem dX5_darken_98 : decode cX5_darken 98 = .ok (.goto (-33), 3) := by decide +kernel
theorem dX5_darken_101 : decode cX5_darken 101 = .ok (.iinc 2 1, 3) := by decide +kernel
theorem dX5_darken_104 : decode cX5_darken 104 = .ok (.goto (-81), 3) := by decide +kernel
theorem dX5_darken_107 : decode cX5_darken 107 = .ok (.return_, 1) := by decide +kernel
theorem dX5_endRun_0 : decode cX5_endRun 0 = .ok (.iload_n 1, 1) := by decide +kernel
theorem dX5_endRun_1 : decode cX5_endRun 1 = .ok (.ifCond .ne 4, 3) := by decide +kernel
theorem dX5_endRun_4 : decode cX5_endRun 4 = .ok (.return_, 1) := by decide +kernel
theorem dX5_endRun_5 : decode cX5_endRun 5 = .ok (.aload_n 0, 1) := by decide +kernel
theorem dX5_endRun_6 : decode cX5_endRun 6 = .ok (.dup, 1) := by decide +kernel
theorem dX5_endRun_7 : decode cX5_endRun 7 = .ok (.getfield 131, 3) := by decide +kernel
theorem dX5_endRun_10 : decode cX5_endRun 10 = .ok (.iload_n 1, 1) := by decide +kernel
theorem dX5_endRun_11 : decode cX5_endRun 11 = .ok (.aload_n 0, 1) := by decide +kernel
theorem dX5_endRun_12 : decode cX5_endRun 12 = .ok (.getfield 87, 3) := by decide +kernel
theorem dX5_endRun_15 : decode cX5_endRun 15 = .ok (.idiv, 1) := by decide +kernel
theorem dX5_endRun_16 : decode cX5_endRun 16 = .ok (.iload_n 1, 1) := by decide +kernel
theorem dX5_endRun_17 : decode cX5_endRun 17 = .ok (.aload_n 0, 1) := by decide +kernel
theorem dX5_endRun_18 : decode cX5_endRun 18 = .ok (.getfield 87, 3) := by decide +kernel
theorem dX5_endRun_21 : decode cX5_endRun 21 = .ok (.irem, 1) := by decide +kernel
theorem dX5_endRun_22 : decode cX5_endRun 22 = .ok (.ifCond .le 7, 3) := by decide +kernel
theorem dX5_endRun_25 : decode cX5_endRun 25 = .ok (.iconst 1, 1) := by decide +kernel
theorem dX5_endRun_26 : decode cX5_endRun 26 = .ok (.goto 4, 3) := by decide +kernel
theorem dX5_endRun_29 : decode cX5_endRun 29 = .ok (.iconst 0, 1) := by decide +kernel
theorem dX5_endRun_30 : decode cX5_endRun 30 = .ok (.iadd, 1) := by decide +kernel
theorem dX5_endRun_31 : decode cX5_endRun 31 = .ok (.iadd, 1) := by decide +kernel
theorem dX5_endRun_32 : decode cX5_endRun 32 = .ok (.putfield 131, 3) := by decide +kernel
theorem dX5_endRun_35 : decode cX5_endRun 35 = .ok (.aload_n 0, 1) := by decide +kernel
theorem dX5_endRun_36 : decode cX5_endRun 36 = .ok (.dup, 1) := by decide +kernel
theorem dX5_endRun_37 : decode cX5_endRun 37 = .ok (.getfield 134, 3) := by decide +kernel
theorem dX5_endRun_40 : decode cX5_endRun 40 = .ok (.iconst 1, 1) := by decide +kernel
theorem dX5_endRun_41 : decode cX5_endRun 41 = .ok (.iadd, 1) := by decide +kernel
theorem dX5_endRun_42 : decode cX5_endRun 42 = .ok (.putfield 134, 3) := by decide +kernel
theorem dX5_endRun_45 : decode cX5_endRun 45 = .ok (.aload_n 0, 1) := by decide +kernel
theorem dX5_endRun_46 : decode cX5_endRun 46 = .ok (.iload_n 1, 1) := by decide +kernel
theorem dX5_endRun_47 : decode cX5_endRun 47 = .ok (.aload_n 0, 1) := by decide +kernel
theorem dX5_endRun_48 : decode cX5_endRun 48 = .ok (.getfield 137, 3) := by decide +kernel
theorem dX5_endRun_51 : decode cX5_endRun 51 = .ok (.if_icmp .le 7, 3) := by decide +kernel
theorem dX5_endRun_54 : decode cX5_endRun 54 = .ok (.iload_n 1, 1) := by decide +kernel
theorem dX5_endRun_55 : decode cX5_endRun 55 = .ok (.goto 7, 3) := by decide +kernel
theorem dX5_endRun_58 : decode cX5_endRun 58 = .ok (.aload_n 0, 1) := by decide +kernel
theorem dX5_endRun_59 : decode cX5_endRun 59 = .ok (.getfield 137, 3) := by decide +kernel
theorem dX5_endRun_62 : decode cX5_endRun 62 = .ok (.putfield 137, 3) := by decide +kernel
theorem dX5_endRun_65 : decode cX5_endRun 65 = .ok (.return_, 1) := by decide +kernel
set_option maxRecDepth 20000 in
theorem ggX5_count_X5_darken : GoodIn wsX5_count wsX5_darken := goodIn_r _ [10, 5, 11, 12, 13, 14, 15, 16, 9, 17, 18, 19, 20, 21, 22, 23, 24, 30, 31, 32, 33, 34, 35, 36, 37, 38, 39, 40, 41, 42, 43, 44, 45, 46, 47, 48, 49, 50, 51, 52, 53, 54, 55, 56, 57, 58] (by decide +kernel) (by decide +kernel)
set_option maxRecDepth 20000 in
theorem gX5_count_X5_darken : GoodIn wsX5_count (wsV RX5 140 RX5 yX5_darken wsX5_darken) := goodIn_app (goodIn_of _ (by decide +kernel)) ggX5_count_X5_darken
set_option maxRecDepth 20000 in
theorem ggX5_count_X5_endRun : GoodIn wsX5_count wsX5_endRun := goodIn_r _ [28, 1, 29, 2, 3, 30, 31, 32, 33, 34, 35, 36, 37, 38, 39, 40, 41, 42, 43, 44, 45, 46, 47, 48, 49, 50, 51, 52, 53, 54, 55, 56, 57, 58] (by decide +kernel) (by decide +kernel)
set_option maxRecDepth 20000 in
theorem gX5_count_X5_endRun : GoodIn wsX5_count (wsV RX5 147 RX5 yX5_endRun wsX5_endRun) := goodIn_app (goodIn_of _ (by decide +kernel)) ggX5_count_X5_endRun
theorem dX5_count_0 : decode cX5_count 0 = .ok (.aload_n 0, 1) := by decide +kernel
theorem dX5_count_1 : decode cX5_count 1 = .ok (.iload_n 1, 1) := by decide +kernel
theorem dX5_count_2 : decode cX5_count 2 = .ok (.invokevirtual 140, 3) := by decide +kernel
theorem dX5_count_5 : decode cX5_count 5 = .ok (.aload_n 0, 1) := by decide +kernel
theorem dX5_count_6 : decode cX5_count 6 = .ok (.iconst 0, 1) := by decide +kernel
theorem dX5_count_7 : decode cX5_count 7 = .ok (.putfield 131, 3) := by decide +kernel
theorem dX5_count_10 : decode cX5_count 10 = .ok (.aload_n 0, 1) := by decide +kernel
theorem dX5_count_11 : decode cX5_count 11 = .ok (.iconst 0, 1) := by decide +kernel
theorem dX5_count_12 : decode cX5_count 12 = .ok (.putfield 134, 3) := by decide +kernel
theorem dX5_count_15 : decode cX5_count 15 = .ok (.aload_n 0, 1) := by decide +kernel
theorem dX5_count_16 : decode cX5_count 16 = .ok (.iconst 0, 1) := by decide +kernel
theorem dX5_count_17 : decode cX5_count 17 = .ok (.putfield 137, 3) := by decide +kernel
theorem dX5_count_20 : decode cX5_count 20 = .ok (.aload_n 0, 1) := by decide +kernel
theorem dX5_count_21 : decode cX5_count 21 = .ok (.iconst 0, 1) := by decide +kernel
theorem dX5_count_22 : decode cX5_count 22 = .ok (.putfield 144, 3) := by decide +kernel
theorem dX5_count_25 : decode cX5_count 25 = .ok (.iconst 0, 1) := by decide +kernel
theorem dX5_count_26 : decode cX5_count 26 = .ok (.istore_n 2, 1) := by decide +kernel
theorem dX5_count_27 : decode cX5_count 27 = .ok (.iconst 0, 1) := by decide +kernel
theorem dX5_count_28 : decode cX5_count 28 = .ok (.istore_n 3, 1) := by decide +kernel
theorem dX5_count_29 : decode cX5_count 29 = .ok (.iload_n 3, 1) := by decide +kernel
theorem dX5_count_30 : decode cX5_count 30 = .ok (.bipush 40, 2) := by decide +kernel
theorem dX5_count_32 : decode cX5_count 32 = .ok (.if_icmp .ge 38, 3) := by decide +kernel
theorem dX5_count_35 : decode cX5_count 35 = .ok (.aload_n 0, 1) := by decide +kernel
theorem dX5_count_36 : decode cX5_count 36 = .ok (.getfield 37, 3) := by decide +kernel
theorem dX5_count_39 : decode cX5_count 39 = .ok (.iload_n 3, 1) := by decide +kernel
theorem dX5_count_40 : decode cX5_count 40 = .ok (.baload, 1) := by decide +kernel
theorem dX5_count_41 : decode cX5_count 41 = .ok (.ifCond .eq 16, 3) := by decide +kernel
theorem dX5_count_44 : decode cX5_count 44 = .ok (.iinc 2 1, 3) := by decide +kernel
theorem dX5_count_47 : decode cX5_count 47 = .ok (.aload_n 0, 1) := by decide +kernel
theorem dX5_count_48 : decode cX5_count 48 = .ok (.iload_n 3, 1) := by decide +kernel
theorem dX5_count_49 : decode cX5_count 49 = .ok (.iconst 1, 1) := by decide +kernel
theorem dX5_count_50 : decode cX5_count 50 = .ok (.iadd, 1) := by decide +kernel
theorem dX5_count_51 : decode cX5_count 51 = .ok (.putfield 144, 3) := by decide +kernel
theorem dX5_count_54 : decode cX5_count 54 = .ok (.goto 10, 3) := by decide +kernel
theorem dX5_count_57 : decode cX5_count 57 = .ok (.aload_n 0, 1) := by decide +kernel
theorem dX5_count_58 : decode cX5_count 58 = .ok (.iload_n 2, 1) := by decide +kernel
theorem dX5_count_59 : decode cX5_count 59 = .ok (.invokevirtual 147, 3) := by decide +kernel
theorem dX5_count_62 : decode cX5_count 62 = .ok (.iconst 0, 1) := by decide +kernel
theorem dX5_count_63 : decode cX5_count 63 = .ok (.istore_n 2, 1) := by decide +kernel
theorem dX5_count_64 : decode cX5_count 64 = .ok (.iinc 3 1, 3) := by decide +kernel
theorem dX5_count_67 : decode cX5_count 67 = .ok (.goto (-38), 3) := by decide +kernel
theorem dX5_count_70 : decode cX5_count 70 = .ok (.aload_n 0, 1) := by decide +kernel
theorem dX5_count_71 : decode cX5_count 71 = .ok (.iload_n 2, 1) := by decide +kernel
theorem dX5_count_72 : decode cX5_count 72 = .ok (.invokevirtual 147, 3) := by decide +kernel
theorem dX5_count_75 : decode cX5_count 75 = .ok (.return_, 1) := by decide +kernel
set_option maxRecDepth 20000 in
theorem ggX5_censusOf_X5_count : GoodIn wsX5_censusOf wsX5_count := goodIn_r _ [6, 1, 7, 8, 9, 10, 11, 12, 13, 5, 14, 15, 16, 17, 18, 19, 20, 21, 22, 23, 24, 25, 26, 27, 28, 29, 30, 31, 32, 33, 34, 35, 36, 37, 38, 39, 40, 41, 42, 43, 44, 45, 46, 47, 48, 49, 50, 51, 52, 53, 54, 55, 56, 57, 58, 59, 60, 61, 62] (by decide +kernel) (by decide +kernel)
set_option maxRecDepth 20000 in
theorem gX5_censusOf_X5_count : GoodIn wsX5_censusOf (wsV RX5 150 RX5 yX5_count wsX5_count) := goodIn_app (goodIn_of _ (by decide +kernel)) ggX5_censusOf_X5_count
theorem dX5_censusOf_0 : decode cX5_censusOf 0 = .ok (.aload_n 0, 1) := by decide +kernel
theorem dX5_censusOf_1 : decode cX5_censusOf 1 = .ok (.iload_n 1, 1) := by decide +kernel
theorem dX5_censusOf_2 : decode cX5_censusOf 2 = .ok (.invokevirtual 150, 3) := by decide +kernel
theorem dX5_censusOf_5 : decode cX5_censusOf 5 = .ok (.aload_n 0, 1) := by decide +kernel
theorem dX5_censusOf_6 : decode cX5_censusOf 6 = .ok (.getfield 131, 3) := by decide +kernel
theorem dX5_censusOf_9 : decode cX5_censusOf 9 = .ok (.ireturn, 1) := by decide +kernel
set_option maxRecDepth 20000 in
theorem ggX5_hiddenOf_X5_isHidden : GoodIn wsX5_hiddenOf wsX5_isHidden := goodIn_r _ [6, 7, 8, 9, 10, 11, 12, 13, 14, 15, 16, 17, 18, 19, 20, 21, 22, 23, 24, 25, 26, 27, 28, 29, 30, 31, 32, 33, 34, 35, 36, 37] (by decide +kernel) (by decide +kernel)
set_option maxRecDepth 20000 in
theorem gX5_hiddenOf_X5_isHidden : GoodIn wsX5_hiddenOf (wsV RX5 128 RX5 yX5_isHidden wsX5_isHidden) := goodIn_app (goodIn_of _ (by decide +kernel)) ggX5_hiddenOf_X5_isHidden
theorem dX5_hiddenOf_0 : decode cX5_hiddenOf 0 = .ok (.iconst 0, 1) := by decide +kernel
theorem dX5_hiddenOf_1 : decode cX5_hiddenOf 1 = .ok (.istore_n 2, 1) := by decide +kernel
theorem dX5_hiddenOf_2 : decode cX5_hiddenOf 2 = .ok (.iconst 0, 1) := by decide +kernel
theorem dX5_hiddenOf_3 : decode cX5_hiddenOf 3 = .ok (.istore_n 3, 1) := by decide +kernel
theorem dX5_hiddenOf_4 : decode cX5_hiddenOf 4 = .ok (.iload_n 3, 1) := by decide +kernel
theorem dX5_hiddenOf_5 : decode cX5_hiddenOf 5 = .ok (.aload_n 0, 1) := by decide +kernel
theorem dX5_hiddenOf_6 : decode cX5_hiddenOf 6 = .ok (.getfield 60, 3) := by decide +kernel
theorem dX5_hiddenOf_9 : decode cX5_hiddenOf 9 = .ok (.if_icmp .ge 28, 3) := by decide +kernel
theorem dX5_hiddenOf_12 : decode cX5_hiddenOf 12 = .ok (.iload_n 2, 1) := by decide +kernel
theorem dX5_hiddenOf_13 : decode cX5_hiddenOf 13 = .ok (.aload_n 0, 1) := by decide +kernel
theorem dX5_hiddenOf_14 : decode cX5_hiddenOf 14 = .ok (.iload_n 3, 1) := by decide +kernel
theorem dX5_hiddenOf_15 : decode cX5_hiddenOf 15 = .ok (.iload_n 1, 1) := by decide +kernel
theorem dX5_hiddenOf_16 : decode cX5_hiddenOf 16 = .ok (.invokevirtual 128, 3) := by decide +kernel
theorem dX5_hiddenOf_19 : decode cX5_hiddenOf 19 = .ok (.ifCond .eq 9, 3) := by decide +kernel
theorem dX5_hiddenOf_22 : decode cX5_hiddenOf 22 = .ok (.iconst 1, 1) := by decide +kernel
theorem dX5_hiddenOf_23 : decode cX5_hiddenOf 23 = .ok (.iload_n 3, 1) := by decide +kernel
theorem dX5_hiddenOf_24 : decode cX5_hiddenOf 24 = .ok (.ishl, 1) := by decide +kernel
theorem dX5_hiddenOf_25 : decode cX5_hiddenOf 25 = .ok (.goto 4, 3) := by decide +kernel
theorem dX5_hiddenOf_28 : decode cX5_hiddenOf 28 = .ok (.iconst 0, 1) := by decide +kernel
theorem dX5_hiddenOf_29 : decode cX5_hiddenOf 29 = .ok (.ior, 1) := by decide +kernel
theorem dX5_hiddenOf_30 : decode cX5_hiddenOf 30 = .ok (.istore_n 2, 1) := by decide +kernel
theorem dX5_hiddenOf_31 : decode cX5_hiddenOf 31 = .ok (.iinc 3 1, 3) := by decide +kernel
theorem dX5_hiddenOf_34 : decode cX5_hiddenOf 34 = .ok (.goto (-30), 3) := by decide +kernel
theorem dX5_hiddenOf_37 : decode cX5_hiddenOf 37 = .ok (.iload_n 2, 1) := by decide +kernel
theorem dX5_hiddenOf_38 : decode cX5_hiddenOf 38 = .ok (.ireturn, 1) := by decide +kernel
set_option maxRecDepth 20000 in
theorem ggX5_hidden_X5_isSun : GoodIn wsX5_hidden wsX5_isSun := goodIn_r _ [5, 6, 7, 4, 8] (by decide +kernel) (by decide +kernel)
set_option maxRecDepth 20000 in
theorem gX5_hidden_X5_isSun : GoodIn wsX5_hidden (va_wsS RX5 119 yX5_isSun wsX5_isSun) := goodIn_app (goodIn_of _ (by decide +kernel)) ggX5_hidden_X5_isSun
set_option maxRecDepth 20000 in
theorem ggX5_hidden_X5_hiddenOf : GoodIn wsX5_hidden wsX5_hiddenOf := goodIn_r _ [12, 1, 13, 14, 15, 4, 16, 17, 18, 19, 20, 21, 22, 23, 24, 25, 26, 27, 28, 29, 30, 31, 32, 33, 34, 35, 36, 37, 38, 39, 40, 41, 42, 43, 44, 45, 46, 47] (by decide +kernel) (by decide +kernel)
set_option maxRecDepth 20000 in
theorem gX5_hidden_X5_hiddenOf : GoodIn wsX5_hidden (wsV RX5 153 RX5 yX5_hiddenOf wsX5_hiddenOf) := goodIn_app (goodIn_of _ (by decide +kernel)) ggX5_hidden_X5_hiddenOf
theorem dX5_hidden_0 : decode cX5_hidden 0 = .ok (.iload_n 1, 1) := by decide +kernel
theorem dX5_hidden_1 : decode cX5_hidden 1 = .ok (.invokestatic 119, 3) := by decide +kernel
theorem dX5_hidden_4 : decode cX5_hidden 4 = .ok (.ifCond .ne 6, 3) := by decide +kernel
theorem dX5_hidden_7 : decode cX5_hidden 7 = .ok (.bipush (-2), 2) := by decide +kernel
theorem dX5_hidden_9 : decode cX5_hidden 9 = .ok (.ireturn, 1) := by decide +kernel
theorem dX5_hidden_10 : decode cX5_hidden 10 = .ok (.aload_n 0, 1) := by decide +kernel
theorem dX5_hidden_11 : decode cX5_hidden 11 = .ok (.getfield 60, 3) := by decide +kernel
theorem dX5_hidden_14 : decode cX5_hidden 14 = .ok (.ifCond .ne 8, 3) := by decide +kernel
theorem dX5_hidden_17 : decode cX5_hidden 17 = .ok (.bipush (-3), 2) := by decide +kernel
theorem dX5_hidden_19 : decode cX5_hidden 19 = .ok (.goto 8, 3) := by decide +kernel
theorem dX5_hidden_22 : decode cX5_hidden 22 = .ok (.aload_n 0, 1) := by decide +kernel
theorem dX5_hidden_23 : decode cX5_hidden 23 = .ok (.iload_n 1, 1) := by decide +kernel
theorem dX5_hidden_24 : decode cX5_hidden 24 = .ok (.invokevirtual 153, 3) := by decide +kernel
theorem dX5_hidden_27 : decode cX5_hidden 27 = .ok (.ireturn, 1) := by decide +kernel
set_option maxRecDepth 20000 in
theorem ggX5_census_X5_isSun : GoodIn wsX5_census wsX5_isSun := goodIn_r _ [5, 6, 7, 4, 8] (by decide +kernel) (by decide +kernel)
set_option maxRecDepth 20000 in
theorem gX5_census_X5_isSun : GoodIn wsX5_census (va_wsS RX5 119 yX5_isSun wsX5_isSun) := goodIn_app (goodIn_of _ (by decide +kernel)) ggX5_census_X5_isSun
set_option maxRecDepth 20000 in
theorem ggX5_census_X5_censusOf : GoodIn wsX5_census wsX5_censusOf := goodIn_r _ [12, 13, 14, 15, 16, 4, 17, 18, 19, 20, 21, 22, 23, 24, 25, 1, 26, 27, 28, 29, 30, 31, 32, 33, 34, 35, 36, 37, 38, 39, 40, 41, 42, 43, 44, 45, 46, 47, 48, 49, 50, 51, 52, 53, 54, 55, 56, 57, 58, 59, 60, 61, 62, 63, 64, 65, 66, 67, 68, 69, 70, 71, 72] (by decide +kernel) (by decide +kernel)
set_option maxRecDepth 20000 in
theorem gX5_census_X5_censusOf : GoodIn wsX5_census (wsV RX5 156 RX5 yX5_censusOf wsX5_censusOf) := goodIn_app (goodIn_of _ (by decide +kernel)) ggX5_census_X5_censusOf
theorem dX5_census_0 : decode cX5_census 0 = .ok (.iload_n 1, 1) := by decide +kernel
theorem dX5_census_1 : decode cX5_census 1 = .ok (.invokestatic 119, 3) := by decide +kernel
theorem dX5_census_4 : decode cX5_census 4 = .ok (.ifCond .ne 6, 3) := by decide +kernel
theorem dX5_census_7 : decode cX5_census 7 = .ok (.bipush (-2), 2) := by decide +kernel
theorem dX5_census_9 : decode cX5_census 9 = .ok (.ireturn, 1) := by decide +kernel
theorem dX5_census_10 : decode cX5_census 10 = .ok (.aload_n 0, 1) := by decide +kernel
theorem dX5_census_11 : decode cX5_census 11 = .ok (.getfield 60, 3) := by decide +kernel
theorem dX5_census_14 : decode cX5_census 14 = .ok (.ifCond .ne 8, 3) := by decide +kernel
theorem dX5_census_17 : decode cX5_census 17 = .ok (.bipush (-3), 2) := by decide +kernel
theorem dX5_census_19 : decode cX5_census 19 = .ok (.goto 8, 3) := by decide +kernel
theorem dX5_census_22 : decode cX5_census 22 = .ok (.aload_n 0, 1) := by decide +kernel
theorem dX5_census_23 : decode cX5_census 23 = .ok (.iload_n 1, 1) := by decide +kernel
theorem dX5_census_24 : decode cX5_census 24 = .ok (.invokevirtual 156, 3) := by decide +kernel
theorem dX5_census_27 : decode cX5_census 27 = .ok (.ireturn, 1) := by decide +kernel
set_option maxRecDepth 20000 in
theorem ggX5_runs_X5_isSun : GoodIn wsX5_runs wsX5_isSun := goodIn_r _ [8, 9, 10, 7, 11] (by decide +kernel) (by decide +kernel)
set_option maxRecDepth 20000 in
theorem gX5_runs_X5_isSun : GoodIn wsX5_runs (va_wsS RX5 119 yX5_isSun wsX5_isSun) := goodIn_app (goodIn_of _ (by decide +kernel)) ggX5_runs_X5_isSun
set_option maxRecDepth 20000 in
theorem ggX5_runs_X5_within : GoodIn wsX5_runs wsX5_within := goodIn_r _ [11] (by decide +kernel) (by decide +kernel)
set_option maxRecDepth 20000 in
theorem gX5_runs_X5_within : GoodIn wsX5_runs (va_wsS RX5 56 yX5_within wsX5_within) := goodIn_app (goodIn_of _ (by decide +kernel)) ggX5_runs_X5_within
set_option maxRecDepth 20000 in
theorem ggX5_runs_X5_count : GoodIn wsX5_runs wsX5_count := goodIn_r _ [15, 16, 2, 3, 4, 17, 18, 19, 20, 7, 21, 1, 22, 23, 24, 25, 26, 27, 28, 29, 30, 31, 32, 33, 34, 35, 36, 37, 38, 39, 40, 41, 42, 43, 44, 45, 46, 47, 48, 49, 50, 51, 52, 53, 54, 55, 56, 57, 58, 59, 60, 61, 62, 63, 64, 65, 66, 67, 68] (by decide +kernel) (by decide +kernel)
set_option maxRecDepth 20000 in
theorem gX5_runs_X5_count : GoodIn wsX5_runs (wsV RX5 150 RX5 yX5_count wsX5_count) := goodIn_app (goodIn_of _ (by decide +kernel)) ggX5_runs_X5_count
theorem dX5_runs_0 : decode cX5_runs 0 = .ok (.iload_n 1, 1) := by decide +kernel
theorem dX5_runs_1 : decode cX5_runs 1 = .ok (.invokestatic 119, 3) := by decide +kernel
theorem dX5_runs_4 : decode cX5_runs 4 = .ok (.ifCond .eq 12, 3) := by decide +kernel
theorem dX5_runs_7 : decode cX5_runs 7 = .ok (.iload_n 2, 1) := by decide +kernel
theorem dX5_runs_8 : decode cX5_runs 8 = .ok (.iconst 0, 1) := by decide +kernel
theorem dX5_runs_9 : decode cX5_runs 9 = .ok (.iconst 2, 1) := by decide +kernel
theorem dX5_runs_10 : decode cX5_runs 10 = .ok (.invokestatic 56, 3) := by decide +kernel
theorem dX5_runs_13 : decode cX5_runs 13 = .ok (.ifCond .ne 6, 3) := by decide +kernel
theorem dX5_runs_16 : decode cX5_runs 16 = .ok (.bipush (-2), 2) := by decide +kernel
theorem dX5_runs_18 : decode cX5_runs 18 = .ok (.ireturn, 1) := by decide +kernel
theorem dX5_runs_19 : decode cX5_runs 19 = .ok (.aload_n 0, 1) := by decide +kernel
theorem dX5_runs_20 : decode cX5_runs 20 = .ok (.getfield 60, 3) := by decide +kernel
theorem dX5_runs_23 : decode cX5_runs 23 = .ok (.ifCond .ne 6, 3) := by decide +kernel
theorem dX5_runs_26 : decode cX5_runs 26 = .ok (.bipush (-3), 2) := by decide +kernel
theorem dX5_runs_28 : decode cX5_runs 28 = .ok (.ireturn, 1) := by decide +kernel
theorem dX5_runs_29 : decode cX5_runs 29 = .ok (.aload_n 0, 1) := by decide +kernel
theorem dX5_runs_30 : decode cX5_runs 30 = .ok (.iload_n 1, 1) := by decide +kernel
theorem dX5_runs_31 : decode cX5_runs 31 = .ok (.invokevirtual 150, 3) := by decide +kernel
theorem dX5_runs_34 : decode cX5_runs 34 = .ok (.iload_n 2, 1) := by decide +kernel
theorem dX5_runs_35 : decode cX5_runs 35 = .ok (.ifCond .ne 10, 3) := by decide +kernel
theorem dX5_runs_38 : decode cX5_runs 38 = .ok (.aload_n 0, 1) := by decide +kernel
theorem dX5_runs_39 : decode cX5_runs 39 = .ok (.getfield 134, 3) := by decide +kernel
theorem dX5_runs_42 : decode cX5_runs 42 = .ok (.goto 19, 3) := by decide +kernel
theorem dX5_runs_45 : decode cX5_runs 45 = .ok (.iload_n 2, 1) := by decide +kernel
theorem dX5_runs_46 : decode cX5_runs 46 = .ok (.iconst 1, 1) := by decide +kernel
theorem dX5_runs_47 : decode cX5_runs 47 = .ok (.if_icmp .ne 10, 3) := by decide +kernel
theorem dX5_runs_50 : decode cX5_runs 50 = .ok (.aload_n 0, 1) := by decide +kernel
theorem dX5_runs_51 : decode cX5_runs 51 = .ok (.getfield 137, 3) := by decide +kernel
theorem dX5_runs_54 : decode cX5_runs 54 = .ok (.goto 7, 3) := by decide +kernel
theorem dX5_runs_57 : decode cX5_runs 57 = .ok (.aload_n 0, 1) := by decide +kernel
theorem dX5_runs_58 : decode cX5_runs 58 = .ok (.getfield 144, 3) := by decide +kernel
theorem dX5_runs_61 : decode cX5_runs 61 = .ok (.ireturn, 1) := by decide +kernel
theorem dX5_apart_0 : decode cX5_apart 0 = .ok (.iload_n 0, 1) := by decide +kernel
theorem dX5_apart_1 : decode cX5_apart 1 = .ok (.iload_n 1, 1) := by decide +kernel
theorem dX5_apart_2 : decode cX5_apart 2 = .ok (.if_icmp .ge 9, 3) := by decide +kernel
theorem dX5_apart_5 : decode cX5_apart 5 = .ok (.iload_n 1, 1) := by decide +kernel
theorem dX5_apart_6 : decode cX5_apart 6 = .ok (.iload_n 0, 1) := by decide +kernel
theorem dX5_apart_7 : decode cX5_apart 7 = .ok (.isub, 1) := by decide +kernel
theorem dX5_apart_8 : decode cX5_apart 8 = .ok (.goto 6, 3) := by decide +kernel
theorem dX5_apart_11 : decode cX5_apart 11 = .ok (.iload_n 0, 1) := by decide +kernel
theorem dX5_apart_12 : decode cX5_apart 12 = .ok (.iload_n 1, 1) := by decide +kernel
theorem dX5_apart_13 : decode cX5_apart 13 = .ok (.isub, 1) := by decide +kernel
theorem dX5_apart_14 : decode cX5_apart 14 = .ok (.ireturn, 1) := by decide +kernel
set_option maxRecDepth 20000 in
theorem ggX5_fair_X5_censusOf : GoodIn wsX5_fair wsX5_censusOf := goodIn_r _ [6, 7, 8, 9, 10, 5, 11, 12, 13, 14, 15, 16, 17, 18, 19, 1, 20, 21, 22, 23, 24, 25, 26, 27, 28, 29, 30, 31, 32, 33, 34, 35, 36, 37, 41, 42, 43, 44, 45, 46, 47, 48, 49, 50, 51, 52, 53, 54, 55, 56, 57, 58, 59, 60, 61, 62, 63, 64, 65, 66, 67, 68, 69] (by decide +kernel) (by decide +kernel)
set_option maxRecDepth 20000 in
theorem gX5_fair_X5_censusOf : GoodIn wsX5_fair (wsV RX5 156 RX5 yX5_censusOf wsX5_censusOf) := goodIn_app (goodIn_of _ (by decide +kernel)) ggX5_fair_X5_censusOf
set_option maxRecDepth 20000 in
theorem ggX5_fair_X5_apart : GoodIn wsX5_fair wsX5_apart := goodIn_r _ [40] (by decide +kernel) (by decide +kernel)
set_option maxRecDepth 20000 in
theorem gX5_fair_X5_apart : GoodIn wsX5_fair (va_wsS RX5 159 yX5_apart wsX5_apart) := goodIn_app (goodIn_of _ (by decide +kernel)) ggX5_fair_X5_apart
theorem dX5_fair_0 : decode cX5_fair 0 = .ok (.aload_n 0, 1) := by decide +kernel
theorem dX5_fair_1 : decode cX5_fair 1 = .ok (.getfield 60, 3) := by decide +kernel
theorem dX5_fair_4 : decode cX5_fair 4 = .ok (.ifCond .ne 6, 3) := by decide +kernel
theorem dX5_fair_7 : decode cX5_fair 7 = .ok (.bipush (-3), 2) := by decide +kernel
theorem dX5_fair_9 : decode cX5_fair 9 = .ok (.ireturn, 1) := by decide +kernel
theorem dX5_fair_10 : decode cX5_fair 10 = .ok (.iconst 1, 1) := by decide +kernel
theorem dX5_fair_11 : decode cX5_fair 11 = .ok (.istore_n 1, 1) := by decide +kernel
theorem dX5_fair_12 : decode cX5_fair 12 = .ok (.iconst 2, 1) := by decide +kernel
theorem dX5_fair_13 : decode cX5_fair 13 = .ok (.istore_n 2, 1) := by decide +kernel
theorem dX5_fair_14 : decode cX5_fair 14 = .ok (.iload_n 2, 1) := by decide +kernel
theorem dX5_fair_15 : decode cX5_fair 15 = .ok (.iconst 3, 1) := by decide +kernel
theorem dX5_fair_16 : decode cX5_fair 16 = .ok (.if_icmp .gt 42, 3) := by decide +kernel
theorem dX5_fair_19 : decode cX5_fair 19 = .ok (.aload_n 0, 1) := by decide +kernel
theorem dX5_fair_20 : decode cX5_fair 20 = .ok (.iload_n 2, 1) := by decide +kernel
theorem dX5_fair_21 : decode cX5_fair 21 = .ok (.invokevirtual 156, 3) := by decide +kernel
theorem dX5_fair_24 : decode cX5_fair 24 = .ok (.aload_n 0, 1) := by decide +kernel
theorem dX5_fair_25 : decode cX5_fair 25 = .ok (.getfield 60, 3) := by decide +kernel
theorem dX5_fair_28 : decode cX5_fair 28 = .ok (.invokestatic 159, 3) := by decide +kernel
theorem dX5_fair_31 : decode cX5_fair 31 = .ok (.aload_n 0, 1) := by decide +kernel
theorem dX5_fair_32 : decode cX5_fair 32 = .ok (.iload_n 1, 1) := by decide +kernel
theorem dX5_fair_33 : decode cX5_fair 33 = .ok (.invokevirtual 156, 3) := by decide +kernel
theorem dX5_fair_36 : decode cX5_fair 36 = .ok (.aload_n 0, 1) := by decide +kernel
theorem dX5_fair_37 : decode cX5_fair 37 = .ok (.getfield 60, 3) := by decide +kernel
theorem dX5_fair_40 : decode cX5_fair 40 = .ok (.invokestatic 159, 3) := by decide +kernel
theorem dX5_fair_43 : decode cX5_fair 43 = .ok (.if_icmp .ge 7, 3) := by decide +kernel
theorem dX5_fair_46 : decode cX5_fair 46 = .ok (.iload_n 2, 1) := by decide +kernel
theorem dX5_fair_47 : decode cX5_fair 47 = .ok (.goto 4, 3) := by decide +kernel
theorem dX5_fair_50 : decode cX5_fair 50 = .ok (.iload_n 1, 1) := by decide +kernel
theorem dX5_fair_51 : decode cX5_fair 51 = .ok (.istore_n 1, 1) := by decide +kernel
theorem dX5_fair_52 : decode cX5_fair 52 = .ok (.iinc 2 1, 3) := by decide +kernel
theorem dX5_fair_55 : decode cX5_fair 55 = .ok (.goto (-41), 3) := by decide +kernel
theorem dX5_fair_58 : decode cX5_fair 58 = .ok (.iload_n 1, 1) := by decide +kernel
theorem dX5_fair_59 : decode cX5_fair 59 = .ok (.ireturn, 1) := by decide +kernel
theorem dX5_isTaken_0 : decode cX5_isTaken 0 = .ok (.iconst 0, 1) := by decide +kernel
theorem dX5_isTaken_1 : decode cX5_isTaken 1 = .ok (.istore_n 3, 1) := by decide +kernel
theorem dX5_isTaken_2 : decode cX5_isTaken 2 = .ok (.iload_n 3, 1) := by decide +kernel
theorem dX5_isTaken_3 : decode cX5_isTaken 3 = .ok (.aload_n 0, 1) := by decide +kernel
theorem dX5_isTaken_4 : decode cX5_isTaken 4 = .ok (.getfield 60, 3) := by decide +kernel
theorem dX5_isTaken_7 : decode cX5_isTaken 7 = .ok (.if_icmp .ge 26, 3) := by decide +kernel
theorem dX5_isTaken_10 : decode cX5_isTaken 10 = .ok (.iload_n 3, 1) := by decide +kernel
theorem dX5_isTaken_11 : decode cX5_isTaken 11 = .ok (.iload_n 1, 1) := by decide +kernel
theorem dX5_isTaken_12 : decode cX5_isTaken 12 = .ok (.if_icmp .eq 15, 3) := by decide +kernel
theorem dX5_isTaken_15 : decode cX5_isTaken 15 = .ok (.aload_n 0, 1) := by decide +kernel
theorem dX5_isTaken_16 : decode cX5_isTaken 16 = .ok (.getfield 22, 3) := by decide +kernel
theorem dX5_isTaken_19 : decode cX5_isTaken 19 = .ok (.iload_n 3, 1) := by decide +kernel
theorem dX5_isTaken_20 : decode cX5_isTaken 20 = .ok (.iaload, 1) := by decide +kernel
theorem dX5_isTaken_21 : decode cX5_isTaken 21 = .ok (.iload_n 2, 1) := by decide +kernel
theorem dX5_isTaken_22 : decode cX5_isTaken 22 = .ok (.if_icmp .ne 5, 3) := by decide +kernel
theorem dX5_isTaken_25 : decode cX5_isTaken 25 = .ok (.iconst 1, 1) := by decide +kernel
theorem dX5_isTaken_26 : decode cX5_isTaken 26 = .ok (.ireturn, 1) := by decide +kernel
theorem dX5_isTaken_27 : decode cX5_isTaken 27 = .ok (.iinc 3 1, 3) := by decide +kernel
theorem dX5_isTaken_30 : decode cX5_isTaken 30 = .ok (.goto (-28), 3) := by decide +kernel
theorem dX5_isTaken_33 : decode cX5_isTaken 33 = .ok (.iconst 0, 1) := by decide +kernel
theorem dX5_isTaken_34 : decode cX5_isTaken 34 = .ok (.ireturn, 1) := by decide +kernel
set_option maxRecDepth 20000 in
theorem ggX5_goWalks_X5_isTaken : GoodIn wsX5_goWalks wsX5_isTaken := goodIn_r _ [8, 9, 3, 13, 14, 15, 16, 17, 18, 19, 20, 21, 22, 23, 24, 25, 26, 27, 28, 29, 30, 31, 32, 33, 34, 35, 36, 37, 38, 39, 40, 41] (by decide +kernel) (by decide +kernel)
set_option maxRecDepth 20000 in
theorem gX5_goWalks_X5_isTaken : GoodIn wsX5_goWalks (wsV RX5 165 RX5 yX5_isTaken wsX5_isTaken) := goodIn_app (goodIn_of _ (by decide +kernel)) ggX5_goWalks_X5_isTaken
set_option maxRecDepth 20000 in
theorem ggX5_goWalks_X5_apart : GoodIn wsX5_goWalks wsX5_apart := goodIn_r _ [12] (by decide +kernel) (by decide +kernel)
set_option maxRecDepth 20000 in
theorem gX5_goWalks_X5_apart : GoodIn wsX5_goWalks (va_wsS RX5 159 yX5_apart wsX5_apart) := goodIn_app (goodIn_of _ (by decide +kernel)) ggX5_goWalks_X5_apart
theorem dX5_goWalks_0 : decode cX5_goWalks 0 = .ok (.aload_n 0, 1) := by decide +kernel
theorem dX5_goWalks_1 : decode cX5_goWalks 1 = .ok (.iconst 0, 1) := by decide +kernel
theorem dX5_goWalks_2 : decode cX5_goWalks 2 = .ok (.putfield 162, 3) := by decide +kernel
theorem dX5_goWalks_5 : decode cX5_goWalks 5 = .ok (.iconst 0, 1) := by decide +kernel
theorem dX5_goWalks_6 : decode cX5_goWalks 6 = .ok (.istore_n 3, 1) := by decide +kernel
theorem dX5_goWalks_7 : decode cX5_goWalks 7 = .ok (.iload_n 3, 1) := by decide +kernel
theorem dX5_goWalks_8 : decode cX5_goWalks 8 = .ok (.iload_n 2, 1) := by decide +kernel
theorem dX5_goWalks_9 : decode cX5_goWalks 9 = .ok (.if_icmp .ge 78, 3) := by decide +kernel
theorem dX5_goWalks_12 : decode cX5_goWalks 12 = .ok (.aload_n 0, 1) := by decide +kernel
theorem dX5_goWalks_13 : decode cX5_goWalks 13 = .ok (.getfield 16, 3) := by decide +kernel
theorem dX5_goWalks_16 : decode cX5_goWalks 16 = .ok (.iload_n 1, 1) := by decide +kernel
theorem dX5_goWalks_17 : decode cX5_goWalks 17 = .ok (.iconst 2, 1) := by decide +kernel
theorem dX5_goWalks_18 : decode cX5_goWalks 18 = .ok (.iload_n 3, 1) := by decide +kernel
theorem dX5_goWalks_19 : decode cX5_goWalks 19 = .ok (.imul, 1) := by decide +kernel
theorem dX5_goWalks_20 : decode cX5_goWalks 20 = .ok (.iadd, 1) := by decide +kernel
theorem dX5_goWalks_21 : decode cX5_goWalks 21 = .ok (.iaload, 1) := by decide +kernel
theorem dX5_goWalks_22 : decode cX5_goWalks 22 = .ok (.istore 4, 2) := by decide +kernel
theorem dX5_goWalks_24 : decode cX5_goWalks 24 = .ok (.aload_n 0, 1) := by decide +kernel
theorem dX5_goWalks_25 : decode cX5_goWalks 25 = .ok (.getfield 16, 3) := by decide +kernel
theorem dX5_goWalks_28 : decode cX5_goWalks 28 = .ok (.iload_n 1, 1) := by decide +kernel
theorem dX5_goWalks_29 : decode cX5_goWalks 29 = .ok (.iconst 2, 1) := by decide +kernel
theorem dX5_goWalks_30 : decode cX5_goWalks 30 = .ok (.iload_n 3, 1) := by decide +kernel
theorem dX5_goWalks_31 : decode cX5_goWalks 31 = .ok (.imul, 1) := by decide +kernel
theorem dX5_goWalks_32 : decode cX5_goWalks 32 = .ok (.iadd, 1) := by decide +kernel
theorem dX5_goWalks_33 : decode cX5_goWalks 33 = .ok (.iconst 1, 1) := by decide +kernel
theorem dX5_goWalks_34 : decode cX5_goWalks 34 = .ok (.iadd, 1) := by decide +kernel
theorem dX5_goWalks_35 : decode cX5_goWalks 35 = .ok (.iaload, 1) := by decide +kernel
theorem dX5_goWalks_36 : decode cX5_goWalks 36 = .ok (.istore 5, 2) := by decide +kernel
theorem dX5_goWalks_38 : decode cX5_goWalks 38 = .ok (.aload_n 0, 1) := by decide +kernel
theorem dX5_goWalks_39 : decode cX5_goWalks 39 = .ok (.iload 4, 2) := by decide +kernel
theorem dX5_goWalks_41 : decode cX5_goWalks 41 = .ok (.iload 5, 2) := by decide +kernel
theorem dX5_goWalks_43 : decode cX5_goWalks 43 = .ok (.invokevirtual 165, 3) := by decide +kernel
theorem dX5_goWalks_46 : decode cX5_goWalks 46 = .ok (.ifCond .eq 5, 3) := by decide +kernel
theorem dX5_goWalks_49 : decode cX5_goWalks 49 = .ok (.iload_n 3, 1) := by decide +kernel
theorem dX5_goWalks_50 : decode cX5_goWalks 50 = .ok (.ireturn, 1) := by decide +kernel
theorem dX5_goWalks_51 : decode cX5_goWalks 51 = .ok (.aload_n 0, 1) := by decide +kernel
theorem dX5_goWalks_52 : decode cX5_goWalks 52 = .ok (.dup, 1) := by decide +kernel
theorem dX5_goWalks_53 : decode cX5_goWalks 53 = .ok (.getfield 162, 3) := by decide +kernel
theorem dX5_goWalks_56 : decode cX5_goWalks 56 = .ok (.aload_n 0, 1) := by decide +kernel
theorem dX5_goWalks_57 : decode cX5_goWalks 57 = .ok (.getfield 22, 3) := by decide +kernel
theorem dX5_goWalks_60 : decode cX5_goWalks 60 = .ok (.iload 4, 2) := by decide +kernel
theorem dX5_goWalks_62 : decode cX5_goWalks 62 = .ok (.iaload, 1) := by decide +kernel
theorem dX5_goWalks_63 : decode cX5_goWalks 63 = .ok (.iload 5, 2) := by decide +kernel
theorem dX5_goWalks_65 : decode cX5_goWalks 65 = .ok (.invokestatic 159, 3) := by decide +kernel
theorem dX5_goWalks_68 : decode cX5_goWalks 68 = .ok (.iadd, 1) := by decide +kernel
theorem dX5_goWalks_69 : decode cX5_goWalks 69 = .ok (.putfield 162, 3) := by decide +kernel
theorem dX5_goWalks_72 : decode cX5_goWalks 72 = .ok (.aload_n 0, 1) := by decide +kernel
theorem dX5_goWalks_73 : decode cX5_goWalks 73 = .ok (.getfield 22, 3) := by decide +kernel
theorem dX5_goWalks_76 : decode cX5_goWalks 76 = .ok (.iload 4, 2) := by decide +kernel
theorem dX5_goWalks_78 : decode cX5_goWalks 78 = .ok (.iload 5, 2) := by decide +kernel
theorem dX5_goWalks_80 : decode cX5_goWalks 80 = .ok (.iastore, 1) := by decide +kernel
theorem dX5_goWalks_81 : decode cX5_goWalks 81 = .ok (.iinc 3 1, 3) := by decide +kernel
theorem dX5_goWalks_84 : decode cX5_goWalks 84 = .ok (.goto (-77), 3) := by decide +kernel
theorem dX5_goWalks_87 : decode cX5_goWalks 87 = .ok (.bipush (-9), 2) := by decide +kernel
theorem dX5_goWalks_89 : decode cX5_goWalks 89 = .ok (.ireturn, 1) := by decide +kernel
set_option maxRecDepth 20000 in
theorem ggX5_walks_X5_isSheet : GoodIn wsX5_walks wsX5_isSheet := goodIn_r _ [9, 10, 11, 8, 12] (by decide +kernel) (by decide +kernel)
set_option maxRecDepth 20000 in
theorem gX5_walks_X5_isSheet : GoodIn wsX5_walks (va_wsS RX5 66 yX5_isSheet wsX5_isSheet) := goodIn_app (goodIn_of _ (by decide +kernel)) ggX5_walks_X5_isSheet
set_option maxRecDepth 20000 in
theorem ggX5_walks_X5_isSun : GoodIn wsX5_walks wsX5_isSun := goodIn_r _ [15, 10, 11, 8, 12] (by decide +kernel) (by decide +kernel)
set_option maxRecDepth 20000 in
theorem gX5_walks_X5_isSun : GoodIn wsX5_walks (va_wsS RX5 119 yX5_isSun wsX5_isSun) := goodIn_app (goodIn_of _ (by decide +kernel)) ggX5_walks_X5_isSun
set_option maxRecDepth 20000 in
theorem ggX5_walks_X5_isSort : GoodIn wsX5_walks wsX5_isSort := goodIn_r _ [18, 10, 11, 8, 12] (by decide +kernel) (by decide +kernel)
set_option maxRecDepth 20000 in
theorem gX5_walks_X5_isSort : GoodIn wsX5_walks (va_wsS RX5 70 yX5_isSort wsX5_isSort) := goodIn_app (goodIn_of _ (by decide +kernel)) ggX5_walks_X5_isSort
set_option maxRecDepth 20000 in
theorem ggX5_walks_X5_within : GoodIn wsX5_walks wsX5_within := goodIn_r _ [12] (by decide +kernel) (by decide +kernel)
set_option maxRecDepth 20000 in
theorem gX5_walks_X5_within : GoodIn wsX5_walks (va_wsS RX5 56 yX5_within wsX5_within) := goodIn_app (goodIn_of _ (by decide +kernel)) ggX5_walks_X5_within
set_option maxRecDepth 20000 in
theorem ggX5_walks_X5_against : GoodIn wsX5_walks wsX5_against := goodIn_r _ [22, 23, 24, 90, 91, 92, 93, 94, 95, 96, 97, 98, 99, 100, 101, 102, 103, 104, 105, 106, 107, 108, 109, 110, 111, 112, 113, 114, 115, 116, 117, 118] (by decide +kernel) (by decide +kernel)
set_option maxRecDepth 20000 in
theorem gX5_walks_X5_against : GoodIn wsX5_walks (wsV RX5 73 RX5 yX5_against wsX5_against) := goodIn_app (goodIn_of _ (by decide +kernel)) ggX5_walks_X5_against
set_option maxRecDepth 20000 in
theorem ggX5_walks_X5_fails : GoodIn wsX5_walks wsX5_fails := goodIn_r _ [28, 1, 90, 91, 92, 93, 94, 95, 96, 97, 98, 99, 100, 101, 102, 103, 104, 105, 106, 107, 108, 109, 110, 111, 112, 113, 114, 115, 116, 117, 118] (by decide +kernel) (by decide +kernel)
set_option maxRecDepth 20000 in
theorem gX5_walks_X5_fails : GoodIn wsX5_walks (wsV RX5 77 RX5 yX5_fails wsX5_fails) := goodIn_app (goodIn_of _ (by decide +kernel)) ggX5_walks_X5_fails
set_option maxRecDepth 20000 in
theorem ggX5_walks_X5_isStander : GoodIn wsX5_walks wsX5_isStander := goodIn_r _ [32, 2, 90, 91, 92, 93, 94, 95, 96, 97, 98, 99, 100, 101, 102, 103, 104, 105, 106, 107, 108, 109, 110, 111, 112, 113, 114, 115, 116, 117, 118] (by decide +kernel) (by decide +kernel)
set_option maxRecDepth 20000 in
theorem gX5_walks_X5_isStander : GoodIn wsX5_walks (wsV RX5 113 RX5 yX5_isStander wsX5_isStander) := goodIn_app (goodIn_of _ (by decide +kernel)) ggX5_walks_X5_isStander
set_option maxRecDepth 20000 in
theorem ggX5_walks_X5_isDigit : GoodIn wsX5_walks wsX5_isDigit := goodIn_r _ [35, 10, 11, 8, 12] (by decide +kernel) (by decide +kernel)
set_option maxRecDepth 20000 in
theorem gX5_walks_X5_isDigit : GoodIn wsX5_walks (va_wsS RX5 116 yX5_isDigit wsX5_isDigit) := goodIn_app (goodIn_of _ (by decide +kernel)) ggX5_walks_X5_isDigit
set_option maxRecDepth 20000 in
theorem ggX5_walks_X5_goWalks : GoodIn wsX5_walks wsX5_goWalks := goodIn_r _ [39, 40, 3, 5, 41, 42, 43, 8, 44, 2, 45, 46, 47, 90, 91, 92, 93, 94, 95, 96, 97, 98, 99, 100, 101, 102, 103, 104, 105, 106, 107, 108, 109, 110, 111, 112, 113, 114, 115, 116, 117, 118] (by decide +kernel) (by decide +kernel)
set_option maxRecDepth 20000 in
theorem gX5_walks_X5_goWalks : GoodIn wsX5_walks (wsV RX5 168 RX5 yX5_goWalks wsX5_goWalks) := goodIn_app (goodIn_of _ (by decide +kernel)) ggX5_walks_X5_goWalks
set_option maxRecDepth 20000 in
theorem ggX5_walks_X5_tellWalks : GoodIn wsX5_walks wsX5_tellWalks := goodIn_r _ [51, 5, 40, 29, 30, 31, 8, 32, 2, 52, 53, 54, 55, 56, 57, 58, 59, 60, 61, 62, 63, 64, 65, 66, 67, 68, 69, 70, 71, 72, 73, 74, 75, 76, 77, 78, 79, 80, 81, 82, 83, 84, 85, 86, 87, 88, 89, 90, 91, 92, 93, 94, 95, 96, 97, 98, 99, 100, 101, 102, 103, 104, 105, 106, 107, 108, 109, 110, 111, 112, 113, 114, 115, 116, 117, 118] (by decide +kernel) (by decide +kernel)
set_option maxRecDepth 20000 in
theorem gX5_walks_X5_tellWalks : GoodIn wsX5_walks (wsV RX5 171 RX5 yX5_tellWalks wsX5_tellWalks) := goodIn_app (goodIn_of _ (by decide +kernel)) ggX5_walks_X5_tellWalks
theorem dX5_walks_0 : decode cX5_walks 0 = .ok (.aload_n 0, 1) := by decide +kernel
theorem dX5_walks_1 : decode cX5_walks 1 = .ok (.iconst 0, 1) := by decide +kernel
theorem dX5_walks_2 : decode cX5_walks 2 = .ok (.putfield 50, 3) := by decide +kernel
theorem dX5_walks_5 : decode cX5_walks 5 = .ok (.iload_n 2, 1) := by decide +kernel
theorem dX5_walks_6 : decode cX5_walks 6 = .ok (.invokestatic 66, 3) := by decide +kernel
theorem dX5_walks_9 : decode cX5_walks 9 = .ok (.ifCond .ne 5, 3) := by decide +kernel
theorem dX5_walks_12 : decode cX5_walks 12 = .ok (.iconst (-1), 1) := by decide +kernel
theorem dX5_walks_13 : decode cX5_walks 13 = .ok (.ireturn, 1) := by decide +kernel
theorem dX5_walks_14 : decode cX5_walks 14 = .ok (.iload_n 1, 1) := by decide +kernel
theorem dX5_walks_15 : decode cX5_walks 15 = .ok (.invokestatic 119, 3) := by decide +kernel
theorem dX5_walks_18 : decode cX5_walks 18 = .ok (.ifCond .eq 43, 3) := by decide +kernel
theorem dX5_walks_21 : decode cX5_walks 21 = .ok (.iload_n 3, 1) := by decide +kernel
theorem dX5_walks_22 : decode cX5_walks 22 = .ok (.invokestatic 70, 3) := by decide +kernel
theorem dX5_walks_25 : decode cX5_walks 25 = .ok (.ifCond .eq 36, 3) := by decide +kernel
theorem dX5_walks_28 : decode cX5_walks 28 = .ok (.iload 5, 2) := by decide +kernel
theorem dX5_walks_30 : decode cX5_walks 30 = .ok (.iconst 0, 1) := by decide +kernel
theorem dX5_walks_31 : decode cX5_walks 31 = .ok (.bipush 20, 2) := by decide +kernel
theorem dX5_walks_33 : decode cX5_walks 33 = .ok (.invokestatic 56, 3) := by decide +kernel
theorem dX5_walks_36 : decode cX5_walks 36 = .ok (.ifCond .eq 25, 3) := by decide +kernel
theorem dX5_walks_39 : decode cX5_walks 39 = .ok (.iload 6, 2) := by decide +kernel
theorem dX5_walks_41 : decode cX5_walks 41 = .ok (.iconst 0, 1) := by decide +kernel
theorem dX5_walks_42 : decode cX5_walks 42 = .ok (.iconst 3, 1) := by decide +kernel
theorem dX5_walks_43 : decode cX5_walks 43 = .ok (.invokestatic 56, 3) := by decide +kernel
theorem dX5_walks_46 : decode cX5_walks 46 = .ok (.ifCond .ne 18, 3) := by decide +kernel
theorem dX5_walks_49 : decode cX5_walks 49 = .ok (.iload 6, 2) := by decide +kernel
theorem dX5_walks_51 : decode cX5_walks 51 = .ok (.bipush 10, 2) := by decide +kernel
theorem dX5_walks_53 : decode cX5_walks 53 = .ok (.bipush 14, 2) := by decide +kernel
theorem dX5_walks_55 : decode cX5_walks 55 = .ok (.invokestatic 56, 3) := by decide +kernel
theorem dX5_walks_58 : decode cX5_walks 58 = .ok (.ifCond .ne 6, 3) := by decide +kernel
theorem dX5_walks_61 : decode cX5_walks 61 = .ok (.bipush (-2), 2) := by decide +kernel
theorem dX5_walks_63 : decode cX5_walks 63 = .ok (.ireturn, 1) := by decide +kernel
theorem dX5_walks_64 : decode cX5_walks 64 = .ok (.aload_n 0, 1) := by decide +kernel
theorem dX5_walks_65 : decode cX5_walks 65 = .ok (.iload_n 2, 1) := by decide +kernel
theorem dX5_walks_66 : decode cX5_walks 66 = .ok (.iload_n 3, 1) := by decide +kernel
theorem dX5_walks_67 : decode cX5_walks 67 = .ok (.iload 4, 2) := by decide +kernel
theorem dX5_walks_69 : decode cX5_walks 69 = .ok (.iconst 2, 1) := by decide +kernel
theorem dX5_walks_70 : decode cX5_walks 70 = .ok (.iload 5, 2) := by decide +kernel
theorem dX5_walks_72 : decode cX5_walks 72 = .ok (.imul, 1) := by decide +kernel
theorem dX5_walks_73 : decode cX5_walks 73 = .ok (.invokevirtual 73, 3) := by decide +kernel
theorem dX5_walks_76 : decode cX5_walks 76 = .ok (.istore 7, 2) := by decide +kernel
theorem dX5_walks_78 : decode cX5_walks 78 = .ok (.iload 7, 2) := by decide +kernel
theorem dX5_walks_80 : decode cX5_walks 80 = .ok (.ifCond .eq 10, 3) := by decide +kernel
theorem dX5_walks_83 : decode cX5_walks 83 = .ok (.aload_n 0, 1) := by decide +kernel
theorem dX5_walks_84 : decode cX5_walks 84 = .ok (.iload 7, 2) := by decide +kernel
theorem dX5_walks_86 : decode cX5_walks 86 = .ok (.invokevirtual 77, 3) := by decide +kernel
theorem dX5_walks_89 : decode cX5_walks 89 = .ok (.ireturn, 1) := by decide +kernel
theorem dX5_walks_90 : decode cX5_walks 90 = .ok (.aload_n 0, 1) := by decide +kernel
theorem dX5_walks_91 : decode cX5_walks 91 = .ok (.getfield 60, 3) := by decide +kernel
theorem dX5_walks_94 : decode cX5_walks 94 = .ok (.ifCond .ne 6, 3) := by decide +kernel
theorem dX5_walks_97 : decode cX5_walks 97 = .ok (.bipush (-3), 2) := by decide +kernel
theorem dX5_walks_99 : decode cX5_walks 99 = .ok (.ireturn, 1) := by decide +kernel
theorem dX5_walks_100 : decode cX5_walks 100 = .ok (.bipush 60, 2) := by decide +kernel
theorem dX5_walks_102 : decode cX5_walks 102 = .ok (.iload_n 2, 1) := by decide +kernel
theorem dX5_walks_103 : decode cX5_walks 103 = .ok (.imul, 1) := by decide +kernel
theorem dX5_walks_104 : decode cX5_walks 104 = .ok (.iload 4, 2) := by decide +kernel
theorem dX5_walks_106 : decode cX5_walks 106 = .ok (.iadd, 1) := by decide +kernel
theorem dX5_walks_107 : decode cX5_walks 107 = .ok (.istore 8, 2) := by decide +kernel
theorem dX5_walks_109 : decode cX5_walks 109 = .ok (.iconst 0, 1) := by decide +kernel
theorem dX5_walks_110 : decode cX5_walks 110 = .ok (.istore 9, 2) := by decide +kernel
theorem dX5_walks_112 : decode cX5_walks 112 = .ok (.iload 9, 2) := by decide +kernel
theorem dX5_walks_114 : decode cX5_walks 114 = .ok (.iload 5, 2) := by decide +kernel
theorem dX5_walks_116 : decode cX5_walks 116 = .ok (.if_icmp .ge 53, 3) := by decide +kernel
theorem dX5_walks_119 : decode cX5_walks 119 = .ok (.aload_n 0, 1) := by decide +kernel
theorem dX5_walks_120 : decode cX5_walks 120 = .ok (.aload_n 0, 1) := by decide +kernel
theorem dX5_walks_121 : decode cX5_walks 121 = .ok (.getfield 16, 3) := by decide +kernel
theorem dX5_walks_124 : decode cX5_walks 124 = .ok (.iload 8, 2) := by decide +kernel
theorem dX5_walks_126 : decode cX5_walks 126 = .ok (.iconst 2, 1) := by decide +kernel
theorem dX5_walks_127 : decode cX5_walks 127 = .ok (.iload 9, 2) := by decide +kernel
theorem dX5_walks_129 : decode cX5_walks 129 = .ok (.imul, 1) := by decide +kernel
theorem dX5_walks_130 : decode cX5_walks 130 = .ok (.iadd, 1) := by decide +kernel
theorem dX5_walks_131 : decode cX5_walks 131 = .ok (.iaload, 1) := by decide +kernel
theorem dX5_walks_132 : decode cX5_walks 132 = .ok (.invokevirtual 113, 3) := by decide +kernel
theorem dX5_walks_135 : decode cX5_walks 135 = .ok (.ifCond .ne 5, 3) := by decide +kernel
theorem dX5_walks_138 : decode cX5_walks 138 = .ok (.iconst (-1), 1) := by decide +kernel
theorem dX5_walks_139 : decode cX5_walks 139 = .ok (.ireturn, 1) := by decide +kernel
theorem dX5_walks_140 : decode cX5_walks 140 = .ok (.aload_n 0, 1) := by decide +kernel
theorem dX5_walks_141 : decode cX5_walks 141 = .ok (.getfield 16, 3) := by decide +kernel
theorem dX5_walks_144 : decode cX5_walks 144 = .ok (.iload 8, 2) := by decide +kernel
theorem dX5_walks_146 : decode cX5_walks 146 = .ok (.iconst 2, 1) := by decide +kernel
theorem dX5_walks_147 : decode cX5_walks 147 = .ok (.iload 9, 2) := by decide +kernel
theorem dX5_walks_149 : decode cX5_walks 149 = .ok (.imul, 1) := by decide +kernel
theorem dX5_walks_150 : decode cX5_walks 150 = .ok (.iadd, 1) := by decide +kernel
theorem dX5_walks_151 : decode cX5_walks 151 = .ok (.iconst 1, 1) := by decide +kernel
theorem dX5_walks_152 : decode cX5_walks 152 = .ok (.iadd, 1) := by decide +kernel
theorem dX5_walks_153 : decode cX5_walks 153 = .ok (.iaload, 1) := by decide +kernel
theorem dX5_walks_154 : decode cX5_walks 154 = .ok (.invokestatic 116, 3) := by decide +kernel
theorem dX5_walks_157 : decode cX5_walks 157 = .ok (.ifCond .ne 6, 3) := by decide +kernel
theorem dX5_walks_160 : decode cX5_walks 160 = .ok (.bipush (-2), 2) := by decide +kernel
theorem dX5_walks_162 : decode cX5_walks 162 = .ok (.ireturn, 1) := by decide +kernel
theorem dX5_walks_163 : decode cX5_walks 163 = .ok (.iinc 9 1, 3) := by decide +kernel
theorem dX5_walks_166 : decode cX5_walks 166 = .ok (.goto (-54), 3) := by decide +kernel
theorem dX5_walks_169 : decode cX5_walks 169 = .ok (.iconst 0, 1) := by decide +kernel
theorem dX5_walks_170 : decode cX5_walks 170 = .ok (.istore 9, 2) := by decide +kernel
theorem dX5_walks_172 : decode cX5_walks 172 = .ok (.iload 9, 2) := by decide +kernel
theorem dX5_walks_174 : decode cX5_walks 174 = .ok (.aload_n 0, 1) := by decide +kernel
theorem dX5_walks_175 : decode cX5_walks 175 = .ok (.getfield 60, 3) := by decide +kernel
theorem dX5_walks_178 : decode cX5_walks 178 = .ok (.if_icmp .ge 23, 3) := by decide +kernel
theorem dX5_walks_181 : decode cX5_walks 181 = .ok (.aload_n 0, 1) := by decide +kernel
theorem dX5_walks_182 : decode cX5_walks 182 = .ok (.getfield 41, 3) := by decide +kernel
theorem dX5_walks_185 : decode cX5_walks 185 = .ok (.iload 9, 2) := by decide +kernel
theorem dX5_walks_187 : decode cX5_walks 187 = .ok (.aload_n 0, 1) := by decide +kernel
theorem dX5_walks_188 : decode cX5_walks 188 = .ok (.getfield 22, 3) := by decide +kernel
theorem dX5_walks_191 : decode cX5_walks 191 = .ok (.iload 9, 2) := by decide +kernel
theorem dX5_walks_193 : decode cX5_walks 193 = .ok (.iaload, 1) := by decide +kernel
theorem dX5_walks_194 : decode cX5_walks 194 = .ok (.iastore, 1) := by decide +kernel
theorem dX5_walks_195 : decode cX5_walks 195 = .ok (.iinc 9 1, 3) := by decide +kernel
theorem dX5_walks_198 : decode cX5_walks 198 = .ok (.goto (-26), 3) := by decide +kernel
theorem dX5_walks_201 : decode cX5_walks 201 = .ok (.aload_n 0, 1) := by decide +kernel
theorem dX5_walks_202 : decode cX5_walks 202 = .ok (.iload 8, 2) := by decide +kernel
theorem dX5_walks_204 : decode cX5_walks 204 = .ok (.iload 5, 2) := by decide +kernel
theorem dX5_walks_206 : decode cX5_walks 206 = .ok (.invokevirtual 168, 3) := by decide +kernel
theorem dX5_walks_209 : decode cX5_walks 209 = .ok (.istore 9, 2) := by decide +kernel
theorem dX5_walks_211 : decode cX5_walks 211 = .ok (.aload_n 0, 1) := by decide +kernel
theorem dX5_walks_212 : decode cX5_walks 212 = .ok (.iload_n 1, 1) := by decide +kernel
theorem dX5_walks_213 : decode cX5_walks 213 = .ok (.iload 6, 2) := by decide +kernel
theorem dX5_walks_215 : decode cX5_walks 215 = .ok (.invokevirtual 171, 3) := by decide +kernel
theorem dX5_walks_218 : decode cX5_walks 218 = .ok (.istore 10, 2) := by decide +kernel
theorem dX5_walks_220 : decode cX5_walks 220 = .ok (.iconst 0, 1) := by decide +kernel
theorem dX5_walks_221 : decode cX5_walks 221 = .ok (.istore 11, 2) := by decide +kernel
theorem dX5_walks_223 : decode cX5_walks 223 = .ok (.iload 11, 2) := by decide +kernel
theorem dX5_walks_225 : decode cX5_walks 225 = .ok (.aload_n 0, 1) := by decide +kernel
theorem dX5_walks_226 : decode cX5_walks 226 = .ok (.getfield 60, 3) := by decide +kernel
theorem dX5_walks_229 : decode cX5_walks 229 = .ok (.if_icmp .ge 23, 3) := by decide +kernel
theorem dX5_walks_232 : decode cX5_walks 232 = .ok (.aload_n 0, 1) := by decide +kernel
theorem dX5_walks_233 : decode cX5_walks 233 = .ok (.getfield 22, 3) := by decide +kernel
theorem dX5_walks_236 : decode cX5_walks 236 = .ok (.iload 11, 2) := by decide +kernel
theorem dX5_walks_238 : decode cX5_walks 238 = .ok (.aload_n 0, 1) := by decide +kernel
theorem dX5_walks_239 : decode cX5_walks 239 = .ok (.getfield 41, 3) := by decide +kernel
theorem dX5_walks_242 : decode cX5_walks 242 = .ok (.iload 11, 2) := by decide +kernel
theorem dX5_walks_244 : decode cX5_walks 244 = .ok (.iaload, 1) := by decide +kernel
theorem dX5_walks_245 : decode cX5_walks 245 = .ok (.iastore, 1) := by decide +kernel
theorem dX5_walks_246 : decode cX5_walks 246 = .ok (.iinc 11 1, 3) := by decide +kernel
theorem dX5_walks_249 : decode cX5_walks 249 = .ok (.goto (-26), 3) := by decide +kernel
theorem dX5_walks_252 : decode cX5_walks 252 = .ok (.iload 6, 2) := by decide +kernel
theorem dX5_walks_254 : decode cX5_walks 254 = .ok (.iconst 1, 1) := by decide +kernel
theorem dX5_walks_255 : decode cX5_walks 255 = .ok (.if_icmp .ne 8, 3) := by decide +kernel
theorem dX5_walks_258 : decode cX5_walks 258 = .ok (.iload 9, 2) := by decide +kernel
theorem dX5_walks_260 : decode cX5_walks 260 = .ok (.goto 20, 3) := by decide +kernel
theorem dX5_walks_263 : decode cX5_walks 263 = .ok (.iload 9, 2) := by decide +kernel
theorem dX5_walks_265 : decode cX5_walks 265 = .ok (.bipush (-9), 2) := by decide +kernel
theorem dX5_walks_267 : decode cX5_walks 267 = .ok (.if_icmp .ne 8, 3) := by decide +kernel
theorem dX5_walks_270 : decode cX5_walks 270 = .ok (.iload 10, 2) := by decide +kernel
theorem dX5_walks_272 : decode cX5_walks 272 = .ok (.goto 8, 3) := by decide +kernel
theorem dX5_walks_275 : decode cX5_walks 275 = .ok (.bipush (-100), 2) := by decide +kernel
theorem dX5_walks_277 : decode cX5_walks 277 = .ok (.iload 9, 2) := by decide +kernel
theorem dX5_walks_279 : decode cX5_walks 279 = .ok (.isub, 1) := by decide +kernel
theorem dX5_walks_280 : decode cX5_walks 280 = .ok (.ireturn, 1) := by decide +kernel
set_option maxRecDepth 20000 in
theorem ggX5_tellWalks_X5_isStander : GoodIn wsX5_tellWalks wsX5_isStander := goodIn_r _ [7, 8, 47, 48, 49, 50, 51, 52, 53, 54, 55, 56, 57, 58, 59, 60, 61, 62, 63, 64, 65, 66, 67, 68, 69, 70, 71, 72, 73, 74, 75] (by decide +kernel) (by decide +kernel)
set_option maxRecDepth 20000 in
theorem gX5_tellWalks_X5_isStander : GoodIn wsX5_tellWalks (wsV RX5 113 RX5 yX5_isStander wsX5_isStander) := goodIn_app (goodIn_of _ (by decide +kernel)) ggX5_tellWalks_X5_isStander
set_option maxRecDepth 20000 in
theorem ggX5_tellWalks_X5_censusOf : GoodIn wsX5_tellWalks wsX5_censusOf := goodIn_r _ [12, 13, 14, 15, 16, 6, 17, 18, 19, 20, 21, 22, 23, 24, 25, 8, 26, 1, 27, 28, 29, 30, 31, 32, 33, 34, 35, 36, 37, 38, 39, 40, 41, 42, 47, 48, 49, 50, 51, 52, 53, 54, 55, 56, 57, 58, 59, 60, 61, 62, 63, 64, 65, 66, 67, 68, 69, 70, 71, 72, 73, 74, 75] (by decide +kernel) (by decide +kernel)
set_option maxRecDepth 20000 in
theorem gX5_tellWalks_X5_censusOf : GoodIn wsX5_tellWalks (wsV RX5 156 RX5 yX5_censusOf wsX5_censusOf) := goodIn_app (goodIn_of _ (by decide +kernel)) ggX5_tellWalks_X5_censusOf
set_option maxRecDepth 20000 in
theorem ggX5_tellWalks_X5_hiddenOf : GoodIn wsX5_tellWalks wsX5_hiddenOf := goodIn_r _ [46, 8, 27, 28, 29, 6, 30, 1, 31, 47, 48, 49, 50, 51, 52, 53, 54, 55, 56, 57, 58, 59, 60, 61, 62, 63, 64, 65, 66, 67, 68, 69, 70, 71, 72, 73, 74, 75] (by decide +kernel) (by decide +kernel)
set_option maxRecDepth 20000 in
theorem gX5_tellWalks_X5_hiddenOf : GoodIn wsX5_tellWalks (wsV RX5 153 RX5 yX5_hiddenOf wsX5_hiddenOf) := goodIn_app (goodIn_of _ (by decide +kernel)) ggX5_tellWalks_X5_hiddenOf
theorem dX5_tellWalks_0 : decode cX5_tellWalks 0 = .ok (.iload_n 2, 1) := by decide +kernel
theorem dX5_tellWalks_1 : decode cX5_tellWalks 1 = .ok (.bipush 10, 2) := by decide +kernel
theorem dX5_tellWalks_3 : decode cX5_tellWalks 3 = .ok (.if_icmp .lt 29, 3) := by decide +kernel
theorem dX5_tellWalks_6 : decode cX5_tellWalks 6 = .ok (.aload_n 0, 1) := by decide +kernel
theorem dX5_tellWalks_7 : decode cX5_tellWalks 7 = .ok (.iload_n 2, 1) := by decide +kernel
theorem dX5_tellWalks_8 : decode cX5_tellWalks 8 = .ok (.bipush 10, 2) := by decide +kernel
theorem dX5_tellWalks_10 : decode cX5_tellWalks 10 = .ok (.isub, 1) := by decide +kernel
theorem dX5_tellWalks_11 : decode cX5_tellWalks 11 = .ok (.invokevirtual 113, 3) := by decide +kernel
theorem dX5_tellWalks_14 : decode cX5_tellWalks 14 = .ok (.ifCond .eq 15, 3) := by decide +kernel
theorem dX5_tellWalks_17 : decode cX5_tellWalks 17 = .ok (.aload_n 0, 1) := by decide +kernel
theorem dX5_tellWalks_18 : decode cX5_tellWalks 18 = .ok (.getfield 22, 3) := by decide +kernel
theorem dX5_tellWalks_21 : decode cX5_tellWalks 21 = .ok (.iload_n 2, 1) := by decide +kernel
theorem dX5_tellWalks_22 : decode cX5_tellWalks 22 = .ok (.bipush 10, 2) := by decide +kernel
theorem dX5_tellWalks_24 : decode cX5_tellWalks 24 = .ok (.isub, 1) := by decide +kernel
theorem dX5_tellWalks_25 : decode cX5_tellWalks 25 = .ok (.iaload, 1) := by decide +kernel
theorem dX5_tellWalks_26 : decode cX5_tellWalks 26 = .ok (.goto 5, 3) := by decide +kernel
theorem dX5_tellWalks_29 : decode cX5_tellWalks 29 = .ok (.bipush (-9), 2) := by decide +kernel
theorem dX5_tellWalks_31 : decode cX5_tellWalks 31 = .ok (.ireturn, 1) := by decide +kernel
theorem dX5_tellWalks_32 : decode cX5_tellWalks 32 = .ok (.iload_n 2, 1) := by decide +kernel
theorem dX5_tellWalks_33 : decode cX5_tellWalks 33 = .ok (.ifCond .ne 11, 3) := by decide +kernel
theorem dX5_tellWalks_36 : decode cX5_tellWalks 36 = .ok (.aload_n 0, 1) := by decide +kernel
theorem dX5_tellWalks_37 : decode cX5_tellWalks 37 = .ok (.iload_n 1, 1) := by decide +kernel
theorem dX5_tellWalks_38 : decode cX5_tellWalks 38 = .ok (.invokevirtual 156, 3) := by decide +kernel
theorem dX5_tellWalks_41 : decode cX5_tellWalks 41 = .ok (.goto 20, 3) := by decide +kernel
theorem dX5_tellWalks_44 : decode cX5_tellWalks 44 = .ok (.iload_n 2, 1) := by decide +kernel
theorem dX5_tellWalks_45 : decode cX5_tellWalks 45 = .ok (.iconst 2, 1) := by decide +kernel
theorem dX5_tellWalks_46 : decode cX5_tellWalks 46 = .ok (.if_icmp .ne 10, 3) := by decide +kernel
theorem dX5_tellWalks_49 : decode cX5_tellWalks 49 = .ok (.aload_n 0, 1) := by decide +kernel
theorem dX5_tellWalks_50 : decode cX5_tellWalks 50 = .ok (.getfield 162, 3) := by decide +kernel
theorem dX5_tellWalks_53 : decode cX5_tellWalks 53 = .ok (.goto 8, 3) := by decide +kernel
theorem dX5_tellWalks_56 : decode cX5_tellWalks 56 = .ok (.aload_n 0, 1) := by decide +kernel
theorem dX5_tellWalks_57 : decode cX5_tellWalks 57 = .ok (.iload_n 1, 1) := by decide +kernel
theorem dX5_tellWalks_58 : decode cX5_tellWalks 58 = .ok (.invokevirtual 153, 3) := by decide +kernel
theorem dX5_tellWalks_61 : decode cX5_tellWalks 61 = .ok (.ireturn, 1) := by decide +kernel
set_option maxRecDepth 20000 in
theorem ggX5_pair_X5_isStander : GoodIn wsX5_pair wsX5_isStander := goodIn_r _ [6, 7, 48, 49, 50, 51, 52, 53, 54, 55, 56, 57, 58, 59, 60, 61, 62, 63, 64, 65, 66, 67, 68, 69, 70, 71, 72, 73, 74, 75, 76] (by decide +kernel) (by decide +kernel)
set_option maxRecDepth 20000 in
theorem gX5_pair_X5_isStander : GoodIn wsX5_pair (wsV RX5 113 RX5 yX5_isStander wsX5_isStander) := goodIn_app (goodIn_of _ (by decide +kernel)) ggX5_pair_X5_isStander
set_option maxRecDepth 20000 in
theorem ggX5_pair_X5_isSun : GoodIn wsX5_pair wsX5_isSun := goodIn_r _ [10, 11, 12, 5, 13] (by decide +kernel) (by decide +kernel)
set_option maxRecDepth 20000 in
theorem gX5_pair_X5_isSun : GoodIn wsX5_pair (va_wsS RX5 119 yX5_isSun wsX5_isSun) := goodIn_app (goodIn_of _ (by decide +kernel)) ggX5_pair_X5_isSun
set_option maxRecDepth 20000 in
theorem ggX5_pair_X5_within : GoodIn wsX5_pair wsX5_within := goodIn_r _ [13] (by decide +kernel) (by decide +kernel)
set_option maxRecDepth 20000 in
theorem gX5_pair_X5_within : GoodIn wsX5_pair (va_wsS RX5 56 yX5_within wsX5_within) := goodIn_app (goodIn_of _ (by decide +kernel)) ggX5_pair_X5_within
set_option maxRecDepth 20000 in
theorem ggX5_pair_X5_isHidden : GoodIn wsX5_pair wsX5_isHidden := goodIn_r _ [17, 1, 18, 48, 49, 50, 51, 52, 53, 54, 55, 56, 57, 58, 59, 60, 61, 62, 63, 64, 65, 66, 67, 68, 69, 70, 71, 72, 73, 74, 75, 76] (by decide +kernel) (by decide +kernel)
set_option maxRecDepth 20000 in
theorem gX5_pair_X5_isHidden : GoodIn wsX5_pair (wsV RX5 128 RX5 yX5_isHidden wsX5_isHidden) := goodIn_app (goodIn_of _ (by decide +kernel)) ggX5_pair_X5_isHidden
set_option maxRecDepth 20000 in
theorem ggX5_pair_X5_censusOf : GoodIn wsX5_pair wsX5_censusOf := goodIn_r _ [22, 23, 24, 25, 26, 5, 27, 28, 29, 30, 31, 32, 33, 34, 35, 7, 36, 1, 14, 15, 16, 17, 18, 37, 38, 39, 40, 41, 42, 43, 44, 45, 46, 47, 48, 49, 50, 51, 52, 53, 54, 55, 56, 57, 58, 59, 60, 61, 62, 63, 64, 65, 66, 67, 68, 69, 70, 71, 72, 73, 74, 75, 76] (by decide +kernel) (by decide +kernel)
set_option maxRecDepth 20000 in
theorem gX5_pair_X5_censusOf : GoodIn wsX5_pair (wsV RX5 156 RX5 yX5_censusOf wsX5_censusOf) := goodIn_app (goodIn_of _ (by decide +kernel)) ggX5_pair_X5_censusOf
theorem dX5_pair_0 : decode cX5_pair 0 = .ok (.aload_n 0, 1) := by decide +kernel
theorem dX5_pair_1 : decode cX5_pair 1 = .ok (.iload_n 1, 1) := by decide +kernel
theorem dX5_pair_2 : decode cX5_pair 2 = .ok (.invokevirtual 113, 3) := by decide +kernel
theorem dX5_pair_5 : decode cX5_pair 5 = .ok (.ifCond .eq 16, 3) := by decide +kernel
theorem dX5_pair_8 : decode cX5_pair 8 = .ok (.aload_n 0, 1) := by decide +kernel
theorem dX5_pair_9 : decode cX5_pair 9 = .ok (.iload_n 2, 1) := by decide +kernel
theorem dX5_pair_10 : decode cX5_pair 10 = .ok (.invokevirtual 113, 3) := by decide +kernel
theorem dX5_pair_13 : decode cX5_pair 13 = .ok (.ifCond .eq 8, 3) := by decide +kernel
theorem dX5_pair_16 : decode cX5_pair 16 = .ok (.iload_n 1, 1) := by decide +kernel
theorem dX5_pair_17 : decode cX5_pair 17 = .ok (.iload_n 2, 1) := by decide +kernel
theorem dX5_pair_18 : decode cX5_pair 18 = .ok (.if_icmp .ne 5, 3) := by decide +kernel
theorem dX5_pair_21 : decode cX5_pair 21 = .ok (.iconst (-1), 1) := by decide +kernel
theorem dX5_pair_22 : decode cX5_pair 22 = .ok (.ireturn, 1) := by decide +kernel
theorem dX5_pair_23 : decode cX5_pair 23 = .ok (.iload_n 3, 1) := by decide +kernel
theorem dX5_pair_24 : decode cX5_pair 24 = .ok (.invokestatic 119, 3) := by decide +kernel
theorem dX5_pair_27 : decode cX5_pair 27 = .ok (.ifCond .eq 13, 3) := by decide +kernel
theorem dX5_pair_30 : decode cX5_pair 30 = .ok (.iload 4, 2) := by decide +kernel
theorem dX5_pair_32 : decode cX5_pair 32 = .ok (.iconst 0, 1) := by decide +kernel
theorem dX5_pair_33 : decode cX5_pair 33 = .ok (.iconst 2, 1) := by decide +kernel
theorem dX5_pair_34 : decode cX5_pair 34 = .ok (.invokestatic 56, 3) := by decide +kernel
theorem dX5_pair_37 : decode cX5_pair 37 = .ok (.ifCond .ne 6, 3) := by decide +kernel
theorem dX5_pair_40 : decode cX5_pair 40 = .ok (.bipush (-2), 2) := by decide +kernel
theorem dX5_pair_42 : decode cX5_pair 42 = .ok (.ireturn, 1) := by decide +kernel
theorem dX5_pair_43 : decode cX5_pair 43 = .ok (.aload_n 0, 1) := by decide +kernel
theorem dX5_pair_44 : decode cX5_pair 44 = .ok (.getfield 22, 3) := by decide +kernel
theorem dX5_pair_47 : decode cX5_pair 47 = .ok (.iload_n 1, 1) := by decide +kernel
theorem dX5_pair_48 : decode cX5_pair 48 = .ok (.iaload, 1) := by decide +kernel
theorem dX5_pair_49 : decode cX5_pair 49 = .ok (.istore 5, 2) := by decide +kernel
theorem dX5_pair_51 : decode cX5_pair 51 = .ok (.aload_n 0, 1) := by decide +kernel
theorem dX5_pair_52 : decode cX5_pair 52 = .ok (.getfield 22, 3) := by decide +kernel
theorem dX5_pair_55 : decode cX5_pair 55 = .ok (.iload_n 2, 1) := by decide +kernel
theorem dX5_pair_56 : decode cX5_pair 56 = .ok (.iaload, 1) := by decide +kernel
theorem dX5_pair_57 : decode cX5_pair 57 = .ok (.istore 6, 2) := by decide +kernel
theorem dX5_pair_59 : decode cX5_pair 59 = .ok (.bipush (-9), 2) := by decide +kernel
theorem dX5_pair_61 : decode cX5_pair 61 = .ok (.istore 7, 2) := by decide +kernel
theorem dX5_pair_63 : decode cX5_pair 63 = .ok (.iconst 0, 1) := by decide +kernel
theorem dX5_pair_64 : decode cX5_pair 64 = .ok (.istore 8, 2) := by decide +kernel
theorem dX5_pair_66 : decode cX5_pair 66 = .ok (.iconst 0, 1) := by decide +kernel
theorem dX5_pair_67 : decode cX5_pair 67 = .ok (.istore 9, 2) := by decide +kernel
theorem dX5_pair_69 : decode cX5_pair 69 = .ok (.iload 9, 2) := by decide +kernel
theorem dX5_pair_71 : decode cX5_pair 71 = .ok (.bipush 100, 2) := by decide +kernel
theorem dX5_pair_73 : decode cX5_pair 73 = .ok (.if_icmp .ge 89, 3) := by decide +kernel
theorem dX5_pair_76 : decode cX5_pair 76 = .ok (.aload_n 0, 1) := by decide +kernel
theorem dX5_pair_77 : decode cX5_pair 77 = .ok (.getfield 22, 3) := by decide +kernel
theorem dX5_pair_80 : decode cX5_pair 80 = .ok (.iload_n 1, 1) := by decide +kernel
theorem dX5_pair_81 : decode cX5_pair 81 = .ok (.iload 9, 2) := by decide +kernel
theorem dX5_pair_83 : decode cX5_pair 83 = .ok (.bipush 10, 2) := by decide +kernel
theorem dX5_pair_85 : decode cX5_pair 85 = .ok (.idiv, 1) := by decide +kernel
theorem dX5_pair_86 : decode cX5_pair 86 = .ok (.iastore, 1) := by decide +kernel
theorem dX5_pair_87 : decode cX5_pair 87 = .ok (.aload_n 0, 1) := by decide +kernel
theorem dX5_pair_88 : decode cX5_pair 88 = .ok (.getfield 22, 3) := by decide +kernel
theorem dX5_pair_91 : decode cX5_pair 91 = .ok (.iload_n 2, 1) := by decide +kernel
theorem dX5_pair_92 : decode cX5_pair 92 = .ok (.iload 9, 2) := by decide +kernel
theorem dX5_pair_94 : decode cX5_pair 94 = .ok (.bipush 10, 2) := by decide +kernel
theorem dX5_pair_96 : decode cX5_pair 96 = .ok (.irem, 1) := by decide +kernel
theorem dX5_pair_97 : decode cX5_pair 97 = .ok (.iastore, 1) := by decide +kernel
theorem dX5_pair_98 : decode cX5_pair 98 = .ok (.aload_n 0, 1) := by decide +kernel
theorem dX5_pair_99 : decode cX5_pair 99 = .ok (.iload_n 1, 1) := by decide +kernel
theorem dX5_pair_100 : decode cX5_pair 100 = .ok (.iload_n 3, 1) := by decide +kernel
theorem dX5_pair_101 : decode cX5_pair 101 = .ok (.invokevirtual 128, 3) := by decide +kernel
theorem dX5_pair_104 : decode cX5_pair 104 = .ok (.ifCond .ne 16, 3) := by decide +kernel
theorem dX5_pair_107 : decode cX5_pair 107 = .ok (.aload_n 0, 1) := by decide +kernel
theorem dX5_pair_108 : decode cX5_pair 108 = .ok (.iload_n 2, 1) := by decide +kernel
theorem dX5_pair_109 : decode cX5_pair 109 = .ok (.iload_n 3, 1) := by decide +kernel
theorem dX5_pair_110 : decode cX5_pair 110 = .ok (.invokevirtual 128, 3) := by decide +kernel
theorem dX5_pair_113 : decode cX5_pair 113 = .ok (.ifCond .ne 7, 3) := by decide +kernel
theorem dX5_pair_116 : decode cX5_pair 116 = .ok (.iconst 1, 1) := by decide +kernel
theorem dX5_pair_117 : decode cX5_pair 117 = .ok (.goto 4, 3) := by decide +kernel
theorem dX5_pair_120 : decode cX5_pair 120 = .ok (.iconst 0, 1) := by decide +kernel
theorem dX5_pair_121 : decode cX5_pair 121 = .ok (.istore 10, 2) := by decide +kernel
theorem dX5_pair_123 : decode cX5_pair 123 = .ok (.iload 10, 2) := by decide +kernel
theorem dX5_pair_125 : decode cX5_pair 125 = .ok (.ifCond .eq 31, 3) := by decide +kernel
theorem dX5_pair_128 : decode cX5_pair 128 = .ok (.iload 7, 2) := by decide +kernel
theorem dX5_pair_130 : decode cX5_pair 130 = .ok (.bipush (-9), 2) := by decide +kernel
theorem dX5_pair_132 : decode cX5_pair 132 = .ok (.if_icmp .eq 13, 3) := by decide +kernel
theorem dX5_pair_135 : decode cX5_pair 135 = .ok (.aload_n 0, 1) := by decide +kernel
theorem dX5_pair_136 : decode cX5_pair 136 = .ok (.iload_n 3, 1) := by decide +kernel
theorem dX5_pair_137 : decode cX5_pair 137 = .ok (.invokevirtual 156, 3) := by decide +kernel
theorem dX5_pair_140 : decode cX5_pair 140 = .ok (.iload 8, 2) := by decide +kernel
theorem dX5_pair_142 : decode cX5_pair 142 = .ok (.if_icmp .ge 14, 3) := by decide +kernel
theorem dX5_pair_145 : decode cX5_pair 145 = .ok (.iload 9, 2) := by decide +kernel
theorem dX5_pair_147 : decode cX5_pair 147 = .ok (.istore 7, 2) := by decide +kernel
theorem dX5_pair_149 : decode cX5_pair 149 = .ok (.aload_n 0, 1) := by decide +kernel
theorem dX5_pair_150 : decode cX5_pair 150 = .ok (.iload_n 3, 1) := by decide +kernel
theorem dX5_pair_151 : decode cX5_pair 151 = .ok (.invokevirtual 156, 3) := by decide +kernel
theorem dX5_pair_154 : decode cX5_pair 154 = .ok (.istore 8, 2) := by decide +kernel
theorem dX5_pair_156 : decode cX5_pair 156 = .ok (.iinc 9 1, 3) := by decide +kernel
theorem dX5_pair_159 : decode cX5_pair 159 = .ok (.goto (-90), 3) := by decide +kernel
theorem dX5_pair_162 : decode cX5_pair 162 = .ok (.aload_n 0, 1) := by decide +kernel
theorem dX5_pair_163 : decode cX5_pair 163 = .ok (.getfield 22, 3) := by decide +kernel
theorem dX5_pair_166 : decode cX5_pair 166 = .ok (.iload_n 1, 1) := by decide +kernel
theorem dX5_pair_167 : decode cX5_pair 167 = .ok (.iload 5, 2) := by decide +kernel
theorem dX5_pair_169 : decode cX5_pair 169 = .ok (.iastore, 1) := by decide +kernel
theorem dX5_pair_170 : decode cX5_pair 170 = .ok (.aload_n 0, 1) := by decide +kernel
theorem dX5_pair_171 : decode cX5_pair 171 = .ok (.getfield 22, 3) := by decide +kernel
theorem dX5_pair_174 : decode cX5_pair 174 = .ok (.iload_n 2, 1) := by decide +kernel
theorem dX5_pair_175 : decode cX5_pair 175 = .ok (.iload 6, 2) := by decide +kernel
theorem dX5_pair_177 : decode cX5_pair 177 = .ok (.iastore, 1) := by decide +kernel
theorem dX5_pair_178 : decode cX5_pair 178 = .ok (.iload 7, 2) := by decide +kernel
theorem dX5_pair_180 : decode cX5_pair 180 = .ok (.bipush (-9), 2) := by decide +kernel
theorem dX5_pair_182 : decode cX5_pair 182 = .ok (.if_icmp .ne 6, 3) := by decide +kernel
theorem dX5_pair_185 : decode cX5_pair 185 = .ok (.bipush (-9), 2) := by decide +kernel
theorem dX5_pair_187 : decode cX5_pair 187 = .ok (.ireturn, 1) := by decide +kernel
theorem dX5_pair_188 : decode cX5_pair 188 = .ok (.iload 4, 2) := by decide +kernel
theorem dX5_pair_190 : decode cX5_pair 190 = .ok (.ifCond .ne 8, 3) := by decide +kernel
theorem dX5_pair_193 : decode cX5_pair 193 = .ok (.iload 8, 2) := by decide +kernel
theorem dX5_pair_195 : decode cX5_pair 195 = .ok (.goto 22, 3) := by decide +kernel
theorem dX5_pair_198 : decode cX5_pair 198 = .ok (.iload 4, 2) := by decide +kernel
theorem dX5_pair_200 : decode cX5_pair 200 = .ok (.iconst 1, 1) := by decide +kernel
theorem dX5_pair_201 : decode cX5_pair 201 = .ok (.if_icmp .ne 11, 3) := by decide +kernel
theorem dX5_pair_204 : decode cX5_pair 204 = .ok (.iload 7, 2) := by decide +kernel
theorem dX5_pair_206 : decode cX5_pair 206 = .ok (.bipush 10, 2) := by decide +kernel
theorem dX5_pair_208 : decode cX5_pair 208 = .ok (.idiv, 1) := by decide +kernel
theorem dX5_pair_209 : decode cX5_pair 209 = .ok (.goto 8, 3) := by decide +kernel
theorem dX5_pair_212 : decode cX5_pair 212 = .ok (.iload 7, 2) := by decide +kernel
theorem dX5_pair_214 : decode cX5_pair 214 = .ok (.bipush 10, 2) := by decide +kernel
theorem dX5_pair_216 : decode cX5_pair 216 = .ok (.irem, 1) := by decide +kernel
theorem dX5_pair_217 : decode cX5_pair 217 = .ok (.ireturn, 1) := by decide +kernel
theorem dX5_size_0 : decode cX5_size 0 = .ok (.iconst 0, 1) := by decide +kernel
theorem dX5_size_1 : decode cX5_size 1 = .ok (.istore_n 1, 1) := by decide +kernel
theorem dX5_size_2 : decode cX5_size 2 = .ok (.iload_n 0, 1) := by decide +kernel
theorem dX5_size_3 : decode cX5_size 3 = .ok (.istore_n 2, 1) := by decide +kernel
theorem dX5_size_4 : decode cX5_size 4 = .ok (.iload_n 2, 1) := by decide +kernel
theorem dX5_size_5 : decode cX5_size 5 = .ok (.ifCond .le 16, 3) := by decide +kernel
theorem dX5_size_8 : decode cX5_size 8 = .ok (.iload_n 1, 1) := by decide +kernel
theorem dX5_size_9 : decode cX5_size 9 = .ok (.iload_n 2, 1) := by decide +kernel
theorem dX5_size_10 : decode cX5_size 10 = .ok (.iconst 1, 1) := by decide +kernel
theorem dX5_size_11 : decode cX5_size 11 = .ok (.iand, 1) := by decide +kernel
theorem dX5_size_12 : decode cX5_size 12 = .ok (.iadd, 1) := by decide +kernel
theorem dX5_size_13 : decode cX5_size 13 = .ok (.istore_n 1, 1) := by decide +kernel
theorem dX5_size_14 : decode cX5_size 14 = .ok (.iload_n 2, 1) := by decide +kernel
theorem dX5_size_15 : decode cX5_size 15 = .ok (.iconst 1, 1) := by decide +kernel
theorem dX5_size_16 : decode cX5_size 16 = .ok (.ishr, 1) := by decide +kernel
theorem dX5_size_17 : decode cX5_size 17 = .ok (.istore_n 2, 1) := by decide +kernel
theorem dX5_size_18 : decode cX5_size 18 = .ok (.goto (-14), 3) := by decide +kernel
theorem dX5_size_21 : decode cX5_size 21 = .ok (.iload_n 1, 1) := by decide +kernel
theorem dX5_size_22 : decode cX5_size 22 = .ok (.ireturn, 1) := by decide +kernel
set_option maxRecDepth 20000 in
theorem ggX5_send_X5_isSun : GoodIn wsX5_send wsX5_isSun := goodIn_r _ [6, 7, 8, 5, 9] (by decide +kernel) (by decide +kernel)
set_option maxRecDepth 20000 in
theorem gX5_send_X5_isSun : GoodIn wsX5_send (va_wsS RX5 119 yX5_isSun wsX5_isSun) := goodIn_app (goodIn_of _ (by decide +kernel)) ggX5_send_X5_isSun
set_option maxRecDepth 20000 in
theorem ggX5_send_X5_within : GoodIn wsX5_send wsX5_within := goodIn_r _ [9] (by decide +kernel) (by decide +kernel)
set_option maxRecDepth 20000 in
theorem gX5_send_X5_within : GoodIn wsX5_send (va_wsS RX5 56 yX5_within wsX5_within) := goodIn_app (goodIn_of _ (by decide +kernel)) ggX5_send_X5_within
set_option maxRecDepth 20000 in
theorem ggX5_send_X5_size : GoodIn wsX5_send wsX5_size := goodIn_r _ [12] (by decide +kernel) (by decide +kernel)
set_option maxRecDepth 20000 in
theorem gX5_send_X5_size : GoodIn wsX5_send (va_wsS RX5 174 yX5_size wsX5_size) := goodIn_app (goodIn_of _ (by decide +kernel)) ggX5_send_X5_size
set_option maxRecDepth 20000 in
theorem ggX5_send_X5_censusOf : GoodIn wsX5_send wsX5_censusOf := goodIn_r _ [16, 17, 18, 19, 20, 5, 21, 22, 23, 24, 25, 26, 27, 28, 29, 1, 2, 30, 31, 32, 33, 34, 35, 36, 37, 38, 39, 40, 41, 42, 43, 44, 45, 46, 47, 48, 49, 50, 51, 52, 53, 54, 55, 56, 57, 58, 59, 60, 61, 62, 63, 64, 65, 66, 67, 68, 69, 70, 71, 72, 73, 74, 75] (by decide +kernel) (by decide +kernel)
set_option maxRecDepth 20000 in
theorem gX5_send_X5_censusOf : GoodIn wsX5_send (wsV RX5 156 RX5 yX5_censusOf wsX5_censusOf) := goodIn_app (goodIn_of _ (by decide +kernel)) ggX5_send_X5_censusOf
theorem dX5_send_0 : decode cX5_send 0 = .ok (.iload_n 1, 1) := by decide +kernel
theorem dX5_send_1 : decode cX5_send 1 = .ok (.invokestatic 119, 3) := by decide +kernel
theorem dX5_send_4 : decode cX5_send 4 = .ok (.ifCond .eq 13, 3) := by decide +kernel
theorem dX5_send_7 : decode cX5_send 7 = .ok (.iload_n 2, 1) := by decide +kernel
theorem dX5_send_8 : decode cX5_send 8 = .ok (.iconst 0, 1) := by decide +kernel
theorem dX5_send_9 : decode cX5_send 9 = .ok (.bipush 99, 2) := by decide +kernel
theorem dX5_send_11 : decode cX5_send 11 = .ok (.invokestatic 56, 3) := by decide +kernel
theorem dX5_send_14 : decode cX5_send 14 = .ok (.ifCond .ne 6, 3) := by decide +kernel
theorem dX5_send_17 : decode cX5_send 17 = .ok (.bipush (-2), 2) := by decide +kernel
theorem dX5_send_19 : decode cX5_send 19 = .ok (.ireturn, 1) := by decide +kernel
theorem dX5_send_20 : decode cX5_send 20 = .ok (.aload_n 0, 1) := by decide +kernel
theorem dX5_send_21 : decode cX5_send 21 = .ok (.getfield 60, 3) := by decide +kernel
theorem dX5_send_24 : decode cX5_send 24 = .ok (.ifCond .ne 6, 3) := by decide +kernel
theorem dX5_send_27 : decode cX5_send 27 = .ok (.bipush (-3), 2) := by decide +kernel
theorem dX5_send_29 : decode cX5_send 29 = .ok (.ireturn, 1) := by decide +kernel
theorem dX5_send_30 : decode cX5_send 30 = .ok (.bipush (-9), 2) := by decide +kernel
theorem dX5_send_32 : decode cX5_send 32 = .ok (.istore_n 3, 1) := by decide +kernel
theorem dX5_send_33 : decode cX5_send 33 = .ok (.aload_n 0, 1) := by decide +kernel
theorem dX5_send_34 : decode cX5_send 34 = .ok (.iconst 0, 1) := by decide +kernel
theorem dX5_send_35 : decode cX5_send 35 = .ok (.putfield 125, 3) := by decide +kernel
theorem dX5_send_38 : decode cX5_send 38 = .ok (.aload_n 0, 1) := by decide +kernel
theorem dX5_send_39 : decode cX5_send 39 = .ok (.getfield 125, 3) := by decide +kernel
theorem dX5_send_42 : decode cX5_send 42 = .ok (.iconst 1, 1) := by decide +kernel
theorem dX5_send_43 : decode cX5_send 43 = .ok (.aload_n 0, 1) := by decide +kernel
theorem dX5_send_44 : decode cX5_send 44 = .ok (.getfield 60, 3) := by decide +kernel
theorem dX5_send_47 : decode cX5_send 47 = .ok (.ishl, 1) := by decide +kernel
theorem dX5_send_48 : decode cX5_send 48 = .ok (.if_icmp .ge 50, 3) := by decide +kernel
theorem dX5_send_51 : decode cX5_send 51 = .ok (.iload_n 3, 1) := by decide +kernel
theorem dX5_send_52 : decode cX5_send 52 = .ok (.bipush (-9), 2) := by decide +kernel
theorem dX5_send_54 : decode cX5_send 54 = .ok (.if_icmp .eq 17, 3) := by decide +kernel
theorem dX5_send_57 : decode cX5_send 57 = .ok (.aload_n 0, 1) := by decide +kernel
theorem dX5_send_58 : decode cX5_send 58 = .ok (.getfield 125, 3) := by decide +kernel
theorem dX5_send_61 : decode cX5_send 61 = .ok (.invokestatic 174, 3) := by decide +kernel
theorem dX5_send_64 : decode cX5_send 64 = .ok (.iload_n 3, 1) := by decide +kernel
theorem dX5_send_65 : decode cX5_send 65 = .ok (.invokestatic 174, 3) := by decide +kernel
theorem dX5_send_68 : decode cX5_send 68 = .ok (.if_icmp .ge 17, 3) := by decide +kernel
theorem dX5_send_71 : decode cX5_send 71 = .ok (.aload_n 0, 1) := by decide +kernel
theorem dX5_send_72 : decode cX5_send 72 = .ok (.iload_n 1, 1) := by decide +kernel
theorem dX5_send_73 : decode cX5_send 73 = .ok (.invokevirtual 156, 3) := by decide +kernel
theorem dX5_send_76 : decode cX5_send 76 = .ok (.iload_n 2, 1) := by decide +kernel
theorem dX5_send_77 : decode cX5_send 77 = .ok (.if_icmp .ne 8, 3) := by decide +kernel
theorem dX5_send_80 : decode cX5_send 80 = .ok (.aload_n 0, 1) := by decide +kernel
theorem dX5_send_81 : decode cX5_send 81 = .ok (.getfield 125, 3) := by decide +kernel
theorem dX5_send_84 : decode cX5_send 84 = .ok (.istore_n 3, 1) := by decide +kernel
theorem dX5_send_85 : decode cX5_send 85 = .ok (.aload_n 0, 1) := by decide +kernel
theorem dX5_send_86 : decode cX5_send 86 = .ok (.dup, 1) := by decide +kernel
theorem dX5_send_87 : decode cX5_send 87 = .ok (.getfield 125, 3) := by decide +kernel
theorem dX5_send_90 : decode cX5_send 90 = .ok (.iconst 1, 1) := by decide +kernel
theorem dX5_send_91 : decode cX5_send 91 = .ok (.iadd, 1) := by decide +kernel
theorem dX5_send_92 : decode cX5_send 92 = .ok (.putfield 125, 3) := by decide +kernel
theorem dX5_send_95 : decode cX5_send 95 = .ok (.goto (-57), 3) := by decide +kernel
theorem dX5_send_98 : decode cX5_send 98 = .ok (.aload_n 0, 1) := by decide +kernel
theorem dX5_send_99 : decode cX5_send 99 = .ok (.iconst 0, 1) := by decide +kernel
theorem dX5_send_100 : decode cX5_send 100 = .ok (.putfield 125, 3) := by decide +kernel
theorem dX5_send_103 : decode cX5_send 103 = .ok (.iload_n 3, 1) := by decide +kernel
theorem dX5_send_104 : decode cX5_send 104 = .ok (.ireturn, 1) := by decide +kernel
set_option maxRecDepth 20000 in
theorem ggX5_reading_X5_isSun : GoodIn wsX5_reading wsX5_isSun := goodIn_r _ [8, 9, 10, 7, 11] (by decide +kernel) (by decide +kernel)
set_option maxRecDepth 20000 in
theorem gX5_reading_X5_isSun : GoodIn wsX5_reading (va_wsS RX5 119 yX5_isSun wsX5_isSun) := goodIn_app (goodIn_of _ (by decide +kernel)) ggX5_reading_X5_isSun
set_option maxRecDepth 20000 in
theorem ggX5_reading_X5_within : GoodIn wsX5_reading wsX5_within := goodIn_r _ [11] (by decide +kernel) (by decide +kernel)
set_option maxRecDepth 20000 in
theorem gX5_reading_X5_within : GoodIn wsX5_reading (va_wsS RX5 56 yX5_within wsX5_within) := goodIn_app (goodIn_of _ (by decide +kernel)) ggX5_reading_X5_within
theorem dX5_reading_0 : decode cX5_reading 0 = .ok (.iload_n 1, 1) := by decide +kernel
theorem dX5_reading_1 : decode cX5_reading 1 = .ok (.invokestatic 119, 3) := by decide +kernel
theorem dX5_reading_4 : decode cX5_reading 4 = .ok (.ifCond .eq 13, 3) := by decide +kernel
theorem dX5_reading_7 : decode cX5_reading 7 = .ok (.iload_n 2, 1) := by decide +kernel
theorem dX5_reading_8 : decode cX5_reading 8 = .ok (.iconst 0, 1) := by decide +kernel
theorem dX5_reading_9 : decode cX5_reading 9 = .ok (.bipush 99, 2) := by decide +kernel
theorem dX5_reading_11 : decode cX5_reading 11 = .ok (.invokestatic 56, 3) := by decide +kernel
theorem dX5_reading_14 : decode cX5_reading 14 = .ok (.ifCond .ne 6, 3) := by decide +kernel
theorem dX5_reading_17 : decode cX5_reading 17 = .ok (.bipush (-2), 2) := by decide +kernel
theorem dX5_reading_19 : decode cX5_reading 19 = .ok (.ireturn, 1) := by decide +kernel
theorem dX5_reading_20 : decode cX5_reading 20 = .ok (.aload_n 0, 1) := by decide +kernel
theorem dX5_reading_21 : decode cX5_reading 21 = .ok (.getfield 60, 3) := by decide +kernel
theorem dX5_reading_24 : decode cX5_reading 24 = .ok (.ifCond .ne 6, 3) := by decide +kernel
theorem dX5_reading_27 : decode cX5_reading 27 = .ok (.bipush (-3), 2) := by decide +kernel
theorem dX5_reading_29 : decode cX5_reading 29 = .ok (.ireturn, 1) := by decide +kernel
theorem dX5_reading_30 : decode cX5_reading 30 = .ok (.aload_n 0, 1) := by decide +kernel
theorem dX5_reading_31 : decode cX5_reading 31 = .ok (.getfield 99, 3) := by decide +kernel
theorem dX5_reading_34 : decode cX5_reading 34 = .ok (.bipush 8, 2) := by decide +kernel
theorem dX5_reading_36 : decode cX5_reading 36 = .ok (.if_icmp .ne 6, 3) := by decide +kernel
theorem dX5_reading_39 : decode cX5_reading 39 = .ok (.bipush (-4), 2) := by decide +kernel
theorem dX5_reading_41 : decode cX5_reading 41 = .ok (.ireturn, 1) := by decide +kernel
theorem dX5_reading_42 : decode cX5_reading 42 = .ok (.aload_n 0, 1) := by decide +kernel
theorem dX5_reading_43 : decode cX5_reading 43 = .ok (.getfield 44, 3) := by decide +kernel
theorem dX5_reading_46 : decode cX5_reading 46 = .ok (.aload_n 0, 1) := by decide +kernel
theorem dX5_reading_47 : decode cX5_reading 47 = .ok (.getfield 99, 3) := by decide +kernel
theorem dX5_reading_50 : decode cX5_reading 50 = .ok (.iload_n 1, 1) := by decide +kernel
theorem dX5_reading_51 : decode cX5_reading 51 = .ok (.iastore, 1) := by decide +kernel
theorem dX5_reading_52 : decode cX5_reading 52 = .ok (.aload_n 0, 1) := by decide +kernel
theorem dX5_reading_53 : decode cX5_reading 53 = .ok (.getfield 47, 3) := by decide +kernel
theorem dX5_reading_56 : decode cX5_reading 56 = .ok (.aload_n 0, 1) := by decide +kernel
theorem dX5_reading_57 : decode cX5_reading 57 = .ok (.getfield 99, 3) := by decide +kernel
theorem dX5_reading_60 : decode cX5_reading 60 = .ok (.iload_n 2, 1) := by decide +kernel
theorem dX5_reading_61 : decode cX5_reading 61 = .ok (.iastore, 1) := by decide +kernel
theorem dX5_reading_62 : decode cX5_reading 62 = .ok (.aload_n 0, 1) := by decide +kernel
theorem dX5_reading_63 : decode cX5_reading 63 = .ok (.dup, 1) := by decide +kernel
theorem dX5_reading_64 : decode cX5_reading 64 = .ok (.getfield 99, 3) := by decide +kernel
theorem dX5_reading_67 : decode cX5_reading 67 = .ok (.iconst 1, 1) := by decide +kernel
theorem dX5_reading_68 : decode cX5_reading 68 = .ok (.iadd, 1) := by decide +kernel
theorem dX5_reading_69 : decode cX5_reading 69 = .ok (.putfield 99, 3) := by decide +kernel
theorem dX5_reading_72 : decode cX5_reading 72 = .ok (.aload_n 0, 1) := by decide +kernel
theorem dX5_reading_73 : decode cX5_reading 73 = .ok (.getfield 99, 3) := by decide +kernel
theorem dX5_reading_76 : decode cX5_reading 76 = .ok (.iconst 1, 1) := by decide +kernel
theorem dX5_reading_77 : decode cX5_reading 77 = .ok (.isub, 1) := by decide +kernel
theorem dX5_reading_78 : decode cX5_reading 78 = .ok (.ireturn, 1) := by decide +kernel
set_option maxRecDepth 20000 in
theorem ggX5_back_X5_within : GoodIn wsX5_back wsX5_within := goodIn_r _ [5] (by decide +kernel) (by decide +kernel)
set_option maxRecDepth 20000 in
theorem gX5_back_X5_within : GoodIn wsX5_back (va_wsS RX5 56 yX5_within wsX5_within) := goodIn_app (goodIn_of _ (by decide +kernel)) ggX5_back_X5_within
theorem dX5_back_0 : decode cX5_back 0 = .ok (.iload_n 1, 1) := by decide +kernel
theorem dX5_back_1 : decode cX5_back 1 = .ok (.iconst 0, 1) := by decide +kernel
theorem dX5_back_2 : decode cX5_back 2 = .ok (.aload_n 0, 1) := by decide +kernel
theorem dX5_back_3 : decode cX5_back 3 = .ok (.getfield 99, 3) := by decide +kernel
theorem dX5_back_6 : decode cX5_back 6 = .ok (.invokestatic 56, 3) := by decide +kernel
theorem dX5_back_9 : decode cX5_back 9 = .ok (.ifCond .ne 6, 3) := by decide +kernel
theorem dX5_back_12 : decode cX5_back 12 = .ok (.bipush (-2), 2) := by decide +kernel
theorem dX5_back_14 : decode cX5_back 14 = .ok (.ireturn, 1) := by decide +kernel
theorem dX5_back_15 : decode cX5_back 15 = .ok (.aload_n 0, 1) := by decide +kernel
theorem dX5_back_16 : decode cX5_back 16 = .ok (.dup, 1) := by decide +kernel
theorem dX5_back_17 : decode cX5_back 17 = .ok (.getfield 99, 3) := by decide +kernel
theorem dX5_back_20 : decode cX5_back 20 = .ok (.iload_n 1, 1) := by decide +kernel
theorem dX5_back_21 : decode cX5_back 21 = .ok (.isub, 1) := by decide +kernel
theorem dX5_back_22 : decode cX5_back 22 = .ok (.putfield 99, 3) := by decide +kernel
theorem dX5_back_25 : decode cX5_back 25 = .ok (.aload_n 0, 1) := by decide +kernel
theorem dX5_back_26 : decode cX5_back 26 = .ok (.getfield 99, 3) := by decide +kernel
theorem dX5_back_29 : decode cX5_back 29 = .ok (.ireturn, 1) := by decide +kernel
set_option maxRecDepth 20000 in
theorem ggX5_areSo_X5_censusOf : GoodIn wsX5_areSo wsX5_censusOf := goodIn_r _ [8, 9, 10, 11, 12, 7, 13, 14, 15, 16, 17, 18, 19, 20, 21, 22, 23, 24, 25, 26, 27, 28, 29, 30, 31, 32, 33, 34, 35, 36, 37, 38, 39, 40, 41, 42, 43, 44, 45, 46, 47, 48, 49, 50, 51, 52, 53, 54, 55, 56, 57, 58, 59, 60, 61, 62, 63, 64, 65, 66, 67, 68, 69] (by decide +kernel) (by decide +kernel)
set_option maxRecDepth 20000 in
theorem gX5_areSo_X5_censusOf : GoodIn wsX5_areSo (wsV RX5 156 RX5 yX5_censusOf wsX5_censusOf) := goodIn_app (goodIn_of _ (by decide +kernel)) ggX5_areSo_X5_censusOf
theorem dX5_areSo_0 : decode cX5_areSo 0 = .ok (.iconst 0, 1) := by decide +kernel
theorem dX5_areSo_1 : decode cX5_areSo 1 = .ok (.istore_n 1, 1) := by decide +kernel
theorem dX5_areSo_2 : decode cX5_areSo 2 = .ok (.iload_n 1, 1) := by decide +kernel
theorem dX5_areSo_3 : decode cX5_areSo 3 = .ok (.aload_n 0, 1) := by decide +kernel
theorem dX5_areSo_4 : decode cX5_areSo 4 = .ok (.getfield 99, 3) := by decide +kernel
theorem dX5_areSo_7 : decode cX5_areSo 7 = .ok (.if_icmp .ge 30, 3) := by decide +kernel
theorem dX5_areSo_10 : decode cX5_areSo 10 = .ok (.aload_n 0, 1) := by decide +kernel
theorem dX5_areSo_11 : decode cX5_areSo 11 = .ok (.aload_n 0, 1) := by decide +kernel
theorem dX5_areSo_12 : decode cX5_areSo 12 = .ok (.getfield 44, 3) := by decide +kernel
theorem dX5_areSo_15 : decode cX5_areSo 15 = .ok (.iload_n 1, 1) := by decide +kernel
theorem dX5_areSo_16 : decode cX5_areSo 16 = .ok (.iaload, 1) := by decide +kernel
theorem dX5_areSo_17 : decode cX5_areSo 17 = .ok (.invokevirtual 156, 3) := by decide +kernel
theorem dX5_areSo_20 : decode cX5_areSo 20 = .ok (.aload_n 0, 1) := by decide +kernel
theorem dX5_areSo_21 : decode cX5_areSo 21 = .ok (.getfield 47, 3) := by decide +kernel
theorem dX5_areSo_24 : decode cX5_areSo 24 = .ok (.iload_n 1, 1) := by decide +kernel
theorem dX5_areSo_25 : decode cX5_areSo 25 = .ok (.iaload, 1) := by decide +kernel
theorem dX5_areSo_26 : decode cX5_areSo 26 = .ok (.if_icmp .eq 5, 3) := by decide +kernel
theorem dX5_areSo_29 : decode cX5_areSo 29 = .ok (.iconst 0, 1) := by decide +kernel
theorem dX5_areSo_30 : decode cX5_areSo 30 = .ok (.ireturn, 1) := by decide +kernel
theorem dX5_areSo_31 : decode cX5_areSo 31 = .ok (.iinc 1 1, 3) := by decide +kernel
theorem dX5_areSo_34 : decode cX5_areSo 34 = .ok (.goto (-32), 3) := by decide +kernel
theorem dX5_areSo_37 : decode cX5_areSo 37 = .ok (.iconst 1, 1) := by decide +kernel
theorem dX5_areSo_38 : decode cX5_areSo 38 = .ok (.ireturn, 1) := by decide +kernel
set_option maxRecDepth 20000 in
theorem ggX5_heights_X5_isStander : GoodIn wsX5_heights wsX5_isStander := goodIn_r _ [6, 7, 49, 50, 51, 52, 53, 54, 55, 56, 57, 58, 59, 60, 61, 62, 63, 64, 65, 66, 67, 68, 69, 70, 71, 72, 73, 74, 75, 76, 77] (by decide +kernel) (by decide +kernel)
set_option maxRecDepth 20000 in
theorem gX5_heights_X5_isStander : GoodIn wsX5_heights (wsV RX5 113 RX5 yX5_isStander wsX5_isStander) := goodIn_app (goodIn_of _ (by decide +kernel)) ggX5_heights_X5_isStander
set_option maxRecDepth 20000 in
theorem ggX5_heights_X5_areSo : GoodIn wsX5_heights wsX5_areSo := goodIn_r _ [11, 12, 13, 14, 15, 16, 17, 5, 18, 19, 20, 21, 22, 23, 24, 25, 26, 27, 28, 29, 30, 31, 7, 32, 33, 34, 35, 36, 37, 38, 39, 40, 41, 42, 1, 43, 44, 45, 46, 47, 48, 49, 50, 51, 52, 53, 54, 55, 56, 57, 58, 59, 60, 61, 62, 63, 64, 65, 66, 67, 68, 69, 70, 71, 72, 73, 74, 75, 76, 77] (by decide +kernel) (by decide +kernel)
set_option maxRecDepth 20000 in
theorem gX5_heights_X5_areSo : GoodIn wsX5_heights (wsV RX5 177 RX5 yX5_areSo wsX5_areSo) := goodIn_app (goodIn_of _ (by decide +kernel)) ggX5_heights_X5_areSo
theorem dX5_heights_0 : decode cX5_heights 0 = .ok (.aload_n 0, 1) := by decide +kernel
theorem dX5_heights_1 : decode cX5_heights 1 = .ok (.iload_n 1, 1) := by decide +kernel
theorem dX5_heights_2 : decode cX5_heights 2 = .ok (.invokevirtual 113, 3) := by decide +kernel
theorem dX5_heights_5 : decode cX5_heights 5 = .ok (.ifCond .ne 5, 3) := by decide +kernel
theorem dX5_heights_8 : decode cX5_heights 8 = .ok (.iconst (-1), 1) := by decide +kernel
theorem dX5_heights_9 : decode cX5_heights 9 = .ok (.ireturn, 1) := by decide +kernel
theorem dX5_heights_10 : decode cX5_heights 10 = .ok (.aload_n 0, 1) := by decide +kernel
theorem dX5_heights_11 : decode cX5_heights 11 = .ok (.getfield 25, 3) := by decide +kernel
theorem dX5_heights_14 : decode cX5_heights 14 = .ok (.iload_n 1, 1) := by decide +kernel
theorem dX5_heights_15 : decode cX5_heights 15 = .ok (.iaload, 1) := by decide +kernel
theorem dX5_heights_16 : decode cX5_heights 16 = .ok (.istore_n 2, 1) := by decide +kernel
theorem dX5_heights_17 : decode cX5_heights 17 = .ok (.iconst 0, 1) := by decide +kernel
theorem dX5_heights_18 : decode cX5_heights 18 = .ok (.istore_n 3, 1) := by decide +kernel
theorem dX5_heights_19 : decode cX5_heights 19 = .ok (.iconst 0, 1) := by decide +kernel
theorem dX5_heights_20 : decode cX5_heights 20 = .ok (.istore 4, 2) := by decide +kernel
theorem dX5_heights_22 : decode cX5_heights 22 = .ok (.iload 4, 2) := by decide +kernel
theorem dX5_heights_24 : decode cX5_heights 24 = .ok (.bipush 9, 2) := by decide +kernel
theorem dX5_heights_26 : decode cX5_heights 26 = .ok (.if_icmp .gt 35, 3) := by decide +kernel
theorem dX5_heights_29 : decode cX5_heights 29 = .ok (.aload_n 0, 1) := by decide +kernel
theorem dX5_heights_30 : decode cX5_heights 30 = .ok (.getfield 25, 3) := by decide +kernel
theorem dX5_heights_33 : decode cX5_heights 33 = .ok (.iload_n 1, 1) := by decide +kernel
theorem dX5_heights_34 : decode cX5_heights 34 = .ok (.iload 4, 2) := by decide +kernel
theorem dX5_heights_36 : decode cX5_heights 36 = .ok (.iastore, 1) := by decide +kernel
theorem dX5_heights_37 : decode cX5_heights 37 = .ok (.iload_n 3, 1) := by decide +kernel
theorem dX5_heights_38 : decode cX5_heights 38 = .ok (.aload_n 0, 1) := by decide +kernel
theorem dX5_heights_39 : decode cX5_heights 39 = .ok (.invokevirtual 177, 3) := by decide +kernel
theorem dX5_heights_42 : decode cX5_heights 42 = .ok (.ifCond .eq 10, 3) := by decide +kernel
theorem dX5_heights_45 : decode cX5_heights 45 = .ok (.iconst 1, 1) := by decide +kernel
theorem dX5_heights_46 : decode cX5_heights 46 = .ok (.iload 4, 2) := by decide +kernel
theorem dX5_heights_48 : decode cX5_heights 48 = .ok (.ishl, 1) := by decide +kernel
theorem dX5_heights_49 : decode cX5_heights 49 = .ok (.goto 4, 3) := by decide +kernel
theorem dX5_heights_52 : decode cX5_heights 52 = .ok (.iconst 0, 1) := by decide +kernel
theorem dX5_heights_53 : decode cX5_heights 53 = .ok (.ior, 1) := by decide +kernel
theorem dX5_heights_54 : decode cX5_heights 54 = .ok (.istore_n 3, 1) := by decide +kernel
theorem dX5_heights_55 : decode cX5_heights 55 = .ok (.iinc 4 1, 3) := by decide +kernel
theorem dX5_heights_58 : decode cX5_heights 58 = .ok (.goto (-36), 3) := by decide +kernel
theorem dX5_heights_61 : decode cX5_heights 61 = .ok (.aload_n 0, 1) := by decide +kernel
theorem dX5_heights_62 : decode cX5_heights 62 = .ok (.getfield 25, 3) := by decide +kernel
theorem dX5_heights_65 : decode cX5_heights 65 = .ok (.iload_n 1, 1) := by decide +kernel
theorem dX5_heights_66 : decode cX5_heights 66 = .ok (.iload_n 2, 1) := by decide +kernel
theorem dX5_heights_67 : decode cX5_heights 67 = .ok (.iastore, 1) := by decide +kernel
theorem dX5_heights_68 : decode cX5_heights 68 = .ok (.iload_n 3, 1) := by decide +kernel
theorem dX5_heights_69 : decode cX5_heights 69 = .ok (.ireturn, 1) := by decide +kernel
set_option maxRecDepth 20000 in
theorem ggX5_kinds_X5_isStander : GoodIn wsX5_kinds wsX5_isStander := goodIn_r _ [6, 7, 49, 50, 51, 52, 53, 54, 55, 56, 57, 58, 59, 60, 61, 62, 63, 64, 65, 66, 67, 68, 69, 70, 71, 72, 73, 74, 75, 76, 77] (by decide +kernel) (by decide +kernel)
set_option maxRecDepth 20000 in
theorem gX5_kinds_X5_isStander : GoodIn wsX5_kinds (wsV RX5 113 RX5 yX5_isStander wsX5_isStander) := goodIn_app (goodIn_of _ (by decide +kernel)) ggX5_kinds_X5_isStander
set_option maxRecDepth 20000 in
theorem ggX5_kinds_X5_areSo : GoodIn wsX5_kinds wsX5_areSo := goodIn_r _ [11, 12, 13, 14, 15, 16, 17, 5, 18, 19, 20, 21, 22, 23, 24, 25, 26, 27, 28, 29, 30, 31, 7, 32, 33, 34, 35, 36, 37, 38, 39, 40, 41, 42, 43, 1, 44, 45, 46, 47, 48, 49, 50, 51, 52, 53, 54, 55, 56, 57, 58, 59, 60, 61, 62, 63, 64, 65, 66, 67, 68, 69, 70, 71, 72, 73, 74, 75, 76, 77] (by decide +kernel) (by decide +kernel)
set_option maxRecDepth 20000 in
theorem gX5_kinds_X5_areSo : GoodIn wsX5_kinds (wsV RX5 177 RX5 yX5_areSo wsX5_areSo) := goodIn_app (goodIn_of _ (by decide +kernel)) ggX5_kinds_X5_areSo
theorem dX5_kinds_0 : decode cX5_kinds 0 = .ok (.aload_n 0, 1) := by decide +kernel
theorem dX5_kinds_1 : decode cX5_kinds 1 = .ok (.iload_n 1, 1) := by decide +kernel
theorem dX5_kinds_2 : decode cX5_kinds 2 = .ok (.invokevirtual 113, 3) := by decide +kernel
theorem dX5_kinds_5 : decode cX5_kinds 5 = .ok (.ifCond .ne 5, 3) := by decide +kernel
theorem dX5_kinds_8 : decode cX5_kinds 8 = .ok (.iconst (-1), 1) := by decide +kernel
theorem dX5_kinds_9 : decode cX5_kinds 9 = .ok (.ireturn, 1) := by decide +kernel
theorem dX5_kinds_10 : decode cX5_kinds 10 = .ok (.aload_n 0, 1) := by decide +kernel
theorem dX5_kinds_11 : decode cX5_kinds 11 = .ok (.getfield 19, 3) := by decide +kernel
theorem dX5_kinds_14 : decode cX5_kinds 14 = .ok (.iload_n 1, 1) := by decide +kernel
theorem dX5_kinds_15 : decode cX5_kinds 15 = .ok (.iaload, 1) := by decide +kernel
theorem dX5_kinds_16 : decode cX5_kinds 16 = .ok (.istore_n 2, 1) := by decide +kernel
theorem dX5_kinds_17 : decode cX5_kinds 17 = .ok (.iconst 0, 1) := by decide +kernel
theorem dX5_kinds_18 : decode cX5_kinds 18 = .ok (.istore_n 3, 1) := by decide +kernel
theorem dX5_kinds_19 : decode cX5_kinds 19 = .ok (.iconst 0, 1) := by decide +kernel
theorem dX5_kinds_20 : decode cX5_kinds 20 = .ok (.istore 4, 2) := by decide +kernel
theorem dX5_kinds_22 : decode cX5_kinds 22 = .ok (.iload 4, 2) := by decide +kernel
theorem dX5_kinds_24 : decode cX5_kinds 24 = .ok (.iconst 3, 1) := by decide +kernel
theorem dX5_kinds_25 : decode cX5_kinds 25 = .ok (.if_icmp .ge 35, 3) := by decide +kernel
theorem dX5_kinds_28 : decode cX5_kinds 28 = .ok (.aload_n 0, 1) := by decide +kernel
theorem dX5_kinds_29 : decode cX5_kinds 29 = .ok (.getfield 19, 3) := by decide +kernel
theorem dX5_kinds_32 : decode cX5_kinds 32 = .ok (.iload_n 1, 1) := by decide +kernel
theorem dX5_kinds_33 : decode cX5_kinds 33 = .ok (.iload 4, 2) := by decide +kernel
theorem dX5_kinds_35 : decode cX5_kinds 35 = .ok (.iastore, 1) := by decide +kernel
theorem dX5_kinds_36 : decode cX5_kinds 36 = .ok (.iload_n 3, 1) := by decide +kernel
theorem dX5_kinds_37 : decode cX5_kinds 37 = .ok (.aload_n 0, 1) := by decide +kernel
theorem dX5_kinds_38 : decode cX5_kinds 38 = .ok (.invokevirtual 177, 3) := by decide +kernel
theorem dX5_kinds_41 : decode cX5_kinds 41 = .ok (.ifCond .eq 10, 3) := by decide +kernel
theorem dX5_kinds_44 : decode cX5_kinds 44 = .ok (.iconst 1, 1) := by decide +kernel
theorem dX5_kinds_45 : decode cX5_kinds 45 = .ok (.iload 4, 2) := by decide +kernel
theorem dX5_kinds_47 : decode cX5_kinds 47 = .ok (.ishl, 1) := by decide +kernel
theorem dX5_kinds_48 : decode cX5_kinds 48 = .ok (.goto 4, 3) := by decide +kernel
theorem dX5_kinds_51 : decode cX5_kinds 51 = .ok (.iconst 0, 1) := by decide +kernel
theorem dX5_kinds_52 : decode cX5_kinds 52 = .ok (.ior, 1) := by decide +kernel
theorem dX5_kinds_53 : decode cX5_kinds 53 = .ok (.istore_n 3, 1) := by decide +kernel
theorem dX5_kinds_54 : decode cX5_kinds 54 = .ok (.iinc 4 1, 3) := by decide +kernel
theorem dX5_kinds_57 : decode cX5_kinds 57 = .ok (.goto (-35), 3) := by decide +kernel
theorem dX5_kinds_60 : decode cX5_kinds 60 = .ok (.aload_n 0, 1) := by decide +kernel
theorem dX5_kinds_61 : decode cX5_kinds 61 = .ok (.getfield 19, 3) := by decide +kernel
theorem dX5_kinds_64 : decode cX5_kinds 64 = .ok (.iload_n 1, 1) := by decide +kernel
theorem dX5_kinds_65 : decode cX5_kinds 65 = .ok (.iload_n 2, 1) := by decide +kernel
theorem dX5_kinds_66 : decode cX5_kinds 66 = .ok (.iastore, 1) := by decide +kernel
theorem dX5_kinds_67 : decode cX5_kinds 67 = .ok (.iload_n 3, 1) := by decide +kernel
theorem dX5_kinds_68 : decode cX5_kinds 68 = .ok (.ireturn, 1) := by decide +kernel
set_option maxRecDepth 20000 in
theorem ggX5_spans_X5_areSo : GoodIn wsX5_spans wsX5_areSo := goodIn_r _ [7, 8, 9, 10, 11, 12, 13, 6, 14, 15, 16, 17, 18, 19, 20, 21, 22, 23, 24, 25, 26, 27, 1, 28, 29, 30, 31, 32, 33, 34, 35, 36, 37, 38, 39, 40, 41, 42, 43, 44, 2, 45, 46, 47, 48, 49, 50, 51, 52, 53, 54, 55, 56, 57, 58, 59, 60, 61, 62, 63, 64, 65, 66, 67, 68, 69, 70, 71, 72, 73] (by decide +kernel) (by decide +kernel)
set_option maxRecDepth 20000 in
theorem gX5_spans_X5_areSo : GoodIn wsX5_spans (wsV RX5 177 RX5 yX5_areSo wsX5_areSo) := goodIn_app (goodIn_of _ (by decide +kernel)) ggX5_spans_X5_areSo
theorem dX5_spans_0 : decode cX5_spans 0 = .ok (.aload_n 0, 1) := by decide +kernel
theorem dX5_spans_1 : decode cX5_spans 1 = .ok (.getfield 60, 3) := by decide +kernel
theorem dX5_spans_4 : decode cX5_spans 4 = .ok (.ifCond .ne 6, 3) := by decide +kernel
theorem dX5_spans_7 : decode cX5_spans 7 = .ok (.bipush (-3), 2) := by decide +kernel
theorem dX5_spans_9 : decode cX5_spans 9 = .ok (.ireturn, 1) := by decide +kernel
theorem dX5_spans_10 : decode cX5_spans 10 = .ok (.aload_n 0, 1) := by decide +kernel
theorem dX5_spans_11 : decode cX5_spans 11 = .ok (.getfield 87, 3) := by decide +kernel
theorem dX5_spans_14 : decode cX5_spans 14 = .ok (.istore_n 1, 1) := by decide +kernel
theorem dX5_spans_15 : decode cX5_spans 15 = .ok (.iconst 0, 1) := by decide +kernel
theorem dX5_spans_16 : decode cX5_spans 16 = .ok (.istore_n 2, 1) := by decide +kernel
theorem dX5_spans_17 : decode cX5_spans 17 = .ok (.iconst 1, 1) := by decide +kernel
theorem dX5_spans_18 : decode cX5_spans 18 = .ok (.istore_n 3, 1) := by decide +kernel
theorem dX5_spans_19 : decode cX5_spans 19 = .ok (.iload_n 3, 1) := by decide +kernel
theorem dX5_spans_20 : decode cX5_spans 20 = .ok (.bipush 9, 2) := by decide +kernel
theorem dX5_spans_22 : decode cX5_spans 22 = .ok (.if_icmp .gt 31, 3) := by decide +kernel
theorem dX5_spans_25 : decode cX5_spans 25 = .ok (.aload_n 0, 1) := by decide +kernel
theorem dX5_spans_26 : decode cX5_spans 26 = .ok (.iload_n 3, 1) := by decide +kernel
theorem dX5_spans_27 : decode cX5_spans 27 = .ok (.putfield 87, 3) := by decide +kernel
theorem dX5_spans_30 : decode cX5_spans 30 = .ok (.iload_n 2, 1) := by decide +kernel
theorem dX5_spans_31 : decode cX5_spans 31 = .ok (.aload_n 0, 1) := by decide +kernel
theorem dX5_spans_32 : decode cX5_spans 32 = .ok (.invokevirtual 177, 3) := by decide +kernel
theorem dX5_spans_35 : decode cX5_spans 35 = .ok (.ifCond .eq 9, 3) := by decide +kernel
theorem dX5_spans_38 : decode cX5_spans 38 = .ok (.iconst 1, 1) := by decide +kernel
theorem dX5_spans_39 : decode cX5_spans 39 = .ok (.iload_n 3, 1) := by decide +kernel
theorem dX5_spans_40 : decode cX5_spans 40 = .ok (.ishl, 1) := by decide +kernel
theorem dX5_spans_41 : decode cX5_spans 41 = .ok (.goto 4, 3) := by decide +kernel
theorem dX5_spans_44 : decode cX5_spans 44 = .ok (.iconst 0, 1) := by decide +kernel
theorem dX5_spans_45 : decode cX5_spans 45 = .ok (.ior, 1) := by decide +kernel
theorem dX5_spans_46 : decode cX5_spans 46 = .ok (.istore_n 2, 1) := by decide +kernel
theorem dX5_spans_47 : decode cX5_spans 47 = .ok (.iinc 3 1, 3) := by decide +kernel
theorem dX5_spans_50 : decode cX5_spans 50 = .ok (.goto (-31), 3) := by decide +kernel
theorem dX5_spans_53 : decode cX5_spans 53 = .ok (.aload_n 0, 1) := by decide +kernel
theorem dX5_spans_54 : decode cX5_spans 54 = .ok (.iload_n 1, 1) := by decide +kernel
theorem dX5_spans_55 : decode cX5_spans 55 = .ok (.putfield 87, 3) := by decide +kernel
theorem dX5_spans_58 : decode cX5_spans 58 = .ok (.iload_n 2, 1) := by decide +kernel
theorem dX5_spans_59 : decode cX5_spans 59 = .ok (.ireturn, 1) := by decide +kernel
theorem dX5_inLeastTerms_0 : decode cX5_inLeastTerms 0 = .ok (.lload_n 0, 1) := by decide +kernel
theorem dX5_inLeastTerms_1 : decode cX5_inLeastTerms 1 = .ok (.lstore 5, 2) := by decide +kernel
theorem dX5_inLeastTerms_3 : decode cX5_inLeastTerms 3 = .ok (.lload_n 2, 1) := by decide +kernel
theorem dX5_inLeastTerms_4 : decode cX5_inLeastTerms 4 = .ok (.lstore 7, 2) := by decide +kernel
theorem dX5_inLeastTerms_6 : decode cX5_inLeastTerms 6 = .ok (.lload 7, 2) := by decide +kernel
theorem dX5_inLeastTerms_8 : decode cX5_inLeastTerms 8 = .ok (.lconst 0, 1) := by decide +kernel
theorem dX5_inLeastTerms_9 : decode cX5_inLeastTerms 9 = .ok (.lcmp, 1) := by decide +kernel
theorem dX5_inLeastTerms_10 : decode cX5_inLeastTerms 10 = .ok (.ifCond .eq 21, 3) := by decide +kernel
theorem dX5_inLeastTerms_13 : decode cX5_inLeastTerms 13 = .ok (.lload 5, 2) := by decide +kernel
theorem dX5_inLeastTerms_15 : decode cX5_inLeastTerms 15 = .ok (.lload 7, 2) := by decide +kernel
theorem dX5_inLeastTerms_17 : decode cX5_inLeastTerms 17 = .ok (.lrem, 1) := by decide +kernel
theorem dX5_inLeastTerms_18 : decode cX5_inLeastTerms 18 = .ok (.lstore 9, 2) := by decide +kernel
theorem dX5_inLeastTerms_20 : decode cX5_inLeastTerms 20 = .ok (.lload 7, 2) := by decide +kernel
theorem dX5_inLeastTerms_22 : decode cX5_inLeastTerms 22 = .ok (.lstore 5, 2) := by decide +kernel
theorem dX5_inLeastTerms_24 : decode cX5_inLeastTerms 24 = .ok (.lload 9, 2) := by decide +kernel
theorem dX5_inLeastTerms_26 : decode cX5_inLeastTerms 26 = .ok (.lstore 7, 2) := by decide +kernel
theorem dX5_inLeastTerms_28 : decode cX5_inLeastTerms 28 = .ok (.goto (-22), 3) := by decide +kernel
theorem dX5_inLeastTerms_31 : decode cX5_inLeastTerms 31 = .ok (.iload 4, 2) := by decide +kernel
theorem dX5_inLeastTerms_33 : decode cX5_inLeastTerms 33 = .ok (.ifCond .ne 10, 3) := by decide +kernel
theorem dX5_inLeastTerms_36 : decode cX5_inLeastTerms 36 = .ok (.lload_n 0, 1) := by decide +kernel
theorem dX5_inLeastTerms_37 : decode cX5_inLeastTerms 37 = .ok (.lload 5, 2) := by decide +kernel
theorem dX5_inLeastTerms_39 : decode cX5_inLeastTerms 39 = .ok (.ldiv, 1) := by decide +kernel
theorem dX5_inLeastTerms_40 : decode cX5_inLeastTerms 40 = .ok (.goto 7, 3) := by decide +kernel
theorem dX5_inLeastTerms_43 : decode cX5_inLeastTerms 43 = .ok (.lload_n 2, 1) := by decide +kernel
theorem dX5_inLeastTerms_44 : decode cX5_inLeastTerms 44 = .ok (.lload 5, 2) := by decide +kernel
theorem dX5_inLeastTerms_46 : decode cX5_inLeastTerms 46 = .ok (.ldiv, 1) := by decide +kernel
theorem dX5_inLeastTerms_47 : decode cX5_inLeastTerms 47 = .ok (.lreturn, 1) := by decide +kernel
set_option maxRecDepth 20000 in
theorem ggX5_odds_X5_isSun : GoodIn wsX5_odds wsX5_isSun := goodIn_r _ [7, 8, 9, 6, 10] (by decide +kernel) (by decide +kernel)
set_option maxRecDepth 20000 in
theorem gX5_odds_X5_isSun : GoodIn wsX5_odds (va_wsS RX5 119 yX5_isSun wsX5_isSun) := goodIn_app (goodIn_of _ (by decide +kernel)) ggX5_odds_X5_isSun
set_option maxRecDepth 20000 in
theorem ggX5_odds_X5_within : GoodIn wsX5_odds wsX5_within := goodIn_r _ [10] (by decide +kernel) (by decide +kernel)
set_option maxRecDepth 20000 in
theorem gX5_odds_X5_within : GoodIn wsX5_odds (va_wsS RX5 56 yX5_within wsX5_within) := goodIn_app (goodIn_of _ (by decide +kernel)) ggX5_odds_X5_within
set_option maxRecDepth 20000 in
theorem ggX5_odds_X5_censusOf : GoodIn wsX5_odds wsX5_censusOf := goodIn_r _ [14, 15, 16, 17, 18, 6, 19, 20, 21, 22, 23, 24, 25, 26, 27, 1, 3, 28, 29, 30, 31, 32, 33, 34, 35, 36, 37, 38, 39, 40, 41, 42, 43, 44, 48, 49, 50, 51, 52, 53, 54, 55, 56, 57, 58, 59, 60, 61, 62, 63, 64, 65, 66, 67, 68, 69, 70, 71, 72, 73, 74, 75, 76] (by decide +kernel) (by decide +kernel)
set_option maxRecDepth 20000 in
theorem gX5_odds_X5_censusOf : GoodIn wsX5_odds (wsV RX5 156 RX5 yX5_censusOf wsX5_censusOf) := goodIn_app (goodIn_of _ (by decide +kernel)) ggX5_odds_X5_censusOf
set_option maxRecDepth 20000 in
theorem ggX5_odds_X5_inLeastTerms : GoodIn wsX5_odds wsX5_inLeastTerms := goodIn_r _ [47] (by decide +kernel) (by decide +kernel)
set_option maxRecDepth 20000 in
theorem gX5_odds_X5_inLeastTerms : GoodIn wsX5_odds (va_wsS RX5 181 yX5_inLeastTerms wsX5_inLeastTerms) := goodIn_app (goodIn_of _ (by decide +kernel)) ggX5_odds_X5_inLeastTerms
theorem dX5_odds_0 : decode cX5_odds 0 = .ok (.iload_n 1, 1) := by decide +kernel
theorem dX5_odds_1 : decode cX5_odds 1 = .ok (.invokestatic 119, 3) := by decide +kernel
theorem dX5_odds_4 : decode cX5_odds 4 = .ok (.ifCond .eq 29, 3) := by decide +kernel
theorem dX5_odds_7 : decode cX5_odds 7 = .ok (.iload_n 2, 1) := by decide +kernel
theorem dX5_odds_8 : decode cX5_odds 8 = .ok (.iconst 0, 1) := by decide +kernel
theorem dX5_odds_9 : decode cX5_odds 9 = .ok (.bipush 99, 2) := by decide +kernel
theorem dX5_odds_11 : decode cX5_odds 11 = .ok (.invokestatic 56, 3) := by decide +kernel
theorem dX5_odds_14 : decode cX5_odds 14 = .ok (.ifCond .eq 19, 3) := by decide +kernel
theorem dX5_odds_17 : decode cX5_odds 17 = .ok (.iload_n 3, 1) := by decide +kernel
theorem dX5_odds_18 : decode cX5_odds 18 = .ok (.iconst 0, 1) := by decide +kernel
theorem dX5_odds_19 : decode cX5_odds 19 = .ok (.iconst 1, 1) := by decide +kernel
theorem dX5_odds_20 : decode cX5_odds 20 = .ok (.invokestatic 56, 3) := by decide +kernel
theorem dX5_odds_23 : decode cX5_odds 23 = .ok (.ifCond .eq 10, 3) := by decide +kernel
theorem dX5_odds_26 : decode cX5_odds 26 = .ok (.aload_n 0, 1) := by decide +kernel
theorem dX5_odds_27 : decode cX5_odds 27 = .ok (.getfield 60, 3) := by decide +kernel
theorem dX5_odds_30 : decode cX5_odds 30 = .ok (.ifCond .ne 7, 3) := by decide +kernel
theorem dX5_odds_33 : decode cX5_odds 33 = .ok (.ldc2_w 54, 3) := by decide +kernel
theorem dX5_odds_36 : decode cX5_odds 36 = .ok (.lreturn, 1) := by decide +kernel
theorem dX5_odds_37 : decode cX5_odds 37 = .ok (.iconst 0, 1) := by decide +kernel
theorem dX5_odds_38 : decode cX5_odds 38 = .ok (.istore 4, 2) := by decide +kernel
theorem dX5_odds_40 : decode cX5_odds 40 = .ok (.iconst 1, 1) := by decide +kernel
theorem dX5_odds_41 : decode cX5_odds 41 = .ok (.aload_n 0, 1) := by decide +kernel
theorem dX5_odds_42 : decode cX5_odds 42 = .ok (.getfield 60, 3) := by decide +kernel
theorem dX5_odds_45 : decode cX5_odds 45 = .ok (.ishl, 1) := by decide +kernel
theorem dX5_odds_46 : decode cX5_odds 46 = .ok (.istore 5, 2) := by decide +kernel
theorem dX5_odds_48 : decode cX5_odds 48 = .ok (.aload_n 0, 1) := by decide +kernel
theorem dX5_odds_49 : decode cX5_odds 49 = .ok (.iconst 0, 1) := by decide +kernel
theorem dX5_odds_50 : decode cX5_odds 50 = .ok (.putfield 125, 3) := by decide +kernel
theorem dX5_odds_53 : decode cX5_odds 53 = .ok (.aload_n 0, 1) := by decide +kernel
theorem dX5_odds_54 : decode cX5_odds 54 = .ok (.getfield 125, 3) := by decide +kernel
theorem dX5_odds_57 : decode cX5_odds 57 = .ok (.iload 5, 2) := by decide +kernel
theorem dX5_odds_59 : decode cX5_odds 59 = .ok (.if_icmp .ge 35, 3) := by decide +kernel
theorem dX5_odds_62 : decode cX5_odds 62 = .ok (.iload 4, 2) := by decide +kernel
theorem dX5_odds_64 : decode cX5_odds 64 = .ok (.aload_n 0, 1) := by decide +kernel
theorem dX5_odds_65 : decode cX5_odds 65 = .ok (.iload_n 1, 1) := by decide +kernel
theorem dX5_odds_66 : decode cX5_odds 66 = .ok (.invokevirtual 156, 3) := by decide +kernel
theorem dX5_odds_69 : decode cX5_odds 69 = .ok (.iload_n 2, 1) := by decide +kernel
theorem dX5_odds_70 : decode cX5_odds 70 = .ok (.if_icmp .ne 7, 3) := by decide +kernel
theorem dX5_odds_73 : decode cX5_odds 73 = .ok (.iconst 1, 1) := by decide +kernel
theorem dX5_odds_74 : decode cX5_odds 74 = .ok (.goto 4, 3) := by decide +kernel
theorem dX5_odds_77 : decode cX5_odds 77 = .ok (.iconst 0, 1) := by decide +kernel
theorem dX5_odds_78 : decode cX5_odds 78 = .ok (.iadd, 1) := by decide +kernel
theorem dX5_odds_79 : decode cX5_odds 79 = .ok (.istore 4, 2) := by decide +kernel
theorem dX5_odds_81 : decode cX5_odds 81 = .ok (.aload_n 0, 1) := by decide +kernel
theorem dX5_odds_82 : decode cX5_odds 82 = .ok (.dup, 1) := by decide +kernel
theorem dX5_odds_83 : decode cX5_odds 83 = .ok (.getfield 125, 3) := by decide +kernel
theorem dX5_odds_86 : decode cX5_odds 86 = .ok (.iconst 1, 1) := by decide +kernel
theorem dX5_odds_87 : decode cX5_odds 87 = .ok (.iadd, 1) := by decide +kernel
theorem dX5_odds_88 : decode cX5_odds 88 = .ok (.putfield 125, 3) := by decide +kernel
theorem dX5_odds_91 : decode cX5_odds 91 = .ok (.goto (-38), 3) := by decide +kernel
theorem dX5_odds_94 : decode cX5_odds 94 = .ok (.aload_n 0, 1) := by decide +kernel
theorem dX5_odds_95 : decode cX5_odds 95 = .ok (.iconst 0, 1) := by decide +kernel
theorem dX5_odds_96 : decode cX5_odds 96 = .ok (.putfield 125, 3) := by decide +kernel
theorem dX5_odds_99 : decode cX5_odds 99 = .ok (.iload 4, 2) := by decide +kernel
theorem dX5_odds_101 : decode cX5_odds 101 = .ok (.i2l, 1) := by decide +kernel
theorem dX5_odds_102 : decode cX5_odds 102 = .ok (.iload 5, 2) := by decide +kernel
theorem dX5_odds_104 : decode cX5_odds 104 = .ok (.i2l, 1) := by decide +kernel
theorem dX5_odds_105 : decode cX5_odds 105 = .ok (.iload_n 3, 1) := by decide +kernel
theorem dX5_odds_106 : decode cX5_odds 106 = .ok (.invokestatic 181, 3) := by decide +kernel
theorem dX5_odds_109 : decode cX5_odds 109 = .ok (.lreturn, 1) := by decide +kernel
set_option maxRecDepth 20000 in
theorem ggX5_sheet_X5_isSheet : GoodIn wsX5_sheet wsX5_isSheet := goodIn_r _ [8, 9, 10, 7, 11] (by decide +kernel) (by decide +kernel)
set_option maxRecDepth 20000 in
theorem gX5_sheet_X5_isSheet : GoodIn wsX5_sheet (va_wsS RX5 66 yX5_isSheet wsX5_isSheet) := goodIn_app (goodIn_of _ (by decide +kernel)) ggX5_sheet_X5_isSheet
set_option maxRecDepth 20000 in
theorem ggX5_sheet_X5_isSort : GoodIn wsX5_sheet wsX5_isSort := goodIn_r _ [14, 9, 10, 7, 11] (by decide +kernel) (by decide +kernel)
set_option maxRecDepth 20000 in
theorem gX5_sheet_X5_isSort : GoodIn wsX5_sheet (va_wsS RX5 70 yX5_isSort wsX5_isSort) := goodIn_app (goodIn_of _ (by decide +kernel)) ggX5_sheet_X5_isSort
set_option maxRecDepth 20000 in
theorem ggX5_sheet_X5_fails : GoodIn wsX5_sheet wsX5_fails := goodIn_r _ [18, 1, 19, 20, 21, 22, 23, 24, 25, 26, 27, 28, 29, 30, 31, 32, 33, 34, 35, 36, 37, 38, 39, 40, 41, 42, 43, 44, 45, 46, 47] (by decide +kernel) (by decide +kernel)
set_option maxRecDepth 20000 in
theorem gX5_sheet_X5_fails : GoodIn wsX5_sheet (wsV RX5 77 RX5 yX5_fails wsX5_fails) := goodIn_app (goodIn_of _ (by decide +kernel)) ggX5_sheet_X5_fails
theorem dX5_sheet_0 : decode cX5_sheet 0 = .ok (.aload_n 0, 1) := by decide +kernel
theorem dX5_sheet_1 : decode cX5_sheet 1 = .ok (.iconst 0, 1) := by decide +kernel
theorem dX5_sheet_2 : decode cX5_sheet 2 = .ok (.putfield 50, 3) := by decide +kernel
theorem dX5_sheet_5 : decode cX5_sheet 5 = .ok (.iload_n 1, 1) := by decide +kernel
theorem dX5_sheet_6 : decode cX5_sheet 6 = .ok (.invokestatic 66, 3) := by decide +kernel
theorem dX5_sheet_9 : decode cX5_sheet 9 = .ok (.ifCond .ne 5, 3) := by decide +kernel
theorem dX5_sheet_12 : decode cX5_sheet 12 = .ok (.iconst (-1), 1) := by decide +kernel
theorem dX5_sheet_13 : decode cX5_sheet 13 = .ok (.ireturn, 1) := by decide +kernel
theorem dX5_sheet_14 : decode cX5_sheet 14 = .ok (.iload_n 2, 1) := by decide +kernel
theorem dX5_sheet_15 : decode cX5_sheet 15 = .ok (.invokestatic 70, 3) := by decide +kernel
theorem dX5_sheet_18 : decode cX5_sheet 18 = .ok (.ifCond .eq 9, 3) := by decide +kernel
theorem dX5_sheet_21 : decode cX5_sheet 21 = .ok (.iload_n 3, 1) := by decide +kernel
theorem dX5_sheet_22 : decode cX5_sheet 22 = .ok (.bipush 60, 2) := by decide +kernel
theorem dX5_sheet_24 : decode cX5_sheet 24 = .ok (.if_icmp .le 6, 3) := by decide +kernel
theorem dX5_sheet_27 : decode cX5_sheet 27 = .ok (.bipush (-2), 2) := by decide +kernel
theorem dX5_sheet_29 : decode cX5_sheet 29 = .ok (.ireturn, 1) := by decide +kernel
theorem dX5_sheet_30 : decode cX5_sheet 30 = .ok (.iload_n 3, 1) := by decide +kernel
theorem dX5_sheet_31 : decode cX5_sheet 31 = .ok (.ifCond .ge 9, 3) := by decide +kernel
theorem dX5_sheet_34 : decode cX5_sheet 34 = .ok (.aload_n 0, 1) := by decide +kernel
theorem dX5_sheet_35 : decode cX5_sheet 35 = .ok (.iconst 4, 1) := by decide +kernel
theorem dX5_sheet_36 : decode cX5_sheet 36 = .ok (.invokevirtual 77, 3) := by decide +kernel
theorem dX5_sheet_39 : decode cX5_sheet 39 = .ok (.ireturn, 1) := by decide +kernel
theorem dX5_sheet_40 : decode cX5_sheet 40 = .ok (.aload_n 0, 1) := by decide +kernel
theorem dX5_sheet_41 : decode cX5_sheet 41 = .ok (.getfield 9, 3) := by decide +kernel
theorem dX5_sheet_44 : decode cX5_sheet 44 = .ok (.iload_n 1, 1) := by decide +kernel
theorem dX5_sheet_45 : decode cX5_sheet 45 = .ok (.iload_n 2, 1) := by decide +kernel
theorem dX5_sheet_46 : decode cX5_sheet 46 = .ok (.iastore, 1) := by decide +kernel
theorem dX5_sheet_47 : decode cX5_sheet 47 = .ok (.aload_n 0, 1) := by decide +kernel
theorem dX5_sheet_48 : decode cX5_sheet 48 = .ok (.getfield 13, 3) := by decide +kernel
theorem dX5_sheet_51 : decode cX5_sheet 51 = .ok (.iload_n 1, 1) := by decide +kernel
theorem dX5_sheet_52 : decode cX5_sheet 52 = .ok (.iload_n 3, 1) := by decide +kernel
theorem dX5_sheet_53 : decode cX5_sheet 53 = .ok (.iastore, 1) := by decide +kernel
theorem dX5_sheet_54 : decode cX5_sheet 54 = .ok (.iconst 0, 1) := by decide +kernel
theorem dX5_sheet_55 : decode cX5_sheet 55 = .ok (.istore 4, 2) := by decide +kernel
theorem dX5_sheet_57 : decode cX5_sheet 57 = .ok (.iload 4, 2) := by decide +kernel
theorem dX5_sheet_59 : decode cX5_sheet 59 = .ok (.bipush 60, 2) := by decide +kernel
theorem dX5_sheet_61 : decode cX5_sheet 61 = .ok (.if_icmp .ge 22, 3) := by decide +kernel
theorem dX5_sheet_64 : decode cX5_sheet 64 = .ok (.aload_n 0, 1) := by decide +kernel
theorem dX5_sheet_65 : decode cX5_sheet 65 = .ok (.getfield 16, 3) := by decide +kernel
theorem dX5_sheet_68 : decode cX5_sheet 68 = .ok (.bipush 60, 2) := by decide +kernel
theorem dX5_sheet_70 : decode cX5_sheet 70 = .ok (.iload_n 1, 1) := by decide +kernel
theorem dX5_sheet_71 : decode cX5_sheet 71 = .ok (.imul, 1) := by decide +kernel
theorem dX5_sheet_72 : decode cX5_sheet 72 = .ok (.iload 4, 2) := by decide +kernel
theorem dX5_sheet_74 : decode cX5_sheet 74 = .ok (.iadd, 1) := by decide +kernel
theorem dX5_sheet_75 : decode cX5_sheet 75 = .ok (.iconst 0, 1) := by decide +kernel
theorem dX5_sheet_76 : decode cX5_sheet 76 = .ok (.iastore, 1) := by decide +kernel
theorem dX5_sheet_77 : decode cX5_sheet 77 = .ok (.iinc 4 1, 3) := by decide +kernel
theorem dX5_sheet_80 : decode cX5_sheet 80 = .ok (.goto (-23), 3) := by decide +kernel
theorem dX5_sheet_83 : decode cX5_sheet 83 = .ok (.iconst 1, 1) := by decide +kernel
theorem dX5_sheet_84 : decode cX5_sheet 84 = .ok (.ireturn, 1) := by decide +kernel
set_option maxRecDepth 20000 in
theorem ggX5_lose_X5_isSheet : GoodIn wsX5_lose wsX5_isSheet := goodIn_r _ [5, 6, 7, 4, 8] (by decide +kernel) (by decide +kernel)
set_option maxRecDepth 20000 in
theorem gX5_lose_X5_isSheet : GoodIn wsX5_lose (va_wsS RX5 66 yX5_isSheet wsX5_isSheet) := goodIn_app (goodIn_of _ (by decide +kernel)) ggX5_lose_X5_isSheet
theorem dX5_lose_0 : decode cX5_lose 0 = .ok (.iload_n 1, 1) := by decide +kernel
theorem dX5_lose_1 : decode cX5_lose 1 = .ok (.invokestatic 66, 3) := by decide +kernel
theorem dX5_lose_4 : decode cX5_lose 4 = .ok (.ifCond .ne 5, 3) := by decide +kernel
theorem dX5_lose_7 : decode cX5_lose 7 = .ok (.iconst (-1), 1) := by decide +kernel
theorem dX5_lose_8 : decode cX5_lose 8 = .ok (.ireturn, 1) := by decide +kernel
theorem dX5_lose_9 : decode cX5_lose 9 = .ok (.aload_n 0, 1) := by decide +kernel
theorem dX5_lose_10 : decode cX5_lose 10 = .ok (.getfield 9, 3) := by decide +kernel
theorem dX5_lose_13 : decode cX5_lose 13 = .ok (.iload_n 1, 1) := by decide +kernel
theorem dX5_lose_14 : decode cX5_lose 14 = .ok (.iaload, 1) := by decide +kernel
theorem dX5_lose_15 : decode cX5_lose 15 = .ok (.bipush (-9), 2) := by decide +kernel
theorem dX5_lose_17 : decode cX5_lose 17 = .ok (.if_icmp .ne 7, 3) := by decide +kernel
theorem dX5_lose_20 : decode cX5_lose 20 = .ok (.iconst 0, 1) := by decide +kernel
theorem dX5_lose_21 : decode cX5_lose 21 = .ok (.goto 4, 3) := by decide +kernel
theorem dX5_lose_24 : decode cX5_lose 24 = .ok (.iconst 1, 1) := by decide +kernel
theorem dX5_lose_25 : decode cX5_lose 25 = .ok (.istore_n 2, 1) := by decide +kernel
theorem dX5_lose_26 : decode cX5_lose 26 = .ok (.aload_n 0, 1) := by decide +kernel
theorem dX5_lose_27 : decode cX5_lose 27 = .ok (.getfield 9, 3) := by decide +kernel
theorem dX5_lose_30 : decode cX5_lose 30 = .ok (.iload_n 1, 1) := by decide +kernel
theorem dX5_lose_31 : decode cX5_lose 31 = .ok (.bipush (-9), 2) := by decide +kernel
theorem dX5_lose_33 : decode cX5_lose 33 = .ok (.iastore, 1) := by decide +kernel
theorem dX5_lose_34 : decode cX5_lose 34 = .ok (.iload_n 2, 1) := by decide +kernel
theorem dX5_lose_35 : decode cX5_lose 35 = .ok (.ireturn, 1) := by decide +kernel
set_option maxRecDepth 20000 in
theorem ggX5_put_X5_isSheet : GoodIn wsX5_put wsX5_isSheet := goodIn_r _ [8, 9, 10, 7, 11] (by decide +kernel) (by decide +kernel)
set_option maxRecDepth 20000 in
theorem gX5_put_X5_isSheet : GoodIn wsX5_put (va_wsS RX5 66 yX5_isSheet wsX5_isSheet) := goodIn_app (goodIn_of _ (by decide +kernel)) ggX5_put_X5_isSheet
set_option maxRecDepth 20000 in
theorem ggX5_put_X5_fails : GoodIn wsX5_put wsX5_fails := goodIn_r _ [15, 1, 16, 17, 18, 19, 20, 21, 22, 23, 24, 25, 26, 27, 28, 29, 30, 31, 32, 33, 34, 35, 36, 37, 38, 39, 40, 41, 42, 43, 44] (by decide +kernel) (by decide +kernel)
set_option maxRecDepth 20000 in
theorem gX5_put_X5_fails : GoodIn wsX5_put (wsV RX5 77 RX5 yX5_fails wsX5_fails) := goodIn_app (goodIn_of _ (by decide +kernel)) ggX5_put_X5_fails
set_option maxRecDepth 20000 in
theorem ggX5_put_X5_within : GoodIn wsX5_put wsX5_within := goodIn_r _ [11] (by decide +kernel) (by decide +kernel)
set_option maxRecDepth 20000 in
theorem gX5_put_X5_within : GoodIn wsX5_put (va_wsS RX5 56 yX5_within wsX5_within) := goodIn_app (goodIn_of _ (by decide +kernel)) ggX5_put_X5_within
theorem dX5_put_0 : decode cX5_put 0 = .ok (.aload_n 0, 1) := by decide +kernel
theorem dX5_put_1 : decode cX5_put 1 = .ok (.iconst 0, 1) := by decide +kernel
theorem dX5_put_2 : decode cX5_put 2 = .ok (.putfield 50, 3) := by decide +kernel
theorem dX5_put_5 : decode cX5_put 5 = .ok (.iload_n 1, 1) := by decide +kernel
theorem dX5_put_6 : decode cX5_put 6 = .ok (.invokestatic 66, 3) := by decide +kernel
theorem dX5_put_9 : decode cX5_put 9 = .ok (.ifCond .ne 5, 3) := by decide +kernel
theorem dX5_put_12 : decode cX5_put 12 = .ok (.iconst (-1), 1) := by decide +kernel
theorem dX5_put_13 : decode cX5_put 13 = .ok (.ireturn, 1) := by decide +kernel
theorem dX5_put_14 : decode cX5_put 14 = .ok (.aload_n 0, 1) := by decide +kernel
theorem dX5_put_15 : decode cX5_put 15 = .ok (.getfield 9, 3) := by decide +kernel
theorem dX5_put_18 : decode cX5_put 18 = .ok (.iload_n 1, 1) := by decide +kernel
theorem dX5_put_19 : decode cX5_put 19 = .ok (.iaload, 1) := by decide +kernel
theorem dX5_put_20 : decode cX5_put 20 = .ok (.bipush (-9), 2) := by decide +kernel
theorem dX5_put_22 : decode cX5_put 22 = .ok (.if_icmp .ne 9, 3) := by decide +kernel
theorem dX5_put_25 : decode cX5_put 25 = .ok (.aload_n 0, 1) := by decide +kernel
theorem dX5_put_26 : decode cX5_put 26 = .ok (.iconst 1, 1) := by decide +kernel
theorem dX5_put_27 : decode cX5_put 27 = .ok (.invokevirtual 77, 3) := by decide +kernel
theorem dX5_put_30 : decode cX5_put 30 = .ok (.ireturn, 1) := by decide +kernel
theorem dX5_put_31 : decode cX5_put 31 = .ok (.iload_n 2, 1) := by decide +kernel
theorem dX5_put_32 : decode cX5_put 32 = .ok (.iconst 0, 1) := by decide +kernel
theorem dX5_put_33 : decode cX5_put 33 = .ok (.aload_n 0, 1) := by decide +kernel
theorem dX5_put_34 : decode cX5_put 34 = .ok (.getfield 13, 3) := by decide +kernel
theorem dX5_put_37 : decode cX5_put 37 = .ok (.iload_n 1, 1) := by decide +kernel
theorem dX5_put_38 : decode cX5_put 38 = .ok (.iaload, 1) := by decide +kernel
theorem dX5_put_39 : decode cX5_put 39 = .ok (.iconst 1, 1) := by decide +kernel
theorem dX5_put_40 : decode cX5_put 40 = .ok (.isub, 1) := by decide +kernel
theorem dX5_put_41 : decode cX5_put 41 = .ok (.invokestatic 56, 3) := by decide +kernel
theorem dX5_put_44 : decode cX5_put 44 = .ok (.ifCond .ne 9, 3) := by decide +kernel
theorem dX5_put_47 : decode cX5_put 47 = .ok (.aload_n 0, 1) := by decide +kernel
theorem dX5_put_48 : decode cX5_put 48 = .ok (.iconst 3, 1) := by decide +kernel
theorem dX5_put_49 : decode cX5_put 49 = .ok (.invokevirtual 77, 3) := by decide +kernel
theorem dX5_put_52 : decode cX5_put 52 = .ok (.ireturn, 1) := by decide +kernel
theorem dX5_put_53 : decode cX5_put 53 = .ok (.aload_n 0, 1) := by decide +kernel
theorem dX5_put_54 : decode cX5_put 54 = .ok (.getfield 16, 3) := by decide +kernel
theorem dX5_put_57 : decode cX5_put 57 = .ok (.bipush 60, 2) := by decide +kernel
theorem dX5_put_59 : decode cX5_put 59 = .ok (.iload_n 1, 1) := by decide +kernel
theorem dX5_put_60 : decode cX5_put 60 = .ok (.imul, 1) := by decide +kernel
theorem dX5_put_61 : decode cX5_put 61 = .ok (.iload_n 2, 1) := by decide +kernel
theorem dX5_put_62 : decode cX5_put 62 = .ok (.iadd, 1) := by decide +kernel
theorem dX5_put_63 : decode cX5_put 63 = .ok (.aload_n 0, 1) := by decide +kernel
theorem dX5_put_64 : decode cX5_put 64 = .ok (.getfield 9, 3) := by decide +kernel
theorem dX5_put_67 : decode cX5_put 67 = .ok (.iload_n 1, 1) := by decide +kernel
theorem dX5_put_68 : decode cX5_put 68 = .ok (.iaload, 1) := by decide +kernel
theorem dX5_put_69 : decode cX5_put 69 = .ok (.ifCond .ne 8, 3) := by decide +kernel
theorem dX5_put_72 : decode cX5_put 72 = .ok (.iload_n 3, 1) := by decide +kernel
theorem dX5_put_73 : decode cX5_put 73 = .ok (.i2b, 1) := by decide +kernel
theorem dX5_put_74 : decode cX5_put 74 = .ok (.goto 19, 3) := by decide +kernel
theorem dX5_put_77 : decode cX5_put 77 = .ok (.aload_n 0, 1) := by decide +kernel
theorem dX5_put_78 : decode cX5_put 78 = .ok (.getfield 9, 3) := by decide +kernel
theorem dX5_put_81 : decode cX5_put 81 = .ok (.iload_n 1, 1) := by decide +kernel
theorem dX5_put_82 : decode cX5_put 82 = .ok (.iaload, 1) := by decide +kernel
theorem dX5_put_83 : decode cX5_put 83 = .ok (.iconst 1, 1) := by decide +kernel
theorem dX5_put_84 : decode cX5_put 84 = .ok (.if_icmp .ne 8, 3) := by decide +kernel
theorem dX5_put_87 : decode cX5_put 87 = .ok (.iload_n 3, 1) := by decide +kernel
theorem dX5_put_88 : decode cX5_put 88 = .ok (.i2s, 1) := by decide +kernel
theorem dX5_put_89 : decode cX5_put 89 = .ok (.goto 4, 3) := by decide +kernel
theorem dX5_put_92 : decode cX5_put 92 = .ok (.iload_n 3, 1) := by decide +kernel
theorem dX5_put_93 : decode cX5_put 93 = .ok (.iastore, 1) := by decide +kernel
theorem dX5_put_94 : decode cX5_put 94 = .ok (.iconst 1, 1) := by decide +kernel
theorem dX5_put_95 : decode cX5_put 95 = .ok (.ireturn, 1) := by decide +kernel
set_option maxRecDepth 20000 in
theorem ggX5_cell_X5_isSheet : GoodIn wsX5_cell wsX5_isSheet := goodIn_r _ [9, 10, 11, 8, 12] (by decide +kernel) (by decide +kernel)
set_option maxRecDepth 20000 in
theorem gX5_cell_X5_isSheet : GoodIn wsX5_cell (va_wsS RX5 66 yX5_isSheet wsX5_isSheet) := goodIn_app (goodIn_of _ (by decide +kernel)) ggX5_cell_X5_isSheet
set_option maxRecDepth 20000 in
theorem ggX5_cell_X5_isSort : GoodIn wsX5_cell wsX5_isSort := goodIn_r _ [15, 10, 11, 8, 12] (by decide +kernel) (by decide +kernel)
set_option maxRecDepth 20000 in
theorem gX5_cell_X5_isSort : GoodIn wsX5_cell (va_wsS RX5 70 yX5_isSort wsX5_isSort) := goodIn_app (goodIn_of _ (by decide +kernel)) ggX5_cell_X5_isSort
set_option maxRecDepth 20000 in
theorem ggX5_cell_X5_lost : GoodIn wsX5_cell wsX5_lost := goodIn_r _ [19, 1, 2, 20, 21, 22, 23, 24, 25, 26, 27, 28, 29, 30, 31, 32, 33, 34, 35, 36, 37, 38, 39, 40, 41, 42, 43, 44, 45, 46, 47, 48] (by decide +kernel) (by decide +kernel)
set_option maxRecDepth 20000 in
theorem gX5_cell_X5_lost : GoodIn wsX5_cell (wsV RX5 185 RX5 yX5_lost wsX5_lost) := goodIn_app (goodIn_of _ (by decide +kernel)) ggX5_cell_X5_lost
set_option maxRecDepth 20000 in
theorem ggX5_cell_X5_within : GoodIn wsX5_cell wsX5_within := goodIn_r _ [12] (by decide +kernel) (by decide +kernel)
set_option maxRecDepth 20000 in
theorem gX5_cell_X5_within : GoodIn wsX5_cell (va_wsS RX5 56 yX5_within wsX5_within) := goodIn_app (goodIn_of _ (by decide +kernel)) ggX5_cell_X5_within
theorem dX5_cell_0 : decode cX5_cell 0 = .ok (.aload_n 0, 1) := by decide +kernel
theorem dX5_cell_1 : decode cX5_cell 1 = .ok (.iconst 0, 1) := by decide +kernel
theorem dX5_cell_2 : decode cX5_cell 2 = .ok (.putfield 50, 3) := by decide +kernel
theorem dX5_cell_5 : decode cX5_cell 5 = .ok (.iload_n 1, 1) := by decide +kernel
theorem dX5_cell_6 : decode cX5_cell 6 = .ok (.invokestatic 66, 3) := by decide +kernel
theorem dX5_cell_9 : decode cX5_cell 9 = .ok (.ifCond .eq 10, 3) := by decide +kernel
theorem dX5_cell_12 : decode cX5_cell 12 = .ok (.iload_n 3, 1) := by decide +kernel
theorem dX5_cell_13 : decode cX5_cell 13 = .ok (.invokestatic 70, 3) := by decide +kernel
theorem dX5_cell_16 : decode cX5_cell 16 = .ok (.ifCond .ne 7, 3) := by decide +kernel
theorem dX5_cell_19 : decode cX5_cell 19 = .ok (.ldc2_w 54, 3) := by decide +kernel
theorem dX5_cell_22 : decode cX5_cell 22 = .ok (.lreturn, 1) := by decide +kernel
theorem dX5_cell_23 : decode cX5_cell 23 = .ok (.aload_n 0, 1) := by decide +kernel
theorem dX5_cell_24 : decode cX5_cell 24 = .ok (.getfield 9, 3) := by decide +kernel
theorem dX5_cell_27 : decode cX5_cell 27 = .ok (.iload_n 1, 1) := by decide +kernel
theorem dX5_cell_28 : decode cX5_cell 28 = .ok (.iaload, 1) := by decide +kernel
theorem dX5_cell_29 : decode cX5_cell 29 = .ok (.bipush (-9), 2) := by decide +kernel
theorem dX5_cell_31 : decode cX5_cell 31 = .ok (.if_icmp .eq 19, 3) := by decide +kernel
theorem dX5_cell_34 : decode cX5_cell 34 = .ok (.aload_n 0, 1) := by decide +kernel
theorem dX5_cell_35 : decode cX5_cell 35 = .ok (.getfield 9, 3) := by decide +kernel
theorem dX5_cell_38 : decode cX5_cell 38 = .ok (.iload_n 1, 1) := by decide +kernel
theorem dX5_cell_39 : decode cX5_cell 39 = .ok (.iaload, 1) := by decide +kernel
theorem dX5_cell_40 : decode cX5_cell 40 = .ok (.iload_n 3, 1) := by decide +kernel
theorem dX5_cell_41 : decode cX5_cell 41 = .ok (.if_icmp .eq 9, 3) := by decide +kernel
theorem dX5_cell_44 : decode cX5_cell 44 = .ok (.aload_n 0, 1) := by decide +kernel
theorem dX5_cell_45 : decode cX5_cell 45 = .ok (.iconst 2, 1) := by decide +kernel
theorem dX5_cell_46 : decode cX5_cell 46 = .ok (.invokevirtual 185, 3) := by decide +kernel
theorem dX5_cell_49 : decode cX5_cell 49 = .ok (.lreturn, 1) := by decide +kernel
theorem dX5_cell_50 : decode cX5_cell 50 = .ok (.aload_n 0, 1) := by decide +kernel
theorem dX5_cell_51 : decode cX5_cell 51 = .ok (.getfield 9, 3) := by decide +kernel
theorem dX5_cell_54 : decode cX5_cell 54 = .ok (.iload_n 1, 1) := by decide +kernel
theorem dX5_cell_55 : decode cX5_cell 55 = .ok (.iaload, 1) := by decide +kernel
theorem dX5_cell_56 : decode cX5_cell 56 = .ok (.bipush (-9), 2) := by decide +kernel
theorem dX5_cell_58 : decode cX5_cell 58 = .ok (.if_icmp .ne 9, 3) := by decide +kernel
theorem dX5_cell_61 : decode cX5_cell 61 = .ok (.aload_n 0, 1) := by decide +kernel
theorem dX5_cell_62 : decode cX5_cell 62 = .ok (.iconst 1, 1) := by decide +kernel
theorem dX5_cell_63 : decode cX5_cell 63 = .ok (.invokevirtual 185, 3) := by decide +kernel
theorem dX5_cell_66 : decode cX5_cell 66 = .ok (.lreturn, 1) := by decide +kernel
theorem dX5_cell_67 : decode cX5_cell 67 = .ok (.iload_n 2, 1) := by decide +kernel
theorem dX5_cell_68 : decode cX5_cell 68 = .ok (.iconst 0, 1) := by decide +kernel
theorem dX5_cell_69 : decode cX5_cell 69 = .ok (.aload_n 0, 1) := by decide +kernel
theorem dX5_cell_70 : decode cX5_cell 70 = .ok (.getfield 13, 3) := by decide +kernel
theorem dX5_cell_73 : decode cX5_cell 73 = .ok (.iload_n 1, 1) := by decide +kernel
theorem dX5_cell_74 : decode cX5_cell 74 = .ok (.iaload, 1) := by decide +kernel
theorem dX5_cell_75 : decode cX5_cell 75 = .ok (.iconst 1, 1) := by decide +kernel
theorem dX5_cell_76 : decode cX5_cell 76 = .ok (.isub, 1) := by decide +kernel
theorem dX5_cell_77 : decode cX5_cell 77 = .ok (.invokestatic 56, 3) := by decide +kernel
theorem dX5_cell_80 : decode cX5_cell 80 = .ok (.ifCond .ne 9, 3) := by decide +kernel
theorem dX5_cell_83 : decode cX5_cell 83 = .ok (.aload_n 0, 1) := by decide +kernel
theorem dX5_cell_84 : decode cX5_cell 84 = .ok (.iconst 3, 1) := by decide +kernel
theorem dX5_cell_85 : decode cX5_cell 85 = .ok (.invokevirtual 185, 3) := by decide +kernel
theorem dX5_cell_88 : decode cX5_cell 88 = .ok (.lreturn, 1) := by decide +kernel
theorem dX5_cell_89 : decode cX5_cell 89 = .ok (.aload_n 0, 1) := by decide +kernel
theorem dX5_cell_90 : decode cX5_cell 90 = .ok (.getfield 16, 3) := by decide +kernel
theorem dX5_cell_93 : decode cX5_cell 93 = .ok (.bipush 60, 2) := by decide +kernel
theorem dX5_cell_95 : decode cX5_cell 95 = .ok (.iload_n 1, 1) := by decide +kernel
theorem dX5_cell_96 : decode cX5_cell 96 = .ok (.imul, 1) := by decide +kernel
theorem dX5_cell_97 : decode cX5_cell 97 = .ok (.iload_n 2, 1) := by decide +kernel
theorem dX5_cell_98 : decode cX5_cell 98 = .ok (.iadd, 1) := by decide +kernel
theorem dX5_cell_99 : decode cX5_cell 99 = .ok (.iaload, 1) := by decide +kernel
theorem dX5_cell_100 : decode cX5_cell 100 = .ok (.i2l, 1) := by decide +kernel
theorem dX5_cell_101 : decode cX5_cell 101 = .ok (.lreturn, 1) := by decide +kernel
set_option maxRecDepth 20000 in
theorem ggX5_copy_X5_isSheet : GoodIn wsX5_copy wsX5_isSheet := goodIn_r _ [8, 9, 10, 7, 11] (by decide +kernel) (by decide +kernel)
set_option maxRecDepth 20000 in
theorem gX5_copy_X5_isSheet : GoodIn wsX5_copy (va_wsS RX5 66 yX5_isSheet wsX5_isSheet) := goodIn_app (goodIn_of _ (by decide +kernel)) ggX5_copy_X5_isSheet
set_option maxRecDepth 20000 in
theorem ggX5_copy_X5_fails : GoodIn wsX5_copy wsX5_fails := goodIn_r _ [15, 1, 16, 17, 18, 19, 20, 21, 22, 23, 24, 25, 26, 27, 28, 29, 30, 31, 32, 33, 34, 35, 36, 37, 38, 39, 40, 41, 42, 43, 44] (by decide +kernel) (by decide +kernel)
set_option maxRecDepth 20000 in
theorem gX5_copy_X5_fails : GoodIn wsX5_copy (wsV RX5 77 RX5 yX5_fails wsX5_fails) := goodIn_app (goodIn_of _ (by decide +kernel)) ggX5_copy_X5_fails
theorem dX5_copy_0 : decode cX5_copy 0 = .ok (.aload_n 0, 1) := by decide +kernel
theorem dX5_copy_1 : decode cX5_copy 1 = .ok (.iconst 0, 1) := by decide +kernel
theorem dX5_copy_2 : decode cX5_copy 2 = .ok (.putfield 50, 3) := by decide +kernel
theorem dX5_copy_5 : decode cX5_copy 5 = .ok (.iload_n 1, 1) := by decide +kernel
theorem dX5_copy_6 : decode cX5_copy 6 = .ok (.invokestatic 66, 3) := by decide +kernel
theorem dX5_copy_9 : decode cX5_copy 9 = .ok (.ifCond .eq 10, 3) := by decide +kernel
theorem dX5_copy_12 : decode cX5_copy 12 = .ok (.iload_n 3, 1) := by decide +kernel
theorem dX5_copy_13 : decode cX5_copy 13 = .ok (.invokestatic 66, 3) := by decide +kernel
theorem dX5_copy_16 : decode cX5_copy 16 = .ok (.ifCond .ne 5, 3) := by decide +kernel
theorem dX5_copy_19 : decode cX5_copy 19 = .ok (.iconst (-1), 1) := by decide +kernel
theorem dX5_copy_20 : decode cX5_copy 20 = .ok (.ireturn, 1) := by decide +kernel
theorem dX5_copy_21 : decode cX5_copy 21 = .ok (.aload_n 0, 1) := by decide +kernel
theorem dX5_copy_22 : decode cX5_copy 22 = .ok (.getfield 9, 3) := by decide +kernel
theorem dX5_copy_25 : decode cX5_copy 25 = .ok (.iload_n 1, 1) := by decide +kernel
theorem dX5_copy_26 : decode cX5_copy 26 = .ok (.iaload, 1) := by decide +kernel
theorem dX5_copy_27 : decode cX5_copy 27 = .ok (.bipush (-9), 2) := by decide +kernel
theorem dX5_copy_29 : decode cX5_copy 29 = .ok (.if_icmp .eq 14, 3) := by decide +kernel
theorem dX5_copy_32 : decode cX5_copy 32 = .ok (.aload_n 0, 1) := by decide +kernel
theorem dX5_copy_33 : decode cX5_copy 33 = .ok (.getfield 9, 3) := by decide +kernel
theorem dX5_copy_36 : decode cX5_copy 36 = .ok (.iload_n 3, 1) := by decide +kernel
theorem dX5_copy_37 : decode cX5_copy 37 = .ok (.iaload, 1) := by decide +kernel
theorem dX5_copy_38 : decode cX5_copy 38 = .ok (.bipush (-9), 2) := by decide +kernel
theorem dX5_copy_40 : decode cX5_copy 40 = .ok (.if_icmp .ne 9, 3) := by decide +kernel
theorem dX5_copy_43 : decode cX5_copy 43 = .ok (.aload_n 0, 1) := by decide +kernel
theorem dX5_copy_44 : decode cX5_copy 44 = .ok (.iconst 1, 1) := by decide +kernel
theorem dX5_copy_45 : decode cX5_copy 45 = .ok (.invokevirtual 77, 3) := by decide +kernel
theorem dX5_copy_48 : decode cX5_copy 48 = .ok (.ireturn, 1) := by decide +kernel
theorem dX5_copy_49 : decode cX5_copy 49 = .ok (.aload_n 0, 1) := by decide +kernel
theorem dX5_copy_50 : decode cX5_copy 50 = .ok (.getfield 9, 3) := by decide +kernel
theorem dX5_copy_53 : decode cX5_copy 53 = .ok (.iload_n 1, 1) := by decide +kernel
theorem dX5_copy_54 : decode cX5_copy 54 = .ok (.iaload, 1) := by decide +kernel
theorem dX5_copy_55 : decode cX5_copy 55 = .ok (.aload_n 0, 1) := by decide +kernel
theorem dX5_copy_56 : decode cX5_copy 56 = .ok (.getfield 9, 3) := by decide +kernel
theorem dX5_copy_59 : decode cX5_copy 59 = .ok (.iload_n 3, 1) := by decide +kernel
theorem dX5_copy_60 : decode cX5_copy 60 = .ok (.iaload, 1) := by decide +kernel
theorem dX5_copy_61 : decode cX5_copy 61 = .ok (.if_icmp .eq 9, 3) := by decide +kernel
theorem dX5_copy_64 : decode cX5_copy 64 = .ok (.aload_n 0, 1) := by decide +kernel
theorem dX5_copy_65 : decode cX5_copy 65 = .ok (.iconst 2, 1) := by decide +kernel
theorem dX5_copy_66 : decode cX5_copy 66 = .ok (.invokevirtual 77, 3) := by decide +kernel
theorem dX5_copy_69 : decode cX5_copy 69 = .ok (.ireturn, 1) := by decide +kernel
theorem dX5_copy_70 : decode cX5_copy 70 = .ok (.iload_n 2, 1) := by decide +kernel
theorem dX5_copy_71 : decode cX5_copy 71 = .ok (.ifCond .lt 38, 3) := by decide +kernel
theorem dX5_copy_74 : decode cX5_copy 74 = .ok (.iload 4, 2) := by decide +kernel
theorem dX5_copy_76 : decode cX5_copy 76 = .ok (.ifCond .lt 33, 3) := by decide +kernel
theorem dX5_copy_79 : decode cX5_copy 79 = .ok (.iload 5, 2) := by decide +kernel
theorem dX5_copy_81 : decode cX5_copy 81 = .ok (.ifCond .lt 28, 3) := by decide +kernel
theorem dX5_copy_84 : decode cX5_copy 84 = .ok (.iload_n 2, 1) := by decide +kernel
theorem dX5_copy_85 : decode cX5_copy 85 = .ok (.aload_n 0, 1) := by decide +kernel
theorem dX5_copy_86 : decode cX5_copy 86 = .ok (.getfield 13, 3) := by decide +kernel
theorem dX5_copy_89 : decode cX5_copy 89 = .ok (.iload_n 1, 1) := by decide +kernel
theorem dX5_copy_90 : decode cX5_copy 90 = .ok (.iaload, 1) := by decide +kernel
theorem dX5_copy_91 : decode cX5_copy 91 = .ok (.if_icmp .gt 18, 3) := by decide +kernel
theorem dX5_copy_94 : decode cX5_copy 94 = .ok (.iload 4, 2) := by decide +kernel
theorem dX5_copy_96 : decode cX5_copy 96 = .ok (.aload_n 0, 1) := by decide +kernel
theorem dX5_copy_97 : decode cX5_copy 97 = .ok (.getfield 13, 3) := by decide +kernel
theorem dX5_copy_100 : decode cX5_copy 100 = .ok (.iload_n 3, 1) := by decide +kernel
theorem dX5_copy_101 : decode cX5_copy 101 = .ok (.iaload, 1) := by decide +kernel
theorem dX5_copy_102 : decode cX5_copy 102 = .ok (.if_icmp .gt 7, 3) := by decide +kernel
theorem dX5_copy_105 : decode cX5_copy 105 = .ok (.iconst 1, 1) := by decide +kernel
theorem dX5_copy_106 : decode cX5_copy 106 = .ok (.goto 4, 3) := by decide +kernel
theorem dX5_copy_109 : decode cX5_copy 109 = .ok (.iconst 0, 1) := by decide +kernel
theorem dX5_copy_110 : decode cX5_copy 110 = .ok (.istore 6, 2) := by decide +kernel
theorem dX5_copy_112 : decode cX5_copy 112 = .ok (.iload 6, 2) := by decide +kernel
theorem dX5_copy_114 : decode cX5_copy 114 = .ok (.ifCond .eq 30, 3) := by decide +kernel
theorem dX5_copy_117 : decode cX5_copy 117 = .ok (.iload 5, 2) := by decide +kernel
theorem dX5_copy_119 : decode cX5_copy 119 = .ok (.aload_n 0, 1) := by decide +kernel
theorem dX5_copy_120 : decode cX5_copy 120 = .ok (.getfield 13, 3) := by decide +kernel
theorem dX5_copy_123 : decode cX5_copy 123 = .ok (.iload_n 1, 1) := by decide +kernel
theorem dX5_copy_124 : decode cX5_copy 124 = .ok (.iaload, 1) := by decide +kernel
theorem dX5_copy_125 : decode cX5_copy 125 = .ok (.iload_n 2, 1) := by decide +kernel
theorem dX5_copy_126 : decode cX5_copy 126 = .ok (.isub, 1) := by decide +kernel
theorem dX5_copy_127 : decode cX5_copy 127 = .ok (.if_icmp .gt 17, 3) := by decide +kernel
theorem dX5_copy_130 : decode cX5_copy 130 = .ok (.iload 5, 2) := by decide +kernel
theorem dX5_copy_132 : decode cX5_copy 132 = .ok (.aload_n 0, 1) := by decide +kernel
theorem dX5_copy_133 : decode cX5_copy 133 = .ok (.getfield 13, 3) := by decide +kernel
theorem dX5_copy_136 : decode cX5_copy 136 = .ok (.iload_n 3, 1) := by decide +kernel
theorem dX5_copy_137 : decode cX5_copy 137 = .ok (.iaload, 1) := by decide +kernel
theorem dX5_copy_138 : decode cX5_copy 138 = .ok (.iload 4, 2) := by decide +kernel
theorem dX5_copy_140 : decode cX5_copy 140 = .ok (.isub, 1) := by decide +kernel
theorem dX5_copy_141 : decode cX5_copy 141 = .ok (.if_icmp .le 9, 3) := by decide +kernel
theorem dX5_copy_144 : decode cX5_copy 144 = .ok (.aload_n 0, 1) := by decide +kernel
theorem dX5_copy_145 : decode cX5_copy 145 = .ok (.iconst 3, 1) := by decide +kernel
theorem dX5_copy_146 : decode cX5_copy 146 = .ok (.invokevirtual 77, 3) := by decide +kernel
theorem dX5_copy_149 : decode cX5_copy 149 = .ok (.ireturn, 1) := by decide +kernel
theorem dX5_copy_150 : decode cX5_copy 150 = .ok (.iload_n 2, 1) := by decide +kernel
theorem dX5_copy_151 : decode cX5_copy 151 = .ok (.iload 4, 2) := by decide +kernel
theorem dX5_copy_153 : decode cX5_copy 153 = .ok (.if_icmp .ge 7, 3) := by decide +kernel
theorem dX5_copy_156 : decode cX5_copy 156 = .ok (.iconst 1, 1) := by decide +kernel
theorem dX5_copy_157 : decode cX5_copy 157 = .ok (.goto 4, 3) := by decide +kernel
theorem dX5_copy_160 : decode cX5_copy 160 = .ok (.iconst 0, 1) := by decide +kernel
theorem dX5_copy_161 : decode cX5_copy 161 = .ok (.istore 7, 2) := by decide +kernel
theorem dX5_copy_163 : decode cX5_copy 163 = .ok (.iconst 0, 1) := by decide +kernel
theorem dX5_copy_164 : decode cX5_copy 164 = .ok (.istore 8, 2) := by decide +kernel
theorem dX5_copy_166 : decode cX5_copy 166 = .ok (.iload 8, 2) := by decide +kernel
theorem dX5_copy_168 : decode cX5_copy 168 = .ok (.iload 5, 2) := by decide +kernel
theorem dX5_copy_170 : decode cX5_copy 170 = .ok (.if_icmp .ge 57, 3) := by decide +kernel
theorem dX5_copy_173 : decode cX5_copy 173 = .ok (.iload 7, 2) := by decide +kernel
theorem dX5_copy_175 : decode cX5_copy 175 = .ok (.ifCond .eq 13, 3) := by decide +kernel
theorem dX5_copy_178 : decode cX5_copy 178 = .ok (.iload 5, 2) := by decide +kernel
theorem dX5_copy_180 : decode cX5_copy 180 = .ok (.iconst 1, 1) := by decide +kernel
theorem dX5_copy_181 : decode cX5_copy 181 = .ok (.isub, 1) := by decide +kernel
theorem dX5_copy_182 : decode cX5_copy 182 = .ok (.iload 8, 2) := by decide +kernel
theorem dX5_copy_184 : decode cX5_copy 184 = .ok (.isub, 1) := by decide +kernel
theorem dX5_copy_185 : decode cX5_copy 185 = .ok (.goto 5, 3) := by decide +kernel
theorem dX5_copy_188 : decode cX5_copy 188 = .ok (.iload 8, 2) := by decide +kernel
theorem dX5_copy_190 : decode cX5_copy 190 = .ok (.istore 9, 2) := by decide +kernel
theorem dX5_copy_192 : decode cX5_copy 192 = .ok (.aload_n 0, 1) := by decide +kernel
theorem dX5_copy_193 : decode cX5_copy 193 = .ok (.getfield 16, 3) := by decide +kernel
theorem dX5_copy_196 : decode cX5_copy 196 = .ok (.bipush 60, 2) := by decide +kernel
theorem dX5_copy_198 : decode cX5_copy 198 = .ok (.iload_n 3, 1) := by decide +kernel
theorem dX5_copy_199 : decode cX5_copy 199 = .ok (.imul, 1) := by decide +kernel
theorem dX5_copy_200 : decode cX5_copy 200 = .ok (.iload 4, 2) := by decide +kernel
theorem dX5_copy_202 : decode cX5_copy 202 = .ok (.iadd, 1) := by decide +kernel
theorem dX5_copy_203 : decode cX5_copy 203 = .ok (.iload 9, 2) := by decide +kernel
theorem dX5_copy_205 : decode cX5_copy 205 = .ok (.iadd, 1) := by decide +kernel
theorem dX5_copy_206 : decode cX5_copy 206 = .ok (.aload_n 0, 1) := by decide +kernel
theorem dX5_copy_207 : decode cX5_copy 207 = .ok (.getfield 16, 3) := by decide +kernel
theorem dX5_copy_210 : decode cX5_copy 210 = .ok (.bipush 60, 2) := by decide +kernel
theorem dX5_copy_212 : decode cX5_copy 212 = .ok (.iload_n 1, 1) := by decide +kernel
theorem dX5_copy_213 : decode cX5_copy 213 = .ok (.imul, 1) := by decide +kernel
theorem dX5_copy_214 : decode cX5_copy 214 = .ok (.iload_n 2, 1) := by decide +kernel
theorem dX5_copy_215 : decode cX5_copy 215 = .ok (.iadd, 1) := by decide +kernel
theorem dX5_copy_216 : decode cX5_copy 216 = .ok (.iload 9, 2) := by decide +kernel
theorem dX5_copy_218 : decode cX5_copy 218 = .ok (.iadd, 1) := by decide +kernel
theorem dX5_copy_219 : decode cX5_copy 219 = .ok (.iaload, 1) := by decide +kernel
theorem dX5_copy_220 : decode cX5_copy 220 = .ok (.iastore, 1) := by decide +kernel
theorem dX5_copy_221 : decode cX5_copy 221 = .ok (.iinc 8 1, 3) := by decide +kernel
theorem dX5_copy_224 : decode cX5_copy 224 = .ok (.goto (-58), 3) := by decide +kernel
theorem dX5_copy_227 : decode cX5_copy 227 = .ok (.iload 5, 2) := by decide +kernel
theorem dX5_copy_229 : decode cX5_copy 229 = .ok (.ireturn, 1) := by decide +kernel
theorem dX5_begins_0 : decode cX5_begins 0 = .ok (.aload_n 0, 1) := by decide +kernel
theorem dX5_begins_1 : decode cX5_begins 1 = .ok (.bipush 31, 2) := by decide +kernel
theorem dX5_begins_3 : decode cX5_begins 3 = .ok (.aload_n 0, 1) := by decide +kernel
theorem dX5_begins_4 : decode cX5_begins 4 = .ok (.getfield 189, 3) := by decide +kernel
theorem dX5_begins_7 : decode cX5_begins 7 = .ok (.imul, 1) := by decide +kernel
theorem dX5_begins_8 : decode cX5_begins 8 = .ok (.iload_n 1, 1) := by decide +kernel
theorem dX5_begins_9 : decode cX5_begins 9 = .ok (.iadd, 1) := by decide +kernel
theorem dX5_begins_10 : decode cX5_begins 10 = .ok (.putfield 189, 3) := by decide +kernel
theorem dX5_begins_13 : decode cX5_begins 13 = .ok (.return_, 1) := by decide +kernel
set_option maxRecDepth 20000 in
theorem ggX5_tell_X5_isStander : GoodIn wsX5_tell wsX5_isStander := goodIn_r _ [7, 8, 14, 15, 16, 17, 18, 19, 20, 21, 22, 23, 24, 25, 26, 27, 28, 29, 30, 31, 32, 33, 34, 35, 36, 37, 38, 39, 40, 41, 42] (by decide +kernel) (by decide +kernel)
set_option maxRecDepth 20000 in
theorem gX5_tell_X5_isStander : GoodIn wsX5_tell (wsV RX5 113 RX5 yX5_isStander wsX5_isStander) := goodIn_app (goodIn_of _ (by decide +kernel)) ggX5_tell_X5_isStander
set_option maxRecDepth 20000 in
theorem ggX5_tell_X5_begins : GoodIn wsX5_tell wsX5_begins := goodIn_r _ [12, 13, 14, 15, 16, 17, 18, 19, 20, 21, 22, 23, 24, 25, 26, 27, 28, 29, 30, 31, 32, 33, 34, 35, 36, 37, 38, 39, 40, 41, 42] (by decide +kernel) (by decide +kernel)
set_option maxRecDepth 20000 in
theorem gX5_tell_X5_begins : GoodIn wsX5_tell (wsV RX5 192 RX5 yX5_begins wsX5_begins) := goodIn_app (goodIn_of _ (by decide +kernel)) ggX5_tell_X5_begins
theorem dX5_tell_0 : decode cX5_tell 0 = .ok (.aload_n 0, 1) := by decide +kernel
theorem dX5_tell_1 : decode cX5_tell 1 = .ok (.iload_n 1, 1) := by decide +kernel
theorem dX5_tell_2 : decode cX5_tell 2 = .ok (.invokevirtual 113, 3) := by decide +kernel
theorem dX5_tell_5 : decode cX5_tell 5 = .ok (.ifCond .ne 5, 3) := by decide +kernel
theorem dX5_tell_8 : decode cX5_tell 8 = .ok (.iconst (-1), 1) := by decide +kernel
theorem dX5_tell_9 : decode cX5_tell 9 = .ok (.ireturn, 1) := by decide +kernel
theorem dX5_tell_10 : decode cX5_tell 10 = .ok (.aload_n 0, 1) := by decide +kernel
theorem dX5_tell_11 : decode cX5_tell 11 = .ok (.getfield 25, 3) := by decide +kernel
theorem dX5_tell_14 : decode cX5_tell 14 = .ok (.iload_n 1, 1) := by decide +kernel
theorem dX5_tell_15 : decode cX5_tell 15 = .ok (.iaload, 1) := by decide +kernel
theorem dX5_tell_16 : decode cX5_tell 16 = .ok (.istore_n 2, 1) := by decide +kernel
theorem dX5_tell_17 : decode cX5_tell 17 = .ok (.aload_n 0, 1) := by decide +kernel
theorem dX5_tell_18 : decode cX5_tell 18 = .ok (.getfield 19, 3) := by decide +kernel
theorem dX5_tell_21 : decode cX5_tell 21 = .ok (.iload_n 1, 1) := by decide +kernel
theorem dX5_tell_22 : decode cX5_tell 22 = .ok (.iaload, 1) := by decide +kernel
theorem dX5_tell_23 : decode cX5_tell 23 = .ok (.lookupswitch 67 #[(1, 25), (2, 40)], 25) := by decide +kernel
theorem dX5_tell_48 : decode cX5_tell 48 = .ok (.aload_n 0, 1) := by decide +kernel
theorem dX5_tell_49 : decode cX5_tell 49 = .ok (.iconst 2, 1) := by decide +kernel
theorem dX5_tell_50 : decode cX5_tell 50 = .ok (.invokevirtual 192, 3) := by decide +kernel
theorem dX5_tell_53 : decode cX5_tell 53 = .ok (.aload_n 0, 1) := by decide +kernel
theorem dX5_tell_54 : decode cX5_tell 54 = .ok (.iconst 1, 1) := by decide +kernel
theorem dX5_tell_55 : decode cX5_tell 55 = .ok (.invokevirtual 192, 3) := by decide +kernel
theorem dX5_tell_58 : decode cX5_tell 58 = .ok (.iload_n 2, 1) := by decide +kernel
theorem dX5_tell_59 : decode cX5_tell 59 = .ok (.bipush 100, 2) := by decide +kernel
theorem dX5_tell_61 : decode cX5_tell 61 = .ok (.iadd, 1) := by decide +kernel
theorem dX5_tell_62 : decode cX5_tell 62 = .ok (.ireturn, 1) := by decide +kernel
theorem dX5_tell_63 : decode cX5_tell 63 = .ok (.aload_n 0, 1) := by decide +kernel
theorem dX5_tell_64 : decode cX5_tell 64 = .ok (.iconst 3, 1) := by decide +kernel
theorem dX5_tell_65 : decode cX5_tell 65 = .ok (.invokevirtual 192, 3) := by decide +kernel
theorem dX5_tell_68 : decode cX5_tell 68 = .ok (.aload_n 0, 1) := by decide +kernel
theorem dX5_tell_69 : decode cX5_tell 69 = .ok (.iconst 2, 1) := by decide +kernel
theorem dX5_tell_70 : decode cX5_tell 70 = .ok (.invokevirtual 192, 3) := by decide +kernel
theorem dX5_tell_73 : decode cX5_tell 73 = .ok (.aload_n 0, 1) := by decide +kernel
theorem dX5_tell_74 : decode cX5_tell 74 = .ok (.iconst 1, 1) := by decide +kernel
theorem dX5_tell_75 : decode cX5_tell 75 = .ok (.invokevirtual 192, 3) := by decide +kernel
theorem dX5_tell_78 : decode cX5_tell 78 = .ok (.aload_n 0, 1) := by decide +kernel
theorem dX5_tell_79 : decode cX5_tell 79 = .ok (.iconst 1, 1) := by decide +kernel
theorem dX5_tell_80 : decode cX5_tell 80 = .ok (.invokevirtual 192, 3) := by decide +kernel
theorem dX5_tell_83 : decode cX5_tell 83 = .ok (.iconst 2, 1) := by decide +kernel
theorem dX5_tell_84 : decode cX5_tell 84 = .ok (.iload_n 2, 1) := by decide +kernel
theorem dX5_tell_85 : decode cX5_tell 85 = .ok (.imul, 1) := by decide +kernel
theorem dX5_tell_86 : decode cX5_tell 86 = .ok (.bipush 100, 2) := by decide +kernel
theorem dX5_tell_88 : decode cX5_tell 88 = .ok (.iadd, 1) := by decide +kernel
theorem dX5_tell_89 : decode cX5_tell 89 = .ok (.ireturn, 1) := by decide +kernel
theorem dX5_tell_90 : decode cX5_tell 90 = .ok (.aload_n 0, 1) := by decide +kernel
theorem dX5_tell_91 : decode cX5_tell 91 = .ok (.iconst 1, 1) := by decide +kernel
theorem dX5_tell_92 : decode cX5_tell 92 = .ok (.invokevirtual 192, 3) := by decide +kernel
theorem dX5_tell_95 : decode cX5_tell 95 = .ok (.iload_n 2, 1) := by decide +kernel
theorem dX5_tell_96 : decode cX5_tell 96 = .ok (.ireturn, 1) := by decide +kernel
set_option maxRecDepth 20000 in
theorem ggX5_tax_X5_isStander : GoodIn wsX5_tax wsX5_isStander := goodIn_r _ [6, 7, 13, 14, 15, 16, 17, 18, 19, 20, 21, 22, 23, 24, 25, 26, 27, 28, 29, 30, 31, 32, 33, 34, 35, 36, 37, 38, 39, 40, 41] (by decide +kernel) (by decide +kernel)
set_option maxRecDepth 20000 in
theorem gX5_tax_X5_isStander : GoodIn wsX5_tax (wsV RX5 113 RX5 yX5_isStander wsX5_isStander) := goodIn_app (goodIn_of _ (by decide +kernel)) ggX5_tax_X5_isStander
set_option maxRecDepth 20000 in
theorem ggX5_tax_X5_begins : GoodIn wsX5_tax wsX5_begins := goodIn_r _ [11, 12, 13, 14, 15, 16, 17, 18, 19, 20, 21, 22, 23, 24, 25, 26, 27, 28, 29, 30, 31, 32, 33, 34, 35, 36, 37, 38, 39, 40, 41] (by decide +kernel) (by decide +kernel)
set_option maxRecDepth 20000 in
theorem gX5_tax_X5_begins : GoodIn wsX5_tax (wsV RX5 192 RX5 yX5_begins wsX5_begins) := goodIn_app (goodIn_of _ (by decide +kernel)) ggX5_tax_X5_begins
theorem dX5_tax_0 : decode cX5_tax 0 = .ok (.aload_n 0, 1) := by decide +kernel
theorem dX5_tax_1 : decode cX5_tax 1 = .ok (.iload_n 1, 1) := by decide +kernel
theorem dX5_tax_2 : decode cX5_tax 2 = .ok (.invokevirtual 113, 3) := by decide +kernel
theorem dX5_tax_5 : decode cX5_tax 5 = .ok (.ifCond .ne 5, 3) := by decide +kernel
theorem dX5_tax_8 : decode cX5_tax 8 = .ok (.iconst (-1), 1) := by decide +kernel
theorem dX5_tax_9 : decode cX5_tax 9 = .ok (.ireturn, 1) := by decide +kernel
theorem dX5_tax_10 : decode cX5_tax 10 = .ok (.aload_n 0, 1) := by decide +kernel
theorem dX5_tax_11 : decode cX5_tax 11 = .ok (.aload_n 0, 1) := by decide +kernel
theorem dX5_tax_12 : decode cX5_tax 12 = .ok (.getfield 19, 3) := by decide +kernel
theorem dX5_tax_15 : decode cX5_tax 15 = .ok (.iload_n 1, 1) := by decide +kernel
theorem dX5_tax_16 : decode cX5_tax 16 = .ok (.iaload, 1) := by decide +kernel
theorem dX5_tax_17 : decode cX5_tax 17 = .ok (.iconst 2, 1) := by decide +kernel
theorem dX5_tax_18 : decode cX5_tax 18 = .ok (.if_icmp .ne 7, 3) := by decide +kernel
theorem dX5_tax_21 : decode cX5_tax 21 = .ok (.iconst 5, 1) := by decide +kernel
theorem dX5_tax_22 : decode cX5_tax 22 = .ok (.goto 4, 3) := by decide +kernel
theorem dX5_tax_25 : decode cX5_tax 25 = .ok (.iconst 4, 1) := by decide +kernel
theorem dX5_tax_26 : decode cX5_tax 26 = .ok (.invokevirtual 192, 3) := by decide +kernel
theorem dX5_tax_29 : decode cX5_tax 29 = .ok (.aload_n 0, 1) := by decide +kernel
theorem dX5_tax_30 : decode cX5_tax 30 = .ok (.getfield 19, 3) := by decide +kernel
theorem dX5_tax_33 : decode cX5_tax 33 = .ok (.iload_n 1, 1) := by decide +kernel
theorem dX5_tax_34 : decode cX5_tax 34 = .ok (.iaload, 1) := by decide +kernel
theorem dX5_tax_35 : decode cX5_tax 35 = .ok (.iconst 2, 1) := by decide +kernel
theorem dX5_tax_36 : decode cX5_tax 36 = .ok (.if_icmp .ne 8, 3) := by decide +kernel
theorem dX5_tax_39 : decode cX5_tax 39 = .ok (.bipush 60, 2) := by decide +kernel
theorem dX5_tax_41 : decode cX5_tax 41 = .ok (.goto 4, 3) := by decide +kernel
theorem dX5_tax_44 : decode cX5_tax 44 = .ok (.iload_n 1, 1) := by decide +kernel
theorem dX5_tax_45 : decode cX5_tax 45 = .ok (.ireturn, 1) := by decide +kernel
set_option maxRecDepth 20000 in
theorem ggX5_as_X5_isStander : GoodIn wsX5_as wsX5_isStander := goodIn_r _ [7, 8, 16, 17, 18, 19, 20, 21, 22, 23, 24, 25, 26, 27, 28, 29, 30, 31, 32, 33, 34, 35, 36, 37, 38, 39, 40, 41, 42, 43, 44] (by decide +kernel) (by decide +kernel)
set_option maxRecDepth 20000 in
theorem gX5_as_X5_isStander : GoodIn wsX5_as (wsV RX5 113 RX5 yX5_isStander wsX5_isStander) := goodIn_app (goodIn_of _ (by decide +kernel)) ggX5_as_X5_isStander
set_option maxRecDepth 20000 in
theorem ggX5_as_X5_within : GoodIn wsX5_as wsX5_within := goodIn_r _ [11] (by decide +kernel) (by decide +kernel)
set_option maxRecDepth 20000 in
theorem gX5_as_X5_within : GoodIn wsX5_as (va_wsS RX5 56 yX5_within wsX5_within) := goodIn_app (goodIn_of _ (by decide +kernel)) ggX5_as_X5_within
set_option maxRecDepth 20000 in
theorem ggX5_as_X5_fails : GoodIn wsX5_as wsX5_fails := goodIn_r _ [15, 1, 16, 17, 18, 19, 20, 21, 22, 23, 24, 25, 26, 27, 28, 29, 30, 31, 32, 33, 34, 35, 36, 37, 38, 39, 40, 41, 42, 43, 44] (by decide +kernel) (by decide +kernel)
set_option maxRecDepth 20000 in
theorem gX5_as_X5_fails : GoodIn wsX5_as (wsV RX5 77 RX5 yX5_fails wsX5_fails) := goodIn_app (goodIn_of _ (by decide +kernel)) ggX5_as_X5_fails
theorem dX5_as_0 : decode cX5_as 0 = .ok (.aload_n 0, 1) := by decide +kernel
theorem dX5_as_1 : decode cX5_as 1 = .ok (.iconst 0, 1) := by decide +kernel
theorem dX5_as_2 : decode cX5_as 2 = .ok (.putfield 50, 3) := by decide +kernel
theorem dX5_as_5 : decode cX5_as 5 = .ok (.aload_n 0, 1) := by decide +kernel
theorem dX5_as_6 : decode cX5_as 6 = .ok (.iload_n 1, 1) := by decide +kernel
theorem dX5_as_7 : decode cX5_as 7 = .ok (.invokevirtual 113, 3) := by decide +kernel
theorem dX5_as_10 : decode cX5_as 10 = .ok (.ifCond .ne 5, 3) := by decide +kernel
theorem dX5_as_13 : decode cX5_as 13 = .ok (.iconst (-1), 1) := by decide +kernel
theorem dX5_as_14 : decode cX5_as 14 = .ok (.ireturn, 1) := by decide +kernel
theorem dX5_as_15 : decode cX5_as 15 = .ok (.iload_n 2, 1) := by decide +kernel
theorem dX5_as_16 : decode cX5_as 16 = .ok (.iconst 0, 1) := by decide +kernel
theorem dX5_as_17 : decode cX5_as 17 = .ok (.iconst 2, 1) := by decide +kernel
theorem dX5_as_18 : decode cX5_as 18 = .ok (.invokestatic 56, 3) := by decide +kernel
theorem dX5_as_21 : decode cX5_as 21 = .ok (.ifCond .ne 6, 3) := by decide +kernel
theorem dX5_as_24 : decode cX5_as 24 = .ok (.bipush (-2), 2) := by decide +kernel
theorem dX5_as_26 : decode cX5_as 26 = .ok (.ireturn, 1) := by decide +kernel
theorem dX5_as_27 : decode cX5_as 27 = .ok (.aload_n 0, 1) := by decide +kernel
theorem dX5_as_28 : decode cX5_as 28 = .ok (.getfield 19, 3) := by decide +kernel
theorem dX5_as_31 : decode cX5_as 31 = .ok (.iload_n 1, 1) := by decide +kernel
theorem dX5_as_32 : decode cX5_as 32 = .ok (.iaload, 1) := by decide +kernel
theorem dX5_as_33 : decode cX5_as 33 = .ok (.iload_n 2, 1) := by decide +kernel
theorem dX5_as_34 : decode cX5_as 34 = .ok (.if_icmp .lt 7, 3) := by decide +kernel
theorem dX5_as_37 : decode cX5_as 37 = .ok (.iconst 1, 1) := by decide +kernel
theorem dX5_as_38 : decode cX5_as 38 = .ok (.goto 8, 3) := by decide +kernel
theorem dX5_as_41 : decode cX5_as 41 = .ok (.aload_n 0, 1) := by decide +kernel
theorem dX5_as_42 : decode cX5_as 42 = .ok (.iconst 2, 1) := by decide +kernel
theorem dX5_as_43 : decode cX5_as 43 = .ok (.invokevirtual 77, 3) := by decide +kernel
theorem dX5_as_46 : decode cX5_as 46 = .ok (.ireturn, 1) := by decide +kernel
theorem dX5_trace_0 : decode cX5_trace 0 = .ok (.aload_n 0, 1) := by decide +kernel
theorem dX5_trace_1 : decode cX5_trace 1 = .ok (.getfield 189, 3) := by decide +kernel
theorem dX5_trace_4 : decode cX5_trace 4 = .ok (.ireturn, 1) := by decide +kernel
theorem dX5_fault_0 : decode cX5_fault 0 = .ok (.aload_n 0, 1) := by decide +kernel
theorem dX5_fault_1 : decode cX5_fault 1 = .ok (.getfield 50, 3) := by decide +kernel
theorem dX5_fault_4 : decode cX5_fault 4 = .ok (.ireturn, 1) := by decide +kernel
theorem dX5_many_0 : decode cX5_many 0 = .ok (.iload_n 1, 1) := by decide +kernel
theorem dX5_many_1 : decode cX5_many 1 = .ok (.ifCond .ne 10, 3) := by decide +kernel
theorem dX5_many_4 : decode cX5_many 4 = .ok (.aload_n 0, 1) := by decide +kernel
theorem dX5_many_5 : decode cX5_many 5 = .ok (.getfield 60, 3) := by decide +kernel
theorem dX5_many_8 : decode cX5_many 8 = .ok (.goto 41, 3) := by decide +kernel
theorem dX5_many_11 : decode cX5_many 11 = .ok (.iload_n 1, 1) := by decide +kernel
theorem dX5_many_12 : decode cX5_many 12 = .ok (.iconst 1, 1) := by decide +kernel
theorem dX5_many_13 : decode cX5_many 13 = .ok (.if_icmp .ne 10, 3) := by decide +kernel
theorem dX5_many_16 : decode cX5_many 16 = .ok (.aload_n 0, 1) := by decide +kernel
theorem dX5_many_17 : decode cX5_many 17 = .ok (.getfield 87, 3) := by decide +kernel
theorem dX5_many_20 : decode cX5_many 20 = .ok (.goto 29, 3) := by decide +kernel
theorem dX5_many_23 : decode cX5_many 23 = .ok (.iload_n 1, 1) := by decide +kernel
theorem dX5_many_24 : decode cX5_many 24 = .ok (.iconst 2, 1) := by decide +kernel
theorem dX5_many_25 : decode cX5_many 25 = .ok (.if_icmp .ne 10, 3) := by decide +kernel
theorem dX5_many_28 : decode cX5_many 28 = .ok (.aload_n 0, 1) := by decide +kernel
theorem dX5_many_29 : decode cX5_many 29 = .ok (.getfield 93, 3) := by decide +kernel
theorem dX5_many_32 : decode cX5_many 32 = .ok (.goto 17, 3) := by decide +kernel
theorem dX5_many_35 : decode cX5_many 35 = .ok (.iload_n 1, 1) := by decide +kernel
theorem dX5_many_36 : decode cX5_many 36 = .ok (.iconst 3, 1) := by decide +kernel
theorem dX5_many_37 : decode cX5_many 37 = .ok (.if_icmp .ne 10, 3) := by decide +kernel
theorem dX5_many_40 : decode cX5_many 40 = .ok (.aload_n 0, 1) := by decide +kernel
theorem dX5_many_41 : decode cX5_many 41 = .ok (.getfield 99, 3) := by decide +kernel
theorem dX5_many_44 : decode cX5_many 44 = .ok (.goto 5, 3) := by decide +kernel
theorem dX5_many_47 : decode cX5_many 47 = .ok (.bipush (-2), 2) := by decide +kernel
theorem dX5_many_49 : decode cX5_many 49 = .ok (.ireturn, 1) := by decide +kernel
theorem dJ6_bitCount_0f7a4_0 : decode cJ6_bitCount_0f7a4 0 = .ok (.iload_n 0, 1) := by decide +kernel
theorem dJ6_bitCount_0f7a4_1 : decode cJ6_bitCount_0f7a4 1 = .ok (.iload_n 0, 1) := by decide +kernel
theorem dJ6_bitCount_0f7a4_2 : decode cJ6_bitCount_0f7a4 2 = .ok (.iconst 1, 1) := by decide +kernel
theorem dJ6_bitCount_0f7a4_3 : decode cJ6_bitCount_0f7a4 3 = .ok (.iushr, 1) := by decide +kernel
theorem dJ6_bitCount_0f7a4_4 : decode cJ6_bitCount_0f7a4 4 = .ok (.ldc_w 265, 3) := by decide +kernel
theorem dJ6_bitCount_0f7a4_7 : decode cJ6_bitCount_0f7a4 7 = .ok (.iand, 1) := by decide +kernel
theorem dJ6_bitCount_0f7a4_8 : decode cJ6_bitCount_0f7a4 8 = .ok (.isub, 1) := by decide +kernel
theorem dJ6_bitCount_0f7a4_9 : decode cJ6_bitCount_0f7a4 9 = .ok (.istore_n 0, 1) := by decide +kernel
theorem dJ6_bitCount_0f7a4_10 : decode cJ6_bitCount_0f7a4 10 = .ok (.iload_n 0, 1) := by decide +kernel
theorem dJ6_bitCount_0f7a4_11 : decode cJ6_bitCount_0f7a4 11 = .ok (.ldc_w 266, 3) := by decide +kernel
theorem dJ6_bitCount_0f7a4_14 : decode cJ6_bitCount_0f7a4 14 = .ok (.iand, 1) := by decide +kernel
theorem dJ6_bitCount_0f7a4_15 : decode cJ6_bitCount_0f7a4 15 = .ok (.iload_n 0, 1) := by decide +kernel
theorem dJ6_bitCount_0f7a4_16 : decode cJ6_bitCount_0f7a4 16 = .ok (.iconst 2, 1) := by decide +kernel
theorem dJ6_bitCount_0f7a4_17 : decode cJ6_bitCount_0f7a4 17 = .ok (.iushr, 1) := by decide +kernel
theorem dJ6_bitCount_0f7a4_18 : decode cJ6_bitCount_0f7a4 18 = .ok (.ldc_w 266, 3) := by decide +kernel
theorem dJ6_bitCount_0f7a4_21 : decode cJ6_bitCount_0f7a4 21 = .ok (.iand, 1) := by decide +kernel
theorem dJ6_bitCount_0f7a4_22 : decode cJ6_bitCount_0f7a4 22 = .ok (.iadd, 1) := by decide +kernel
theorem dJ6_bitCount_0f7a4_23 : decode cJ6_bitCount_0f7a4 23 = .ok (.istore_n 0, 1) := by decide +kernel
theorem dJ6_bitCount_0f7a4_24 : decode cJ6_bitCount_0f7a4 24 = .ok (.iload_n 0, 1) := by decide +kernel
theorem dJ6_bitCount_0f7a4_25 : decode cJ6_bitCount_0f7a4 25 = .ok (.iload_n 0, 1) := by decide +kernel
theorem dJ6_bitCount_0f7a4_26 : decode cJ6_bitCount_0f7a4 26 = .ok (.iconst 4, 1) := by decide +kernel
theorem dJ6_bitCount_0f7a4_27 : decode cJ6_bitCount_0f7a4 27 = .ok (.iushr, 1) := by decide +kernel
theorem dJ6_bitCount_0f7a4_28 : decode cJ6_bitCount_0f7a4 28 = .ok (.iadd, 1) := by decide +kernel
theorem dJ6_bitCount_0f7a4_29 : decode cJ6_bitCount_0f7a4 29 = .ok (.ldc_w 267, 3) := by decide +kernel
theorem dJ6_bitCount_0f7a4_32 : decode cJ6_bitCount_0f7a4 32 = .ok (.iand, 1) := by decide +kernel
theorem dJ6_bitCount_0f7a4_33 : decode cJ6_bitCount_0f7a4 33 = .ok (.istore_n 0, 1) := by decide +kernel
theorem dJ6_bitCount_0f7a4_34 : decode cJ6_bitCount_0f7a4 34 = .ok (.iload_n 0, 1) := by decide +kernel
theorem dJ6_bitCount_0f7a4_35 : decode cJ6_bitCount_0f7a4 35 = .ok (.iload_n 0, 1) := by decide +kernel
theorem dJ6_bitCount_0f7a4_36 : decode cJ6_bitCount_0f7a4 36 = .ok (.bipush 8, 2) := by decide +kernel
theorem dJ6_bitCount_0f7a4_38 : decode cJ6_bitCount_0f7a4 38 = .ok (.iushr, 1) := by decide +kernel
theorem dJ6_bitCount_0f7a4_39 : decode cJ6_bitCount_0f7a4 39 = .ok (.iadd, 1) := by decide +kernel
theorem dJ6_bitCount_0f7a4_40 : decode cJ6_bitCount_0f7a4 40 = .ok (.istore_n 0, 1) := by decide +kernel
theorem dJ6_bitCount_0f7a4_41 : decode cJ6_bitCount_0f7a4 41 = .ok (.iload_n 0, 1) := by decide +kernel
theorem dJ6_bitCount_0f7a4_42 : decode cJ6_bitCount_0f7a4 42 = .ok (.iload_n 0, 1) := by decide +kernel
theorem dJ6_bitCount_0f7a4_43 : decode cJ6_bitCount_0f7a4 43 = .ok (.bipush 16, 2) := by decide +kernel
theorem dJ6_bitCount_0f7a4_45 : decode cJ6_bitCount_0f7a4 45 = .ok (.iushr, 1) := by decide +kernel
theorem dJ6_bitCount_0f7a4_46 : decode cJ6_bitCount_0f7a4 46 = .ok (.iadd, 1) := by decide +kernel
theorem dJ6_bitCount_0f7a4_47 : decode cJ6_bitCount_0f7a4 47 = .ok (.istore_n 0, 1) := by decide +kernel
theorem dJ6_bitCount_0f7a4_48 : decode cJ6_bitCount_0f7a4 48 = .ok (.iload_n 0, 1) := by decide +kernel
theorem dJ6_bitCount_0f7a4_49 : decode cJ6_bitCount_0f7a4 49 = .ok (.bipush 63, 2) := by decide +kernel
theorem dJ6_bitCount_0f7a4_51 : decode cJ6_bitCount_0f7a4 51 = .ok (.iand, 1) := by decide +kernel
theorem dJ6_bitCount_0f7a4_52 : decode cJ6_bitCount_0f7a4 52 = .ok (.ireturn, 1) := by decide +kernel
theorem dJ9_abs_0f7a4_0 : decode cJ9_abs_0f7a4 0 = .ok (.iload_n 0, 1) := by decide +kernel
theorem dJ9_abs_0f7a4_1 : decode cJ9_abs_0f7a4 1 = .ok (.ifCond .ge 8, 3) := by decide +kernel
theorem dJ9_abs_0f7a4_4 : decode cJ9_abs_0f7a4 4 = .ok (.iload_n 0, 1) := by decide +kernel
theorem dJ9_abs_0f7a4_5 : decode cJ9_abs_0f7a4 5 = .ok (.ineg, 1) := by decide +kernel
theorem dJ9_abs_0f7a4_6 : decode cJ9_abs_0f7a4 6 = .ok (.goto 4, 3) := by decide +kernel
theorem dJ9_abs_0f7a4_9 : decode cJ9_abs_0f7a4 9 = .ok (.iload_n 0, 1) := by decide +kernel
theorem dJ9_abs_0f7a4_10 : decode cJ9_abs_0f7a4 10 = .ok (.ireturn, 1) := by decide +kernel
theorem dJ9_max_7cf53_0 : decode cJ9_max_7cf53 0 = .ok (.iload_n 0, 1) := by decide +kernel
theorem dJ9_max_7cf53_1 : decode cJ9_max_7cf53 1 = .ok (.iload_n 1, 1) := by decide +kernel
theorem dJ9_max_7cf53_2 : decode cJ9_max_7cf53 2 = .ok (.if_icmp .lt 7, 3) := by decide +kernel
theorem dJ9_max_7cf53_5 : decode cJ9_max_7cf53 5 = .ok (.iload_n 0, 1) := by decide +kernel
theorem dJ9_max_7cf53_6 : decode cJ9_max_7cf53 6 = .ok (.goto 4, 3) := by decide +kernel
theorem dJ9_max_7cf53_9 : decode cJ9_max_7cf53 9 = .ok (.iload_n 1, 1) := by decide +kernel
theorem dJ9_max_7cf53_10 : decode cJ9_max_7cf53 10 = .ok (.ireturn, 1) := by decide +kernel
