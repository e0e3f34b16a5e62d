theorem dX0_init_0 : decode cX0_init 0 = .ok (.aload_n 0, 1) := by decide +kernel
theorem dX0_init_1 : decode cX0_init 1 = .ok (.invokespecial 3, 3) := by decide +kernel
theorem dX0_init_4 : decode cX0_init 4 = .ok (.aload_n 0, 1) := by decide +kernel
theorem dX0_init_5 : decode cX0_init 5 = .ok (.bipush 8, 2) := by decide +kernel
theorem dX0_init_7 : decode cX0_init 7 = .ok (.newarray .int, 2) := by decide +kernel
theorem dX0_init_9 : decode cX0_init 9 = .ok (.putfield 9, 3) := by decide +kernel
theorem dX0_init_12 : decode cX0_init 12 = .ok (.aload_n 0, 1) := by decide +kernel
theorem dX0_init_13 : decode cX0_init 13 = .ok (.bipush 8, 2) := by decide +kernel
theorem dX0_init_15 : decode cX0_init 15 = .ok (.newarray .int, 2) := by decide +kernel
theorem dX0_init_17 : decode cX0_init 17 = .ok (.putfield 15, 3) := by decide +kernel
theorem dX0_init_20 : decode cX0_init 20 = .ok (.return_, 1) := by decide +kernel
theorem dX0_note_0 : decode cX0_note 0 = .ok (.aload_n 0, 1) := by decide +kernel
theorem dX0_note_1 : decode cX0_note 1 = .ok (.getfield 18, 3) := by decide +kernel
theorem dX0_note_4 : decode cX0_note 4 = .ok (.ifCond .lt 12, 3) := by decide +kernel
theorem dX0_note_7 : decode cX0_note 7 = .ok (.aload_n 0, 1) := by decide +kernel
theorem dX0_note_8 : decode cX0_note 8 = .ok (.getfield 18, 3) := by decide +kernel
theorem dX0_note_11 : decode cX0_note 11 = .ok (.bipush 8, 2) := by decide +kernel
theorem dX0_note_13 : decode cX0_note 13 = .ok (.if_icmp .lt 5, 3) := by decide +kernel
theorem dX0_note_16 : decode cX0_note 16 = .ok (.iconst 0, 1) := by decide +kernel
theorem dX0_note_17 : decode cX0_note 17 = .ok (.ireturn, 1) := by decide +kernel
theorem dX0_note_18 : decode cX0_note 18 = .ok (.aload_n 0, 1) := by decide +kernel
theorem dX0_note_19 : decode cX0_note 19 = .ok (.getfield 9, 3) := by decide +kernel
theorem dX0_note_22 : decode cX0_note 22 = .ok (.aload_n 0, 1) := by decide +kernel
theorem dX0_note_23 : decode cX0_note 23 = .ok (.getfield 18, 3) := by decide +kernel
theorem dX0_note_26 : decode cX0_note 26 = .ok (.iload_n 1, 1) := by decide +kernel
theorem dX0_note_27 : decode cX0_note 27 = .ok (.iastore, 1) := by decide +kernel
theorem dX0_note_28 : decode cX0_note 28 = .ok (.aload_n 0, 1) := by decide +kernel
theorem dX0_note_29 : decode cX0_note 29 = .ok (.getfield 15, 3) := by decide +kernel
theorem dX0_note_32 : decode cX0_note 32 = .ok (.aload_n 0, 1) := by decide +kernel
theorem dX0_note_33 : decode cX0_note 33 = .ok (.getfield 18, 3) := by decide +kernel
theorem dX0_note_36 : decode cX0_note 36 = .ok (.iload_n 2, 1) := by decide +kernel
theorem dX0_note_37 : decode cX0_note 37 = .ok (.iastore, 1) := by decide +kernel
theorem dX0_note_38 : decode cX0_note 38 = .ok (.aload_n 0, 1) := by decide +kernel
theorem dX0_note_39 : decode cX0_note 39 = .ok (.dup, 1) := by decide +kernel
theorem dX0_note_40 : decode cX0_note 40 = .ok (.getfield 18, 3) := by decide +kernel
theorem dX0_note_43 : decode cX0_note 43 = .ok (.iconst 1, 1) := by decide +kernel
theorem dX0_note_44 : decode cX0_note 44 = .ok (.iadd, 1) := by decide +kernel
theorem dX0_note_45 : decode cX0_note 45 = .ok (.putfield 18, 3) := by decide +kernel
theorem dX0_note_48 : decode cX0_note 48 = .ok (.iconst 1, 1) := by decide +kernel
theorem dX0_note_49 : decode cX0_note 49 = .ok (.ireturn, 1) := by decide +kernel
theorem dX1_init_0 : decode cX1_init 0 = .ok (.aload_n 0, 1) := by decide +kernel
theorem dX1_init_1 : decode cX1_init 1 = .ok (.invokespecial 3, 3) := by decide +kernel
theorem dX1_init_4 : decode cX1_init 4 = .ok (.return_, 1) := by decide +kernel
set_option maxRecDepth 20000 in
theorem ggX1_measure_X1_closeRun : GoodIn wsX1_measure wsX1_closeRun := goodIn_r _ [9, 1, 2, 10, 11, 12, 13, 3, 14, 15, 16, 17] (by decide +kernel) (by decide +kernel)
set_option maxRecDepth 20000 in
theorem gX1_measure_X1_closeRun : GoodIn wsX1_measure (wsV RX1 21 RX1 yX1_closeRun wsX1_closeRun) := goodIn_app (goodIn_of _ (by decide +kernel)) ggX1_measure_X1_closeRun
theorem dX1_measure_0 : decode cX1_measure 0 = .ok (.aload_n 0, 1) := by decide +kernel
theorem dX1_measure_1 : decode cX1_measure 1 = .ok (.iconst 0, 1) := by decide +kernel
theorem dX1_measure_2 : decode cX1_measure 2 = .ok (.putfield 9, 3) := by decide +kernel
theorem dX1_measure_5 : decode cX1_measure 5 = .ok (.aload_n 0, 1) := by decide +kernel
theorem dX1_measure_6 : decode cX1_measure 6 = .ok (.iconst 0, 1) := by decide +kernel
theorem dX1_measure_7 : decode cX1_measure 7 = .ok (.putfield 15, 3) := by decide +kernel
theorem dX1_measure_10 : decode cX1_measure 10 = .ok (.aload_n 0, 1) := by decide +kernel
theorem dX1_measure_11 : decode cX1_measure 11 = .ok (.iconst 0, 1) := by decide +kernel
theorem dX1_measure_12 : decode cX1_measure 12 = .ok (.putfield 18, 3) := by decide +kernel
theorem dX1_measure_15 : decode cX1_measure 15 = .ok (.iconst 0, 1) := by decide +kernel
theorem dX1_measure_16 : decode cX1_measure 16 = .ok (.istore 4, 2) := by decide +kernel
theorem dX1_measure_18 : decode cX1_measure 18 = .ok (.iconst 0, 1) := by decide +kernel
theorem dX1_measure_19 : decode cX1_measure 19 = .ok (.istore 5, 2) := by decide +kernel
theorem dX1_measure_21 : decode cX1_measure 21 = .ok (.iload 5, 2) := by decide +kernel
theorem dX1_measure_23 : decode cX1_measure 23 = .ok (.bipush 37, 2) := by decide +kernel
theorem dX1_measure_25 : decode cX1_measure 25 = .ok (.if_icmp .ge 45, 3) := by decide +kernel
theorem dX1_measure_28 : decode cX1_measure 28 = .ok (.lload_n 1, 1) := by decide +kernel
theorem dX1_measure_29 : decode cX1_measure 29 = .ok (.iload 5, 2) := by decide +kernel
theorem dX1_measure_31 : decode cX1_measure 31 = .ok (.lshr, 1) := by decide +kernel
theorem dX1_measure_32 : decode cX1_measure 32 = .ok (.lconst 0, 1) := by decide +kernel
theorem dX1_measure_33 : decode cX1_measure 33 = .ok (.lcmp, 1) := by decide +kernel
theorem dX1_measure_34 : decode cX1_measure 34 = .ok (.ifCond .eq 36, 3) := by decide +kernel
theorem dX1_measure_37 : decode cX1_measure 37 = .ok (.lload_n 1, 1) := by decide +kernel
theorem dX1_measure_38 : decode cX1_measure 38 = .ok (.iload 5, 2) := by decide +kernel
theorem dX1_measure_40 : decode cX1_measure 40 = .ok (.lshr, 1) := by decide +kernel
theorem dX1_measure_41 : decode cX1_measure 41 = .ok (.lconst 1, 1) := by decide +kernel
theorem dX1_measure_42 : decode cX1_measure 42 = .ok (.land, 1) := by decide +kernel
theorem dX1_measure_43 : decode cX1_measure 43 = .ok (.lconst 0, 1) := by decide +kernel
theorem dX1_measure_44 : decode cX1_measure 44 = .ok (.lcmp, 1) := by decide +kernel
theorem dX1_measure_45 : decode cX1_measure 45 = .ok (.ifCond .eq 9, 3) := by decide +kernel
theorem dX1_measure_48 : decode cX1_measure 48 = .ok (.iinc 4 1, 3) := by decide +kernel
theorem dX1_measure_51 : decode cX1_measure 51 = .ok (.goto 13, 3) := by decide +kernel
theorem dX1_measure_54 : decode cX1_measure 54 = .ok (.aload_n 0, 1) := by decide +kernel
theorem dX1_measure_55 : decode cX1_measure 55 = .ok (.iload 4, 2) := by decide +kernel
theorem dX1_measure_57 : decode cX1_measure 57 = .ok (.iload_n 3, 1) := by decide +kernel
theorem dX1_measure_58 : decode cX1_measure 58 = .ok (.invokevirtual 21, 3) := by decide +kernel
theorem dX1_measure_61 : decode cX1_measure 61 = .ok (.iconst 0, 1) := by decide +kernel
theorem dX1_measure_62 : decode cX1_measure 62 = .ok (.istore 4, 2) := by decide +kernel
theorem dX1_measure_64 : decode cX1_measure 64 = .ok (.iinc 5 1, 3) := by decide +kernel
theorem dX1_measure_67 : decode cX1_measure 67 = .ok (.goto (-46), 3) := by decide +kernel
theorem dX1_measure_70 : decode cX1_measure 70 = .ok (.aload_n 0, 1) := by decide +kernel
theorem dX1_measure_71 : decode cX1_measure 71 = .ok (.iload 4, 2) := by decide +kernel
theorem dX1_measure_73 : decode cX1_measure 73 = .ok (.iload_n 3, 1) := by decide +kernel
theorem dX1_measure_74 : decode cX1_measure 74 = .ok (.invokevirtual 21, 3) := by decide +kernel
theorem dX1_measure_77 : decode cX1_measure 77 = .ok (.aload_n 0, 1) := by decide +kernel
theorem dX1_measure_78 : decode cX1_measure 78 = .ok (.iload 5, 2) := by decide +kernel
theorem dX1_measure_80 : decode cX1_measure 80 = .ok (.putfield 25, 3) := by decide +kernel
theorem dX1_measure_83 : decode cX1_measure 83 = .ok (.return_, 1) := by decide +kernel
theorem dX1_closeRun_0 : decode cX1_closeRun 0 = .ok (.iload_n 1, 1) := by decide +kernel
theorem dX1_closeRun_1 : decode cX1_closeRun 1 = .ok (.iconst 1, 1) := by decide +kernel
theorem dX1_closeRun_2 : decode cX1_closeRun 2 = .ok (.if_icmp .lt 8, 3) := by decide +kernel
theorem dX1_closeRun_5 : decode cX1_closeRun 5 = .ok (.iload_n 2, 1) := by decide +kernel
theorem dX1_closeRun_6 : decode cX1_closeRun 6 = .ok (.iconst 1, 1) := by decide +kernel
theorem dX1_closeRun_7 : decode cX1_closeRun 7 = .ok (.if_icmp .ge 4, 3) := by decide +kernel
theorem dX1_closeRun_10 : decode cX1_closeRun 10 = .ok (.return_, 1) := by decide +kernel
theorem dX1_closeRun_11 : decode cX1_closeRun 11 = .ok (.aload_n 0, 1) := by decide +kernel
theorem dX1_closeRun_12 : decode cX1_closeRun 12 = .ok (.dup, 1) := by decide +kernel
theorem dX1_closeRun_13 : decode cX1_closeRun 13 = .ok (.getfield 9, 3) := by decide +kernel
theorem dX1_closeRun_16 : decode cX1_closeRun 16 = .ok (.iconst 1, 1) := by decide +kernel
theorem dX1_closeRun_17 : decode cX1_closeRun 17 = .ok (.iadd, 1) := by decide +kernel
theorem dX1_closeRun_18 : decode cX1_closeRun 18 = .ok (.putfield 9, 3) := by decide +kernel
theorem dX1_closeRun_21 : decode cX1_closeRun 21 = .ok (.aload_n 0, 1) := by decide +kernel
theorem dX1_closeRun_22 : decode cX1_closeRun 22 = .ok (.aload_n 0, 1) := by decide +kernel
theorem dX1_closeRun_23 : decode cX1_closeRun 23 = .ok (.getfield 15, 3) := by decide +kernel
theorem dX1_closeRun_26 : decode cX1_closeRun 26 = .ok (.iload_n 1, 1) := by decide +kernel
theorem dX1_closeRun_27 : decode cX1_closeRun 27 = .ok (.invokestatic 28, 3) := by decide +kernel
theorem dX1_closeRun_30 : decode cX1_closeRun 30 = .ok (.putfield 15, 3) := by decide +kernel
theorem dX1_closeRun_33 : decode cX1_closeRun 33 = .ok (.aload_n 0, 1) := by decide +kernel
theorem dX1_closeRun_34 : decode cX1_closeRun 34 = .ok (.dup, 1) := by decide +kernel
theorem dX1_closeRun_35 : decode cX1_closeRun 35 = .ok (.getfield 18, 3) := by decide +kernel
theorem dX1_closeRun_38 : decode cX1_closeRun 38 = .ok (.iload_n 1, 1) := by decide +kernel
theorem dX1_closeRun_39 : decode cX1_closeRun 39 = .ok (.iload_n 2, 1) := by decide +kernel
theorem dX1_closeRun_40 : decode cX1_closeRun 40 = .ok (.iadd, 1) := by decide +kernel
theorem dX1_closeRun_41 : decode cX1_closeRun 41 = .ok (.iconst 1, 1) := by decide +kernel
theorem dX1_closeRun_42 : decode cX1_closeRun 42 = .ok (.isub, 1) := by decide +kernel
theorem dX1_closeRun_43 : decode cX1_closeRun 43 = .ok (.iload_n 2, 1) := by decide +kernel
theorem dX1_closeRun_44 : decode cX1_closeRun 44 = .ok (.idiv, 1) := by decide +kernel
theorem dX1_closeRun_45 : decode cX1_closeRun 45 = .ok (.iadd, 1) := by decide +kernel
theorem dX1_closeRun_46 : decode cX1_closeRun 46 = .ok (.putfield 18, 3) := by decide +kernel
theorem dX1_closeRun_49 : decode cX1_closeRun 49 = .ok (.return_, 1) := by decide +kernel
theorem dX2_init_0 : decode cX2_init 0 = .ok (.aload_n 0, 1) := by decide +kernel
theorem dX2_init_1 : decode cX2_init 1 = .ok (.invokespecial 3, 3) := by decide +kernel
theorem dX2_init_4 : decode cX2_init 4 = .ok (.aload_n 0, 1) := by decide +kernel
theorem dX2_init_5 : decode cX2_init 5 = .ok (.bipush 60, 2) := by decide +kernel
theorem dX2_init_7 : decode cX2_init 7 = .ok (.newarray .int, 2) := by decide +kernel
theorem dX2_init_9 : decode cX2_init 9 = .ok (.putfield 9, 3) := by decide +kernel
theorem dX2_init_12 : decode cX2_init 12 = .ok (.return_, 1) := by decide +kernel
theorem dX2_renew_0 : decode cX2_renew 0 = .ok (.aload_n 0, 1) := by decide +kernel
theorem dX2_renew_1 : decode cX2_renew 1 = .ok (.iconst 1, 1) := by decide +kernel
theorem dX2_renew_2 : decode cX2_renew 2 = .ok (.putfield 15, 3) := by decide +kernel
theorem dX2_renew_5 : decode cX2_renew 5 = .ok (.aload_n 0, 1) := by decide +kernel
theorem dX2_renew_6 : decode cX2_renew 6 = .ok (.iload_n 1, 1) := by decide +kernel
theorem dX2_renew_7 : decode cX2_renew 7 = .ok (.putfield 19, 3) := by decide +kernel
theorem dX2_renew_10 : decode cX2_renew 10 = .ok (.aload_n 0, 1) := by decide +kernel
theorem dX2_renew_11 : decode cX2_renew 11 = .ok (.iload_n 2, 1) := by decide +kernel
theorem dX2_renew_12 : decode cX2_renew 12 = .ok (.putfield 23, 3) := by decide +kernel
theorem dX2_renew_15 : decode cX2_renew 15 = .ok (.iconst 0, 1) := by decide +kernel
theorem dX2_renew_16 : decode cX2_renew 16 = .ok (.istore_n 3, 1) := by decide +kernel
theorem dX2_renew_17 : decode cX2_renew 17 = .ok (.iload_n 3, 1) := by decide +kernel
theorem dX2_renew_18 : decode cX2_renew 18 = .ok (.bipush 60, 2) := by decide +kernel
theorem dX2_renew_20 : decode cX2_renew 20 = .ok (.if_icmp .ge 16, 3) := by decide +kernel
theorem dX2_renew_23 : decode cX2_renew 23 = .ok (.aload_n 0, 1) := by decide +kernel
theorem dX2_renew_24 : decode cX2_renew 24 = .ok (.getfield 9, 3) := by decide +kernel
theorem dX2_renew_27 : decode cX2_renew 27 = .ok (.iload_n 3, 1) := by decide +kernel
theorem dX2_renew_28 : decode cX2_renew 28 = .ok (.iconst 0, 1) := by decide +kernel
theorem dX2_renew_29 : decode cX2_renew 29 = .ok (.iastore, 1) := by decide +kernel
theorem dX2_renew_30 : decode cX2_renew 30 = .ok (.iinc 3 1, 3) := by decide +kernel
theorem dX2_renew_33 : decode cX2_renew 33 = .ok (.goto (-16), 3) := by decide +kernel
theorem dX2_renew_36 : decode cX2_renew 36 = .ok (.return_, 1) := by decide +kernel
theorem dX2_empty_0 : decode cX2_empty 0 = .ok (.aload_n 0, 1) := by decide +kernel
theorem dX2_empty_1 : decode cX2_empty 1 = .ok (.iconst 0, 1) := by decide +kernel
theorem dX2_empty_2 : decode cX2_empty 2 = .ok (.putfield 15, 3) := by decide +kernel
theorem dX2_empty_5 : decode cX2_empty 5 = .ok (.aload_n 0, 1) := by decide +kernel
theorem dX2_empty_6 : decode cX2_empty 6 = .ok (.iconst 0, 1) := by decide +kernel
theorem dX2_empty_7 : decode cX2_empty 7 = .ok (.putfield 23, 3) := by decide +kernel
theorem dX2_empty_10 : decode cX2_empty 10 = .ok (.return_, 1) := by decide +kernel
theorem dX2_faultAs_0 : decode cX2_faultAs 0 = .ok (.aload_n 0, 1) := by decide +kernel
theorem dX2_faultAs_1 : decode cX2_faultAs 1 = .ok (.getfield 15, 3) := by decide +kernel
theorem dX2_faultAs_4 : decode cX2_faultAs 4 = .ok (.ifCond .ne 5, 3) := by decide +kernel
theorem dX2_faultAs_7 : decode cX2_faultAs 7 = .ok (.iconst 1, 1) := by decide +kernel
theorem dX2_faultAs_8 : decode cX2_faultAs 8 = .ok (.ireturn, 1) := by decide +kernel
theorem dX2_faultAs_9 : decode cX2_faultAs 9 = .ok (.aload_n 0, 1) := by decide +kernel
theorem dX2_faultAs_10 : decode cX2_faultAs 10 = .ok (.getfield 19, 3) := by decide +kernel
theorem dX2_faultAs_13 : decode cX2_faultAs 13 = .ok (.iload_n 1, 1) := by decide +kernel
theorem dX2_faultAs_14 : decode cX2_faultAs 14 = .ok (.if_icmp .ne 7, 3) := by decide +kernel
theorem dX2_faultAs_17 : decode cX2_faultAs 17 = .ok (.iconst 0, 1) := by decide +kernel
theorem dX2_faultAs_18 : decode cX2_faultAs 18 = .ok (.goto 4, 3) := by decide +kernel
theorem dX2_faultAs_21 : decode cX2_faultAs 21 = .ok (.iconst 2, 1) := by decide +kernel
theorem dX2_faultAs_22 : decode cX2_faultAs 22 = .ok (.ireturn, 1) := by decide +kernel
theorem dX2_hasCell_0 : decode cX2_hasCell 0 = .ok (.iload_n 1, 1) := by decide +kernel
theorem dX2_hasCell_1 : decode cX2_hasCell 1 = .ok (.ifCond .lt 21, 3) := by decide +kernel
theorem dX2_hasCell_4 : decode cX2_hasCell 4 = .ok (.iload_n 1, 1) := by decide +kernel
theorem dX2_hasCell_5 : decode cX2_hasCell 5 = .ok (.aload_n 0, 1) := by decide +kernel
theorem dX2_hasCell_6 : decode cX2_hasCell 6 = .ok (.getfield 23, 3) := by decide +kernel
theorem dX2_hasCell_9 : decode cX2_hasCell 9 = .ok (.if_icmp .ge 13, 3) := by decide +kernel
theorem dX2_hasCell_12 : decode cX2_hasCell 12 = .ok (.iload_n 1, 1) := by decide +kernel
theorem dX2_hasCell_13 : decode cX2_hasCell 13 = .ok (.bipush 60, 2) := by decide +kernel
theorem dX2_hasCell_15 : decode cX2_hasCell 15 = .ok (.if_icmp .ge 7, 3) := by decide +kernel
theorem dX2_hasCell_18 : decode cX2_hasCell 18 = .ok (.iconst 1, 1) := by decide +kernel
theorem dX2_hasCell_19 : decode cX2_hasCell 19 = .ok (.goto 4, 3) := by decide +kernel
theorem dX2_hasCell_22 : decode cX2_hasCell 22 = .ok (.iconst 0, 1) := by decide +kernel
theorem dX2_hasCell_23 : decode cX2_hasCell 23 = .ok (.ireturn, 1) := by decide +kernel
theorem dX2_holds_0 : decode cX2_holds 0 = .ok (.iload_n 1, 1) := by decide +kernel
theorem dX2_holds_1 : decode cX2_holds 1 = .ok (.ifCond .lt 29, 3) := by decide +kernel
theorem dX2_holds_4 : decode cX2_holds 4 = .ok (.iload_n 1, 1) := by decide +kernel
theorem dX2_holds_5 : decode cX2_holds 5 = .ok (.aload_n 0, 1) := by decide +kernel
theorem dX2_holds_6 : decode cX2_holds 6 = .ok (.getfield 23, 3) := by decide +kernel
theorem dX2_holds_9 : decode cX2_holds 9 = .ok (.if_icmp .gt 21, 3) := by decide +kernel
theorem dX2_holds_12 : decode cX2_holds 12 = .ok (.iload_n 2, 1) := by decide +kernel
theorem dX2_holds_13 : decode cX2_holds 13 = .ok (.ifCond .lt 17, 3) := by decide +kernel
theorem dX2_holds_16 : decode cX2_holds 16 = .ok (.iload_n 2, 1) := by decide +kernel
theorem dX2_holds_17 : decode cX2_holds 17 = .ok (.aload_n 0, 1) := by decide +kernel
theorem dX2_holds_18 : decode cX2_holds 18 = .ok (.getfield 23, 3) := by decide +kernel
theorem dX2_holds_21 : decode cX2_holds 21 = .ok (.iload_n 1, 1) := by decide +kernel
theorem dX2_holds_22 : decode cX2_holds 22 = .ok (.isub, 1) := by decide +kernel
theorem dX2_holds_23 : decode cX2_holds 23 = .ok (.if_icmp .gt 7, 3) := by decide +kernel
theorem dX2_holds_26 : decode cX2_holds 26 = .ok (.iconst 1, 1) := by decide +kernel
theorem dX2_holds_27 : decode cX2_holds 27 = .ok (.goto 4, 3) := by decide +kernel
theorem dX2_holds_30 : decode cX2_holds 30 = .ok (.iconst 0, 1) := by decide +kernel
theorem dX2_holds_31 : decode cX2_holds 31 = .ok (.ireturn, 1) := by decide +kernel
set_option maxRecDepth 20000 in
theorem ggX2_at_X2_hasCell : GoodIn wsX2_at wsX2_hasCell := goodIn_r _ [6, 7, 8, 9, 10, 11] (by decide +kernel) (by decide +kernel)
set_option maxRecDepth 20000 in
theorem gX2_at_X2_hasCell : GoodIn wsX2_at (wsV RX2 26 RX2 yX2_hasCell wsX2_hasCell) := goodIn_app (goodIn_of _ (by decide +kernel)) ggX2_at_X2_hasCell
theorem dX2_at_0 : decode cX2_at 0 = .ok (.aload_n 0, 1) := by decide +kernel
theorem dX2_at_1 : decode cX2_at 1 = .ok (.iload_n 1, 1) := by decide +kernel
theorem dX2_at_2 : decode cX2_at 2 = .ok (.invokevirtual 26, 3) := by decide +kernel
theorem dX2_at_5 : decode cX2_at 5 = .ok (.ifCond .eq 12, 3) := by decide +kernel
theorem dX2_at_8 : decode cX2_at 8 = .ok (.aload_n 0, 1) := by decide +kernel
theorem dX2_at_9 : decode cX2_at 9 = .ok (.getfield 9, 3) := by decide +kernel
theorem dX2_at_12 : decode cX2_at 12 = .ok (.iload_n 1, 1) := by decide +kernel
theorem dX2_at_13 : decode cX2_at 13 = .ok (.iaload, 1) := by decide +kernel
theorem dX2_at_14 : decode cX2_at 14 = .ok (.goto 4, 3) := by decide +kernel
theorem dX2_at_17 : decode cX2_at 17 = .ok (.iconst 0, 1) := by decide +kernel
theorem dX2_at_18 : decode cX2_at 18 = .ok (.ireturn, 1) := by decide +kernel
theorem dX2_cutToLane_0 : decode cX2_cutToLane 0 = .ok (.aload_n 0, 1) := by decide +kernel
theorem dX2_cutToLane_1 : decode cX2_cutToLane 1 = .ok (.getfield 19, 3) := by decide +kernel
theorem dX2_cutToLane_4 : decode cX2_cutToLane 4 = .ok (.lookupswitch 34 #[(0, 28), (1, 31)], 28) := by decide +kernel
theorem dX2_cutToLane_32 : decode cX2_cutToLane 32 = .ok (.iload_n 1, 1) := by decide +kernel
theorem dX2_cutToLane_33 : decode cX2_cutToLane 33 = .ok (.i2b, 1) := by decide +kernel
theorem dX2_cutToLane_34 : decode cX2_cutToLane 34 = .ok (.ireturn, 1) := by decide +kernel
theorem dX2_cutToLane_35 : decode cX2_cutToLane 35 = .ok (.iload_n 1, 1) := by decide +kernel
theorem dX2_cutToLane_36 : decode cX2_cutToLane 36 = .ok (.i2s, 1) := by decide +kernel
theorem dX2_cutToLane_37 : decode cX2_cutToLane 37 = .ok (.ireturn, 1) := by decide +kernel
theorem dX2_cutToLane_38 : decode cX2_cutToLane 38 = .ok (.iload_n 1, 1) := by decide +kernel
theorem dX2_cutToLane_39 : decode cX2_cutToLane 39 = .ok (.ireturn, 1) := by decide +kernel
theorem dX3_init_0 : decode cX3_init 0 = .ok (.aload_n 0, 1) := by decide +kernel
theorem dX3_init_1 : decode cX3_init 1 = .ok (.invokespecial 3, 3) := by decide +kernel
theorem dX3_init_4 : decode cX3_init 4 = .ok (.aload_n 0, 1) := by decide +kernel
theorem dX3_init_5 : decode cX3_init 5 = .ok (.iconst 5, 1) := by decide +kernel
theorem dX3_init_6 : decode cX3_init 6 = .ok (.newarray .int, 2) := by decide +kernel
theorem dX3_init_8 : decode cX3_init 8 = .ok (.putfield 9, 3) := by decide +kernel
theorem dX3_init_11 : decode cX3_init 11 = .ok (.aload_n 0, 1) := by decide +kernel
theorem dX3_init_12 : decode cX3_init 12 = .ok (.iconst 5, 1) := by decide +kernel
theorem dX3_init_13 : decode cX3_init 13 = .ok (.newarray .int, 2) := by decide +kernel
theorem dX3_init_15 : decode cX3_init 15 = .ok (.putfield 15, 3) := by decide +kernel
theorem dX3_init_18 : decode cX3_init 18 = .ok (.aload_n 0, 1) := by decide +kernel
theorem dX3_init_19 : decode cX3_init 19 = .ok (.iconst 5, 1) := by decide +kernel
theorem dX3_init_20 : decode cX3_init 20 = .ok (.newarray .int, 2) := by decide +kernel
theorem dX3_init_22 : decode cX3_init 22 = .ok (.putfield 18, 3) := by decide +kernel
theorem dX3_init_25 : decode cX3_init 25 = .ok (.return_, 1) := by decide +kernel
theorem dX3_isLaid_0 : decode cX3_isLaid 0 = .ok (.aload_n 0, 1) := by decide +kernel
theorem dX3_isLaid_1 : decode cX3_isLaid 1 = .ok (.getfield 21, 3) := by decide +kernel
theorem dX3_isLaid_4 : decode cX3_isLaid 4 = .ok (.ifCond .le 7, 3) := by decide +kernel
theorem dX3_isLaid_7 : decode cX3_isLaid 7 = .ok (.iconst 1, 1) := by decide +kernel
theorem dX3_isLaid_8 : decode cX3_isLaid 8 = .ok (.goto 4, 3) := by decide +kernel
theorem dX3_isLaid_11 : decode cX3_isLaid 11 = .ok (.iconst 0, 1) := by decide +kernel
theorem dX3_isLaid_12 : decode cX3_isLaid 12 = .ok (.ireturn, 1) := by decide +kernel
theorem dX3_has_0 : decode cX3_has 0 = .ok (.iload_n 1, 1) := by decide +kernel
theorem dX3_has_1 : decode cX3_has 1 = .ok (.ifCond .lt 20, 3) := by decide +kernel
theorem dX3_has_4 : decode cX3_has 4 = .ok (.iload_n 1, 1) := by decide +kernel
theorem dX3_has_5 : decode cX3_has 5 = .ok (.aload_n 0, 1) := by decide +kernel
theorem dX3_has_6 : decode cX3_has 6 = .ok (.getfield 21, 3) := by decide +kernel
theorem dX3_has_9 : decode cX3_has 9 = .ok (.if_icmp .ge 12, 3) := by decide +kernel
theorem dX3_has_12 : decode cX3_has 12 = .ok (.iload_n 1, 1) := by decide +kernel
theorem dX3_has_13 : decode cX3_has 13 = .ok (.iconst 5, 1) := by decide +kernel
theorem dX3_has_14 : decode cX3_has 14 = .ok (.if_icmp .ge 7, 3) := by decide +kernel
theorem dX3_has_17 : decode cX3_has 17 = .ok (.iconst 1, 1) := by decide +kernel
theorem dX3_has_18 : decode cX3_has 18 = .ok (.goto 4, 3) := by decide +kernel
theorem dX3_has_21 : decode cX3_has 21 = .ok (.iconst 0, 1) := by decide +kernel
theorem dX3_has_22 : decode cX3_has 22 = .ok (.ireturn, 1) := by decide +kernel
theorem dX3_everyone_0 : decode cX3_everyone 0 = .ok (.iconst 1, 1) := by decide +kernel
theorem dX3_everyone_1 : decode cX3_everyone 1 = .ok (.aload_n 0, 1) := by decide +kernel
theorem dX3_everyone_2 : decode cX3_everyone 2 = .ok (.getfield 21, 3) := by decide +kernel
theorem dX3_everyone_5 : decode cX3_everyone 5 = .ok (.ishl, 1) := by decide +kernel
theorem dX3_everyone_6 : decode cX3_everyone 6 = .ok (.iconst 1, 1) := by decide +kernel
theorem dX3_everyone_7 : decode cX3_everyone 7 = .ok (.isub, 1) := by decide +kernel
theorem dX3_everyone_8 : decode cX3_everyone 8 = .ok (.ireturn, 1) := by decide +kernel
theorem dX3_becomeLike_0 : decode cX3_becomeLike 0 = .ok (.iconst 0, 1) := by decide +kernel
theorem dX3_becomeLike_1 : decode cX3_becomeLike 1 = .ok (.istore_n 2, 1) := by decide +kernel
theorem dX3_becomeLike_2 : decode cX3_becomeLike 2 = .ok (.iload_n 2, 1) := by decide +kernel
theorem dX3_becomeLike_3 : decode cX3_becomeLike 3 = .ok (.iconst 5, 1) := by decide +kernel
theorem dX3_becomeLike_4 : decode cX3_becomeLike 4 = .ok (.if_icmp .ge 45, 3) := by decide +kernel
theorem dX3_becomeLike_7 : decode cX3_becomeLike 7 = .ok (.aload_n 0, 1) := by decide +kernel
theorem dX3_becomeLike_8 : decode cX3_becomeLike 8 = .ok (.getfield 9, 3) := by decide +kernel
theorem dX3_becomeLike_11 : decode cX3_becomeLike 11 = .ok (.iload_n 2, 1) := by decide +kernel
theorem dX3_becomeLike_12 : decode cX3_becomeLike 12 = .ok (.aload_n 1, 1) := by decide +kernel
theorem dX3_becomeLike_13 : decode cX3_becomeLike 13 = .ok (.getfield 9, 3) := by decide +kernel
theorem dX3_becomeLike_16 : decode cX3_becomeLike 16 = .ok (.iload_n 2, 1) := by decide +kernel
theorem dX3_becomeLike_17 : decode cX3_becomeLike 17 = .ok (.iaload, 1) := by decide +kernel
theorem dX3_becomeLike_18 : decode cX3_becomeLike 18 = .ok (.iastore, 1) := by decide +kernel
theorem dX3_becomeLike_19 : decode cX3_becomeLike 19 = .ok (.aload_n 0, 1) := by decide +kernel
theorem dX3_becomeLike_20 : decode cX3_becomeLike 20 = .ok (.getfield 15, 3) := by decide +kernel
theorem dX3_becomeLike_23 : decode cX3_becomeLike 23 = .ok (.iload_n 2, 1) := by decide +kernel
theorem dX3_becomeLike_24 : decode cX3_becomeLike 24 = .ok (.aload_n 1, 1) := by decide +kernel
theorem dX3_becomeLike_25 : decode cX3_becomeLike 25 = .ok (.getfield 15, 3) := by decide +kernel
theorem dX3_becomeLike_28 : decode cX3_becomeLike 28 = .ok (.iload_n 2, 1) := by decide +kernel
theorem dX3_becomeLike_29 : decode cX3_becomeLike 29 = .ok (.iaload, 1) := by decide +kernel
theorem dX3_becomeLike_30 : decode cX3_becomeLike 30 = .ok (.iastore, 1) := by decide +kernel
theorem dX3_becomeLike_31 : decode cX3_becomeLike 31 = .ok (.aload_n 0, 1) := by decide +kernel
theorem dX3_becomeLike_32 : decode cX3_becomeLike 32 = .ok (.getfield 18, 3) := by decide +kernel
theorem dX3_becomeLike_35 : decode cX3_becomeLike 35 = .ok (.iload_n 2, 1) := by decide +kernel
theorem dX3_becomeLike_36 : decode cX3_becomeLike 36 = .ok (.aload_n 1, 1) := by decide +kernel
theorem dX3_becomeLike_37 : decode cX3_becomeLike 37 = .ok (.getfield 18, 3) := by decide +kernel
theorem dX3_becomeLike_40 : decode cX3_becomeLike 40 = .ok (.iload_n 2, 1) := by decide +kernel
theorem dX3_becomeLike_41 : decode cX3_becomeLike 41 = .ok (.iaload, 1) := by decide +kernel
theorem dX3_becomeLike_42 : decode cX3_becomeLike 42 = .ok (.iastore, 1) := by decide +kernel
theorem dX3_becomeLike_43 : decode cX3_becomeLike 43 = .ok (.iinc 2 1, 3) := by decide +kernel
theorem dX3_becomeLike_46 : decode cX3_becomeLike 46 = .ok (.goto (-44), 3) := by decide +kernel
theorem dX3_becomeLike_49 : decode cX3_becomeLike 49 = .ok (.aload_n 0, 1) := by decide +kernel
theorem dX3_becomeLike_50 : decode cX3_becomeLike 50 = .ok (.aload_n 1, 1) := by decide +kernel
theorem dX3_becomeLike_51 : decode cX3_becomeLike 51 = .ok (.getfield 21, 3) := by decide +kernel
theorem dX3_becomeLike_54 : decode cX3_becomeLike 54 = .ok (.putfield 21, 3) := by decide +kernel
theorem dX3_becomeLike_57 : decode cX3_becomeLike 57 = .ok (.aload_n 0, 1) := by decide +kernel
theorem dX3_becomeLike_58 : decode cX3_becomeLike 58 = .ok (.aload_n 1, 1) := by decide +kernel
theorem dX3_becomeLike_59 : decode cX3_becomeLike 59 = .ok (.getfield 25, 3) := by decide +kernel
theorem dX3_becomeLike_62 : decode cX3_becomeLike 62 = .ok (.putfield 25, 3) := by decide +kernel
theorem dX3_becomeLike_65 : decode cX3_becomeLike 65 = .ok (.aload_n 0, 1) := by decide +kernel
theorem dX3_becomeLike_66 : decode cX3_becomeLike 66 = .ok (.aload_n 1, 1) := by decide +kernel
theorem dX3_becomeLike_67 : decode cX3_becomeLike 67 = .ok (.getfield 28, 3) := by decide +kernel
theorem dX3_becomeLike_70 : decode cX3_becomeLike 70 = .ok (.putfield 28, 3) := by decide +kernel
theorem dX3_becomeLike_73 : decode cX3_becomeLike 73 = .ok (.return_, 1) := by decide +kernel
set_option maxRecDepth 20000 in
theorem ggX3_shadeOf_X3_has : GoodIn wsX3_shadeOf wsX3_has := goodIn_r _ [11, 12, 13, 14, 15, 16, 17, 18] (by decide +kernel) (by decide +kernel)
set_option maxRecDepth 20000 in
theorem gX3_shadeOf_X3_has : GoodIn wsX3_shadeOf (wsV RX3 31 RX3 yX3_has wsX3_has) := goodIn_app (goodIn_of _ (by decide +kernel)) ggX3_shadeOf_X3_has
theorem dX3_shadeOf_0 : decode cX3_shadeOf 0 = .ok (.aload_n 0, 1) := by decide +kernel
theorem dX3_shadeOf_1 : decode cX3_shadeOf 1 = .ok (.iload_n 1, 1) := by decide +kernel
theorem dX3_shadeOf_2 : decode cX3_shadeOf 2 = .ok (.invokevirtual 31, 3) := by decide +kernel
theorem dX3_shadeOf_5 : decode cX3_shadeOf 5 = .ok (.ifCond .ne 5, 3) := by decide +kernel
theorem dX3_shadeOf_8 : decode cX3_shadeOf 8 = .ok (.iconst 0, 1) := by decide +kernel
theorem dX3_shadeOf_9 : decode cX3_shadeOf 9 = .ok (.ireturn, 1) := by decide +kernel
theorem dX3_shadeOf_10 : decode cX3_shadeOf 10 = .ok (.aload_n 0, 1) := by decide +kernel
theorem dX3_shadeOf_11 : decode cX3_shadeOf 11 = .ok (.getfield 18, 3) := by decide +kernel
theorem dX3_shadeOf_14 : decode cX3_shadeOf 14 = .ok (.iload_n 1, 1) := by decide +kernel
theorem dX3_shadeOf_15 : decode cX3_shadeOf 15 = .ok (.iaload, 1) := by decide +kernel
theorem dX3_shadeOf_16 : decode cX3_shadeOf 16 = .ok (.iload_n 2, 1) := by decide +kernel
theorem dX3_shadeOf_17 : decode cX3_shadeOf 17 = .ok (.imul, 1) := by decide +kernel
theorem dX3_shadeOf_18 : decode cX3_shadeOf 18 = .ok (.istore_n 3, 1) := by decide +kernel
theorem dX3_shadeOf_19 : decode cX3_shadeOf 19 = .ok (.aload_n 0, 1) := by decide +kernel
theorem dX3_shadeOf_20 : decode cX3_shadeOf 20 = .ok (.getfield 9, 3) := by decide +kernel
theorem dX3_shadeOf_23 : decode cX3_shadeOf 23 = .ok (.iload_n 1, 1) := by decide +kernel
theorem dX3_shadeOf_24 : decode cX3_shadeOf 24 = .ok (.iaload, 1) := by decide +kernel
theorem dX3_shadeOf_25 : decode cX3_shadeOf 25 = .ok (.lookupswitch 39 #[(1, 27), (2, 35)], 27) := by decide +kernel
theorem dX3_shadeOf_52 : decode cX3_shadeOf 52 = .ok (.iload_n 3, 1) := by decide +kernel
theorem dX3_shadeOf_53 : decode cX3_shadeOf 53 = .ok (.iconst 1, 1) := by decide +kernel
theorem dX3_shadeOf_54 : decode cX3_shadeOf 54 = .ok (.isub, 1) := by decide +kernel
theorem dX3_shadeOf_55 : decode cX3_shadeOf 55 = .ok (.iconst 0, 1) := by decide +kernel
theorem dX3_shadeOf_56 : decode cX3_shadeOf 56 = .ok (.invokestatic 35, 3) := by decide +kernel
theorem dX3_shadeOf_59 : decode cX3_shadeOf 59 = .ok (.ireturn, 1) := by decide +kernel
theorem dX3_shadeOf_60 : decode cX3_shadeOf 60 = .ok (.iload_n 3, 1) := by decide +kernel
theorem dX3_shadeOf_61 : decode cX3_shadeOf 61 = .ok (.iconst 2, 1) := by decide +kernel
theorem dX3_shadeOf_62 : decode cX3_shadeOf 62 = .ok (.idiv, 1) := by decide +kernel
theorem dX3_shadeOf_63 : decode cX3_shadeOf 63 = .ok (.ireturn, 1) := by decide +kernel
theorem dX3_shadeOf_64 : decode cX3_shadeOf 64 = .ok (.iload_n 3, 1) := by decide +kernel
theorem dX3_shadeOf_65 : decode cX3_shadeOf 65 = .ok (.ireturn, 1) := by decide +kernel
theorem dX3_firstLitFoot_0 : decode cX3_firstLitFoot 0 = .ok (.aload_n 0, 1) := by decide +kernel
theorem dX3_firstLitFoot_1 : decode cX3_firstLitFoot 1 = .ok (.getfield 28, 3) := by decide +kernel
theorem dX3_firstLitFoot_4 : decode cX3_firstLitFoot 4 = .ok (.iload_n 1, 1) := by decide +kernel
theorem dX3_firstLitFoot_5 : decode cX3_firstLitFoot 5 = .ok (.imul, 1) := by decide +kernel
theorem dX3_firstLitFoot_6 : decode cX3_firstLitFoot 6 = .ok (.ireturn, 1) := by decide +kernel
set_option maxRecDepth 20000 in
theorem ggX3_hiddenSet_X3_has : GoodIn wsX3_hiddenSet wsX3_has := goodIn_r _ [6, 7, 13, 14, 15, 16, 17, 18] (by decide +kernel) (by decide +kernel)
set_option maxRecDepth 20000 in
theorem gX3_hiddenSet_X3_has : GoodIn wsX3_hiddenSet (wsV RX3 31 RX3 yX3_has wsX3_has) := goodIn_app (goodIn_of _ (by decide +kernel)) ggX3_hiddenSet_X3_has
set_option maxRecDepth 20000 in
theorem ggX3_hiddenSet_X3_firstLitFoot : GoodIn wsX3_hiddenSet wsX3_firstLitFoot := goodIn_r _ [11, 12, 13, 14, 15, 16, 17, 18] (by decide +kernel) (by decide +kernel)
set_option maxRecDepth 20000 in
theorem gX3_hiddenSet_X3_firstLitFoot : GoodIn wsX3_hiddenSet (wsV RX3 41 RX3 yX3_firstLitFoot wsX3_firstLitFoot) := goodIn_app (goodIn_of _ (by decide +kernel)) ggX3_hiddenSet_X3_firstLitFoot
theorem dX3_hiddenSet_0 : decode cX3_hiddenSet 0 = .ok (.iconst 0, 1) := by decide +kernel
theorem dX3_hiddenSet_1 : decode cX3_hiddenSet 1 = .ok (.istore_n 2, 1) := by decide +kernel
theorem dX3_hiddenSet_2 : decode cX3_hiddenSet 2 = .ok (.iconst 0, 1) := by decide +kernel
theorem dX3_hiddenSet_3 : decode cX3_hiddenSet 3 = .ok (.istore_n 3, 1) := by decide +kernel
theorem dX3_hiddenSet_4 : decode cX3_hiddenSet 4 = .ok (.iload_n 3, 1) := by decide +kernel
theorem dX3_hiddenSet_5 : decode cX3_hiddenSet 5 = .ok (.iconst 5, 1) := by decide +kernel
theorem dX3_hiddenSet_6 : decode cX3_hiddenSet 6 = .ok (.if_icmp .ge 37, 3) := by decide +kernel
theorem dX3_hiddenSet_9 : decode cX3_hiddenSet 9 = .ok (.aload_n 0, 1) := by decide +kernel
theorem dX3_hiddenSet_10 : decode cX3_hiddenSet 10 = .ok (.iload_n 3, 1) := by decide +kernel
theorem dX3_hiddenSet_11 : decode cX3_hiddenSet 11 = .ok (.invokevirtual 31, 3) := by decide +kernel
theorem dX3_hiddenSet_14 : decode cX3_hiddenSet 14 = .ok (.ifCond .eq 23, 3) := by decide +kernel
theorem dX3_hiddenSet_17 : decode cX3_hiddenSet 17 = .ok (.aload_n 0, 1) := by decide +kernel
theorem dX3_hiddenSet_18 : decode cX3_hiddenSet 18 = .ok (.getfield 15, 3) := by decide +kernel
theorem dX3_hiddenSet_21 : decode cX3_hiddenSet 21 = .ok (.iload_n 3, 1) := by decide +kernel
theorem dX3_hiddenSet_22 : decode cX3_hiddenSet 22 = .ok (.iaload, 1) := by decide +kernel
theorem dX3_hiddenSet_23 : decode cX3_hiddenSet 23 = .ok (.aload_n 0, 1) := by decide +kernel
theorem dX3_hiddenSet_24 : decode cX3_hiddenSet 24 = .ok (.iload_n 1, 1) := by decide +kernel
theorem dX3_hiddenSet_25 : decode cX3_hiddenSet 25 = .ok (.invokevirtual 41, 3) := by decide +kernel
theorem dX3_hiddenSet_28 : decode cX3_hiddenSet 28 = .ok (.if_icmp .ge 9, 3) := by decide +kernel
theorem dX3_hiddenSet_31 : decode cX3_hiddenSet 31 = .ok (.iload_n 2, 1) := by decide +kernel
theorem dX3_hiddenSet_32 : decode cX3_hiddenSet 32 = .ok (.iconst 1, 1) := by decide +kernel
theorem dX3_hiddenSet_33 : decode cX3_hiddenSet 33 = .ok (.iload_n 3, 1) := by decide +kernel
theorem dX3_hiddenSet_34 : decode cX3_hiddenSet 34 = .ok (.ishl, 1) := by decide +kernel
theorem dX3_hiddenSet_35 : decode cX3_hiddenSet 35 = .ok (.ior, 1) := by decide +kernel
theorem dX3_hiddenSet_36 : decode cX3_hiddenSet 36 = .ok (.istore_n 2, 1) := by decide +kernel
theorem dX3_hiddenSet_37 : decode cX3_hiddenSet 37 = .ok (.iinc 3 1, 3) := by decide +kernel
theorem dX3_hiddenSet_40 : decode cX3_hiddenSet 40 = .ok (.goto (-36), 3) := by decide +kernel
theorem dX3_hiddenSet_43 : decode cX3_hiddenSet 43 = .ok (.iload_n 2, 1) := by decide +kernel
theorem dX3_hiddenSet_44 : decode cX3_hiddenSet 44 = .ok (.ireturn, 1) := by decide +kernel
set_option maxRecDepth 20000 in
theorem ggX3_isAnotherOn_X3_has : GoodIn wsX3_isAnotherOn wsX3_has := goodIn_r _ [6, 7, 8, 9, 10, 11, 12, 13] (by decide +kernel) (by decide +kernel)
set_option maxRecDepth 20000 in
theorem gX3_isAnotherOn_X3_has : GoodIn wsX3_isAnotherOn (wsV RX3 31 RX3 yX3_has wsX3_has) := goodIn_app (goodIn_of _ (by decide +kernel)) ggX3_isAnotherOn_X3_has
theorem dX3_isAnotherOn_0 : decode cX3_isAnotherOn 0 = .ok (.iconst 0, 1) := by decide +kernel
theorem dX3_isAnotherOn_1 : decode cX3_isAnotherOn 1 = .ok (.istore_n 3, 1) := by decide +kernel
theorem dX3_isAnotherOn_2 : decode cX3_isAnotherOn 2 = .ok (.iload_n 3, 1) := by decide +kernel
theorem dX3_isAnotherOn_3 : decode cX3_isAnotherOn 3 = .ok (.iconst 5, 1) := by decide +kernel
theorem dX3_isAnotherOn_4 : decode cX3_isAnotherOn 4 = .ok (.if_icmp .ge 34, 3) := by decide +kernel
theorem dX3_isAnotherOn_7 : decode cX3_isAnotherOn 7 = .ok (.aload_n 0, 1) := by decide +kernel
theorem dX3_isAnotherOn_8 : decode cX3_isAnotherOn 8 = .ok (.iload_n 3, 1) := by decide +kernel
theorem dX3_isAnotherOn_9 : decode cX3_isAnotherOn 9 = .ok (.invokevirtual 31, 3) := by decide +kernel
theorem dX3_isAnotherOn_12 : decode cX3_isAnotherOn 12 = .ok (.ifCond .eq 20, 3) := by decide +kernel
theorem dX3_isAnotherOn_15 : decode cX3_isAnotherOn 15 = .ok (.iload_n 3, 1) := by decide +kernel
theorem dX3_isAnotherOn_16 : decode cX3_isAnotherOn 16 = .ok (.iload_n 2, 1) := by decide +kernel
theorem dX3_isAnotherOn_17 : decode cX3_isAnotherOn 17 = .ok (.if_icmp .eq 15, 3) := by decide +kernel
theorem dX3_isAnotherOn_20 : decode cX3_isAnotherOn 20 = .ok (.aload_n 0, 1) := by decide +kernel
theorem dX3_isAnotherOn_21 : decode cX3_isAnotherOn 21 = .ok (.getfield 15, 3) := by decide +kernel
theorem dX3_isAnotherOn_24 : decode cX3_isAnotherOn 24 = .ok (.iload_n 3, 1) := by decide +kernel
theorem dX3_isAnotherOn_25 : decode cX3_isAnotherOn 25 = .ok (.iaload, 1) := by decide +kernel
theorem dX3_isAnotherOn_26 : decode cX3_isAnotherOn 26 = .ok (.iload_n 1, 1) := by decide +kernel
theorem dX3_isAnotherOn_27 : decode cX3_isAnotherOn 27 = .ok (.if_icmp .ne 5, 3) := by decide +kernel
theorem dX3_isAnotherOn_30 : decode cX3_isAnotherOn 30 = .ok (.iconst 1, 1) := by decide +kernel
theorem dX3_isAnotherOn_31 : decode cX3_isAnotherOn 31 = .ok (.ireturn, 1) := by decide +kernel
theorem dX3_isAnotherOn_32 : decode cX3_isAnotherOn 32 = .ok (.iinc 3 1, 3) := by decide +kernel
theorem dX3_isAnotherOn_35 : decode cX3_isAnotherOn 35 = .ok (.goto (-33), 3) := by decide +kernel
theorem dX3_isAnotherOn_38 : decode cX3_isAnotherOn 38 = .ok (.iconst 0, 1) := by decide +kernel
theorem dX3_isAnotherOn_39 : decode cX3_isAnotherOn 39 = .ok (.ireturn, 1) := by decide +kernel
set_option maxRecDepth 20000 in
theorem ggX3_darkFeet_X3_hiddenSet : GoodIn wsX3_darkFeet wsX3_hiddenSet := goodIn_r _ [6, 1, 7, 8, 9, 5, 10, 11, 12, 13, 14, 15, 16, 27, 28, 29, 30, 31, 32] (by decide +kernel) (by decide +kernel)
set_option maxRecDepth 20000 in
theorem gX3_darkFeet_X3_hiddenSet : GoodIn wsX3_darkFeet (wsV RX3 45 RX3 yX3_hiddenSet wsX3_hiddenSet) := goodIn_app (goodIn_of _ (by decide +kernel)) ggX3_darkFeet_X3_hiddenSet
set_option maxRecDepth 20000 in
theorem ggX3_darkFeet_X3_has : GoodIn wsX3_darkFeet wsX3_has := goodIn_r _ [10, 11, 27, 28, 29, 30, 31, 32] (by decide +kernel) (by decide +kernel)
set_option maxRecDepth 20000 in
theorem gX3_darkFeet_X3_has : GoodIn wsX3_darkFeet (wsV RX3 31 RX3 yX3_has wsX3_has) := goodIn_app (goodIn_of _ (by decide +kernel)) ggX3_darkFeet_X3_has
set_option maxRecDepth 20000 in
theorem ggX3_darkFeet_X3_shadeOf : GoodIn wsX3_darkFeet wsX3_shadeOf := goodIn_r _ [20, 21, 22, 23, 24, 25, 26, 7, 8, 9, 5, 10, 11, 27, 28, 29, 30, 31, 32] (by decide +kernel) (by decide +kernel)
set_option maxRecDepth 20000 in
theorem gX3_darkFeet_X3_shadeOf : GoodIn wsX3_darkFeet (wsV RX3 48 RX3 yX3_shadeOf wsX3_shadeOf) := goodIn_app (goodIn_of _ (by decide +kernel)) ggX3_darkFeet_X3_shadeOf
theorem dX3_darkFeet_0 : decode cX3_darkFeet 0 = .ok (.iload_n 2, 1) := by decide +kernel
theorem dX3_darkFeet_1 : decode cX3_darkFeet 1 = .ok (.aload_n 0, 1) := by decide +kernel
theorem dX3_darkFeet_2 : decode cX3_darkFeet 2 = .ok (.iload_n 1, 1) := by decide +kernel
theorem dX3_darkFeet_3 : decode cX3_darkFeet 3 = .ok (.invokevirtual 45, 3) := by decide +kernel
theorem dX3_darkFeet_6 : decode cX3_darkFeet 6 = .ok (.iconst (-1), 1) := by decide +kernel
theorem dX3_darkFeet_7 : decode cX3_darkFeet 7 = .ok (.ixor, 1) := by decide +kernel
theorem dX3_darkFeet_8 : decode cX3_darkFeet 8 = .ok (.iand, 1) := by decide +kernel
theorem dX3_darkFeet_9 : decode cX3_darkFeet 9 = .ok (.istore_n 3, 1) := by decide +kernel
theorem dX3_darkFeet_10 : decode cX3_darkFeet 10 = .ok (.lconst 0, 1) := by decide +kernel
theorem dX3_darkFeet_11 : decode cX3_darkFeet 11 = .ok (.lstore 4, 2) := by decide +kernel
theorem dX3_darkFeet_13 : decode cX3_darkFeet 13 = .ok (.iconst 0, 1) := by decide +kernel
theorem dX3_darkFeet_14 : decode cX3_darkFeet 14 = .ok (.istore 6, 2) := by decide +kernel
theorem dX3_darkFeet_16 : decode cX3_darkFeet 16 = .ok (.iload 6, 2) := by decide +kernel
theorem dX3_darkFeet_18 : decode cX3_darkFeet 18 = .ok (.iconst 5, 1) := by decide +kernel
theorem dX3_darkFeet_19 : decode cX3_darkFeet 19 = .ok (.if_icmp .ge 57, 3) := by decide +kernel
theorem dX3_darkFeet_22 : decode cX3_darkFeet 22 = .ok (.aload_n 0, 1) := by decide +kernel
theorem dX3_darkFeet_23 : decode cX3_darkFeet 23 = .ok (.iload 6, 2) := by decide +kernel
theorem dX3_darkFeet_25 : decode cX3_darkFeet 25 = .ok (.invokevirtual 31, 3) := by decide +kernel
theorem dX3_darkFeet_28 : decode cX3_darkFeet 28 = .ok (.ifCond .eq 42, 3) := by decide +kernel
theorem dX3_darkFeet_31 : decode cX3_darkFeet 31 = .ok (.iload_n 3, 1) := by decide +kernel
theorem dX3_darkFeet_32 : decode cX3_darkFeet 32 = .ok (.iload 6, 2) := by decide +kernel
theorem dX3_darkFeet_34 : decode cX3_darkFeet 34 = .ok (.ishr, 1) := by decide +kernel
theorem dX3_darkFeet_35 : decode cX3_darkFeet 35 = .ok (.iconst 1, 1) := by decide +kernel
theorem dX3_darkFeet_36 : decode cX3_darkFeet 36 = .ok (.iand, 1) := by decide +kernel
theorem dX3_darkFeet_37 : decode cX3_darkFeet 37 = .ok (.ifCond .eq 33, 3) := by decide +kernel
theorem dX3_darkFeet_40 : decode cX3_darkFeet 40 = .ok (.lconst 1, 1) := by decide +kernel
theorem dX3_darkFeet_41 : decode cX3_darkFeet 41 = .ok (.aload_n 0, 1) := by decide +kernel
theorem dX3_darkFeet_42 : decode cX3_darkFeet 42 = .ok (.iload 6, 2) := by decide +kernel
theorem dX3_darkFeet_44 : decode cX3_darkFeet 44 = .ok (.iload_n 1, 1) := by decide +kernel
theorem dX3_darkFeet_45 : decode cX3_darkFeet 45 = .ok (.invokevirtual 48, 3) := by decide +kernel
theorem dX3_darkFeet_48 : decode cX3_darkFeet 48 = .ok (.iconst 1, 1) := by decide +kernel
theorem dX3_darkFeet_49 : decode cX3_darkFeet 49 = .ok (.iadd, 1) := by decide +kernel
theorem dX3_darkFeet_50 : decode cX3_darkFeet 50 = .ok (.lshl, 1) := by decide +kernel
theorem dX3_darkFeet_51 : decode cX3_darkFeet 51 = .ok (.lconst 1, 1) := by decide +kernel
theorem dX3_darkFeet_52 : decode cX3_darkFeet 52 = .ok (.lsub, 1) := by decide +kernel
theorem dX3_darkFeet_53 : decode cX3_darkFeet 53 = .ok (.lstore 7, 2) := by decide +kernel
theorem dX3_darkFeet_55 : decode cX3_darkFeet 55 = .ok (.lload 4, 2) := by decide +kernel
theorem dX3_darkFeet_57 : decode cX3_darkFeet 57 = .ok (.lload 7, 2) := by decide +kernel
theorem dX3_darkFeet_59 : decode cX3_darkFeet 59 = .ok (.aload_n 0, 1) := by decide +kernel
theorem dX3_darkFeet_60 : decode cX3_darkFeet 60 = .ok (.getfield 15, 3) := by decide +kernel
theorem dX3_darkFeet_63 : decode cX3_darkFeet 63 = .ok (.iload 6, 2) := by decide +kernel
theorem dX3_darkFeet_65 : decode cX3_darkFeet 65 = .ok (.iaload, 1) := by decide +kernel
theorem dX3_darkFeet_66 : decode cX3_darkFeet 66 = .ok (.lshl, 1) := by decide +kernel
theorem dX3_darkFeet_67 : decode cX3_darkFeet 67 = .ok (.lor, 1) := by decide +kernel
theorem dX3_darkFeet_68 : decode cX3_darkFeet 68 = .ok (.lstore 4, 2) := by decide +kernel
theorem dX3_darkFeet_70 : decode cX3_darkFeet 70 = .ok (.iinc 6 1, 3) := by decide +kernel
theorem dX3_darkFeet_73 : decode cX3_darkFeet 73 = .ok (.goto (-57), 3) := by decide +kernel
theorem dX3_darkFeet_76 : decode cX3_darkFeet 76 = .ok (.lload 4, 2) := by decide +kernel
theorem dX3_darkFeet_78 : decode cX3_darkFeet 78 = .ok (.lreturn, 1) := by decide +kernel
set_option maxRecDepth 20000 in
theorem ggX4_init_X3_init : GoodIn wsX4_init wsX3_init := goodIn_r _ [22, 23, 2, 3, 24, 25, 26, 27, 40, 41, 42, 43, 44, 45] (by decide +kernel) (by decide +kernel)
set_option maxRecDepth 20000 in
theorem gX4_init_X3_init_n13 : GoodIn wsX4_init (wsX3_init) := ggX4_init_X3_init
set_option maxRecDepth 20000 in
theorem ggX4_init_X1_init : GoodIn wsX4_init wsX1_init := goodIn_r _ [29, 30, 2, 3] (by decide +kernel) (by decide +kernel)
set_option maxRecDepth 20000 in
theorem gX4_init_X1_init_n23 : GoodIn wsX4_init (wsX1_init) := ggX4_init_X1_init
set_option maxRecDepth 20000 in
theorem ggX4_init_X0_init : GoodIn wsX4_init wsX0_init := goodIn_r _ [32, 33, 2, 3, 24, 34, 35, 57, 58, 59] (by decide +kernel) (by decide +kernel)
set_option maxRecDepth 20000 in
theorem gX4_init_X0_init_n30 : GoodIn wsX4_init (wsX0_init) := ggX4_init_X0_init
set_option maxRecDepth 20000 in
theorem ggX4_init_X2_init : GoodIn wsX4_init wsX2_init := goodIn_r _ [37, 38, 2, 3, 24, 39, 60, 61, 62, 63] (by decide +kernel) (by decide +kernel)
set_option maxRecDepth 20000 in
theorem gX4_init_X2_init_n41 : GoodIn wsX4_init (wsX2_init) := ggX4_init_X2_init
theorem dX4_init_0 : decode cX4_init 0 = .ok (.aload_n 0, 1) := by decide +kernel
theorem dX4_init_1 : decode cX4_init 1 = .ok (.invokespecial 5, 3) := by decide +kernel
theorem dX4_init_4 : decode cX4_init 4 = .ok (.aload_n 0, 1) := by decide +kernel
theorem dX4_init_5 : decode cX4_init 5 = .ok (.new 11, 3) := by decide +kernel
theorem dX4_init_8 : decode cX4_init 8 = .ok (.dup, 1) := by decide +kernel
theorem dX4_init_9 : decode cX4_init 9 = .ok (.invokespecial 13, 3) := by decide +kernel
theorem dX4_init_12 : decode cX4_init 12 = .ok (.putfield 14, 3) := by decide +kernel
theorem dX4_init_15 : decode cX4_init 15 = .ok (.aload_n 0, 1) := by decide +kernel
theorem dX4_init_16 : decode cX4_init 16 = .ok (.new 11, 3) := by decide +kernel
theorem dX4_init_19 : decode cX4_init 19 = .ok (.dup, 1) := by decide +kernel
theorem dX4_init_20 : decode cX4_init 20 = .ok (.invokespecial 13, 3) := by decide +kernel
theorem dX4_init_23 : decode cX4_init 23 = .ok (.putfield 18, 3) := by decide +kernel
theorem dX4_init_26 : decode cX4_init 26 = .ok (.aload_n 0, 1) := by decide +kernel
theorem dX4_init_27 : decode cX4_init 27 = .ok (.new 21, 3) := by decide +kernel
theorem dX4_init_30 : decode cX4_init 30 = .ok (.dup, 1) := by decide +kernel
theorem dX4_init_31 : decode cX4_init 31 = .ok (.invokespecial 23, 3) := by decide +kernel
theorem dX4_init_34 : decode cX4_init 34 = .ok (.putfield 24, 3) := by decide +kernel
theorem dX4_init_37 : decode cX4_init 37 = .ok (.aload_n 0, 1) := by decide +kernel
theorem dX4_init_38 : decode cX4_init 38 = .ok (.new 28, 3) := by decide +kernel
theorem dX4_init_41 : decode cX4_init 41 = .ok (.dup, 1) := by decide +kernel
theorem dX4_init_42 : decode cX4_init 42 = .ok (.invokespecial 30, 3) := by decide +kernel
theorem dX4_init_45 : decode cX4_init 45 = .ok (.putfield 31, 3) := by decide +kernel
theorem dX4_init_48 : decode cX4_init 48 = .ok (.aload_n 0, 1) := by decide +kernel
theorem dX4_init_49 : decode cX4_init 49 = .ok (.iconst 4, 1) := by decide +kernel
theorem dX4_init_50 : decode cX4_init 50 = .ok (.anewarray 35, 3) := by decide +kernel
theorem dX4_init_53 : decode cX4_init 53 = .ok (.putfield 37, 3) := by decide +kernel
theorem dX4_init_56 : decode cX4_init 56 = .ok (.iconst 0, 1) := by decide +kernel
theorem dX4_init_57 : decode cX4_init 57 = .ok (.istore_n 1, 1) := by decide +kernel
theorem dX4_init_58 : decode cX4_init 58 = .ok (.iload_n 1, 1) := by decide +kernel
theorem dX4_init_59 : decode cX4_init 59 = .ok (.aload_n 0, 1) := by decide +kernel
theorem dX4_init_60 : decode cX4_init 60 = .ok (.getfield 37, 3) := by decide +kernel
theorem dX4_init_63 : decode cX4_init 63 = .ok (.arraylength, 1) := by decide +kernel
theorem dX4_init_64 : decode cX4_init 64 = .ok (.if_icmp .ge 22, 3) := by decide +kernel
theorem dX4_init_67 : decode cX4_init 67 = .ok (.aload_n 0, 1) := by decide +kernel
theorem dX4_init_68 : decode cX4_init 68 = .ok (.getfield 37, 3) := by decide +kernel
theorem dX4_init_71 : decode cX4_init 71 = .ok (.iload_n 1, 1) := by decide +kernel
theorem dX4_init_72 : decode cX4_init 72 = .ok (.new 35, 3) := by decide +kernel
theorem dX4_init_75 : decode cX4_init 75 = .ok (.dup, 1) := by decide +kernel
theorem dX4_init_76 : decode cX4_init 76 = .ok (.invokespecial 41, 3) := by decide +kernel
theorem dX4_init_79 : decode cX4_init 79 = .ok (.aastore, 1) := by decide +kernel
theorem dX4_init_80 : decode cX4_init 80 = .ok (.iinc 1 1, 3) := by decide +kernel
theorem dX4_init_83 : decode cX4_init 83 = .ok (.goto (-25), 3) := by decide +kernel
theorem dX4_init_86 : decode cX4_init 86 = .ok (.return_, 1) := by decide +kernel
set_option maxRecDepth 20000 in
theorem ggX4_field_X4_sheetAt : GoodIn wsX4_field wsX4_sheetAt := goodIn_r _ [8, 9, 61, 62, 63, 64, 65, 66, 67] (by decide +kernel) (by decide +kernel)
set_option maxRecDepth 20000 in
theorem gX4_field_X4_sheetAt : GoodIn wsX4_field (wsV RX4 46 RX4 yX4_sheetAt wsX4_sheetAt) := goodIn_app (goodIn_of _ (by decide +kernel)) ggX4_field_X4_sheetAt
set_option maxRecDepth 20000 in
theorem ggX4_field_X4_isLane : GoodIn wsX4_field wsX4_isLane := goodIn_r _ [12] (by decide +kernel) (by decide +kernel)
set_option maxRecDepth 20000 in
theorem gX4_field_X4_isLane : GoodIn wsX4_field (va_wsS RX4 50 yX4_isLane wsX4_isLane) := goodIn_app (goodIn_of _ (by decide +kernel)) ggX4_field_X4_isLane
set_option maxRecDepth 20000 in
theorem ggX4_field_X2_faultAs : GoodIn wsX4_field wsX2_faultAs := goodIn_r _ [17, 18, 19, 74, 75, 76, 77] (by decide +kernel) (by decide +kernel)
set_option maxRecDepth 20000 in
theorem gX4_field_X2_faultAs : GoodIn wsX4_field (wsV RX4 54 RX2 yX2_faultAs wsX2_faultAs) := goodIn_app (goodIn_of _ (by decide +kernel)) ggX4_field_X2_faultAs
set_option maxRecDepth 20000 in
theorem ggX4_field_X2_holds : GoodIn wsX4_field wsX2_holds := goodIn_r _ [23, 24, 74, 75, 76, 77] (by decide +kernel) (by decide +kernel)
set_option maxRecDepth 20000 in
theorem gX4_field_X2_holds : GoodIn wsX4_field (wsV RX4 58 RX2 yX2_holds wsX2_holds) := goodIn_app (goodIn_of _ (by decide +kernel)) ggX4_field_X2_holds
set_option maxRecDepth 20000 in
theorem ggX4_field_X4_failed : GoodIn wsX4_field wsX4_failed := goodIn_r _ [28, 1, 61, 62, 63, 64, 65, 66, 67] (by decide +kernel) (by decide +kernel)
set_option maxRecDepth 20000 in
theorem gX4_field_X4_failed : GoodIn wsX4_field (wsV RX4 62 RX4 yX4_failed wsX4_failed) := goodIn_app (goodIn_of _ (by decide +kernel)) ggX4_field_X4_failed
set_option maxRecDepth 20000 in
theorem ggX4_field_X4_firstFault : GoodIn wsX4_field wsX4_firstFault := goodIn_r _ [31, 32, 33, 34, 16, 35, 36, 37, 38, 39, 40, 24, 41, 42, 7, 43, 44, 45, 46, 47, 48, 49, 74, 75, 76, 77] (by decide +kernel) (by decide +kernel)
set_option maxRecDepth 20000 in
theorem gX4_field_X4_firstFault : GoodIn wsX4_field (va_wsS RX4 65 yX4_firstFault wsX4_firstFault) := goodIn_app (goodIn_of _ (by decide +kernel)) ggX4_field_X4_firstFault
set_option maxRecDepth 20000 in
theorem ggX4_field_X4_layField : GoodIn wsX4_field wsX4_layField := goodIn_r _ [53, 2, 54, 55, 3, 56, 57, 58, 59, 60, 32, 33, 34, 16, 35, 36, 37, 38, 39, 40, 24, 47, 48, 7, 49, 61, 62, 63, 64, 65, 66, 67, 68, 69, 70, 71, 72, 73, 78, 79, 80, 74, 75, 76, 77] (by decide +kernel) (by decide +kernel)
set_option maxRecDepth 20000 in
theorem gX4_field_X4_layField : GoodIn wsX4_field (wsV RX4 69 RX4 yX4_layField wsX4_layField) := goodIn_app (goodIn_of _ (by decide +kernel)) ggX4_field_X4_layField
theorem dX4_field_0 : decode cX4_field 0 = .ok (.aload_n 0, 1) := by decide +kernel
theorem dX4_field_1 : decode cX4_field 1 = .ok (.iconst 0, 1) := by decide +kernel
theorem dX4_field_2 : decode cX4_field 2 = .ok (.putfield 42, 3) := by decide +kernel
theorem dX4_field_5 : decode cX4_field 5 = .ok (.aload_n 0, 1) := by decide +kernel
theorem dX4_field_6 : decode cX4_field 6 = .ok (.iload_n 1, 1) := by decide +kernel
theorem dX4_field_7 : decode cX4_field 7 = .ok (.invokevirtual 46, 3) := by decide +kernel
theorem dX4_field_10 : decode cX4_field 10 = .ok (.astore 5, 2) := by decide +kernel
theorem dX4_field_12 : decode cX4_field 12 = .ok (.aload 5, 2) := by decide +kernel
theorem dX4_field_14 : decode cX4_field 14 = .ok (.ifnonnull 5, 3) := by decide +kernel
theorem dX4_field_17 : decode cX4_field 17 = .ok (.iconst (-1), 1) := by decide +kernel
theorem dX4_field_18 : decode cX4_field 18 = .ok (.ireturn, 1) := by decide +kernel
theorem dX4_field_19 : decode cX4_field 19 = .ok (.iload_n 2, 1) := by decide +kernel
theorem dX4_field_20 : decode cX4_field 20 = .ok (.invokestatic 50, 3) := by decide +kernel
theorem dX4_field_23 : decode cX4_field 23 = .ok (.ifCond .ne 6, 3) := by decide +kernel
theorem dX4_field_26 : decode cX4_field 26 = .ok (.bipush (-2), 2) := by decide +kernel
theorem dX4_field_28 : decode cX4_field 28 = .ok (.ireturn, 1) := by decide +kernel
theorem dX4_field_29 : decode cX4_field 29 = .ok (.aload 5, 2) := by decide +kernel
theorem dX4_field_31 : decode cX4_field 31 = .ok (.iload_n 2, 1) := by decide +kernel
theorem dX4_field_32 : decode cX4_field 32 = .ok (.invokevirtual 54, 3) := by decide +kernel
theorem dX4_field_35 : decode cX4_field 35 = .ok (.istore 6, 2) := by decide +kernel
theorem dX4_field_37 : decode cX4_field 37 = .ok (.iload 6, 2) := by decide +kernel
theorem dX4_field_39 : decode cX4_field 39 = .ok (.ifCond .ne 11, 3) := by decide +kernel
theorem dX4_field_42 : decode cX4_field 42 = .ok (.iload 4, 2) := by decide +kernel
theorem dX4_field_44 : decode cX4_field 44 = .ok (.ifCond .ge 6, 3) := by decide +kernel
theorem dX4_field_47 : decode cX4_field 47 = .ok (.iconst 4, 1) := by decide +kernel
theorem dX4_field_48 : decode cX4_field 48 = .ok (.istore 6, 2) := by decide +kernel
theorem dX4_field_50 : decode cX4_field 50 = .ok (.iload 6, 2) := by decide +kernel
theorem dX4_field_52 : decode cX4_field 52 = .ok (.ifCond .ne 17, 3) := by decide +kernel
theorem dX4_field_55 : decode cX4_field 55 = .ok (.aload 5, 2) := by decide +kernel
theorem dX4_field_57 : decode cX4_field 57 = .ok (.iload_n 3, 1) := by decide +kernel
theorem dX4_field_58 : decode cX4_field 58 = .ok (.iload 4, 2) := by decide +kernel
theorem dX4_field_60 : decode cX4_field 60 = .ok (.invokevirtual 58, 3) := by decide +kernel
theorem dX4_field_63 : decode cX4_field 63 = .ok (.ifCond .ne 6, 3) := by decide +kernel
theorem dX4_field_66 : decode cX4_field 66 = .ok (.iconst 3, 1) := by decide +kernel
theorem dX4_field_67 : decode cX4_field 67 = .ok (.istore 6, 2) := by decide +kernel
theorem dX4_field_69 : decode cX4_field 69 = .ok (.iload 6, 2) := by decide +kernel
theorem dX4_field_71 : decode cX4_field 71 = .ok (.ifCond .eq 10, 3) := by decide +kernel
theorem dX4_field_74 : decode cX4_field 74 = .ok (.aload_n 0, 1) := by decide +kernel
theorem dX4_field_75 : decode cX4_field 75 = .ok (.iload 6, 2) := by decide +kernel
theorem dX4_field_77 : decode cX4_field 77 = .ok (.invokevirtual 62, 3) := by decide +kernel
theorem dX4_field_80 : decode cX4_field 80 = .ok (.ireturn, 1) := by decide +kernel
theorem dX4_field_81 : decode cX4_field 81 = .ok (.aload 5, 2) := by decide +kernel
theorem dX4_field_83 : decode cX4_field 83 = .ok (.iload_n 3, 1) := by decide +kernel
theorem dX4_field_84 : decode cX4_field 84 = .ok (.iload 4, 2) := by decide +kernel
theorem dX4_field_86 : decode cX4_field 86 = .ok (.invokestatic 65, 3) := by decide +kernel
theorem dX4_field_89 : decode cX4_field 89 = .ok (.istore 7, 2) := by decide +kernel
theorem dX4_field_91 : decode cX4_field 91 = .ok (.iload 7, 2) := by decide +kernel
theorem dX4_field_93 : decode cX4_field 93 = .ok (.bipush (-9), 2) := by decide +kernel
theorem dX4_field_95 : decode cX4_field 95 = .ok (.if_icmp .eq 9, 3) := by decide +kernel
theorem dX4_field_98 : decode cX4_field 98 = .ok (.bipush (-100), 2) := by decide +kernel
theorem dX4_field_100 : decode cX4_field 100 = .ok (.iload 7, 2) := by decide +kernel
theorem dX4_field_102 : decode cX4_field 102 = .ok (.isub, 1) := by decide +kernel
theorem dX4_field_103 : decode cX4_field 103 = .ok (.ireturn, 1) := by decide +kernel
theorem dX4_field_104 : decode cX4_field 104 = .ok (.aload_n 0, 1) := by decide +kernel
theorem dX4_field_105 : decode cX4_field 105 = .ok (.aload 5, 2) := by decide +kernel
theorem dX4_field_107 : decode cX4_field 107 = .ok (.iload_n 3, 1) := by decide +kernel
theorem dX4_field_108 : decode cX4_field 108 = .ok (.iload 4, 2) := by decide +kernel
theorem dX4_field_110 : decode cX4_field 110 = .ok (.invokevirtual 69, 3) := by decide +kernel
theorem dX4_field_113 : decode cX4_field 113 = .ok (.aload_n 0, 1) := by decide +kernel
theorem dX4_field_114 : decode cX4_field 114 = .ok (.getfield 14, 3) := by decide +kernel
theorem dX4_field_117 : decode cX4_field 117 = .ok (.getfield 73, 3) := by decide +kernel
theorem dX4_field_120 : decode cX4_field 120 = .ok (.ireturn, 1) := by decide +kernel
set_option maxRecDepth 20000 in
theorem ggX4_ofStander_X3_has : GoodIn wsX4_ofStander wsX3_has := goodIn_r _ [9, 10, 18, 19, 20, 21, 22, 23] (by decide +kernel) (by decide +kernel)
set_option maxRecDepth 20000 in
theorem gX4_ofStander_X3_has : GoodIn wsX4_ofStander (wsV RX4 76 RX3 yX3_has wsX3_has) := goodIn_app (goodIn_of _ (by decide +kernel)) ggX4_ofStander_X3_has
theorem dX4_ofStander_0 : decode cX4_ofStander 0 = .ok (.aload_n 0, 1) := by decide +kernel
theorem dX4_ofStander_1 : decode cX4_ofStander 1 = .ok (.getfield 14, 3) := by decide +kernel
theorem dX4_ofStander_4 : decode cX4_ofStander 4 = .ok (.iload_n 1, 1) := by decide +kernel
theorem dX4_ofStander_5 : decode cX4_ofStander 5 = .ok (.invokevirtual 76, 3) := by decide +kernel
theorem dX4_ofStander_8 : decode cX4_ofStander 8 = .ok (.ifCond .ne 5, 3) := by decide +kernel
theorem dX4_ofStander_11 : decode cX4_ofStander 11 = .ok (.iconst (-1), 1) := by decide +kernel
theorem dX4_ofStander_12 : decode cX4_ofStander 12 = .ok (.ireturn, 1) := by decide +kernel
theorem dX4_ofStander_13 : decode cX4_ofStander 13 = .ok (.iload_n 2, 1) := by decide +kernel
theorem dX4_ofStander_14 : decode cX4_ofStander 14 = .ok (.tableswitch 56 0 2 #[26, 36, 46], 26) := by decide +kernel
theorem dX4_ofStander_40 : decode cX4_ofStander 40 = .ok (.aload_n 0, 1) := by decide +kernel
theorem dX4_ofStander_41 : decode cX4_ofStander 41 = .ok (.getfield 14, 3) := by decide +kernel
theorem dX4_ofStander_44 : decode cX4_ofStander 44 = .ok (.getfield 79, 3) := by decide +kernel
theorem dX4_ofStander_47 : decode cX4_ofStander 47 = .ok (.iload_n 1, 1) := by decide +kernel
theorem dX4_ofStander_48 : decode cX4_ofStander 48 = .ok (.iaload, 1) := by decide +kernel
theorem dX4_ofStander_49 : decode cX4_ofStander 49 = .ok (.ireturn, 1) := by decide +kernel
theorem dX4_ofStander_50 : decode cX4_ofStander 50 = .ok (.aload_n 0, 1) := by decide +kernel
theorem dX4_ofStander_51 : decode cX4_ofStander 51 = .ok (.getfield 14, 3) := by decide +kernel
theorem dX4_ofStander_54 : decode cX4_ofStander 54 = .ok (.getfield 83, 3) := by decide +kernel
theorem dX4_ofStander_57 : decode cX4_ofStander 57 = .ok (.iload_n 1, 1) := by decide +kernel
theorem dX4_ofStander_58 : decode cX4_ofStander 58 = .ok (.iaload, 1) := by decide +kernel
theorem dX4_ofStander_59 : decode cX4_ofStander 59 = .ok (.ireturn, 1) := by decide +kernel
theorem dX4_ofStander_60 : decode cX4_ofStander 60 = .ok (.aload_n 0, 1) := by decide +kernel
theorem dX4_ofStander_61 : decode cX4_ofStander 61 = .ok (.getfield 14, 3) := by decide +kernel
theorem dX4_ofStander_64 : decode cX4_ofStander 64 = .ok (.getfield 86, 3) := by decide +kernel
theorem dX4_ofStander_67 : decode cX4_ofStander 67 = .ok (.iload_n 1, 1) := by decide +kernel
theorem dX4_ofStander_68 : decode cX4_ofStander 68 = .ok (.iaload, 1) := by decide +kernel
theorem dX4_ofStander_69 : decode cX4_ofStander 69 = .ok (.ireturn, 1) := by decide +kernel
theorem dX4_ofStander_70 : decode cX4_ofStander 70 = .ok (.bipush (-2), 2) := by decide +kernel
theorem dX4_ofStander_72 : decode cX4_ofStander 72 = .ok (.ireturn, 1) := by decide +kernel
set_option maxRecDepth 20000 in
theorem ggX4_walk_X3_has : GoodIn wsX4_walk wsX3_has := goodIn_r _ [7, 8, 20, 21, 22, 23, 24, 25] (by decide +kernel) (by decide +kernel)
set_option maxRecDepth 20000 in
theorem gX4_walk_X3_has : GoodIn wsX4_walk (wsV RX4 76 RX3 yX3_has wsX3_has) := goodIn_app (goodIn_of _ (by decide +kernel)) ggX4_walk_X3_has
set_option maxRecDepth 20000 in
theorem ggX4_walk_X4_isDigit : GoodIn wsX4_walk wsX4_isDigit := goodIn_r _ [12] (by decide +kernel) (by decide +kernel)
set_option maxRecDepth 20000 in
theorem gX4_walk_X4_isDigit : GoodIn wsX4_walk (va_wsS RX4 89 yX4_isDigit wsX4_isDigit) := goodIn_app (goodIn_of _ (by decide +kernel)) ggX4_walk_X4_isDigit
theorem dX4_walk_0 : decode cX4_walk 0 = .ok (.aload_n 0, 1) := by decide +kernel
theorem dX4_walk_1 : decode cX4_walk 1 = .ok (.getfield 14, 3) := by decide +kernel
theorem dX4_walk_4 : decode cX4_walk 4 = .ok (.iload_n 1, 1) := by decide +kernel
theorem dX4_walk_5 : decode cX4_walk 5 = .ok (.invokevirtual 76, 3) := by decide +kernel
theorem dX4_walk_8 : decode cX4_walk 8 = .ok (.ifCond .ne 5, 3) := by decide +kernel
theorem dX4_walk_11 : decode cX4_walk 11 = .ok (.iconst (-1), 1) := by decide +kernel
theorem dX4_walk_12 : decode cX4_walk 12 = .ok (.ireturn, 1) := by decide +kernel
theorem dX4_walk_13 : decode cX4_walk 13 = .ok (.iload_n 2, 1) := by decide +kernel
theorem dX4_walk_14 : decode cX4_walk 14 = .ok (.invokestatic 89, 3) := by decide +kernel
theorem dX4_walk_17 : decode cX4_walk 17 = .ok (.ifCond .ne 6, 3) := by decide +kernel
theorem dX4_walk_20 : decode cX4_walk 20 = .ok (.bipush (-2), 2) := by decide +kernel
theorem dX4_walk_22 : decode cX4_walk 22 = .ok (.ireturn, 1) := by decide +kernel
theorem dX4_walk_23 : decode cX4_walk 23 = .ok (.aload_n 0, 1) := by decide +kernel
theorem dX4_walk_24 : decode cX4_walk 24 = .ok (.getfield 14, 3) := by decide +kernel
theorem dX4_walk_27 : decode cX4_walk 27 = .ok (.getfield 83, 3) := by decide +kernel
theorem dX4_walk_30 : decode cX4_walk 30 = .ok (.iload_n 1, 1) := by decide +kernel
theorem dX4_walk_31 : decode cX4_walk 31 = .ok (.iaload, 1) := by decide +kernel
theorem dX4_walk_32 : decode cX4_walk 32 = .ok (.istore_n 3, 1) := by decide +kernel
theorem dX4_walk_33 : decode cX4_walk 33 = .ok (.aload_n 0, 1) := by decide +kernel
theorem dX4_walk_34 : decode cX4_walk 34 = .ok (.getfield 14, 3) := by decide +kernel
theorem dX4_walk_37 : decode cX4_walk 37 = .ok (.getfield 83, 3) := by decide +kernel
theorem dX4_walk_40 : decode cX4_walk 40 = .ok (.iload_n 1, 1) := by decide +kernel
theorem dX4_walk_41 : decode cX4_walk 41 = .ok (.iload_n 2, 1) := by decide +kernel
theorem dX4_walk_42 : decode cX4_walk 42 = .ok (.iastore, 1) := by decide +kernel
theorem dX4_walk_43 : decode cX4_walk 43 = .ok (.iload_n 3, 1) := by decide +kernel
theorem dX4_walk_44 : decode cX4_walk 44 = .ok (.ireturn, 1) := by decide +kernel
set_option maxRecDepth 20000 in
theorem ggX4_grow_X3_has : GoodIn wsX4_grow wsX3_has := goodIn_r _ [7, 8, 20, 21, 22, 23, 24, 25] (by decide +kernel) (by decide +kernel)
set_option maxRecDepth 20000 in
theorem gX4_grow_X3_has : GoodIn wsX4_grow (wsV RX4 76 RX3 yX3_has wsX3_has) := goodIn_app (goodIn_of _ (by decide +kernel)) ggX4_grow_X3_has
set_option maxRecDepth 20000 in
theorem ggX4_grow_X4_isDigit : GoodIn wsX4_grow wsX4_isDigit := goodIn_r _ [12] (by decide +kernel) (by decide +kernel)
set_option maxRecDepth 20000 in
theorem gX4_grow_X4_isDigit : GoodIn wsX4_grow (va_wsS RX4 89 yX4_isDigit wsX4_isDigit) := goodIn_app (goodIn_of _ (by decide +kernel)) ggX4_grow_X4_isDigit
theorem dX4_grow_0 : decode cX4_grow 0 = .ok (.aload_n 0, 1) := by decide +kernel
theorem dX4_grow_1 : decode cX4_grow 1 = .ok (.getfield 14, 3) := by decide +kernel
theorem dX4_grow_4 : decode cX4_grow 4 = .ok (.iload_n 1, 1) := by decide +kernel
theorem dX4_grow_5 : decode cX4_grow 5 = .ok (.invokevirtual 76, 3) := by decide +kernel
theorem dX4_grow_8 : decode cX4_grow 8 = .ok (.ifCond .ne 5, 3) := by decide +kernel
theorem dX4_grow_11 : decode cX4_grow 11 = .ok (.iconst (-1), 1) := by decide +kernel
theorem dX4_grow_12 : decode cX4_grow 12 = .ok (.ireturn, 1) := by decide +kernel
theorem dX4_grow_13 : decode cX4_grow 13 = .ok (.iload_n 2, 1) := by decide +kernel
theorem dX4_grow_14 : decode cX4_grow 14 = .ok (.invokestatic 89, 3) := by decide +kernel
theorem dX4_grow_17 : decode cX4_grow 17 = .ok (.ifCond .ne 6, 3) := by decide +kernel
theorem dX4_grow_20 : decode cX4_grow 20 = .ok (.bipush (-2), 2) := by decide +kernel
theorem dX4_grow_22 : decode cX4_grow 22 = .ok (.ireturn, 1) := by decide +kernel
theorem dX4_grow_23 : decode cX4_grow 23 = .ok (.aload_n 0, 1) := by decide +kernel
theorem dX4_grow_24 : decode cX4_grow 24 = .ok (.getfield 14, 3) := by decide +kernel
theorem dX4_grow_27 : decode cX4_grow 27 = .ok (.getfield 86, 3) := by decide +kernel
theorem dX4_grow_30 : decode cX4_grow 30 = .ok (.iload_n 1, 1) := by decide +kernel
theorem dX4_grow_31 : decode cX4_grow 31 = .ok (.iaload, 1) := by decide +kernel
theorem dX4_grow_32 : decode cX4_grow 32 = .ok (.istore_n 3, 1) := by decide +kernel
theorem dX4_grow_33 : decode cX4_grow 33 = .ok (.aload_n 0, 1) := by decide +kernel
theorem dX4_grow_34 : decode cX4_grow 34 = .ok (.getfield 14, 3) := by decide +kernel
theorem dX4_grow_37 : decode cX4_grow 37 = .ok (.getfield 86, 3) := by decide +kernel
theorem dX4_grow_40 : decode cX4_grow 40 = .ok (.iload_n 1, 1) := by decide +kernel
theorem dX4_grow_41 : decode cX4_grow 41 = .ok (.iload_n 2, 1) := by decide +kernel
theorem dX4_grow_42 : decode cX4_grow 42 = .ok (.iastore, 1) := by decide +kernel
theorem dX4_grow_43 : decode cX4_grow 43 = .ok (.iload_n 3, 1) := by decide +kernel
theorem dX4_grow_44 : decode cX4_grow 44 = .ok (.ireturn, 1) := by decide +kernel
set_option maxRecDepth 20000 in
theorem ggX4_build_X4_isDigit : GoodIn wsX4_build wsX4_isDigit := goodIn_r _ [6] (by decide +kernel) (by decide +kernel)
set_option maxRecDepth 20000 in
theorem gX4_build_X4_isDigit : GoodIn wsX4_build (va_wsS RX4 89 yX4_isDigit wsX4_isDigit) := goodIn_app (goodIn_of _ (by decide +kernel)) ggX4_build_X4_isDigit
set_option maxRecDepth 20000 in
theorem ggX4_build_X3_isLaid : GoodIn wsX4_build wsX3_isLaid := goodIn_r _ [11, 12, 20, 21, 22, 23, 24, 25] (by decide +kernel) (by decide +kernel)
set_option maxRecDepth 20000 in
theorem gX4_build_X3_isLaid : GoodIn wsX4_build (wsV RX4 92 RX3 yX3_isLaid wsX3_isLaid) := goodIn_app (goodIn_of _ (by decide +kernel)) ggX4_build_X3_isLaid
theorem dX4_build_0 : decode cX4_build 0 = .ok (.iload_n 1, 1) := by decide +kernel
theorem dX4_build_1 : decode cX4_build 1 = .ok (.invokestatic 89, 3) := by decide +kernel
theorem dX4_build_4 : decode cX4_build 4 = .ok (.ifCond .ne 6, 3) := by decide +kernel
theorem dX4_build_7 : decode cX4_build 7 = .ok (.bipush (-2), 2) := by decide +kernel
theorem dX4_build_9 : decode cX4_build 9 = .ok (.ireturn, 1) := by decide +kernel
theorem dX4_build_10 : decode cX4_build 10 = .ok (.aload_n 0, 1) := by decide +kernel
theorem dX4_build_11 : decode cX4_build 11 = .ok (.getfield 14, 3) := by decide +kernel
theorem dX4_build_14 : decode cX4_build 14 = .ok (.invokevirtual 92, 3) := by decide +kernel
theorem dX4_build_17 : decode cX4_build 17 = .ok (.ifCond .ne 6, 3) := by decide +kernel
theorem dX4_build_20 : decode cX4_build 20 = .ok (.bipush (-3), 2) := by decide +kernel
theorem dX4_build_22 : decode cX4_build 22 = .ok (.ireturn, 1) := by decide +kernel
theorem dX4_build_23 : decode cX4_build 23 = .ok (.aload_n 0, 1) := by decide +kernel
theorem dX4_build_24 : decode cX4_build 24 = .ok (.getfield 14, 3) := by decide +kernel
theorem dX4_build_27 : decode cX4_build 27 = .ok (.getfield 96, 3) := by decide +kernel
theorem dX4_build_30 : decode cX4_build 30 = .ok (.istore_n 2, 1) := by decide +kernel
theorem dX4_build_31 : decode cX4_build 31 = .ok (.aload_n 0, 1) := by decide +kernel
theorem dX4_build_32 : decode cX4_build 32 = .ok (.getfield 14, 3) := by decide +kernel
theorem dX4_build_35 : decode cX4_build 35 = .ok (.iload_n 1, 1) := by decide +kernel
theorem dX4_build_36 : decode cX4_build 36 = .ok (.putfield 96, 3) := by decide +kernel
theorem dX4_build_39 : decode cX4_build 39 = .ok (.iload_n 2, 1) := by decide +kernel
theorem dX4_build_40 : decode cX4_build 40 = .ok (.ireturn, 1) := by decide +kernel
set_option maxRecDepth 20000 in
theorem ggX4_shade_X3_has : GoodIn wsX4_shade wsX3_has := goodIn_r _ [6, 7, 30, 31, 32, 33, 34, 35] (by decide +kernel) (by decide +kernel)
set_option maxRecDepth 20000 in
theorem gX4_shade_X3_has : GoodIn wsX4_shade (wsV RX4 76 RX3 yX3_has wsX3_has) := goodIn_app (goodIn_of _ (by decide +kernel)) ggX4_shade_X3_has
set_option maxRecDepth 20000 in
theorem ggX4_shade_X4_isSun : GoodIn wsX4_shade wsX4_isSun := goodIn_r _ [11] (by decide +kernel) (by decide +kernel)
set_option maxRecDepth 20000 in
theorem gX4_shade_X4_isSun : GoodIn wsX4_shade (va_wsS RX4 99 yX4_isSun wsX4_isSun) := goodIn_app (goodIn_of _ (by decide +kernel)) ggX4_shade_X4_isSun
set_option maxRecDepth 20000 in
theorem ggX4_shade_X3_shadeOf : GoodIn wsX4_shade wsX3_shadeOf := goodIn_r _ [15, 16, 17, 18, 19, 20, 21, 22, 3, 4, 5, 6, 7, 30, 31, 32, 33, 34, 35] (by decide +kernel) (by decide +kernel)
set_option maxRecDepth 20000 in
theorem gX4_shade_X3_shadeOf : GoodIn wsX4_shade (wsV RX4 102 RX3 yX3_shadeOf wsX3_shadeOf) := goodIn_app (goodIn_of _ (by decide +kernel)) ggX4_shade_X3_shadeOf
theorem dX4_shade_0 : decode cX4_shade 0 = .ok (.aload_n 0, 1) := by decide +kernel
theorem dX4_shade_1 : decode cX4_shade 1 = .ok (.getfield 14, 3) := by decide +kernel
theorem dX4_shade_4 : decode cX4_shade 4 = .ok (.iload_n 1, 1) := by decide +kernel
theorem dX4_shade_5 : decode cX4_shade 5 = .ok (.invokevirtual 76, 3) := by decide +kernel
theorem dX4_shade_8 : decode cX4_shade 8 = .ok (.ifCond .ne 5, 3) := by decide +kernel
theorem dX4_shade_11 : decode cX4_shade 11 = .ok (.iconst (-1), 1) := by decide +kernel
theorem dX4_shade_12 : decode cX4_shade 12 = .ok (.ireturn, 1) := by decide +kernel
theorem dX4_shade_13 : decode cX4_shade 13 = .ok (.iload_n 2, 1) := by decide +kernel
theorem dX4_shade_14 : decode cX4_shade 14 = .ok (.invokestatic 99, 3) := by decide +kernel
theorem dX4_shade_17 : decode cX4_shade 17 = .ok (.ifCond .eq 15, 3) := by decide +kernel
theorem dX4_shade_20 : decode cX4_shade 20 = .ok (.aload_n 0, 1) := by decide +kernel
theorem dX4_shade_21 : decode cX4_shade 21 = .ok (.getfield 14, 3) := by decide +kernel
theorem dX4_shade_24 : decode cX4_shade 24 = .ok (.iload_n 1, 1) := by decide +kernel
theorem dX4_shade_25 : decode cX4_shade 25 = .ok (.iload_n 2, 1) := by decide +kernel
theorem dX4_shade_26 : decode cX4_shade 26 = .ok (.invokevirtual 102, 3) := by decide +kernel
theorem dX4_shade_29 : decode cX4_shade 29 = .ok (.goto 5, 3) := by decide +kernel
theorem dX4_shade_32 : decode cX4_shade 32 = .ok (.bipush (-2), 2) := by decide +kernel
theorem dX4_shade_34 : decode cX4_shade 34 = .ok (.ireturn, 1) := by decide +kernel
set_option maxRecDepth 20000 in
theorem ggX4_hidden_X4_refusalAt : GoodIn wsX4_hidden wsX4_refusalAt := goodIn_r _ [6, 1, 7, 8, 5, 9, 10, 11, 12, 13, 14, 15, 30, 31, 32, 33, 34, 35, 36, 37, 38, 39, 40, 41, 42] (by decide +kernel) (by decide +kernel)
set_option maxRecDepth 20000 in
theorem gX4_hidden_X4_refusalAt : GoodIn wsX4_hidden (wsV RX4 106 RX4 yX4_refusalAt wsX4_refusalAt) := goodIn_app (goodIn_of _ (by decide +kernel)) ggX4_hidden_X4_refusalAt
set_option maxRecDepth 20000 in
theorem ggX4_hidden_X3_hiddenSet : GoodIn wsX4_hidden wsX3_hiddenSet := goodIn_r _ [19, 20, 21, 22, 23, 13, 24, 15, 25, 26, 27, 28, 29, 37, 38, 39, 40, 41, 42] (by decide +kernel) (by decide +kernel)
set_option maxRecDepth 20000 in
theorem gX4_hidden_X3_hiddenSet : GoodIn wsX4_hidden (wsV RX4 109 RX3 yX3_hiddenSet wsX3_hiddenSet) := goodIn_app (goodIn_of _ (by decide +kernel)) ggX4_hidden_X3_hiddenSet
theorem dX4_hidden_0 : decode cX4_hidden 0 = .ok (.aload_n 0, 1) := by decide +kernel
theorem dX4_hidden_1 : decode cX4_hidden 1 = .ok (.iload_n 1, 1) := by decide +kernel
theorem dX4_hidden_2 : decode cX4_hidden 2 = .ok (.invokevirtual 106, 3) := by decide +kernel
theorem dX4_hidden_5 : decode cX4_hidden 5 = .ok (.istore_n 2, 1) := by decide +kernel
theorem dX4_hidden_6 : decode cX4_hidden 6 = .ok (.iload_n 2, 1) := by decide +kernel
theorem dX4_hidden_7 : decode cX4_hidden 7 = .ok (.ifCond .eq 7, 3) := by decide +kernel
theorem dX4_hidden_10 : decode cX4_hidden 10 = .ok (.iload_n 2, 1) := by decide +kernel
theorem dX4_hidden_11 : decode cX4_hidden 11 = .ok (.goto 11, 3) := by decide +kernel
theorem dX4_hidden_14 : decode cX4_hidden 14 = .ok (.aload_n 0, 1) := by decide +kernel
theorem dX4_hidden_15 : decode cX4_hidden 15 = .ok (.getfield 14, 3) := by decide +kernel
theorem dX4_hidden_18 : decode cX4_hidden 18 = .ok (.iload_n 1, 1) := by decide +kernel
theorem dX4_hidden_19 : decode cX4_hidden 19 = .ok (.invokevirtual 109, 3) := by decide +kernel
theorem dX4_hidden_22 : decode cX4_hidden 22 = .ok (.ireturn, 1) := by decide +kernel
set_option maxRecDepth 20000 in
theorem ggX4_census_X4_refusalAt : GoodIn wsX4_census wsX4_refusalAt := goodIn_r _ [6, 1, 7, 8, 5, 9, 10, 11, 12, 13, 14, 15, 69, 70, 71, 72, 73, 74, 75, 76, 77, 78, 79, 80, 81] (by decide +kernel) (by decide +kernel)
set_option maxRecDepth 20000 in
theorem gX4_census_X4_refusalAt : GoodIn wsX4_census (wsV RX4 106 RX4 yX4_refusalAt wsX4_refusalAt) := goodIn_app (goodIn_of _ (by decide +kernel)) ggX4_census_X4_refusalAt
set_option maxRecDepth 20000 in
theorem ggX4_census_X3_everyone : GoodIn wsX4_census wsX3_everyone := goodIn_r _ [19, 15, 76, 77, 78, 79, 80, 81] (by decide +kernel) (by decide +kernel)
set_option maxRecDepth 20000 in
theorem gX4_census_X3_everyone : GoodIn wsX4_census (wsV RX4 112 RX3 yX3_everyone wsX3_everyone) := goodIn_app (goodIn_of _ (by decide +kernel)) ggX4_census_X3_everyone
set_option maxRecDepth 20000 in
theorem ggX4_census_X4_countedOn : GoodIn wsX4_census wsX4_countedOn := goodIn_r _ [23, 24, 25, 26, 27, 28, 29, 13, 30, 31, 32, 33, 34, 35, 36, 37, 38, 39, 15, 40, 41, 42, 43, 44, 45, 46, 47, 48, 49, 50, 51, 52, 53, 54, 55, 56, 57, 58, 59, 60, 61, 62, 63, 64, 65, 66, 67, 68, 69, 70, 71, 72, 73, 74, 75, 76, 77, 78, 79, 80, 81, 82, 83, 84, 85] (by decide +kernel) (by decide +kernel)
set_option maxRecDepth 20000 in
theorem gX4_census_X4_countedOn : GoodIn wsX4_census (wsV RX4 116 RX4 yX4_countedOn wsX4_countedOn) := goodIn_app (goodIn_of _ (by decide +kernel)) ggX4_census_X4_countedOn
theorem dX4_census_0 : decode cX4_census 0 = .ok (.aload_n 0, 1) := by decide +kernel
theorem dX4_census_1 : decode cX4_census 1 = .ok (.iload_n 1, 1) := by decide +kernel
theorem dX4_census_2 : decode cX4_census 2 = .ok (.invokevirtual 106, 3) := by decide +kernel
theorem dX4_census_5 : decode cX4_census 5 = .ok (.istore_n 2, 1) := by decide +kernel
theorem dX4_census_6 : decode cX4_census 6 = .ok (.iload_n 2, 1) := by decide +kernel
theorem dX4_census_7 : decode cX4_census 7 = .ok (.ifCond .eq 7, 3) := by decide +kernel
theorem dX4_census_10 : decode cX4_census 10 = .ok (.iload_n 2, 1) := by decide +kernel
theorem dX4_census_11 : decode cX4_census 11 = .ok (.goto 19, 3) := by decide +kernel
theorem dX4_census_14 : decode cX4_census 14 = .ok (.aload_n 0, 1) := by decide +kernel
theorem dX4_census_15 : decode cX4_census 15 = .ok (.aload_n 0, 1) := by decide +kernel
theorem dX4_census_16 : decode cX4_census 16 = .ok (.getfield 14, 3) := by decide +kernel
theorem dX4_census_19 : decode cX4_census 19 = .ok (.iload_n 1, 1) := by decide +kernel
theorem dX4_census_20 : decode cX4_census 20 = .ok (.aload_n 0, 1) := by decide +kernel
theorem dX4_census_21 : decode cX4_census 21 = .ok (.getfield 14, 3) := by decide +kernel
theorem dX4_census_24 : decode cX4_census 24 = .ok (.invokevirtual 112, 3) := by decide +kernel
theorem dX4_census_27 : decode cX4_census 27 = .ok (.invokevirtual 116, 3) := by decide +kernel
theorem dX4_census_30 : decode cX4_census 30 = .ok (.ireturn, 1) := by decide +kernel
set_option maxRecDepth 20000 in
theorem ggX4_runs_X4_refusalAt : GoodIn wsX4_runs wsX4_refusalAt := goodIn_r _ [11, 2, 12, 13, 10, 14, 15, 16, 17, 18, 19, 20, 67, 68, 69, 70, 71, 72, 73, 74, 75, 76, 77, 78, 79] (by decide +kernel) (by decide +kernel)
set_option maxRecDepth 20000 in
theorem gX4_runs_X4_refusalAt : GoodIn wsX4_runs (wsV RX4 106 RX4 yX4_refusalAt wsX4_refusalAt) := goodIn_app (goodIn_of _ (by decide +kernel)) ggX4_runs_X4_refusalAt
set_option maxRecDepth 20000 in
theorem ggX4_runs_X3_everyone : GoodIn wsX4_runs wsX3_everyone := goodIn_r _ [24, 20, 74, 75, 76, 77, 78, 79] (by decide +kernel) (by decide +kernel)
set_option maxRecDepth 20000 in
theorem gX4_runs_X3_everyone : GoodIn wsX4_runs (wsV RX4 112 RX3 yX3_everyone wsX3_everyone) := goodIn_app (goodIn_of _ (by decide +kernel)) ggX4_runs_X3_everyone
set_option maxRecDepth 20000 in
theorem ggX4_runs_X3_darkFeet : GoodIn wsX4_runs wsX3_darkFeet := goodIn_r _ [28, 29, 30, 31, 32, 18, 33, 34, 35, 36, 37, 20, 38, 39, 40, 41, 42, 43, 44, 45, 46, 47, 48, 49, 50, 51, 52, 74, 75, 76, 77, 78, 79] (by decide +kernel) (by decide +kernel)
set_option maxRecDepth 20000 in
theorem gX4_runs_X3_darkFeet : GoodIn wsX4_runs (wsV RX4 120 RX3 yX3_darkFeet wsX3_darkFeet) := goodIn_app (goodIn_of _ (by decide +kernel)) ggX4_runs_X3_darkFeet
set_option maxRecDepth 20000 in
theorem ggX4_runs_X1_measure : GoodIn wsX4_runs wsX1_measure := goodIn_r _ [57, 58, 59, 60, 61, 62, 63, 64, 56, 65, 66, 50, 51, 52, 80, 81, 82, 83] (by decide +kernel) (by decide +kernel)
set_option maxRecDepth 20000 in
theorem gX4_runs_X1_measure : GoodIn wsX4_runs (wsV RX4 127 RX1 yX1_measure wsX1_measure) := goodIn_app (goodIn_of _ (by decide +kernel)) ggX4_runs_X1_measure
theorem dX4_runs_0 : decode cX4_runs 0 = .ok (.iload_n 2, 1) := by decide +kernel
theorem dX4_runs_1 : decode cX4_runs 1 = .ok (.ifCond .lt 8, 3) := by decide +kernel
theorem dX4_runs_4 : decode cX4_runs 4 = .ok (.iload_n 2, 1) := by decide +kernel
theorem dX4_runs_5 : decode cX4_runs 5 = .ok (.iconst 2, 1) := by decide +kernel
theorem dX4_runs_6 : decode cX4_runs 6 = .ok (.if_icmp .le 6, 3) := by decide +kernel
theorem dX4_runs_9 : decode cX4_runs 9 = .ok (.bipush (-2), 2) := by decide +kernel
theorem dX4_runs_11 : decode cX4_runs 11 = .ok (.ireturn, 1) := by decide +kernel
theorem dX4_runs_12 : decode cX4_runs 12 = .ok (.aload_n 0, 1) := by decide +kernel
theorem dX4_runs_13 : decode cX4_runs 13 = .ok (.iload_n 1, 1) := by decide +kernel
theorem dX4_runs_14 : decode cX4_runs 14 = .ok (.invokevirtual 106, 3) := by decide +kernel
theorem dX4_runs_17 : decode cX4_runs 17 = .ok (.istore_n 3, 1) := by decide +kernel
theorem dX4_runs_18 : decode cX4_runs 18 = .ok (.iload_n 3, 1) := by decide +kernel
theorem dX4_runs_19 : decode cX4_runs 19 = .ok (.ifCond .eq 5, 3) := by decide +kernel
theorem dX4_runs_22 : decode cX4_runs 22 = .ok (.iload_n 3, 1) := by decide +kernel
theorem dX4_runs_23 : decode cX4_runs 23 = .ok (.ireturn, 1) := by decide +kernel
theorem dX4_runs_24 : decode cX4_runs 24 = .ok (.aload_n 0, 1) := by decide +kernel
theorem dX4_runs_25 : decode cX4_runs 25 = .ok (.getfield 24, 3) := by decide +kernel
theorem dX4_runs_28 : decode cX4_runs 28 = .ok (.aload_n 0, 1) := by decide +kernel
theorem dX4_runs_29 : decode cX4_runs 29 = .ok (.getfield 14, 3) := by decide +kernel
theorem dX4_runs_32 : decode cX4_runs 32 = .ok (.iload_n 1, 1) := by decide +kernel
theorem dX4_runs_33 : decode cX4_runs 33 = .ok (.aload_n 0, 1) := by decide +kernel
theorem dX4_runs_34 : decode cX4_runs 34 = .ok (.getfield 14, 3) := by decide +kernel
theorem dX4_runs_37 : decode cX4_runs 37 = .ok (.invokevirtual 112, 3) := by decide +kernel
theorem dX4_runs_40 : decode cX4_runs 40 = .ok (.invokevirtual 120, 3) := by decide +kernel
theorem dX4_runs_43 : decode cX4_runs 43 = .ok (.aload_n 0, 1) := by decide +kernel
theorem dX4_runs_44 : decode cX4_runs 44 = .ok (.getfield 14, 3) := by decide +kernel
theorem dX4_runs_47 : decode cX4_runs 47 = .ok (.getfield 124, 3) := by decide +kernel
theorem dX4_runs_50 : decode cX4_runs 50 = .ok (.invokevirtual 127, 3) := by decide +kernel
theorem dX4_runs_53 : decode cX4_runs 53 = .ok (.iload_n 2, 1) := by decide +kernel
theorem dX4_runs_54 : decode cX4_runs 54 = .ok (.lookupswitch 42 #[(0, 26), (1, 34)], 26) := by decide +kernel
theorem dX4_runs_80 : decode cX4_runs 80 = .ok (.aload_n 0, 1) := by decide +kernel
theorem dX4_runs_81 : decode cX4_runs 81 = .ok (.getfield 24, 3) := by decide +kernel
theorem dX4_runs_84 : decode cX4_runs 84 = .ok (.getfield 131, 3) := by decide +kernel
theorem dX4_runs_87 : decode cX4_runs 87 = .ok (.ireturn, 1) := by decide +kernel
theorem dX4_runs_88 : decode cX4_runs 88 = .ok (.aload_n 0, 1) := by decide +kernel
theorem dX4_runs_89 : decode cX4_runs 89 = .ok (.getfield 24, 3) := by decide +kernel
theorem dX4_runs_92 : decode cX4_runs 92 = .ok (.getfield 134, 3) := by decide +kernel
theorem dX4_runs_95 : decode cX4_runs 95 = .ok (.ireturn, 1) := by decide +kernel
theorem dX4_runs_96 : decode cX4_runs 96 = .ok (.aload_n 0, 1) := by decide +kernel
theorem dX4_runs_97 : decode cX4_runs 97 = .ok (.getfield 24, 3) := by decide +kernel
theorem dX4_runs_100 : decode cX4_runs 100 = .ok (.getfield 137, 3) := by decide +kernel
theorem dX4_runs_103 : decode cX4_runs 103 = .ok (.ireturn, 1) := by decide +kernel
set_option maxRecDepth 20000 in
theorem ggX4_fair_X3_isLaid : GoodIn wsX4_fair wsX3_isLaid := goodIn_r _ [6, 7, 77, 78, 79, 80, 81, 82] (by decide +kernel) (by decide +kernel)
set_option maxRecDepth 20000 in
theorem gX4_fair_X3_isLaid : GoodIn wsX4_fair (wsV RX4 92 RX3 yX3_isLaid wsX3_isLaid) := goodIn_app (goodIn_of _ (by decide +kernel)) ggX4_fair_X3_isLaid
set_option maxRecDepth 20000 in
theorem ggX4_fair_X4_offAt : GoodIn wsX4_fair wsX4_offAt := goodIn_r _ [12, 1, 13, 14, 15, 16, 17, 18, 19, 20, 5, 21, 7, 22, 23, 24, 11, 25, 26, 27, 28, 29, 30, 31, 32, 33, 34, 35, 36, 37, 38, 39, 40, 41, 42, 43, 44, 45, 46, 47, 48, 49, 50, 51, 52, 53, 54, 55, 56, 57, 58, 59, 60, 61, 62, 63, 64, 65, 66, 67, 68, 69, 70, 71, 72, 73, 74, 75, 76, 77, 78, 79, 80, 81, 82, 83, 84, 85, 86] (by decide +kernel) (by decide +kernel)
set_option maxRecDepth 20000 in
theorem gX4_fair_X4_offAt : GoodIn wsX4_fair (wsV RX4 140 RX4 yX4_offAt wsX4_offAt) := goodIn_app (goodIn_of _ (by decide +kernel)) ggX4_fair_X4_offAt
theorem dX4_fair_0 : decode cX4_fair 0 = .ok (.aload_n 0, 1) := by decide +kernel
theorem dX4_fair_1 : decode cX4_fair 1 = .ok (.getfield 14, 3) := by decide +kernel
theorem dX4_fair_4 : decode cX4_fair 4 = .ok (.invokevirtual 92, 3) := by decide +kernel
theorem dX4_fair_7 : decode cX4_fair 7 = .ok (.ifCond .ne 6, 3) := by decide +kernel
theorem dX4_fair_10 : decode cX4_fair 10 = .ok (.bipush (-3), 2) := by decide +kernel
theorem dX4_fair_12 : decode cX4_fair 12 = .ok (.ireturn, 1) := by decide +kernel
theorem dX4_fair_13 : decode cX4_fair 13 = .ok (.iconst 1, 1) := by decide +kernel
theorem dX4_fair_14 : decode cX4_fair 14 = .ok (.istore_n 1, 1) := by decide +kernel
theorem dX4_fair_15 : decode cX4_fair 15 = .ok (.aload_n 0, 1) := by decide +kernel
theorem dX4_fair_16 : decode cX4_fair 16 = .ok (.iconst 1, 1) := by decide +kernel
theorem dX4_fair_17 : decode cX4_fair 17 = .ok (.invokevirtual 140, 3) := by decide +kernel
theorem dX4_fair_20 : decode cX4_fair 20 = .ok (.istore_n 2, 1) := by decide +kernel
theorem dX4_fair_21 : decode cX4_fair 21 = .ok (.iconst 2, 1) := by decide +kernel
theorem dX4_fair_22 : decode cX4_fair 22 = .ok (.istore_n 3, 1) := by decide +kernel
theorem dX4_fair_23 : decode cX4_fair 23 = .ok (.iload_n 3, 1) := by decide +kernel
theorem dX4_fair_24 : decode cX4_fair 24 = .ok (.iconst 3, 1) := by decide +kernel
theorem dX4_fair_25 : decode cX4_fair 25 = .ok (.if_icmp .gt 27, 3) := by decide +kernel
theorem dX4_fair_28 : decode cX4_fair 28 = .ok (.aload_n 0, 1) := by decide +kernel
theorem dX4_fair_29 : decode cX4_fair 29 = .ok (.iload_n 3, 1) := by decide +kernel
theorem dX4_fair_30 : decode cX4_fair 30 = .ok (.invokevirtual 140, 3) := by decide +kernel
theorem dX4_fair_33 : decode cX4_fair 33 = .ok (.istore 4, 2) := by decide +kernel
theorem dX4_fair_35 : decode cX4_fair 35 = .ok (.iload 4, 2) := by decide +kernel
theorem dX4_fair_37 : decode cX4_fair 37 = .ok (.iload_n 2, 1) := by decide +kernel
theorem dX4_fair_38 : decode cX4_fair 38 = .ok (.if_icmp .ge 8, 3) := by decide +kernel
theorem dX4_fair_41 : decode cX4_fair 41 = .ok (.iload_n 3, 1) := by decide +kernel
theorem dX4_fair_42 : decode cX4_fair 42 = .ok (.istore_n 1, 1) := by decide +kernel
theorem dX4_fair_43 : decode cX4_fair 43 = .ok (.iload 4, 2) := by decide +kernel
theorem dX4_fair_45 : decode cX4_fair 45 = .ok (.istore_n 2, 1) := by decide +kernel
theorem dX4_fair_46 : decode cX4_fair 46 = .ok (.iinc 3 1, 3) := by decide +kernel
theorem dX4_fair_49 : decode cX4_fair 49 = .ok (.goto (-26), 3) := by decide +kernel
theorem dX4_fair_52 : decode cX4_fair 52 = .ok (.iload_n 1, 1) := by decide +kernel
theorem dX4_fair_53 : decode cX4_fair 53 = .ok (.ireturn, 1) := by decide +kernel
set_option maxRecDepth 20000 in
theorem ggX4_walks_X4_sheetAt : GoodIn wsX4_walks wsX4_sheetAt := goodIn_r _ [7, 8, 133, 134, 135, 136, 137, 138, 139] (by decide +kernel) (by decide +kernel)
set_option maxRecDepth 20000 in
theorem gX4_walks_X4_sheetAt : GoodIn wsX4_walks (wsV RX4 46 RX4 yX4_sheetAt wsX4_sheetAt) := goodIn_app (goodIn_of _ (by decide +kernel)) ggX4_walks_X4_sheetAt
set_option maxRecDepth 20000 in
theorem ggX4_walks_X4_isSun : GoodIn wsX4_walks wsX4_isSun := goodIn_r _ [11] (by decide +kernel) (by decide +kernel)
set_option maxRecDepth 20000 in
theorem gX4_walks_X4_isSun : GoodIn wsX4_walks (va_wsS RX4 99 yX4_isSun wsX4_isSun) := goodIn_app (goodIn_of _ (by decide +kernel)) ggX4_walks_X4_isSun
set_option maxRecDepth 20000 in
theorem ggX4_walks_X4_isLane : GoodIn wsX4_walks wsX4_isLane := goodIn_r _ [14] (by decide +kernel) (by decide +kernel)
set_option maxRecDepth 20000 in
theorem gX4_walks_X4_isLane : GoodIn wsX4_walks (va_wsS RX4 50 yX4_isLane wsX4_isLane) := goodIn_app (goodIn_of _ (by decide +kernel)) ggX4_walks_X4_isLane
set_option maxRecDepth 20000 in
theorem ggX4_walks_X4_isAskedOfWalks : GoodIn wsX4_walks wsX4_isAskedOfWalks := goodIn_r _ [17] (by decide +kernel) (by decide +kernel)
set_option maxRecDepth 20000 in
theorem gX4_walks_X4_isAskedOfWalks : GoodIn wsX4_walks (va_wsS RX4 143 yX4_isAskedOfWalks wsX4_isAskedOfWalks) := goodIn_app (goodIn_of _ (by decide +kernel)) ggX4_walks_X4_isAskedOfWalks
set_option maxRecDepth 20000 in
theorem ggX4_walks_X2_faultAs : GoodIn wsX4_walks wsX2_faultAs := goodIn_r _ [22, 23, 24, 140, 141, 142, 143] (by decide +kernel) (by decide +kernel)
set_option maxRecDepth 20000 in
theorem gX4_walks_X2_faultAs : GoodIn wsX4_walks (wsV RX4 54 RX2 yX2_faultAs wsX2_faultAs) := goodIn_app (goodIn_of _ (by decide +kernel)) ggX4_walks_X2_faultAs
set_option maxRecDepth 20000 in
theorem ggX4_walks_X2_holds : GoodIn wsX4_walks wsX2_holds := goodIn_r _ [28, 29, 140, 141, 142, 143] (by decide +kernel) (by decide +kernel)
set_option maxRecDepth 20000 in
theorem gX4_walks_X2_holds : GoodIn wsX4_walks (wsV RX4 58 RX2 yX2_holds wsX2_holds) := goodIn_app (goodIn_of _ (by decide +kernel)) ggX4_walks_X2_holds
set_option maxRecDepth 20000 in
theorem ggX4_walks_X4_failed : GoodIn wsX4_walks wsX4_failed := goodIn_r _ [33, 1, 133, 134, 135, 136, 137, 138, 139] (by decide +kernel) (by decide +kernel)
set_option maxRecDepth 20000 in
theorem gX4_walks_X4_failed : GoodIn wsX4_walks (wsV RX4 62 RX4 yX4_failed wsX4_failed) := goodIn_app (goodIn_of _ (by decide +kernel)) ggX4_walks_X4_failed
set_option maxRecDepth 20000 in
theorem ggX4_walks_X3_isLaid : GoodIn wsX4_walks wsX3_isLaid := goodIn_r _ [38, 39, 144, 145, 146, 147, 148, 149] (by decide +kernel) (by decide +kernel)
set_option maxRecDepth 20000 in
theorem gX4_walks_X3_isLaid : GoodIn wsX4_walks (wsV RX4 92 RX3 yX3_isLaid wsX3_isLaid) := goodIn_app (goodIn_of _ (by decide +kernel)) ggX4_walks_X3_isLaid
set_option maxRecDepth 20000 in
theorem ggX4_walks_X4_refusalOfPairs : GoodIn wsX4_walks wsX4_refusalOfPairs := goodIn_r _ [43, 2, 44, 45, 46, 21, 47, 48, 49, 50, 51, 52, 29, 53, 54, 55, 37, 56, 39, 57, 58, 6, 59, 133, 134, 135, 136, 137, 138, 139, 140, 141, 142, 143, 144, 145, 146, 147, 148, 149] (by decide +kernel) (by decide +kernel)
set_option maxRecDepth 20000 in
theorem gX4_walks_X4_refusalOfPairs : GoodIn wsX4_walks (wsV RX4 146 RX4 yX4_refusalOfPairs wsX4_refusalOfPairs) := goodIn_app (goodIn_of _ (by decide +kernel)) ggX4_walks_X4_refusalOfPairs
set_option maxRecDepth 20000 in
theorem ggX4_walks_X4_walkOnTrial : GoodIn wsX4_walks wsX4_walkOnTrial := goodIn_r _ [63, 64, 2, 65, 66, 67, 68, 69, 70, 71, 72, 37, 73, 74, 75, 76, 39, 77, 78, 44, 45, 46, 21, 47, 48, 49, 50, 51, 52, 29, 53, 54, 55, 56, 79, 80, 81, 82, 83, 133, 134, 135, 136, 137, 138, 139, 144, 145, 146, 147, 148, 149, 140, 141, 142, 143] (by decide +kernel) (by decide +kernel)
set_option maxRecDepth 20000 in
theorem gX4_walks_X4_walkOnTrial : GoodIn wsX4_walks (wsV RX4 149 RX4 yX4_walkOnTrial wsX4_walkOnTrial) := goodIn_app (goodIn_of _ (by decide +kernel)) ggX4_walks_X4_walkOnTrial
set_option maxRecDepth 20000 in
theorem ggX4_walks_X4_behindWalks : GoodIn wsX4_walks wsX4_behindWalks := goodIn_r _ [87, 64, 65, 88, 89, 90, 37, 91, 39, 92, 93, 94, 6, 95, 96, 97, 98, 99, 100, 101, 102, 75, 103, 104, 105, 106, 83, 54, 55, 56, 107, 108, 109, 110, 78, 111, 112, 113, 114, 76, 74, 115, 116, 68, 117, 118, 119, 120, 121, 122, 123, 124, 125, 126, 127, 128, 129, 130, 131, 132, 53, 133, 134, 135, 136, 137, 138, 139, 144, 145, 146, 147, 148, 149, 150, 151, 152, 153] (by decide +kernel) (by decide +kernel)
set_option maxRecDepth 20000 in
theorem gX4_walks_X4_behindWalks : GoodIn wsX4_walks (wsV RX4 152 RX4 yX4_behindWalks wsX4_behindWalks) := goodIn_app (goodIn_of _ (by decide +kernel)) ggX4_walks_X4_behindWalks
theorem dX4_walks_0 : decode cX4_walks 0 = .ok (.aload_n 0, 1) := by decide +kernel
theorem dX4_walks_1 : decode cX4_walks 1 = .ok (.iconst 0, 1) := by decide +kernel
theorem dX4_walks_2 : decode cX4_walks 2 = .ok (.putfield 42, 3) := by decide +kernel
theorem dX4_walks_5 : decode cX4_walks 5 = .ok (.aload_n 0, 1) := by decide +kernel
theorem dX4_walks_6 : decode cX4_walks 6 = .ok (.iload_n 2, 1) := by decide +kernel
theorem dX4_walks_7 : decode cX4_walks 7 = .ok (.invokevirtual 46, 3) := by decide +kernel
theorem dX4_walks_10 : decode cX4_walks 10 = .ok (.astore 7, 2) := by decide +kernel
theorem dX4_walks_12 : decode cX4_walks 12 = .ok (.aload 7, 2) := by decide +kernel
theorem dX4_walks_14 : decode cX4_walks 14 = .ok (.ifnonnull 5, 3) := by decide +kernel
theorem dX4_walks_17 : decode cX4_walks 17 = .ok (.iconst (-1), 1) := by decide +kernel
theorem dX4_walks_18 : decode cX4_walks 18 = .ok (.ireturn, 1) := by decide +kernel
theorem dX4_walks_19 : decode cX4_walks 19 = .ok (.iload_n 1, 1) := by decide +kernel
theorem dX4_walks_20 : decode cX4_walks 20 = .ok (.invokestatic 99, 3) := by decide +kernel
theorem dX4_walks_23 : decode cX4_walks 23 = .ok (.ifCond .eq 30, 3) := by decide +kernel
theorem dX4_walks_26 : decode cX4_walks 26 = .ok (.iload_n 3, 1) := by decide +kernel
theorem dX4_walks_27 : decode cX4_walks 27 = .ok (.invokestatic 50, 3) := by decide +kernel
theorem dX4_walks_30 : decode cX4_walks 30 = .ok (.ifCond .eq 23, 3) := by decide +kernel
theorem dX4_walks_33 : decode cX4_walks 33 = .ok (.iload 5, 2) := by decide +kernel
theorem dX4_walks_35 : decode cX4_walks 35 = .ok (.ifCond .lt 18, 3) := by decide +kernel
theorem dX4_walks_38 : decode cX4_walks 38 = .ok (.iload 5, 2) := by decide +kernel
theorem dX4_walks_40 : decode cX4_walks 40 = .ok (.bipush 20, 2) := by decide +kernel
theorem dX4_walks_42 : decode cX4_walks 42 = .ok (.if_icmp .gt 11, 3) := by decide +kernel
theorem dX4_walks_45 : decode cX4_walks 45 = .ok (.iload 6, 2) := by decide +kernel
theorem dX4_walks_47 : decode cX4_walks 47 = .ok (.invokestatic 143, 3) := by decide +kernel
theorem dX4_walks_50 : decode cX4_walks 50 = .ok (.ifCond .ne 6, 3) := by decide +kernel
theorem dX4_walks_53 : decode cX4_walks 53 = .ok (.bipush (-2), 2) := by decide +kernel
theorem dX4_walks_55 : decode cX4_walks 55 = .ok (.ireturn, 1) := by decide +kernel
theorem dX4_walks_56 : decode cX4_walks 56 = .ok (.aload 7, 2) := by decide +kernel
theorem dX4_walks_58 : decode cX4_walks 58 = .ok (.iload_n 3, 1) := by decide +kernel
theorem dX4_walks_59 : decode cX4_walks 59 = .ok (.invokevirtual 54, 3) := by decide +kernel
theorem dX4_walks_62 : decode cX4_walks 62 = .ok (.istore 8, 2) := by decide +kernel
theorem dX4_walks_64 : decode cX4_walks 64 = .ok (.iload 8, 2) := by decide +kernel
theorem dX4_walks_66 : decode cX4_walks 66 = .ok (.ifCond .ne 20, 3) := by decide +kernel
theorem dX4_walks_69 : decode cX4_walks 69 = .ok (.aload 7, 2) := by decide +kernel
theorem dX4_walks_71 : decode cX4_walks 71 = .ok (.iload 4, 2) := by decide +kernel
theorem dX4_walks_73 : decode cX4_walks 73 = .ok (.iconst 2, 1) := by decide +kernel
theorem dX4_walks_74 : decode cX4_walks 74 = .ok (.iload 5, 2) := by decide +kernel
theorem dX4_walks_76 : decode cX4_walks 76 = .ok (.imul, 1) := by decide +kernel
theorem dX4_walks_77 : decode cX4_walks 77 = .ok (.invokevirtual 58, 3) := by decide +kernel
theorem dX4_walks_80 : decode cX4_walks 80 = .ok (.ifCond .ne 6, 3) := by decide +kernel
theorem dX4_walks_83 : decode cX4_walks 83 = .ok (.iconst 3, 1) := by decide +kernel
theorem dX4_walks_84 : decode cX4_walks 84 = .ok (.istore 8, 2) := by decide +kernel
theorem dX4_walks_86 : decode cX4_walks 86 = .ok (.iload 8, 2) := by decide +kernel
theorem dX4_walks_88 : decode cX4_walks 88 = .ok (.ifCond .eq 10, 3) := by decide +kernel
theorem dX4_walks_91 : decode cX4_walks 91 = .ok (.aload_n 0, 1) := by decide +kernel
theorem dX4_walks_92 : decode cX4_walks 92 = .ok (.iload 8, 2) := by decide +kernel
theorem dX4_walks_94 : decode cX4_walks 94 = .ok (.invokevirtual 62, 3) := by decide +kernel
theorem dX4_walks_97 : decode cX4_walks 97 = .ok (.ireturn, 1) := by decide +kernel
theorem dX4_walks_98 : decode cX4_walks 98 = .ok (.aload_n 0, 1) := by decide +kernel
theorem dX4_walks_99 : decode cX4_walks 99 = .ok (.getfield 14, 3) := by decide +kernel
theorem dX4_walks_102 : decode cX4_walks 102 = .ok (.invokevirtual 92, 3) := by decide +kernel
theorem dX4_walks_105 : decode cX4_walks 105 = .ok (.ifCond .ne 6, 3) := by decide +kernel
theorem dX4_walks_108 : decode cX4_walks 108 = .ok (.bipush (-3), 2) := by decide +kernel
theorem dX4_walks_110 : decode cX4_walks 110 = .ok (.ireturn, 1) := by decide +kernel
theorem dX4_walks_111 : decode cX4_walks 111 = .ok (.aload_n 0, 1) := by decide +kernel
theorem dX4_walks_112 : decode cX4_walks 112 = .ok (.aload 7, 2) := by decide +kernel
theorem dX4_walks_114 : decode cX4_walks 114 = .ok (.iload 4, 2) := by decide +kernel
theorem dX4_walks_116 : decode cX4_walks 116 = .ok (.iload 5, 2) := by decide +kernel
theorem dX4_walks_118 : decode cX4_walks 118 = .ok (.invokevirtual 146, 3) := by decide +kernel
theorem dX4_walks_121 : decode cX4_walks 121 = .ok (.istore 9, 2) := by decide +kernel
theorem dX4_walks_123 : decode cX4_walks 123 = .ok (.iload 9, 2) := by decide +kernel
theorem dX4_walks_125 : decode cX4_walks 125 = .ok (.ifCond .eq 6, 3) := by decide +kernel
theorem dX4_walks_128 : decode cX4_walks 128 = .ok (.iload 9, 2) := by decide +kernel
theorem dX4_walks_130 : decode cX4_walks 130 = .ok (.ireturn, 1) := by decide +kernel
theorem dX4_walks_131 : decode cX4_walks 131 = .ok (.aload_n 0, 1) := by decide +kernel
theorem dX4_walks_132 : decode cX4_walks 132 = .ok (.iload_n 1, 1) := by decide +kernel
theorem dX4_walks_133 : decode cX4_walks 133 = .ok (.aload_n 0, 1) := by decide +kernel
theorem dX4_walks_134 : decode cX4_walks 134 = .ok (.aload 7, 2) := by decide +kernel
theorem dX4_walks_136 : decode cX4_walks 136 = .ok (.iload 4, 2) := by decide +kernel
theorem dX4_walks_138 : decode cX4_walks 138 = .ok (.iload 5, 2) := by decide +kernel
theorem dX4_walks_140 : decode cX4_walks 140 = .ok (.invokevirtual 149, 3) := by decide +kernel
theorem dX4_walks_143 : decode cX4_walks 143 = .ok (.iload 6, 2) := by decide +kernel
theorem dX4_walks_145 : decode cX4_walks 145 = .ok (.invokevirtual 152, 3) := by decide +kernel
theorem dX4_walks_148 : decode cX4_walks 148 = .ok (.ireturn, 1) := by decide +kernel
set_option maxRecDepth 20000 in
theorem ggX4_pair_X3_has : GoodIn wsX4_pair wsX3_has := goodIn_r _ [8, 9, 77, 78, 79, 80, 81, 82] (by decide +kernel) (by decide +kernel)
set_option maxRecDepth 20000 in
theorem gX4_pair_X3_has : GoodIn wsX4_pair (wsV RX4 76 RX3 yX3_has wsX3_has) := goodIn_app (goodIn_of _ (by decide +kernel)) ggX4_pair_X3_has
set_option maxRecDepth 20000 in
theorem ggX4_pair_X4_isSun : GoodIn wsX4_pair wsX4_isSun := goodIn_r _ [13] (by decide +kernel) (by decide +kernel)
set_option maxRecDepth 20000 in
theorem gX4_pair_X4_isSun : GoodIn wsX4_pair (va_wsS RX4 99 yX4_isSun wsX4_isSun) := goodIn_app (goodIn_of _ (by decide +kernel)) ggX4_pair_X4_isSun
set_option maxRecDepth 20000 in
theorem ggX4_pair_X3_becomeLike : GoodIn wsX4_pair wsX3_becomeLike := goodIn_r _ [17, 18, 19, 20, 9, 21, 22, 77, 78, 79, 80, 81, 82] (by decide +kernel) (by decide +kernel)
set_option maxRecDepth 20000 in
theorem gX4_pair_X3_becomeLike : GoodIn wsX4_pair (wsV RX4 156 RX3 yX3_becomeLike wsX3_becomeLike) := goodIn_app (goodIn_of _ (by decide +kernel)) ggX4_pair_X3_becomeLike
set_option maxRecDepth 20000 in
theorem ggX4_pair_X3_firstLitFoot : GoodIn wsX4_pair wsX3_firstLitFoot := goodIn_r _ [26, 22, 77, 78, 79, 80, 81, 82] (by decide +kernel) (by decide +kernel)
set_option maxRecDepth 20000 in
theorem gX4_pair_X3_firstLitFoot : GoodIn wsX4_pair (wsV RX4 160 RX3 yX3_firstLitFoot wsX3_firstLitFoot) := goodIn_app (goodIn_of _ (by decide +kernel)) ggX4_pair_X3_firstLitFoot
set_option maxRecDepth 20000 in
theorem ggX4_pair_X3_everyone : GoodIn wsX4_pair wsX3_everyone := goodIn_r _ [30, 9, 77, 78, 79, 80, 81, 82] (by decide +kernel) (by decide +kernel)
set_option maxRecDepth 20000 in
theorem gX4_pair_X3_everyone : GoodIn wsX4_pair (wsV RX4 112 RX3 yX3_everyone wsX3_everyone) := goodIn_app (goodIn_of _ (by decide +kernel)) ggX4_pair_X3_everyone
set_option maxRecDepth 20000 in
theorem ggX4_pair_X4_countedOn : GoodIn wsX4_pair wsX4_countedOn := goodIn_r _ [34, 35, 36, 37, 38, 39, 40, 7, 41, 19, 42, 43, 44, 45, 46, 5, 6, 8, 9, 47, 24, 25, 26, 22, 48, 49, 50, 51, 20, 18, 52, 53, 54, 55, 56, 57, 58, 59, 60, 61, 62, 63, 64, 65, 66, 67, 68, 69, 70, 71, 72, 73, 74, 75, 76, 77, 78, 79, 80, 81, 82, 83, 84, 85, 86] (by decide +kernel) (by decide +kernel)
set_option maxRecDepth 20000 in
theorem gX4_pair_X4_countedOn : GoodIn wsX4_pair (wsV RX4 116 RX4 yX4_countedOn wsX4_countedOn) := goodIn_app (goodIn_of _ (by decide +kernel)) ggX4_pair_X4_countedOn
theorem dX4_pair_0 : decode cX4_pair 0 = .ok (.aload_n 0, 1) := by decide +kernel
theorem dX4_pair_1 : decode cX4_pair 1 = .ok (.getfield 14, 3) := by decide +kernel
theorem dX4_pair_4 : decode cX4_pair 4 = .ok (.iload_n 1, 1) := by decide +kernel
theorem dX4_pair_5 : decode cX4_pair 5 = .ok (.invokevirtual 76, 3) := by decide +kernel
theorem dX4_pair_8 : decode cX4_pair 8 = .ok (.ifCond .eq 19, 3) := by decide +kernel
theorem dX4_pair_11 : decode cX4_pair 11 = .ok (.aload_n 0, 1) := by decide +kernel
theorem dX4_pair_12 : decode cX4_pair 12 = .ok (.getfield 14, 3) := by decide +kernel
theorem dX4_pair_15 : decode cX4_pair 15 = .ok (.iload_n 2, 1) := by decide +kernel
theorem dX4_pair_16 : decode cX4_pair 16 = .ok (.invokevirtual 76, 3) := by decide +kernel
theorem dX4_pair_19 : decode cX4_pair 19 = .ok (.ifCond .eq 8, 3) := by decide +kernel
theorem dX4_pair_22 : decode cX4_pair 22 = .ok (.iload_n 1, 1) := by decide +kernel
theorem dX4_pair_23 : decode cX4_pair 23 = .ok (.iload_n 2, 1) := by decide +kernel
theorem dX4_pair_24 : decode cX4_pair 24 = .ok (.if_icmp .ne 5, 3) := by decide +kernel
theorem dX4_pair_27 : decode cX4_pair 27 = .ok (.iconst (-1), 1) := by decide +kernel
theorem dX4_pair_28 : decode cX4_pair 28 = .ok (.ireturn, 1) := by decide +kernel
theorem dX4_pair_29 : decode cX4_pair 29 = .ok (.iload_n 3, 1) := by decide +kernel
theorem dX4_pair_30 : decode cX4_pair 30 = .ok (.invokestatic 99, 3) := by decide +kernel
theorem dX4_pair_33 : decode cX4_pair 33 = .ok (.ifCond .eq 14, 3) := by decide +kernel
theorem dX4_pair_36 : decode cX4_pair 36 = .ok (.iload 4, 2) := by decide +kernel
theorem dX4_pair_38 : decode cX4_pair 38 = .ok (.ifCond .lt 9, 3) := by decide +kernel
theorem dX4_pair_41 : decode cX4_pair 41 = .ok (.iload 4, 2) := by decide +kernel
theorem dX4_pair_43 : decode cX4_pair 43 = .ok (.iconst 2, 1) := by decide +kernel
theorem dX4_pair_44 : decode cX4_pair 44 = .ok (.if_icmp .le 6, 3) := by decide +kernel
theorem dX4_pair_47 : decode cX4_pair 47 = .ok (.bipush (-2), 2) := by decide +kernel
theorem dX4_pair_49 : decode cX4_pair 49 = .ok (.ireturn, 1) := by decide +kernel
theorem dX4_pair_50 : decode cX4_pair 50 = .ok (.aload_n 0, 1) := by decide +kernel
theorem dX4_pair_51 : decode cX4_pair 51 = .ok (.getfield 18, 3) := by decide +kernel
theorem dX4_pair_54 : decode cX4_pair 54 = .ok (.aload_n 0, 1) := by decide +kernel
theorem dX4_pair_55 : decode cX4_pair 55 = .ok (.getfield 14, 3) := by decide +kernel
theorem dX4_pair_58 : decode cX4_pair 58 = .ok (.invokevirtual 156, 3) := by decide +kernel
theorem dX4_pair_61 : decode cX4_pair 61 = .ok (.bipush (-9), 2) := by decide +kernel
theorem dX4_pair_63 : decode cX4_pair 63 = .ok (.istore 5, 2) := by decide +kernel
theorem dX4_pair_65 : decode cX4_pair 65 = .ok (.bipush (-9), 2) := by decide +kernel
theorem dX4_pair_67 : decode cX4_pair 67 = .ok (.istore 6, 2) := by decide +kernel
theorem dX4_pair_69 : decode cX4_pair 69 = .ok (.bipush (-9), 2) := by decide +kernel
theorem dX4_pair_71 : decode cX4_pair 71 = .ok (.istore 7, 2) := by decide +kernel
theorem dX4_pair_73 : decode cX4_pair 73 = .ok (.aload_n 0, 1) := by decide +kernel
theorem dX4_pair_74 : decode cX4_pair 74 = .ok (.getfield 14, 3) := by decide +kernel
theorem dX4_pair_77 : decode cX4_pair 77 = .ok (.iload_n 3, 1) := by decide +kernel
theorem dX4_pair_78 : decode cX4_pair 78 = .ok (.invokevirtual 160, 3) := by decide +kernel
theorem dX4_pair_81 : decode cX4_pair 81 = .ok (.istore 8, 2) := by decide +kernel
theorem dX4_pair_83 : decode cX4_pair 83 = .ok (.iload 8, 2) := by decide +kernel
theorem dX4_pair_85 : decode cX4_pair 85 = .ok (.bipush 9, 2) := by decide +kernel
theorem dX4_pair_87 : decode cX4_pair 87 = .ok (.if_icmp .gt 98, 3) := by decide +kernel
theorem dX4_pair_90 : decode cX4_pair 90 = .ok (.aload_n 0, 1) := by decide +kernel
theorem dX4_pair_91 : decode cX4_pair 91 = .ok (.getfield 14, 3) := by decide +kernel
theorem dX4_pair_94 : decode cX4_pair 94 = .ok (.iload_n 3, 1) := by decide +kernel
theorem dX4_pair_95 : decode cX4_pair 95 = .ok (.invokevirtual 160, 3) := by decide +kernel
theorem dX4_pair_98 : decode cX4_pair 98 = .ok (.istore 9, 2) := by decide +kernel
theorem dX4_pair_100 : decode cX4_pair 100 = .ok (.iload 9, 2) := by decide +kernel
theorem dX4_pair_102 : decode cX4_pair 102 = .ok (.bipush 9, 2) := by decide +kernel
theorem dX4_pair_104 : decode cX4_pair 104 = .ok (.if_icmp .gt 75, 3) := by decide +kernel
theorem dX4_pair_107 : decode cX4_pair 107 = .ok (.aload_n 0, 1) := by decide +kernel
theorem dX4_pair_108 : decode cX4_pair 108 = .ok (.getfield 18, 3) := by decide +kernel
theorem dX4_pair_111 : decode cX4_pair 111 = .ok (.getfield 83, 3) := by decide +kernel
theorem dX4_pair_114 : decode cX4_pair 114 = .ok (.iload_n 1, 1) := by decide +kernel
theorem dX4_pair_115 : decode cX4_pair 115 = .ok (.iload 8, 2) := by decide +kernel
theorem dX4_pair_117 : decode cX4_pair 117 = .ok (.iastore, 1) := by decide +kernel
theorem dX4_pair_118 : decode cX4_pair 118 = .ok (.aload_n 0, 1) := by decide +kernel
theorem dX4_pair_119 : decode cX4_pair 119 = .ok (.getfield 18, 3) := by decide +kernel
theorem dX4_pair_122 : decode cX4_pair 122 = .ok (.getfield 83, 3) := by decide +kernel
theorem dX4_pair_125 : decode cX4_pair 125 = .ok (.iload_n 2, 1) := by decide +kernel
theorem dX4_pair_126 : decode cX4_pair 126 = .ok (.iload 9, 2) := by decide +kernel
theorem dX4_pair_128 : decode cX4_pair 128 = .ok (.iastore, 1) := by decide +kernel
theorem dX4_pair_129 : decode cX4_pair 129 = .ok (.aload_n 0, 1) := by decide +kernel
theorem dX4_pair_130 : decode cX4_pair 130 = .ok (.aload_n 0, 1) := by decide +kernel
theorem dX4_pair_131 : decode cX4_pair 131 = .ok (.getfield 18, 3) := by decide +kernel
theorem dX4_pair_134 : decode cX4_pair 134 = .ok (.iload_n 3, 1) := by decide +kernel
theorem dX4_pair_135 : decode cX4_pair 135 = .ok (.aload_n 0, 1) := by decide +kernel
theorem dX4_pair_136 : decode cX4_pair 136 = .ok (.getfield 18, 3) := by decide +kernel
theorem dX4_pair_139 : decode cX4_pair 139 = .ok (.invokevirtual 112, 3) := by decide +kernel
theorem dX4_pair_142 : decode cX4_pair 142 = .ok (.invokevirtual 116, 3) := by decide +kernel
theorem dX4_pair_145 : decode cX4_pair 145 = .ok (.istore 10, 2) := by decide +kernel
theorem dX4_pair_147 : decode cX4_pair 147 = .ok (.iload 5, 2) := by decide +kernel
theorem dX4_pair_149 : decode cX4_pair 149 = .ok (.bipush (-9), 2) := by decide +kernel
theorem dX4_pair_151 : decode cX4_pair 151 = .ok (.if_icmp .eq 10, 3) := by decide +kernel
theorem dX4_pair_154 : decode cX4_pair 154 = .ok (.iload 10, 2) := by decide +kernel
theorem dX4_pair_156 : decode cX4_pair 156 = .ok (.iload 5, 2) := by decide +kernel
theorem dX4_pair_158 : decode cX4_pair 158 = .ok (.if_icmp .ge 15, 3) := by decide +kernel
theorem dX4_pair_161 : decode cX4_pair 161 = .ok (.iload 10, 2) := by decide +kernel
theorem dX4_pair_163 : decode cX4_pair 163 = .ok (.istore 5, 2) := by decide +kernel
theorem dX4_pair_165 : decode cX4_pair 165 = .ok (.iload 8, 2) := by decide +kernel
theorem dX4_pair_167 : decode cX4_pair 167 = .ok (.istore 6, 2) := by decide +kernel
theorem dX4_pair_169 : decode cX4_pair 169 = .ok (.iload 9, 2) := by decide +kernel
theorem dX4_pair_171 : decode cX4_pair 171 = .ok (.istore 7, 2) := by decide +kernel
theorem dX4_pair_173 : decode cX4_pair 173 = .ok (.iinc 9 1, 3) := by decide +kernel
theorem dX4_pair_176 : decode cX4_pair 176 = .ok (.goto (-76), 3) := by decide +kernel
theorem dX4_pair_179 : decode cX4_pair 179 = .ok (.iinc 8 1, 3) := by decide +kernel
theorem dX4_pair_182 : decode cX4_pair 182 = .ok (.goto (-99), 3) := by decide +kernel
theorem dX4_pair_185 : decode cX4_pair 185 = .ok (.iload 4, 2) := by decide +kernel
theorem dX4_pair_187 : decode cX4_pair 187 = .ok (.lookupswitch 31 #[(0, 25), (1, 28)], 25) := by decide +kernel
theorem dX4_pair_212 : decode cX4_pair 212 = .ok (.iload 5, 2) := by decide +kernel
theorem dX4_pair_214 : decode cX4_pair 214 = .ok (.ireturn, 1) := by decide +kernel
theorem dX4_pair_215 : decode cX4_pair 215 = .ok (.iload 6, 2) := by decide +kernel
theorem dX4_pair_217 : decode cX4_pair 217 = .ok (.ireturn, 1) := by decide +kernel
theorem dX4_pair_218 : decode cX4_pair 218 = .ok (.iload 7, 2) := by decide +kernel
theorem dX4_pair_220 : decode cX4_pair 220 = .ok (.ireturn, 1) := by decide +kernel
set_option maxRecDepth 20000 in
theorem ggX4_send_X4_refusalOfCount : GoodIn wsX4_send wsX4_refusalOfCount := goodIn_r _ [6, 7, 8, 9, 5, 10, 1, 11, 12, 13, 14, 15, 16, 17, 18, 19, 80, 81, 82, 83, 84, 85, 86, 87, 88, 89, 90, 91, 92] (by decide +kernel) (by decide +kernel)
set_option maxRecDepth 20000 in
theorem gX4_send_X4_refusalOfCount : GoodIn wsX4_send (wsV RX4 163 RX4 yX4_refusalOfCount wsX4_refusalOfCount) := goodIn_app (goodIn_of _ (by decide +kernel)) ggX4_send_X4_refusalOfCount
set_option maxRecDepth 20000 in
theorem ggX4_send_X3_everyone : GoodIn wsX4_send wsX3_everyone := goodIn_r _ [23, 19, 87, 88, 89, 90, 91, 92] (by decide +kernel) (by decide +kernel)
set_option maxRecDepth 20000 in
theorem gX4_send_X3_everyone : GoodIn wsX4_send (wsV RX4 112 RX3 yX3_everyone wsX3_everyone) := goodIn_app (goodIn_of _ (by decide +kernel)) ggX4_send_X3_everyone
set_option maxRecDepth 20000 in
theorem ggX4_send_J6_bitCount_0f7a4 : GoodIn wsX4_send wsJ6_bitCount_0f7a4 := goodIn_r _ [27, 28, 29, 30] (by decide +kernel) (by decide +kernel)
set_option maxRecDepth 20000 in
theorem gX4_send_J6_bitCount_0f7a4 : GoodIn wsX4_send (va_wsS RX4 166 yJ6_bitCount_0f7a4 wsJ6_bitCount_0f7a4) := goodIn_app (goodIn_of _ (by decide +kernel)) ggX4_send_J6_bitCount_0f7a4
set_option maxRecDepth 20000 in
theorem ggX4_send_X4_countedOn : GoodIn wsX4_send wsX4_countedOn := goodIn_r _ [34, 35, 36, 37, 38, 39, 40, 17, 41, 42, 43, 44, 45, 46, 47, 48, 49, 50, 19, 51, 52, 53, 54, 55, 56, 57, 58, 59, 60, 61, 62, 63, 64, 65, 66, 67, 68, 69, 70, 71, 72, 73, 74, 75, 76, 77, 78, 79, 80, 81, 82, 83, 84, 85, 86, 87, 88, 89, 90, 91, 92, 93, 94, 95, 96] (by decide +kernel) (by decide +kernel)
set_option maxRecDepth 20000 in
theorem gX4_send_X4_countedOn : GoodIn wsX4_send (wsV RX4 116 RX4 yX4_countedOn wsX4_countedOn) := goodIn_app (goodIn_of _ (by decide +kernel)) ggX4_send_X4_countedOn
theorem dX4_send_0 : decode cX4_send 0 = .ok (.aload_n 0, 1) := by decide +kernel
theorem dX4_send_1 : decode cX4_send 1 = .ok (.iload_n 1, 1) := by decide +kernel
theorem dX4_send_2 : decode cX4_send 2 = .ok (.iload_n 2, 1) := by decide +kernel
theorem dX4_send_3 : decode cX4_send 3 = .ok (.invokevirtual 163, 3) := by decide +kernel
theorem dX4_send_6 : decode cX4_send 6 = .ok (.istore_n 3, 1) := by decide +kernel
theorem dX4_send_7 : decode cX4_send 7 = .ok (.iload_n 3, 1) := by decide +kernel
theorem dX4_send_8 : decode cX4_send 8 = .ok (.ifCond .eq 5, 3) := by decide +kernel
theorem dX4_send_11 : decode cX4_send 11 = .ok (.iload_n 3, 1) := by decide +kernel
theorem dX4_send_12 : decode cX4_send 12 = .ok (.ireturn, 1) := by decide +kernel
theorem dX4_send_13 : decode cX4_send 13 = .ok (.aload_n 0, 1) := by decide +kernel
theorem dX4_send_14 : decode cX4_send 14 = .ok (.getfield 14, 3) := by decide +kernel
theorem dX4_send_17 : decode cX4_send 17 = .ok (.invokevirtual 112, 3) := by decide +kernel
theorem dX4_send_20 : decode cX4_send 20 = .ok (.istore 4, 2) := by decide +kernel
theorem dX4_send_22 : decode cX4_send 22 = .ok (.bipush (-9), 2) := by decide +kernel
theorem dX4_send_24 : decode cX4_send 24 = .ok (.istore 5, 2) := by decide +kernel
theorem dX4_send_26 : decode cX4_send 26 = .ok (.iconst 0, 1) := by decide +kernel
theorem dX4_send_27 : decode cX4_send 27 = .ok (.istore 6, 2) := by decide +kernel
theorem dX4_send_29 : decode cX4_send 29 = .ok (.iload 6, 2) := by decide +kernel
theorem dX4_send_31 : decode cX4_send 31 = .ok (.iload 4, 2) := by decide +kernel
theorem dX4_send_33 : decode cX4_send 33 = .ok (.if_icmp .gt 65, 3) := by decide +kernel
theorem dX4_send_36 : decode cX4_send 36 = .ok (.iload 5, 2) := by decide +kernel
theorem dX4_send_38 : decode cX4_send 38 = .ok (.bipush (-9), 2) := by decide +kernel
theorem dX4_send_40 : decode cX4_send 40 = .ok (.if_icmp .eq 16, 3) := by decide +kernel
theorem dX4_send_43 : decode cX4_send 43 = .ok (.iload 6, 2) := by decide +kernel
theorem dX4_send_45 : decode cX4_send 45 = .ok (.invokestatic 166, 3) := by decide +kernel
theorem dX4_send_48 : decode cX4_send 48 = .ok (.iload 5, 2) := by decide +kernel
theorem dX4_send_50 : decode cX4_send 50 = .ok (.invokestatic 166, 3) := by decide +kernel
theorem dX4_send_53 : decode cX4_send 53 = .ok (.if_icmp .ge 7, 3) := by decide +kernel
theorem dX4_send_56 : decode cX4_send 56 = .ok (.iconst 1, 1) := by decide +kernel
theorem dX4_send_57 : decode cX4_send 57 = .ok (.goto 4, 3) := by decide +kernel
theorem dX4_send_60 : decode cX4_send 60 = .ok (.iconst 0, 1) := by decide +kernel
theorem dX4_send_61 : decode cX4_send 61 = .ok (.istore 7, 2) := by decide +kernel
theorem dX4_send_63 : decode cX4_send 63 = .ok (.iload 7, 2) := by decide +kernel
theorem dX4_send_65 : decode cX4_send 65 = .ok (.ifCond .eq 27, 3) := by decide +kernel
theorem dX4_send_68 : decode cX4_send 68 = .ok (.aload_n 0, 1) := by decide +kernel
theorem dX4_send_69 : decode cX4_send 69 = .ok (.aload_n 0, 1) := by decide +kernel
theorem dX4_send_70 : decode cX4_send 70 = .ok (.getfield 14, 3) := by decide +kernel
theorem dX4_send_73 : decode cX4_send 73 = .ok (.iload_n 1, 1) := by decide +kernel
theorem dX4_send_74 : decode cX4_send 74 = .ok (.iload 4, 2) := by decide +kernel
theorem dX4_send_76 : decode cX4_send 76 = .ok (.iload 6, 2) := by decide +kernel
theorem dX4_send_78 : decode cX4_send 78 = .ok (.iconst (-1), 1) := by decide +kernel
theorem dX4_send_79 : decode cX4_send 79 = .ok (.ixor, 1) := by decide +kernel
theorem dX4_send_80 : decode cX4_send 80 = .ok (.iand, 1) := by decide +kernel
theorem dX4_send_81 : decode cX4_send 81 = .ok (.invokevirtual 116, 3) := by decide +kernel
theorem dX4_send_84 : decode cX4_send 84 = .ok (.iload_n 2, 1) := by decide +kernel
theorem dX4_send_85 : decode cX4_send 85 = .ok (.if_icmp .ne 7, 3) := by decide +kernel
theorem dX4_send_88 : decode cX4_send 88 = .ok (.iload 6, 2) := by decide +kernel
theorem dX4_send_90 : decode cX4_send 90 = .ok (.istore 5, 2) := by decide +kernel
theorem dX4_send_92 : decode cX4_send 92 = .ok (.iinc 6 1, 3) := by decide +kernel
theorem dX4_send_95 : decode cX4_send 95 = .ok (.goto (-66), 3) := by decide +kernel
theorem dX4_send_98 : decode cX4_send 98 = .ok (.iload 5, 2) := by decide +kernel
theorem dX4_send_100 : decode cX4_send 100 = .ok (.ireturn, 1) := by decide +kernel
set_option maxRecDepth 20000 in
theorem ggX4_reading_X4_refusalOfCount : GoodIn wsX4_reading wsX4_refusalOfCount := goodIn_r _ [7, 8, 9, 10, 6, 11, 12, 13, 14, 15, 16, 17, 18, 19, 20, 21, 30, 31, 32, 33, 34, 35, 36, 40, 41, 42, 43, 44, 45] (by decide +kernel) (by decide +kernel)
set_option maxRecDepth 20000 in
theorem gX4_reading_X4_refusalOfCount : GoodIn wsX4_reading (wsV RX4 163 RX4 yX4_refusalOfCount wsX4_refusalOfCount) := goodIn_app (goodIn_of _ (by decide +kernel)) ggX4_reading_X4_refusalOfCount
set_option maxRecDepth 20000 in
theorem ggX4_reading_X0_note : GoodIn wsX4_reading wsX0_note := goodIn_r _ [26, 27, 28, 29, 37, 38, 39] (by decide +kernel) (by decide +kernel)
set_option maxRecDepth 20000 in
theorem gX4_reading_X0_note : GoodIn wsX4_reading (wsV RX4 174 RX0 yX0_note wsX0_note) := goodIn_app (goodIn_of _ (by decide +kernel)) ggX4_reading_X0_note
theorem dX4_reading_0 : decode cX4_reading 0 = .ok (.aload_n 0, 1) := by decide +kernel
theorem dX4_reading_1 : decode cX4_reading 1 = .ok (.iload_n 1, 1) := by decide +kernel
theorem dX4_reading_2 : decode cX4_reading 2 = .ok (.iload_n 2, 1) := by decide +kernel
theorem dX4_reading_3 : decode cX4_reading 3 = .ok (.invokevirtual 163, 3) := by decide +kernel
theorem dX4_reading_6 : decode cX4_reading 6 = .ok (.istore_n 3, 1) := by decide +kernel
theorem dX4_reading_7 : decode cX4_reading 7 = .ok (.iload_n 3, 1) := by decide +kernel
theorem dX4_reading_8 : decode cX4_reading 8 = .ok (.ifCond .eq 5, 3) := by decide +kernel
theorem dX4_reading_11 : decode cX4_reading 11 = .ok (.iload_n 3, 1) := by decide +kernel
theorem dX4_reading_12 : decode cX4_reading 12 = .ok (.ireturn, 1) := by decide +kernel
theorem dX4_reading_13 : decode cX4_reading 13 = .ok (.aload_n 0, 1) := by decide +kernel
theorem dX4_reading_14 : decode cX4_reading 14 = .ok (.getfield 31, 3) := by decide +kernel
theorem dX4_reading_17 : decode cX4_reading 17 = .ok (.getfield 171, 3) := by decide +kernel
theorem dX4_reading_20 : decode cX4_reading 20 = .ok (.istore 4, 2) := by decide +kernel
theorem dX4_reading_22 : decode cX4_reading 22 = .ok (.aload_n 0, 1) := by decide +kernel
theorem dX4_reading_23 : decode cX4_reading 23 = .ok (.getfield 31, 3) := by decide +kernel
theorem dX4_reading_26 : decode cX4_reading 26 = .ok (.iload_n 1, 1) := by decide +kernel
theorem dX4_reading_27 : decode cX4_reading 27 = .ok (.iload_n 2, 1) := by decide +kernel
theorem dX4_reading_28 : decode cX4_reading 28 = .ok (.invokevirtual 174, 3) := by decide +kernel
theorem dX4_reading_31 : decode cX4_reading 31 = .ok (.ifCond .eq 8, 3) := by decide +kernel
theorem dX4_reading_34 : decode cX4_reading 34 = .ok (.iload 4, 2) := by decide +kernel
theorem dX4_reading_36 : decode cX4_reading 36 = .ok (.goto 5, 3) := by decide +kernel
theorem dX4_reading_39 : decode cX4_reading 39 = .ok (.bipush (-4), 2) := by decide +kernel
theorem dX4_reading_41 : decode cX4_reading 41 = .ok (.ireturn, 1) := by decide +kernel
theorem dX4_back_0 : decode cX4_back 0 = .ok (.iload_n 1, 1) := by decide +kernel
theorem dX4_back_1 : decode cX4_back 1 = .ok (.ifCond .lt 14, 3) := by decide +kernel
theorem dX4_back_4 : decode cX4_back 4 = .ok (.iload_n 1, 1) := by decide +kernel
theorem dX4_back_5 : decode cX4_back 5 = .ok (.aload_n 0, 1) := by decide +kernel
theorem dX4_back_6 : decode cX4_back 6 = .ok (.getfield 31, 3) := by decide +kernel
theorem dX4_back_9 : decode cX4_back 9 = .ok (.getfield 171, 3) := by decide +kernel
theorem dX4_back_12 : decode cX4_back 12 = .ok (.if_icmp .le 6, 3) := by decide +kernel
theorem dX4_back_15 : decode cX4_back 15 = .ok (.bipush (-2), 2) := by decide +kernel
theorem dX4_back_17 : decode cX4_back 17 = .ok (.ireturn, 1) := by decide +kernel
theorem dX4_back_18 : decode cX4_back 18 = .ok (.aload_n 0, 1) := by decide +kernel
theorem dX4_back_19 : decode cX4_back 19 = .ok (.getfield 31, 3) := by decide +kernel
theorem dX4_back_22 : decode cX4_back 22 = .ok (.dup, 1) := by decide +kernel
theorem dX4_back_23 : decode cX4_back 23 = .ok (.getfield 171, 3) := by decide +kernel
theorem dX4_back_26 : decode cX4_back 26 = .ok (.iload_n 1, 1) := by decide +kernel
theorem dX4_back_27 : decode cX4_back 27 = .ok (.isub, 1) := by decide +kernel
theorem dX4_back_28 : decode cX4_back 28 = .ok (.putfield 171, 3) := by decide +kernel
theorem dX4_back_31 : decode cX4_back 31 = .ok (.aload_n 0, 1) := by decide +kernel
theorem dX4_back_32 : decode cX4_back 32 = .ok (.getfield 31, 3) := by decide +kernel
theorem dX4_back_35 : decode cX4_back 35 = .ok (.getfield 171, 3) := by decide +kernel
theorem dX4_back_38 : decode cX4_back 38 = .ok (.ireturn, 1) := by decide +kernel
set_option maxRecDepth 20000 in
theorem ggX4_heights_X3_has : GoodIn wsX4_heights wsX3_has := goodIn_r _ [8, 9, 81, 82, 83, 84, 85, 86] (by decide +kernel) (by decide +kernel)
set_option maxRecDepth 20000 in
theorem gX4_heights_X3_has : GoodIn wsX4_heights (wsV RX4 76 RX3 yX3_has wsX3_has) := goodIn_app (goodIn_of _ (by decide +kernel)) ggX4_heights_X3_has
set_option maxRecDepth 20000 in
theorem ggX4_heights_X3_becomeLike : GoodIn wsX4_heights wsX3_becomeLike := goodIn_r _ [13, 14, 15, 16, 9, 17, 18, 81, 82, 83, 84, 85, 86] (by decide +kernel) (by decide +kernel)
set_option maxRecDepth 20000 in
theorem gX4_heights_X3_becomeLike : GoodIn wsX4_heights (wsV RX4 156 RX3 yX3_becomeLike wsX3_becomeLike) := goodIn_app (goodIn_of _ (by decide +kernel)) ggX4_heights_X3_becomeLike
set_option maxRecDepth 20000 in
theorem ggX4_heights_X4_areReadingsSoOnTrial : GoodIn wsX4_heights wsX4_areReadingsSoOnTrial := goodIn_r _ [23, 24, 25, 2, 26, 27, 28, 29, 30, 7, 31, 9, 32, 33, 34, 22, 35, 36, 37, 38, 39, 40, 41, 42, 15, 43, 44, 45, 46, 47, 5, 6, 8, 48, 49, 50, 51, 18, 52, 53, 54, 55, 16, 14, 56, 57, 58, 59, 60, 61, 62, 63, 64, 65, 66, 67, 68, 69, 70, 71, 72, 73, 74, 75, 76, 77, 78, 79, 80, 87, 88, 89, 81, 82, 83, 84, 85, 86, 90, 91, 92, 93] (by decide +kernel) (by decide +kernel)
set_option maxRecDepth 20000 in
theorem gX4_heights_X4_areReadingsSoOnTrial : GoodIn wsX4_heights (wsV RX4 177 RX4 yX4_areReadingsSoOnTrial wsX4_areReadingsSoOnTrial) := goodIn_app (goodIn_of _ (by decide +kernel)) ggX4_heights_X4_areReadingsSoOnTrial
theorem dX4_heights_0 : decode cX4_heights 0 = .ok (.aload_n 0, 1) := by decide +kernel
theorem dX4_heights_1 : decode cX4_heights 1 = .ok (.getfield 14, 3) := by decide +kernel
theorem dX4_heights_4 : decode cX4_heights 4 = .ok (.iload_n 1, 1) := by decide +kernel
theorem dX4_heights_5 : decode cX4_heights 5 = .ok (.invokevirtual 76, 3) := by decide +kernel
theorem dX4_heights_8 : decode cX4_heights 8 = .ok (.ifCond .ne 5, 3) := by decide +kernel
theorem dX4_heights_11 : decode cX4_heights 11 = .ok (.iconst (-1), 1) := by decide +kernel
theorem dX4_heights_12 : decode cX4_heights 12 = .ok (.ireturn, 1) := by decide +kernel
theorem dX4_heights_13 : decode cX4_heights 13 = .ok (.aload_n 0, 1) := by decide +kernel
theorem dX4_heights_14 : decode cX4_heights 14 = .ok (.getfield 18, 3) := by decide +kernel
theorem dX4_heights_17 : decode cX4_heights 17 = .ok (.aload_n 0, 1) := by decide +kernel
theorem dX4_heights_18 : decode cX4_heights 18 = .ok (.getfield 14, 3) := by decide +kernel
theorem dX4_heights_21 : decode cX4_heights 21 = .ok (.invokevirtual 156, 3) := by decide +kernel
theorem dX4_heights_24 : decode cX4_heights 24 = .ok (.iconst 0, 1) := by decide +kernel
theorem dX4_heights_25 : decode cX4_heights 25 = .ok (.istore_n 2, 1) := by decide +kernel
theorem dX4_heights_26 : decode cX4_heights 26 = .ok (.iconst 0, 1) := by decide +kernel
theorem dX4_heights_27 : decode cX4_heights 27 = .ok (.istore_n 3, 1) := by decide +kernel
theorem dX4_heights_28 : decode cX4_heights 28 = .ok (.iload_n 3, 1) := by decide +kernel
theorem dX4_heights_29 : decode cX4_heights 29 = .ok (.bipush 9, 2) := by decide +kernel
theorem dX4_heights_31 : decode cX4_heights 31 = .ok (.if_icmp .gt 32, 3) := by decide +kernel
theorem dX4_heights_34 : decode cX4_heights 34 = .ok (.aload_n 0, 1) := by decide +kernel
theorem dX4_heights_35 : decode cX4_heights 35 = .ok (.getfield 18, 3) := by decide +kernel
theorem dX4_heights_38 : decode cX4_heights 38 = .ok (.getfield 86, 3) := by decide +kernel
theorem dX4_heights_41 : decode cX4_heights 41 = .ok (.iload_n 1, 1) := by decide +kernel
theorem dX4_heights_42 : decode cX4_heights 42 = .ok (.iload_n 3, 1) := by decide +kernel
theorem dX4_heights_43 : decode cX4_heights 43 = .ok (.iastore, 1) := by decide +kernel
theorem dX4_heights_44 : decode cX4_heights 44 = .ok (.aload_n 0, 1) := by decide +kernel
theorem dX4_heights_45 : decode cX4_heights 45 = .ok (.invokevirtual 177, 3) := by decide +kernel
theorem dX4_heights_48 : decode cX4_heights 48 = .ok (.ifCond .eq 9, 3) := by decide +kernel
theorem dX4_heights_51 : decode cX4_heights 51 = .ok (.iload_n 2, 1) := by decide +kernel
theorem dX4_heights_52 : decode cX4_heights 52 = .ok (.iconst 1, 1) := by decide +kernel
theorem dX4_heights_53 : decode cX4_heights 53 = .ok (.iload_n 3, 1) := by decide +kernel
theorem dX4_heights_54 : decode cX4_heights 54 = .ok (.ishl, 1) := by decide +kernel
theorem dX4_heights_55 : decode cX4_heights 55 = .ok (.ior, 1) := by decide +kernel
theorem dX4_heights_56 : decode cX4_heights 56 = .ok (.istore_n 2, 1) := by decide +kernel
theorem dX4_heights_57 : decode cX4_heights 57 = .ok (.iinc 3 1, 3) := by decide +kernel
theorem dX4_heights_60 : decode cX4_heights 60 = .ok (.goto (-32), 3) := by decide +kernel
theorem dX4_heights_63 : decode cX4_heights 63 = .ok (.iload_n 2, 1) := by decide +kernel
theorem dX4_heights_64 : decode cX4_heights 64 = .ok (.ireturn, 1) := by decide +kernel
set_option maxRecDepth 20000 in
theorem ggX4_kinds_X3_has : GoodIn wsX4_kinds wsX3_has := goodIn_r _ [8, 9, 81, 82, 83, 84, 85, 86] (by decide +kernel) (by decide +kernel)
set_option maxRecDepth 20000 in
theorem gX4_kinds_X3_has : GoodIn wsX4_kinds (wsV RX4 76 RX3 yX3_has wsX3_has) := goodIn_app (goodIn_of _ (by decide +kernel)) ggX4_kinds_X3_has
set_option maxRecDepth 20000 in
theorem ggX4_kinds_X3_becomeLike : GoodIn wsX4_kinds wsX3_becomeLike := goodIn_r _ [13, 14, 15, 16, 9, 17, 18, 81, 82, 83, 84, 85, 86] (by decide +kernel) (by decide +kernel)
set_option maxRecDepth 20000 in
theorem gX4_kinds_X3_becomeLike : GoodIn wsX4_kinds (wsV RX4 156 RX3 yX3_becomeLike wsX3_becomeLike) := goodIn_app (goodIn_of _ (by decide +kernel)) ggX4_kinds_X3_becomeLike
set_option maxRecDepth 20000 in
theorem ggX4_kinds_X4_areReadingsSoOnTrial : GoodIn wsX4_kinds wsX4_areReadingsSoOnTrial := goodIn_r _ [23, 24, 25, 2, 26, 27, 28, 29, 30, 7, 31, 9, 32, 33, 34, 22, 35, 36, 37, 38, 39, 40, 41, 42, 15, 43, 44, 45, 46, 47, 5, 6, 8, 48, 49, 50, 51, 18, 52, 53, 54, 55, 16, 14, 56, 57, 58, 59, 60, 61, 62, 63, 64, 65, 66, 67, 68, 69, 70, 71, 72, 73, 74, 75, 76, 77, 78, 79, 80, 87, 88, 89, 81, 82, 83, 84, 85, 86, 90, 91, 92, 93] (by decide +kernel) (by decide +kernel)
set_option maxRecDepth 20000 in
theorem gX4_kinds_X4_areReadingsSoOnTrial : GoodIn wsX4_kinds (wsV RX4 177 RX4 yX4_areReadingsSoOnTrial wsX4_areReadingsSoOnTrial) := goodIn_app (goodIn_of _ (by decide +kernel)) ggX4_kinds_X4_areReadingsSoOnTrial
theorem dX4_kinds_0 : decode cX4_kinds 0 = .ok (.aload_n 0, 1) := by decide +kernel
theorem dX4_kinds_1 : decode cX4_kinds 1 = .ok (.getfield 14, 3) := by decide +kernel
theorem dX4_kinds_4 : decode cX4_kinds 4 = .ok (.iload_n 1, 1) := by decide +kernel
theorem dX4_kinds_5 : decode cX4_kinds 5 = .ok (.invokevirtual 76, 3) := by decide +kernel
theorem dX4_kinds_8 : decode cX4_kinds 8 = .ok (.ifCond .ne 5, 3) := by decide +kernel
theorem dX4_kinds_11 : decode cX4_kinds 11 = .ok (.iconst (-1), 1) := by decide +kernel
theorem dX4_kinds_12 : decode cX4_kinds 12 = .ok (.ireturn, 1) := by decide +kernel
theorem dX4_kinds_13 : decode cX4_kinds 13 = .ok (.aload_n 0, 1) := by decide +kernel
theorem dX4_kinds_14 : decode cX4_kinds 14 = .ok (.getfield 18, 3) := by decide +kernel
theorem dX4_kinds_17 : decode cX4_kinds 17 = .ok (.aload_n 0, 1) := by decide +kernel
theorem dX4_kinds_18 : decode cX4_kinds 18 = .ok (.getfield 14, 3) := by decide +kernel
theorem dX4_kinds_21 : decode cX4_kinds 21 = .ok (.invokevirtual 156, 3) := by decide +kernel
theorem dX4_kinds_24 : decode cX4_kinds 24 = .ok (.iconst 0, 1) := by decide +kernel
theorem dX4_kinds_25 : decode cX4_kinds 25 = .ok (.istore_n 2, 1) := by decide +kernel
theorem dX4_kinds_26 : decode cX4_kinds 26 = .ok (.iconst 0, 1) := by decide +kernel
theorem dX4_kinds_27 : decode cX4_kinds 27 = .ok (.istore_n 3, 1) := by decide +kernel
theorem dX4_kinds_28 : decode cX4_kinds 28 = .ok (.iload_n 3, 1) := by decide +kernel
theorem dX4_kinds_29 : decode cX4_kinds 29 = .ok (.iconst 2, 1) := by decide +kernel
theorem dX4_kinds_30 : decode cX4_kinds 30 = .ok (.if_icmp .gt 32, 3) := by decide +kernel
theorem dX4_kinds_33 : decode cX4_kinds 33 = .ok (.aload_n 0, 1) := by decide +kernel
theorem dX4_kinds_34 : decode cX4_kinds 34 = .ok (.getfield 18, 3) := by decide +kernel
theorem dX4_kinds_37 : decode cX4_kinds 37 = .ok (.getfield 79, 3) := by decide +kernel
theorem dX4_kinds_40 : decode cX4_kinds 40 = .ok (.iload_n 1, 1) := by decide +kernel
theorem dX4_kinds_41 : decode cX4_kinds 41 = .ok (.iload_n 3, 1) := by decide +kernel
theorem dX4_kinds_42 : decode cX4_kinds 42 = .ok (.iastore, 1) := by decide +kernel
theorem dX4_kinds_43 : decode cX4_kinds 43 = .ok (.aload_n 0, 1) := by decide +kernel
theorem dX4_kinds_44 : decode cX4_kinds 44 = .ok (.invokevirtual 177, 3) := by decide +kernel
theorem dX4_kinds_47 : decode cX4_kinds 47 = .ok (.ifCond .eq 9, 3) := by decide +kernel
theorem dX4_kinds_50 : decode cX4_kinds 50 = .ok (.iload_n 2, 1) := by decide +kernel
theorem dX4_kinds_51 : decode cX4_kinds 51 = .ok (.iconst 1, 1) := by decide +kernel
theorem dX4_kinds_52 : decode cX4_kinds 52 = .ok (.iload_n 3, 1) := by decide +kernel
theorem dX4_kinds_53 : decode cX4_kinds 53 = .ok (.ishl, 1) := by decide +kernel
theorem dX4_kinds_54 : decode cX4_kinds 54 = .ok (.ior, 1) := by decide +kernel
theorem dX4_kinds_55 : decode cX4_kinds 55 = .ok (.istore_n 2, 1) := by decide +kernel
theorem dX4_kinds_56 : decode cX4_kinds 56 = .ok (.iinc 3 1, 3) := by decide +kernel
theorem dX4_kinds_59 : decode cX4_kinds 59 = .ok (.goto (-31), 3) := by decide +kernel
theorem dX4_kinds_62 : decode cX4_kinds 62 = .ok (.iload_n 2, 1) := by decide +kernel
theorem dX4_kinds_63 : decode cX4_kinds 63 = .ok (.ireturn, 1) := by decide +kernel
set_option maxRecDepth 20000 in
theorem ggX4_spans_X3_isLaid : GoodIn wsX4_spans wsX3_isLaid := goodIn_r _ [8, 9, 83, 84, 85, 86, 87, 88] (by decide +kernel) (by decide +kernel)
set_option maxRecDepth 20000 in
theorem gX4_spans_X3_isLaid : GoodIn wsX4_spans (wsV RX4 92 RX3 yX3_isLaid wsX3_isLaid) := goodIn_app (goodIn_of _ (by decide +kernel)) ggX4_spans_X3_isLaid
set_option maxRecDepth 20000 in
theorem ggX4_spans_X3_becomeLike : GoodIn wsX4_spans wsX3_becomeLike := goodIn_r _ [13, 14, 15, 16, 9, 17, 18, 83, 84, 85, 86, 87, 88] (by decide +kernel) (by decide +kernel)
set_option maxRecDepth 20000 in
theorem gX4_spans_X3_becomeLike : GoodIn wsX4_spans (wsV RX4 156 RX3 yX3_becomeLike wsX3_becomeLike) := goodIn_app (goodIn_of _ (by decide +kernel)) ggX4_spans_X3_becomeLike
set_option maxRecDepth 20000 in
theorem ggX4_spans_X4_areReadingsSoOnTrial : GoodIn wsX4_spans wsX4_areReadingsSoOnTrial := goodIn_r _ [23, 24, 25, 2, 26, 27, 28, 29, 30, 7, 31, 9, 32, 33, 34, 22, 35, 36, 3, 37, 38, 39, 40, 41, 15, 42, 43, 44, 45, 46, 47, 48, 49, 50, 51, 52, 53, 18, 54, 55, 56, 57, 16, 14, 58, 59, 60, 61, 62, 63, 64, 65, 66, 67, 68, 69, 70, 71, 72, 73, 74, 75, 76, 77, 78, 79, 80, 81, 82, 89, 90, 91, 83, 84, 85, 86, 87, 88, 92, 93, 94, 95] (by decide +kernel) (by decide +kernel)
set_option maxRecDepth 20000 in
theorem gX4_spans_X4_areReadingsSoOnTrial : GoodIn wsX4_spans (wsV RX4 177 RX4 yX4_areReadingsSoOnTrial wsX4_areReadingsSoOnTrial) := goodIn_app (goodIn_of _ (by decide +kernel)) ggX4_spans_X4_areReadingsSoOnTrial
theorem dX4_spans_0 : decode cX4_spans 0 = .ok (.aload_n 0, 1) := by decide +kernel
theorem dX4_spans_1 : decode cX4_spans 1 = .ok (.getfield 14, 3) := by decide +kernel
theorem dX4_spans_4 : decode cX4_spans 4 = .ok (.invokevirtual 92, 3) := by decide +kernel
theorem dX4_spans_7 : decode cX4_spans 7 = .ok (.ifCond .ne 6, 3) := by decide +kernel
theorem dX4_spans_10 : decode cX4_spans 10 = .ok (.bipush (-3), 2) := by decide +kernel
theorem dX4_spans_12 : decode cX4_spans 12 = .ok (.ireturn, 1) := by decide +kernel
theorem dX4_spans_13 : decode cX4_spans 13 = .ok (.aload_n 0, 1) := by decide +kernel
theorem dX4_spans_14 : decode cX4_spans 14 = .ok (.getfield 18, 3) := by decide +kernel
theorem dX4_spans_17 : decode cX4_spans 17 = .ok (.aload_n 0, 1) := by decide +kernel
theorem dX4_spans_18 : decode cX4_spans 18 = .ok (.getfield 14, 3) := by decide +kernel
theorem dX4_spans_21 : decode cX4_spans 21 = .ok (.invokevirtual 156, 3) := by decide +kernel
theorem dX4_spans_24 : decode cX4_spans 24 = .ok (.iconst 0, 1) := by decide +kernel
theorem dX4_spans_25 : decode cX4_spans 25 = .ok (.istore_n 1, 1) := by decide +kernel
theorem dX4_spans_26 : decode cX4_spans 26 = .ok (.iconst 1, 1) := by decide +kernel
theorem dX4_spans_27 : decode cX4_spans 27 = .ok (.istore_n 2, 1) := by decide +kernel
theorem dX4_spans_28 : decode cX4_spans 28 = .ok (.iload_n 2, 1) := by decide +kernel
theorem dX4_spans_29 : decode cX4_spans 29 = .ok (.bipush 9, 2) := by decide +kernel
theorem dX4_spans_31 : decode cX4_spans 31 = .ok (.if_icmp .gt 30, 3) := by decide +kernel
theorem dX4_spans_34 : decode cX4_spans 34 = .ok (.aload_n 0, 1) := by decide +kernel
theorem dX4_spans_35 : decode cX4_spans 35 = .ok (.getfield 18, 3) := by decide +kernel
theorem dX4_spans_38 : decode cX4_spans 38 = .ok (.iload_n 2, 1) := by decide +kernel
theorem dX4_spans_39 : decode cX4_spans 39 = .ok (.putfield 124, 3) := by decide +kernel
theorem dX4_spans_42 : decode cX4_spans 42 = .ok (.aload_n 0, 1) := by decide +kernel
theorem dX4_spans_43 : decode cX4_spans 43 = .ok (.invokevirtual 177, 3) := by decide +kernel
theorem dX4_spans_46 : decode cX4_spans 46 = .ok (.ifCond .eq 9, 3) := by decide +kernel
theorem dX4_spans_49 : decode cX4_spans 49 = .ok (.iload_n 1, 1) := by decide +kernel
theorem dX4_spans_50 : decode cX4_spans 50 = .ok (.iconst 1, 1) := by decide +kernel
theorem dX4_spans_51 : decode cX4_spans 51 = .ok (.iload_n 2, 1) := by decide +kernel
theorem dX4_spans_52 : decode cX4_spans 52 = .ok (.ishl, 1) := by decide +kernel
theorem dX4_spans_53 : decode cX4_spans 53 = .ok (.ior, 1) := by decide +kernel
theorem dX4_spans_54 : decode cX4_spans 54 = .ok (.istore_n 1, 1) := by decide +kernel
theorem dX4_spans_55 : decode cX4_spans 55 = .ok (.iinc 2 1, 3) := by decide +kernel
theorem dX4_spans_58 : decode cX4_spans 58 = .ok (.goto (-30), 3) := by decide +kernel
theorem dX4_spans_61 : decode cX4_spans 61 = .ok (.iload_n 1, 1) := by decide +kernel
theorem dX4_spans_62 : decode cX4_spans 62 = .ok (.ireturn, 1) := by decide +kernel
set_option maxRecDepth 20000 in
theorem ggX4_odds_X4_refusalOfCount : GoodIn wsX4_odds wsX4_refusalOfCount := goodIn_r _ [7, 8, 9, 10, 6, 11, 2, 12, 13, 14, 15, 16, 17, 18, 19, 20, 74, 75, 76, 77, 78, 79, 80, 81, 82, 83, 84, 85, 86] (by decide +kernel) (by decide +kernel)
set_option maxRecDepth 20000 in
theorem gX4_odds_X4_refusalOfCount : GoodIn wsX4_odds (wsV RX4 163 RX4 yX4_refusalOfCount wsX4_refusalOfCount) := goodIn_app (goodIn_of _ (by decide +kernel)) ggX4_odds_X4_refusalOfCount
set_option maxRecDepth 20000 in
theorem ggX4_odds_X3_everyone : GoodIn wsX4_odds wsX3_everyone := goodIn_r _ [24, 20, 81, 82, 83, 84, 85, 86] (by decide +kernel) (by decide +kernel)
set_option maxRecDepth 20000 in
theorem gX4_odds_X3_everyone : GoodIn wsX4_odds (wsV RX4 112 RX3 yX3_everyone wsX3_everyone) := goodIn_app (goodIn_of _ (by decide +kernel)) ggX4_odds_X3_everyone
set_option maxRecDepth 20000 in
theorem ggX4_odds_X4_countedOn : GoodIn wsX4_odds wsX4_countedOn := goodIn_r _ [28, 29, 30, 31, 32, 33, 34, 18, 35, 36, 37, 38, 39, 40, 41, 42, 43, 44, 20, 45, 46, 47, 48, 49, 50, 51, 52, 53, 54, 55, 56, 57, 58, 59, 60, 61, 62, 63, 64, 65, 66, 67, 68, 69, 70, 71, 72, 73, 74, 75, 76, 77, 78, 79, 80, 81, 82, 83, 84, 85, 86, 87, 88, 89, 90] (by decide +kernel) (by decide +kernel)
set_option maxRecDepth 20000 in
theorem gX4_odds_X4_countedOn : GoodIn wsX4_odds (wsV RX4 116 RX4 yX4_countedOn wsX4_countedOn) := goodIn_app (goodIn_of _ (by decide +kernel)) ggX4_odds_X4_countedOn
theorem dX4_odds_0 : decode cX4_odds 0 = .ok (.aload_n 0, 1) := by decide +kernel
theorem dX4_odds_1 : decode cX4_odds 1 = .ok (.iload_n 1, 1) := by decide +kernel
theorem dX4_odds_2 : decode cX4_odds 2 = .ok (.iload_n 2, 1) := by decide +kernel
theorem dX4_odds_3 : decode cX4_odds 3 = .ok (.invokevirtual 163, 3) := by decide +kernel
theorem dX4_odds_6 : decode cX4_odds 6 = .ok (.ifCond .ne 12, 3) := by decide +kernel
theorem dX4_odds_9 : decode cX4_odds 9 = .ok (.iload_n 3, 1) := by decide +kernel
theorem dX4_odds_10 : decode cX4_odds 10 = .ok (.ifCond .lt 8, 3) := by decide +kernel
theorem dX4_odds_13 : decode cX4_odds 13 = .ok (.iload_n 3, 1) := by decide +kernel
theorem dX4_odds_14 : decode cX4_odds 14 = .ok (.iconst 1, 1) := by decide +kernel
theorem dX4_odds_15 : decode cX4_odds 15 = .ok (.if_icmp .le 7, 3) := by decide +kernel
theorem dX4_odds_18 : decode cX4_odds 18 = .ok (.ldc2_w 180, 3) := by decide +kernel
theorem dX4_odds_21 : decode cX4_odds 21 = .ok (.lreturn, 1) := by decide +kernel
theorem dX4_odds_22 : decode cX4_odds 22 = .ok (.aload_n 0, 1) := by decide +kernel
theorem dX4_odds_23 : decode cX4_odds 23 = .ok (.getfield 14, 3) := by decide +kernel
theorem dX4_odds_26 : decode cX4_odds 26 = .ok (.invokevirtual 112, 3) := by decide +kernel
theorem dX4_odds_29 : decode cX4_odds 29 = .ok (.istore 4, 2) := by decide +kernel
theorem dX4_odds_31 : decode cX4_odds 31 = .ok (.iconst 0, 1) := by decide +kernel
theorem dX4_odds_32 : decode cX4_odds 32 = .ok (.istore 5, 2) := by decide +kernel
theorem dX4_odds_34 : decode cX4_odds 34 = .ok (.iconst 0, 1) := by decide +kernel
theorem dX4_odds_35 : decode cX4_odds 35 = .ok (.istore 6, 2) := by decide +kernel
theorem dX4_odds_37 : decode cX4_odds 37 = .ok (.iload 6, 2) := by decide +kernel
theorem dX4_odds_39 : decode cX4_odds 39 = .ok (.iload 4, 2) := by decide +kernel
theorem dX4_odds_41 : decode cX4_odds 41 = .ok (.if_icmp .gt 27, 3) := by decide +kernel
theorem dX4_odds_44 : decode cX4_odds 44 = .ok (.aload_n 0, 1) := by decide +kernel
theorem dX4_odds_45 : decode cX4_odds 45 = .ok (.aload_n 0, 1) := by decide +kernel
theorem dX4_odds_46 : decode cX4_odds 46 = .ok (.getfield 14, 3) := by decide +kernel
theorem dX4_odds_49 : decode cX4_odds 49 = .ok (.iload_n 1, 1) := by decide +kernel
theorem dX4_odds_50 : decode cX4_odds 50 = .ok (.iload 6, 2) := by decide +kernel
theorem dX4_odds_52 : decode cX4_odds 52 = .ok (.invokevirtual 116, 3) := by decide +kernel
theorem dX4_odds_55 : decode cX4_odds 55 = .ok (.iload_n 2, 1) := by decide +kernel
theorem dX4_odds_56 : decode cX4_odds 56 = .ok (.if_icmp .ne 6, 3) := by decide +kernel
theorem dX4_odds_59 : decode cX4_odds 59 = .ok (.iinc 5 1, 3) := by decide +kernel
theorem dX4_odds_62 : decode cX4_odds 62 = .ok (.iinc 6 1, 3) := by decide +kernel
theorem dX4_odds_65 : decode cX4_odds 65 = .ok (.goto (-28), 3) := by decide +kernel
theorem dX4_odds_68 : decode cX4_odds 68 = .ok (.iload 4, 2) := by decide +kernel
theorem dX4_odds_70 : decode cX4_odds 70 = .ok (.iconst 1, 1) := by decide +kernel
theorem dX4_odds_71 : decode cX4_odds 71 = .ok (.iadd, 1) := by decide +kernel
theorem dX4_odds_72 : decode cX4_odds 72 = .ok (.istore 6, 2) := by decide +kernel
theorem dX4_odds_74 : decode cX4_odds 74 = .ok (.iconst 0, 1) := by decide +kernel
theorem dX4_odds_75 : decode cX4_odds 75 = .ok (.istore 7, 2) := by decide +kernel
theorem dX4_odds_77 : decode cX4_odds 77 = .ok (.iload 7, 2) := by decide +kernel
theorem dX4_odds_79 : decode cX4_odds 79 = .ok (.iconst 5, 1) := by decide +kernel
theorem dX4_odds_80 : decode cX4_odds 80 = .ok (.if_icmp .ge 35, 3) := by decide +kernel
theorem dX4_odds_83 : decode cX4_odds 83 = .ok (.iload 6, 2) := by decide +kernel
theorem dX4_odds_85 : decode cX4_odds 85 = .ok (.iconst 2, 1) := by decide +kernel
theorem dX4_odds_86 : decode cX4_odds 86 = .ok (.irem, 1) := by decide +kernel
theorem dX4_odds_87 : decode cX4_odds 87 = .ok (.ifCond .ne 28, 3) := by decide +kernel
theorem dX4_odds_90 : decode cX4_odds 90 = .ok (.iload 5, 2) := by decide +kernel
theorem dX4_odds_92 : decode cX4_odds 92 = .ok (.iconst 2, 1) := by decide +kernel
theorem dX4_odds_93 : decode cX4_odds 93 = .ok (.irem, 1) := by decide +kernel
theorem dX4_odds_94 : decode cX4_odds 94 = .ok (.ifCond .ne 21, 3) := by decide +kernel
theorem dX4_odds_97 : decode cX4_odds 97 = .ok (.iload 5, 2) := by decide +kernel
theorem dX4_odds_99 : decode cX4_odds 99 = .ok (.iconst 2, 1) := by decide +kernel
theorem dX4_odds_100 : decode cX4_odds 100 = .ok (.idiv, 1) := by decide +kernel
theorem dX4_odds_101 : decode cX4_odds 101 = .ok (.istore 5, 2) := by decide +kernel
theorem dX4_odds_103 : decode cX4_odds 103 = .ok (.iload 6, 2) := by decide +kernel
theorem dX4_odds_105 : decode cX4_odds 105 = .ok (.iconst 2, 1) := by decide +kernel
theorem dX4_odds_106 : decode cX4_odds 106 = .ok (.idiv, 1) := by decide +kernel
theorem dX4_odds_107 : decode cX4_odds 107 = .ok (.istore 6, 2) := by decide +kernel
theorem dX4_odds_109 : decode cX4_odds 109 = .ok (.iinc 7 1, 3) := by decide +kernel
theorem dX4_odds_112 : decode cX4_odds 112 = .ok (.goto (-35), 3) := by decide +kernel
theorem dX4_odds_115 : decode cX4_odds 115 = .ok (.iload_n 3, 1) := by decide +kernel
theorem dX4_odds_116 : decode cX4_odds 116 = .ok (.ifCond .ne 9, 3) := by decide +kernel
theorem dX4_odds_119 : decode cX4_odds 119 = .ok (.iload 5, 2) := by decide +kernel
theorem dX4_odds_121 : decode cX4_odds 121 = .ok (.i2l, 1) := by decide +kernel
theorem dX4_odds_122 : decode cX4_odds 122 = .ok (.goto 6, 3) := by decide +kernel
theorem dX4_odds_125 : decode cX4_odds 125 = .ok (.iload 6, 2) := by decide +kernel
theorem dX4_odds_127 : decode cX4_odds 127 = .ok (.i2l, 1) := by decide +kernel
theorem dX4_odds_128 : decode cX4_odds 128 = .ok (.lreturn, 1) := by decide +kernel
set_option maxRecDepth 20000 in
theorem ggX4_sheet_X4_sheetAt : GoodIn wsX4_sheet wsX4_sheetAt := goodIn_r _ [6, 7, 24, 25, 26, 27, 28, 29, 30] (by decide +kernel) (by decide +kernel)
set_option maxRecDepth 20000 in
theorem gX4_sheet_X4_sheetAt : GoodIn wsX4_sheet (wsV RX4 46 RX4 yX4_sheetAt wsX4_sheetAt) := goodIn_app (goodIn_of _ (by decide +kernel)) ggX4_sheet_X4_sheetAt
set_option maxRecDepth 20000 in
theorem ggX4_sheet_X4_isLane : GoodIn wsX4_sheet wsX4_isLane := goodIn_r _ [10] (by decide +kernel) (by decide +kernel)
set_option maxRecDepth 20000 in
theorem gX4_sheet_X4_isLane : GoodIn wsX4_sheet (va_wsS RX4 50 yX4_isLane wsX4_isLane) := goodIn_app (goodIn_of _ (by decide +kernel)) ggX4_sheet_X4_isLane
set_option maxRecDepth 20000 in
theorem ggX4_sheet_X4_failed : GoodIn wsX4_sheet wsX4_failed := goodIn_r _ [14, 1, 24, 25, 26, 27, 28, 29, 30] (by decide +kernel) (by decide +kernel)
set_option maxRecDepth 20000 in
theorem gX4_sheet_X4_failed : GoodIn wsX4_sheet (wsV RX4 62 RX4 yX4_failed wsX4_failed) := goodIn_app (goodIn_of _ (by decide +kernel)) ggX4_sheet_X4_failed
set_option maxRecDepth 20000 in
theorem ggX4_sheet_X2_renew : GoodIn wsX4_sheet wsX2_renew := goodIn_r _ [19, 20, 21, 22, 23, 31, 32, 33, 34] (by decide +kernel) (by decide +kernel)
set_option maxRecDepth 20000 in
theorem gX4_sheet_X2_renew : GoodIn wsX4_sheet (wsV RX4 182 RX2 yX2_renew wsX2_renew) := goodIn_app (goodIn_of _ (by decide +kernel)) ggX4_sheet_X2_renew
theorem dX4_sheet_0 : decode cX4_sheet 0 = .ok (.aload_n 0, 1) := by decide +kernel
theorem dX4_sheet_1 : decode cX4_sheet 1 = .ok (.iconst 0, 1) := by decide +kernel
theorem dX4_sheet_2 : decode cX4_sheet 2 = .ok (.putfield 42, 3) := by decide +kernel
theorem dX4_sheet_5 : decode cX4_sheet 5 = .ok (.aload_n 0, 1) := by decide +kernel
theorem dX4_sheet_6 : decode cX4_sheet 6 = .ok (.iload_n 1, 1) := by decide +kernel
theorem dX4_sheet_7 : decode cX4_sheet 7 = .ok (.invokevirtual 46, 3) := by decide +kernel
theorem dX4_sheet_10 : decode cX4_sheet 10 = .ok (.astore 4, 2) := by decide +kernel
theorem dX4_sheet_12 : decode cX4_sheet 12 = .ok (.aload 4, 2) := by decide +kernel
theorem dX4_sheet_14 : decode cX4_sheet 14 = .ok (.ifnonnull 5, 3) := by decide +kernel
theorem dX4_sheet_17 : decode cX4_sheet 17 = .ok (.iconst (-1), 1) := by decide +kernel
theorem dX4_sheet_18 : decode cX4_sheet 18 = .ok (.ireturn, 1) := by decide +kernel
theorem dX4_sheet_19 : decode cX4_sheet 19 = .ok (.iload_n 2, 1) := by decide +kernel
theorem dX4_sheet_20 : decode cX4_sheet 20 = .ok (.invokestatic 50, 3) := by decide +kernel
theorem dX4_sheet_23 : decode cX4_sheet 23 = .ok (.ifCond .eq 9, 3) := by decide +kernel
theorem dX4_sheet_26 : decode cX4_sheet 26 = .ok (.iload_n 3, 1) := by decide +kernel
theorem dX4_sheet_27 : decode cX4_sheet 27 = .ok (.bipush 60, 2) := by decide +kernel
theorem dX4_sheet_29 : decode cX4_sheet 29 = .ok (.if_icmp .le 6, 3) := by decide +kernel
theorem dX4_sheet_32 : decode cX4_sheet 32 = .ok (.bipush (-2), 2) := by decide +kernel
theorem dX4_sheet_34 : decode cX4_sheet 34 = .ok (.ireturn, 1) := by decide +kernel
theorem dX4_sheet_35 : decode cX4_sheet 35 = .ok (.iload_n 3, 1) := by decide +kernel
theorem dX4_sheet_36 : decode cX4_sheet 36 = .ok (.ifCond .ge 9, 3) := by decide +kernel
theorem dX4_sheet_39 : decode cX4_sheet 39 = .ok (.aload_n 0, 1) := by decide +kernel
theorem dX4_sheet_40 : decode cX4_sheet 40 = .ok (.iconst 4, 1) := by decide +kernel
theorem dX4_sheet_41 : decode cX4_sheet 41 = .ok (.invokevirtual 62, 3) := by decide +kernel
theorem dX4_sheet_44 : decode cX4_sheet 44 = .ok (.ireturn, 1) := by decide +kernel
theorem dX4_sheet_45 : decode cX4_sheet 45 = .ok (.aload 4, 2) := by decide +kernel
theorem dX4_sheet_47 : decode cX4_sheet 47 = .ok (.iload_n 2, 1) := by decide +kernel
theorem dX4_sheet_48 : decode cX4_sheet 48 = .ok (.iload_n 3, 1) := by decide +kernel
theorem dX4_sheet_49 : decode cX4_sheet 49 = .ok (.invokevirtual 182, 3) := by decide +kernel
theorem dX4_sheet_52 : decode cX4_sheet 52 = .ok (.iconst 1, 1) := by decide +kernel
theorem dX4_sheet_53 : decode cX4_sheet 53 = .ok (.ireturn, 1) := by decide +kernel
set_option maxRecDepth 20000 in
theorem ggX4_lose_X4_sheetAt : GoodIn wsX4_lose wsX4_sheetAt := goodIn_r _ [6, 7, 19, 20, 21, 22, 23, 24, 25] (by decide +kernel) (by decide +kernel)
set_option maxRecDepth 20000 in
theorem gX4_lose_X4_sheetAt : GoodIn wsX4_lose (wsV RX4 46 RX4 yX4_sheetAt wsX4_sheetAt) := goodIn_app (goodIn_of _ (by decide +kernel)) ggX4_lose_X4_sheetAt
set_option maxRecDepth 20000 in
theorem ggX4_lose_X2_empty : GoodIn wsX4_lose wsX2_empty := goodIn_r _ [12, 13, 14, 15, 16, 17, 18] (by decide +kernel) (by decide +kernel)
set_option maxRecDepth 20000 in
theorem gX4_lose_X2_empty : GoodIn wsX4_lose (wsV RX4 190 RX2 yX2_empty wsX2_empty) := goodIn_app (goodIn_of _ (by decide +kernel)) ggX4_lose_X2_empty
theorem dX4_lose_0 : decode cX4_lose 0 = .ok (.aload_n 0, 1) := by decide +kernel
theorem dX4_lose_1 : decode cX4_lose 1 = .ok (.iload_n 1, 1) := by decide +kernel
theorem dX4_lose_2 : decode cX4_lose 2 = .ok (.invokevirtual 46, 3) := by decide +kernel
theorem dX4_lose_5 : decode cX4_lose 5 = .ok (.astore_n 2, 1) := by decide +kernel
theorem dX4_lose_6 : decode cX4_lose 6 = .ok (.aload_n 2, 1) := by decide +kernel
theorem dX4_lose_7 : decode cX4_lose 7 = .ok (.ifnonnull 5, 3) := by decide +kernel
theorem dX4_lose_10 : decode cX4_lose 10 = .ok (.iconst (-1), 1) := by decide +kernel
theorem dX4_lose_11 : decode cX4_lose 11 = .ok (.ireturn, 1) := by decide +kernel
theorem dX4_lose_12 : decode cX4_lose 12 = .ok (.aload_n 2, 1) := by decide +kernel
theorem dX4_lose_13 : decode cX4_lose 13 = .ok (.getfield 186, 3) := by decide +kernel
theorem dX4_lose_16 : decode cX4_lose 16 = .ok (.istore_n 3, 1) := by decide +kernel
theorem dX4_lose_17 : decode cX4_lose 17 = .ok (.aload_n 2, 1) := by decide +kernel
theorem dX4_lose_18 : decode cX4_lose 18 = .ok (.invokevirtual 190, 3) := by decide +kernel
theorem dX4_lose_21 : decode cX4_lose 21 = .ok (.iload_n 3, 1) := by decide +kernel
theorem dX4_lose_22 : decode cX4_lose 22 = .ok (.ifCond .eq 7, 3) := by decide +kernel
theorem dX4_lose_25 : decode cX4_lose 25 = .ok (.iconst 1, 1) := by decide +kernel
theorem dX4_lose_26 : decode cX4_lose 26 = .ok (.goto 4, 3) := by decide +kernel
theorem dX4_lose_29 : decode cX4_lose 29 = .ok (.iconst 0, 1) := by decide +kernel
theorem dX4_lose_30 : decode cX4_lose 30 = .ok (.ireturn, 1) := by decide +kernel
set_option maxRecDepth 20000 in
theorem ggX4_put_X4_sheetAt : GoodIn wsX4_put wsX4_sheetAt := goodIn_r _ [8, 9, 25, 26, 27, 28, 29, 30, 31] (by decide +kernel) (by decide +kernel)
set_option maxRecDepth 20000 in
theorem gX4_put_X4_sheetAt : GoodIn wsX4_put (wsV RX4 46 RX4 yX4_sheetAt wsX4_sheetAt) := goodIn_app (goodIn_of _ (by decide +kernel)) ggX4_put_X4_sheetAt
set_option maxRecDepth 20000 in
theorem ggX4_put_X4_failed : GoodIn wsX4_put wsX4_failed := goodIn_r _ [13, 1, 25, 26, 27, 28, 29, 30, 31] (by decide +kernel) (by decide +kernel)
set_option maxRecDepth 20000 in
theorem gX4_put_X4_failed : GoodIn wsX4_put (wsV RX4 62 RX4 yX4_failed wsX4_failed) := goodIn_app (goodIn_of _ (by decide +kernel)) ggX4_put_X4_failed
set_option maxRecDepth 20000 in
theorem ggX4_put_X2_hasCell : GoodIn wsX4_put wsX2_hasCell := goodIn_r _ [18, 19, 32, 33, 34, 35] (by decide +kernel) (by decide +kernel)
set_option maxRecDepth 20000 in
theorem gX4_put_X2_hasCell : GoodIn wsX4_put (wsV RX4 193 RX2 yX2_hasCell wsX2_hasCell) := goodIn_app (goodIn_of _ (by decide +kernel)) ggX4_put_X2_hasCell
set_option maxRecDepth 20000 in
theorem ggX4_put_X2_cutToLane : GoodIn wsX4_put wsX2_cutToLane := goodIn_r _ [23, 24, 32, 33, 34, 35] (by decide +kernel) (by decide +kernel)
set_option maxRecDepth 20000 in
theorem gX4_put_X2_cutToLane : GoodIn wsX4_put (wsV RX4 199 RX2 yX2_cutToLane wsX2_cutToLane) := goodIn_app (goodIn_of _ (by decide +kernel)) ggX4_put_X2_cutToLane
theorem dX4_put_0 : decode cX4_put 0 = .ok (.aload_n 0, 1) := by decide +kernel
theorem dX4_put_1 : decode cX4_put 1 = .ok (.iconst 0, 1) := by decide +kernel
theorem dX4_put_2 : decode cX4_put 2 = .ok (.putfield 42, 3) := by decide +kernel
theorem dX4_put_5 : decode cX4_put 5 = .ok (.aload_n 0, 1) := by decide +kernel
theorem dX4_put_6 : decode cX4_put 6 = .ok (.iload_n 1, 1) := by decide +kernel
theorem dX4_put_7 : decode cX4_put 7 = .ok (.invokevirtual 46, 3) := by decide +kernel
theorem dX4_put_10 : decode cX4_put 10 = .ok (.astore 4, 2) := by decide +kernel
theorem dX4_put_12 : decode cX4_put 12 = .ok (.aload 4, 2) := by decide +kernel
theorem dX4_put_14 : decode cX4_put 14 = .ok (.ifnonnull 5, 3) := by decide +kernel
theorem dX4_put_17 : decode cX4_put 17 = .ok (.iconst (-1), 1) := by decide +kernel
theorem dX4_put_18 : decode cX4_put 18 = .ok (.ireturn, 1) := by decide +kernel
theorem dX4_put_19 : decode cX4_put 19 = .ok (.aload 4, 2) := by decide +kernel
theorem dX4_put_21 : decode cX4_put 21 = .ok (.getfield 186, 3) := by decide +kernel
theorem dX4_put_24 : decode cX4_put 24 = .ok (.ifCond .ne 9, 3) := by decide +kernel
theorem dX4_put_27 : decode cX4_put 27 = .ok (.aload_n 0, 1) := by decide +kernel
theorem dX4_put_28 : decode cX4_put 28 = .ok (.iconst 1, 1) := by decide +kernel
theorem dX4_put_29 : decode cX4_put 29 = .ok (.invokevirtual 62, 3) := by decide +kernel
theorem dX4_put_32 : decode cX4_put 32 = .ok (.ireturn, 1) := by decide +kernel
theorem dX4_put_33 : decode cX4_put 33 = .ok (.aload 4, 2) := by decide +kernel
theorem dX4_put_35 : decode cX4_put 35 = .ok (.iload_n 2, 1) := by decide +kernel
theorem dX4_put_36 : decode cX4_put 36 = .ok (.invokevirtual 193, 3) := by decide +kernel
theorem dX4_put_39 : decode cX4_put 39 = .ok (.ifCond .ne 9, 3) := by decide +kernel
theorem dX4_put_42 : decode cX4_put 42 = .ok (.aload_n 0, 1) := by decide +kernel
theorem dX4_put_43 : decode cX4_put 43 = .ok (.iconst 3, 1) := by decide +kernel
theorem dX4_put_44 : decode cX4_put 44 = .ok (.invokevirtual 62, 3) := by decide +kernel
theorem dX4_put_47 : decode cX4_put 47 = .ok (.ireturn, 1) := by decide +kernel
theorem dX4_put_48 : decode cX4_put 48 = .ok (.aload 4, 2) := by decide +kernel
theorem dX4_put_50 : decode cX4_put 50 = .ok (.getfield 196, 3) := by decide +kernel
theorem dX4_put_53 : decode cX4_put 53 = .ok (.iload_n 2, 1) := by decide +kernel
theorem dX4_put_54 : decode cX4_put 54 = .ok (.aload 4, 2) := by decide +kernel
theorem dX4_put_56 : decode cX4_put 56 = .ok (.iload_n 3, 1) := by decide +kernel
theorem dX4_put_57 : decode cX4_put 57 = .ok (.invokevirtual 199, 3) := by decide +kernel
theorem dX4_put_60 : decode cX4_put 60 = .ok (.iastore, 1) := by decide +kernel
theorem dX4_put_61 : decode cX4_put 61 = .ok (.iconst 1, 1) := by decide +kernel
theorem dX4_put_62 : decode cX4_put 62 = .ok (.ireturn, 1) := by decide +kernel
set_option maxRecDepth 20000 in
theorem ggX4_cell_X4_sheetAt : GoodIn wsX4_cell wsX4_sheetAt := goodIn_r _ [7, 8, 30, 31, 32, 33, 34, 35, 36] (by decide +kernel) (by decide +kernel)
set_option maxRecDepth 20000 in
theorem gX4_cell_X4_sheetAt : GoodIn wsX4_cell (wsV RX4 46 RX4 yX4_sheetAt wsX4_sheetAt) := goodIn_app (goodIn_of _ (by decide +kernel)) ggX4_cell_X4_sheetAt
set_option maxRecDepth 20000 in
theorem ggX4_cell_X4_isLane : GoodIn wsX4_cell wsX4_isLane := goodIn_r _ [11] (by decide +kernel) (by decide +kernel)
set_option maxRecDepth 20000 in
theorem gX4_cell_X4_isLane : GoodIn wsX4_cell (va_wsS RX4 50 yX4_isLane wsX4_isLane) := goodIn_app (goodIn_of _ (by decide +kernel)) ggX4_cell_X4_isLane
set_option maxRecDepth 20000 in
theorem ggX4_cell_X2_faultAs : GoodIn wsX4_cell wsX2_faultAs := goodIn_r _ [16, 17, 18, 37, 38, 39, 40] (by decide +kernel) (by decide +kernel)
set_option maxRecDepth 20000 in
theorem gX4_cell_X2_faultAs : GoodIn wsX4_cell (wsV RX4 54 RX2 yX2_faultAs wsX2_faultAs) := goodIn_app (goodIn_of _ (by decide +kernel)) ggX4_cell_X2_faultAs
set_option maxRecDepth 20000 in
theorem ggX4_cell_X2_hasCell : GoodIn wsX4_cell wsX2_hasCell := goodIn_r _ [22, 23, 37, 38, 39, 40] (by decide +kernel) (by decide +kernel)
set_option maxRecDepth 20000 in
theorem gX4_cell_X2_hasCell : GoodIn wsX4_cell (wsV RX4 193 RX2 yX2_hasCell wsX2_hasCell) := goodIn_app (goodIn_of _ (by decide +kernel)) ggX4_cell_X2_hasCell
set_option maxRecDepth 20000 in
theorem ggX4_cell_X2_at : GoodIn wsX4_cell wsX2_at := goodIn_r _ [27, 28, 29, 20, 21, 15, 22, 23, 37, 38, 39, 40] (by decide +kernel) (by decide +kernel)
set_option maxRecDepth 20000 in
theorem gX4_cell_X2_at : GoodIn wsX4_cell (wsV RX4 202 RX2 yX2_at wsX2_at) := goodIn_app (goodIn_of _ (by decide +kernel)) ggX4_cell_X2_at
theorem dX4_cell_0 : decode cX4_cell 0 = .ok (.aload_n 0, 1) := by decide +kernel
theorem dX4_cell_1 : decode cX4_cell 1 = .ok (.iconst 0, 1) := by decide +kernel
theorem dX4_cell_2 : decode cX4_cell 2 = .ok (.putfield 42, 3) := by decide +kernel
theorem dX4_cell_5 : decode cX4_cell 5 = .ok (.aload_n 0, 1) := by decide +kernel
theorem dX4_cell_6 : decode cX4_cell 6 = .ok (.iload_n 1, 1) := by decide +kernel
theorem dX4_cell_7 : decode cX4_cell 7 = .ok (.invokevirtual 46, 3) := by decide +kernel
theorem dX4_cell_10 : decode cX4_cell 10 = .ok (.astore 4, 2) := by decide +kernel
theorem dX4_cell_12 : decode cX4_cell 12 = .ok (.aload 4, 2) := by decide +kernel
theorem dX4_cell_14 : decode cX4_cell 14 = .ok (.ifnull 10, 3) := by decide +kernel
theorem dX4_cell_17 : decode cX4_cell 17 = .ok (.iload_n 3, 1) := by decide +kernel
theorem dX4_cell_18 : decode cX4_cell 18 = .ok (.invokestatic 50, 3) := by decide +kernel
theorem dX4_cell_21 : decode cX4_cell 21 = .ok (.ifCond .ne 7, 3) := by decide +kernel
theorem dX4_cell_24 : decode cX4_cell 24 = .ok (.ldc2_w 180, 3) := by decide +kernel
theorem dX4_cell_27 : decode cX4_cell 27 = .ok (.lreturn, 1) := by decide +kernel
theorem dX4_cell_28 : decode cX4_cell 28 = .ok (.aload_n 0, 1) := by decide +kernel
theorem dX4_cell_29 : decode cX4_cell 29 = .ok (.aload 4, 2) := by decide +kernel
theorem dX4_cell_31 : decode cX4_cell 31 = .ok (.iload_n 3, 1) := by decide +kernel
theorem dX4_cell_32 : decode cX4_cell 32 = .ok (.invokevirtual 54, 3) := by decide +kernel
theorem dX4_cell_35 : decode cX4_cell 35 = .ok (.putfield 42, 3) := by decide +kernel
theorem dX4_cell_38 : decode cX4_cell 38 = .ok (.aload_n 0, 1) := by decide +kernel
theorem dX4_cell_39 : decode cX4_cell 39 = .ok (.getfield 42, 3) := by decide +kernel
theorem dX4_cell_42 : decode cX4_cell 42 = .ok (.ifCond .ne 17, 3) := by decide +kernel
theorem dX4_cell_45 : decode cX4_cell 45 = .ok (.aload 4, 2) := by decide +kernel
theorem dX4_cell_47 : decode cX4_cell 47 = .ok (.iload_n 2, 1) := by decide +kernel
theorem dX4_cell_48 : decode cX4_cell 48 = .ok (.invokevirtual 193, 3) := by decide +kernel
theorem dX4_cell_51 : decode cX4_cell 51 = .ok (.ifCond .ne 8, 3) := by decide +kernel
theorem dX4_cell_54 : decode cX4_cell 54 = .ok (.aload_n 0, 1) := by decide +kernel
theorem dX4_cell_55 : decode cX4_cell 55 = .ok (.iconst 3, 1) := by decide +kernel
theorem dX4_cell_56 : decode cX4_cell 56 = .ok (.putfield 42, 3) := by decide +kernel
theorem dX4_cell_59 : decode cX4_cell 59 = .ok (.aload_n 0, 1) := by decide +kernel
theorem dX4_cell_60 : decode cX4_cell 60 = .ok (.getfield 42, 3) := by decide +kernel
theorem dX4_cell_63 : decode cX4_cell 63 = .ok (.ifCond .ne 13, 3) := by decide +kernel
theorem dX4_cell_66 : decode cX4_cell 66 = .ok (.aload 4, 2) := by decide +kernel
theorem dX4_cell_68 : decode cX4_cell 68 = .ok (.iload_n 2, 1) := by decide +kernel
theorem dX4_cell_69 : decode cX4_cell 69 = .ok (.invokevirtual 202, 3) := by decide +kernel
theorem dX4_cell_72 : decode cX4_cell 72 = .ok (.i2l, 1) := by decide +kernel
theorem dX4_cell_73 : decode cX4_cell 73 = .ok (.goto 6, 3) := by decide +kernel
theorem dX4_cell_76 : decode cX4_cell 76 = .ok (.ldc2_w 180, 3) := by decide +kernel
theorem dX4_cell_79 : decode cX4_cell 79 = .ok (.lreturn, 1) := by decide +kernel
set_option maxRecDepth 20000 in
theorem ggX4_copy_X4_sheetAt : GoodIn wsX4_copy wsX4_sheetAt := goodIn_r _ [13, 14, 25, 26, 27, 28, 29, 30, 31] (by decide +kernel) (by decide +kernel)
set_option maxRecDepth 20000 in
theorem gX4_copy_X4_sheetAt : GoodIn wsX4_copy (wsV RX4 46 RX4 yX4_sheetAt wsX4_sheetAt) := goodIn_app (goodIn_of _ (by decide +kernel)) ggX4_copy_X4_sheetAt
set_option maxRecDepth 20000 in
theorem ggX4_copy_X4_failed : GoodIn wsX4_copy wsX4_failed := goodIn_r _ [18, 1, 25, 26, 27, 28, 29, 30, 31] (by decide +kernel) (by decide +kernel)
set_option maxRecDepth 20000 in
theorem gX4_copy_X4_failed : GoodIn wsX4_copy (wsV RX4 62 RX4 yX4_failed wsX4_failed) := goodIn_app (goodIn_of _ (by decide +kernel)) ggX4_copy_X4_failed
set_option maxRecDepth 20000 in
theorem ggX4_copy_X2_holds : GoodIn wsX4_copy wsX2_holds := goodIn_r _ [23, 24, 32, 33, 34, 35] (by decide +kernel) (by decide +kernel)
set_option maxRecDepth 20000 in
theorem gX4_copy_X2_holds : GoodIn wsX4_copy (wsV RX4 58 RX2 yX2_holds wsX2_holds) := goodIn_app (goodIn_of _ (by decide +kernel)) ggX4_copy_X2_holds
theorem dX4_copy_0 : decode cX4_copy 0 = .ok (.aload_n 0, 1) := by decide +kernel
theorem dX4_copy_1 : decode cX4_copy 1 = .ok (.iconst 0, 1) := by decide +kernel
theorem dX4_copy_2 : decode cX4_copy 2 = .ok (.putfield 42, 3) := by decide +kernel
theorem dX4_copy_5 : decode cX4_copy 5 = .ok (.aload_n 0, 1) := by decide +kernel
theorem dX4_copy_6 : decode cX4_copy 6 = .ok (.iload_n 1, 1) := by decide +kernel
theorem dX4_copy_7 : decode cX4_copy 7 = .ok (.invokevirtual 46, 3) := by decide +kernel
theorem dX4_copy_10 : decode cX4_copy 10 = .ok (.astore 6, 2) := by decide +kernel
theorem dX4_copy_12 : decode cX4_copy 12 = .ok (.aload_n 0, 1) := by decide +kernel
theorem dX4_copy_13 : decode cX4_copy 13 = .ok (.iload_n 3, 1) := by decide +kernel
theorem dX4_copy_14 : decode cX4_copy 14 = .ok (.invokevirtual 46, 3) := by decide +kernel
theorem dX4_copy_17 : decode cX4_copy 17 = .ok (.astore 7, 2) := by decide +kernel
theorem dX4_copy_19 : decode cX4_copy 19 = .ok (.aload 6, 2) := by decide +kernel
theorem dX4_copy_21 : decode cX4_copy 21 = .ok (.ifnull 8, 3) := by decide +kernel
theorem dX4_copy_24 : decode cX4_copy 24 = .ok (.aload 7, 2) := by decide +kernel
theorem dX4_copy_26 : decode cX4_copy 26 = .ok (.ifnonnull 5, 3) := by decide +kernel
theorem dX4_copy_29 : decode cX4_copy 29 = .ok (.iconst (-1), 1) := by decide +kernel
theorem dX4_copy_30 : decode cX4_copy 30 = .ok (.ireturn, 1) := by decide +kernel
theorem dX4_copy_31 : decode cX4_copy 31 = .ok (.aload 6, 2) := by decide +kernel
theorem dX4_copy_33 : decode cX4_copy 33 = .ok (.getfield 186, 3) := by decide +kernel
theorem dX4_copy_36 : decode cX4_copy 36 = .ok (.ifCond .eq 11, 3) := by decide +kernel
theorem dX4_copy_39 : decode cX4_copy 39 = .ok (.aload 7, 2) := by decide +kernel
theorem dX4_copy_41 : decode cX4_copy 41 = .ok (.getfield 186, 3) := by decide +kernel
theorem dX4_copy_44 : decode cX4_copy 44 = .ok (.ifCond .ne 9, 3) := by decide +kernel
theorem dX4_copy_47 : decode cX4_copy 47 = .ok (.aload_n 0, 1) := by decide +kernel
theorem dX4_copy_48 : decode cX4_copy 48 = .ok (.iconst 1, 1) := by decide +kernel
theorem dX4_copy_49 : decode cX4_copy 49 = .ok (.invokevirtual 62, 3) := by decide +kernel
theorem dX4_copy_52 : decode cX4_copy 52 = .ok (.ireturn, 1) := by decide +kernel
theorem dX4_copy_53 : decode cX4_copy 53 = .ok (.aload 6, 2) := by decide +kernel
theorem dX4_copy_55 : decode cX4_copy 55 = .ok (.getfield 205, 3) := by decide +kernel
theorem dX4_copy_58 : decode cX4_copy 58 = .ok (.aload 7, 2) := by decide +kernel
theorem dX4_copy_60 : decode cX4_copy 60 = .ok (.getfield 205, 3) := by decide +kernel
theorem dX4_copy_63 : decode cX4_copy 63 = .ok (.if_icmp .eq 9, 3) := by decide +kernel
theorem dX4_copy_66 : decode cX4_copy 66 = .ok (.aload_n 0, 1) := by decide +kernel
theorem dX4_copy_67 : decode cX4_copy 67 = .ok (.iconst 2, 1) := by decide +kernel
theorem dX4_copy_68 : decode cX4_copy 68 = .ok (.invokevirtual 62, 3) := by decide +kernel
theorem dX4_copy_71 : decode cX4_copy 71 = .ok (.ireturn, 1) := by decide +kernel
theorem dX4_copy_72 : decode cX4_copy 72 = .ok (.aload 6, 2) := by decide +kernel
theorem dX4_copy_74 : decode cX4_copy 74 = .ok (.iload_n 2, 1) := by decide +kernel
theorem dX4_copy_75 : decode cX4_copy 75 = .ok (.iload 5, 2) := by decide +kernel
theorem dX4_copy_77 : decode cX4_copy 77 = .ok (.invokevirtual 58, 3) := by decide +kernel
theorem dX4_copy_80 : decode cX4_copy 80 = .ok (.ifCond .eq 15, 3) := by decide +kernel
theorem dX4_copy_83 : decode cX4_copy 83 = .ok (.aload 7, 2) := by decide +kernel
theorem dX4_copy_85 : decode cX4_copy 85 = .ok (.iload 4, 2) := by decide +kernel
theorem dX4_copy_87 : decode cX4_copy 87 = .ok (.iload 5, 2) := by decide +kernel
theorem dX4_copy_89 : decode cX4_copy 89 = .ok (.invokevirtual 58, 3) := by decide +kernel
theorem dX4_copy_92 : decode cX4_copy 92 = .ok (.ifCond .ne 9, 3) := by decide +kernel
theorem dX4_copy_95 : decode cX4_copy 95 = .ok (.aload_n 0, 1) := by decide +kernel
theorem dX4_copy_96 : decode cX4_copy 96 = .ok (.iconst 3, 1) := by decide +kernel
theorem dX4_copy_97 : decode cX4_copy 97 = .ok (.invokevirtual 62, 3) := by decide +kernel
theorem dX4_copy_100 : decode cX4_copy 100 = .ok (.ireturn, 1) := by decide +kernel
theorem dX4_copy_101 : decode cX4_copy 101 = .ok (.aload 6, 2) := by decide +kernel
theorem dX4_copy_103 : decode cX4_copy 103 = .ok (.getfield 196, 3) := by decide +kernel
theorem dX4_copy_106 : decode cX4_copy 106 = .ok (.iload_n 2, 1) := by decide +kernel
theorem dX4_copy_107 : decode cX4_copy 107 = .ok (.aload 7, 2) := by decide +kernel
theorem dX4_copy_109 : decode cX4_copy 109 = .ok (.getfield 196, 3) := by decide +kernel
theorem dX4_copy_112 : decode cX4_copy 112 = .ok (.iload 4, 2) := by decide +kernel
theorem dX4_copy_114 : decode cX4_copy 114 = .ok (.iload 5, 2) := by decide +kernel
theorem dX4_copy_116 : decode cX4_copy 116 = .ok (.invokestatic 208, 3) := by decide +kernel
theorem dX4_copy_119 : decode cX4_copy 119 = .ok (.iload 5, 2) := by decide +kernel
theorem dX4_copy_121 : decode cX4_copy 121 = .ok (.ireturn, 1) := by decide +kernel
set_option maxRecDepth 20000 in
theorem ggX4_tell_X3_has : GoodIn wsX4_tell wsX3_has := goodIn_r _ [7, 8, 35, 36, 37, 38, 39, 40] (by decide +kernel) (by decide +kernel)
set_option maxRecDepth 20000 in
theorem gX4_tell_X3_has : GoodIn wsX4_tell (wsV RX4 76 RX3 yX3_has wsX3_has) := goodIn_app (goodIn_of _ (by decide +kernel)) ggX4_tell_X3_has
set_option maxRecDepth 20000 in
theorem ggX4_tell_X4_tellAsRider : GoodIn wsX4_tell wsX4_tellAsRider := goodIn_r _ [13, 14, 15, 16, 12, 17, 18, 19, 20, 21, 22, 1, 23, 3, 4, 5, 6, 7, 8, 28, 29, 30, 31, 32, 33, 34, 35, 36, 37, 38, 39, 40] (by decide +kernel) (by decide +kernel)
set_option maxRecDepth 20000 in
theorem gX4_tell_X4_tellAsRider : GoodIn wsX4_tell (wsV RX4 214 RX4 yX4_tellAsRider wsX4_tellAsRider) := goodIn_app (goodIn_of _ (by decide +kernel)) ggX4_tell_X4_tellAsRider
set_option maxRecDepth 20000 in
theorem ggX4_tell_X4_tellAsPole : GoodIn wsX4_tell wsX4_tellAsPole := goodIn_r _ [27, 14, 15, 16, 12, 17, 18, 9, 10, 11, 13, 19, 20, 21, 22, 1, 23, 3, 4, 5, 6, 7, 8, 28, 29, 30, 31, 32, 33, 34, 35, 36, 37, 38, 39, 40] (by decide +kernel) (by decide +kernel)
set_option maxRecDepth 20000 in
theorem gX4_tell_X4_tellAsPole : GoodIn wsX4_tell (wsV RX4 217 RX4 yX4_tellAsPole wsX4_tellAsPole) := goodIn_app (goodIn_of _ (by decide +kernel)) ggX4_tell_X4_tellAsPole
set_option maxRecDepth 20000 in
theorem ggX4_tell_X4_tellAsStander : GoodIn wsX4_tell wsX4_tellAsStander := goodIn_r _ [22, 1, 23, 14, 15, 16, 12, 17, 18, 3, 4, 5, 6, 7, 8, 28, 29, 30, 31, 32, 33, 34, 35, 36, 37, 38, 39, 40] (by decide +kernel) (by decide +kernel)
set_option maxRecDepth 20000 in
theorem gX4_tell_X4_tellAsStander : GoodIn wsX4_tell (wsV RX4 220 RX4 yX4_tellAsStander wsX4_tellAsStander) := goodIn_app (goodIn_of _ (by decide +kernel)) ggX4_tell_X4_tellAsStander
theorem dX4_tell_0 : decode cX4_tell 0 = .ok (.aload_n 0, 1) := by decide +kernel
theorem dX4_tell_1 : decode cX4_tell 1 = .ok (.getfield 14, 3) := by decide +kernel
theorem dX4_tell_4 : decode cX4_tell 4 = .ok (.iload_n 1, 1) := by decide +kernel
theorem dX4_tell_5 : decode cX4_tell 5 = .ok (.invokevirtual 76, 3) := by decide +kernel
theorem dX4_tell_8 : decode cX4_tell 8 = .ok (.ifCond .ne 5, 3) := by decide +kernel
theorem dX4_tell_11 : decode cX4_tell 11 = .ok (.iconst (-1), 1) := by decide +kernel
theorem dX4_tell_12 : decode cX4_tell 12 = .ok (.ireturn, 1) := by decide +kernel
theorem dX4_tell_13 : decode cX4_tell 13 = .ok (.aload_n 0, 1) := by decide +kernel
theorem dX4_tell_14 : decode cX4_tell 14 = .ok (.getfield 14, 3) := by decide +kernel
theorem dX4_tell_17 : decode cX4_tell 17 = .ok (.getfield 79, 3) := by decide +kernel
theorem dX4_tell_20 : decode cX4_tell 20 = .ok (.iload_n 1, 1) := by decide +kernel
theorem dX4_tell_21 : decode cX4_tell 21 = .ok (.iaload, 1) := by decide +kernel
theorem dX4_tell_22 : decode cX4_tell 22 = .ok (.lookupswitch 38 #[(1, 26), (2, 32)], 26) := by decide +kernel
theorem dX4_tell_48 : decode cX4_tell 48 = .ok (.aload_n 0, 1) := by decide +kernel
theorem dX4_tell_49 : decode cX4_tell 49 = .ok (.iload_n 1, 1) := by decide +kernel
theorem dX4_tell_50 : decode cX4_tell 50 = .ok (.invokevirtual 214, 3) := by decide +kernel
theorem dX4_tell_53 : decode cX4_tell 53 = .ok (.ireturn, 1) := by decide +kernel
theorem dX4_tell_54 : decode cX4_tell 54 = .ok (.aload_n 0, 1) := by decide +kernel
theorem dX4_tell_55 : decode cX4_tell 55 = .ok (.iload_n 1, 1) := by decide +kernel
theorem dX4_tell_56 : decode cX4_tell 56 = .ok (.invokevirtual 217, 3) := by decide +kernel
theorem dX4_tell_59 : decode cX4_tell 59 = .ok (.ireturn, 1) := by decide +kernel
theorem dX4_tell_60 : decode cX4_tell 60 = .ok (.aload_n 0, 1) := by decide +kernel
theorem dX4_tell_61 : decode cX4_tell 61 = .ok (.iload_n 1, 1) := by decide +kernel
theorem dX4_tell_62 : decode cX4_tell 62 = .ok (.invokevirtual 220, 3) := by decide +kernel
theorem dX4_tell_65 : decode cX4_tell 65 = .ok (.ireturn, 1) := by decide +kernel
set_option maxRecDepth 20000 in
theorem ggX4_tax_X3_has : GoodIn wsX4_tax wsX3_has := goodIn_r _ [7, 8, 22, 23, 24, 25, 26, 27] (by decide +kernel) (by decide +kernel)
set_option maxRecDepth 20000 in
theorem gX4_tax_X3_has : GoodIn wsX4_tax (wsV RX4 76 RX3 yX3_has wsX3_has) := goodIn_app (goodIn_of _ (by decide +kernel)) ggX4_tax_X3_has
set_option maxRecDepth 20000 in
theorem ggX4_tax_X4_leaveInTrace : GoodIn wsX4_tax wsX4_leaveInTrace := goodIn_r _ [13, 14, 15, 16, 17, 18, 19, 20, 21] (by decide +kernel) (by decide +kernel)
set_option maxRecDepth 20000 in
theorem gX4_tax_X4_leaveInTrace : GoodIn wsX4_tax (wsV RX4 223 RX4 yX4_leaveInTrace wsX4_leaveInTrace) := goodIn_app (goodIn_of _ (by decide +kernel)) ggX4_tax_X4_leaveInTrace
theorem dX4_tax_0 : decode cX4_tax 0 = .ok (.aload_n 0, 1) := by decide +kernel
theorem dX4_tax_1 : decode cX4_tax 1 = .ok (.getfield 14, 3) := by decide +kernel
theorem dX4_tax_4 : decode cX4_tax 4 = .ok (.iload_n 1, 1) := by decide +kernel
theorem dX4_tax_5 : decode cX4_tax 5 = .ok (.invokevirtual 76, 3) := by decide +kernel
theorem dX4_tax_8 : decode cX4_tax 8 = .ok (.ifCond .ne 5, 3) := by decide +kernel
theorem dX4_tax_11 : decode cX4_tax 11 = .ok (.iconst (-1), 1) := by decide +kernel
theorem dX4_tax_12 : decode cX4_tax 12 = .ok (.ireturn, 1) := by decide +kernel
theorem dX4_tax_13 : decode cX4_tax 13 = .ok (.aload_n 0, 1) := by decide +kernel
theorem dX4_tax_14 : decode cX4_tax 14 = .ok (.getfield 14, 3) := by decide +kernel
theorem dX4_tax_17 : decode cX4_tax 17 = .ok (.getfield 79, 3) := by decide +kernel
theorem dX4_tax_20 : decode cX4_tax 20 = .ok (.iload_n 1, 1) := by decide +kernel
theorem dX4_tax_21 : decode cX4_tax 21 = .ok (.iaload, 1) := by decide +kernel
theorem dX4_tax_22 : decode cX4_tax 22 = .ok (.iconst 2, 1) := by decide +kernel
theorem dX4_tax_23 : decode cX4_tax 23 = .ok (.if_icmp .ne 11, 3) := by decide +kernel
theorem dX4_tax_26 : decode cX4_tax 26 = .ok (.aload_n 0, 1) := by decide +kernel
theorem dX4_tax_27 : decode cX4_tax 27 = .ok (.iconst 5, 1) := by decide +kernel
theorem dX4_tax_28 : decode cX4_tax 28 = .ok (.invokevirtual 223, 3) := by decide +kernel
theorem dX4_tax_31 : decode cX4_tax 31 = .ok (.bipush 60, 2) := by decide +kernel
theorem dX4_tax_33 : decode cX4_tax 33 = .ok (.ireturn, 1) := by decide +kernel
theorem dX4_tax_34 : decode cX4_tax 34 = .ok (.aload_n 0, 1) := by decide +kernel
theorem dX4_tax_35 : decode cX4_tax 35 = .ok (.iconst 4, 1) := by decide +kernel
theorem dX4_tax_36 : decode cX4_tax 36 = .ok (.invokevirtual 223, 3) := by decide +kernel
theorem dX4_tax_39 : decode cX4_tax 39 = .ok (.iload_n 1, 1) := by decide +kernel
theorem dX4_tax_40 : decode cX4_tax 40 = .ok (.ireturn, 1) := by decide +kernel
set_option maxRecDepth 20000 in
theorem ggX4_as_X3_has : GoodIn wsX4_as wsX3_has := goodIn_r _ [8, 9, 22, 23, 24, 25, 26, 27] (by decide +kernel) (by decide +kernel)
set_option maxRecDepth 20000 in
theorem gX4_as_X3_has : GoodIn wsX4_as (wsV RX4 76 RX3 yX3_has wsX3_has) := goodIn_app (goodIn_of _ (by decide +kernel)) ggX4_as_X3_has
set_option maxRecDepth 20000 in
theorem ggX4_as_X4_failed : GoodIn wsX4_as wsX4_failed := goodIn_r _ [14, 1, 15, 16, 17, 18, 19, 20, 21] (by decide +kernel) (by decide +kernel)
set_option maxRecDepth 20000 in
theorem gX4_as_X4_failed : GoodIn wsX4_as (wsV RX4 62 RX4 yX4_failed wsX4_failed) := goodIn_app (goodIn_of _ (by decide +kernel)) ggX4_as_X4_failed
theorem dX4_as_0 : decode cX4_as 0 = .ok (.aload_n 0, 1) := by decide +kernel
theorem dX4_as_1 : decode cX4_as 1 = .ok (.iconst 0, 1) := by decide +kernel
theorem dX4_as_2 : decode cX4_as 2 = .ok (.putfield 42, 3) := by decide +kernel
theorem dX4_as_5 : decode cX4_as 5 = .ok (.aload_n 0, 1) := by decide +kernel
theorem dX4_as_6 : decode cX4_as 6 = .ok (.getfield 14, 3) := by decide +kernel
theorem dX4_as_9 : decode cX4_as 9 = .ok (.iload_n 1, 1) := by decide +kernel
theorem dX4_as_10 : decode cX4_as 10 = .ok (.invokevirtual 76, 3) := by decide +kernel
theorem dX4_as_13 : decode cX4_as 13 = .ok (.ifCond .ne 5, 3) := by decide +kernel
theorem dX4_as_16 : decode cX4_as 16 = .ok (.iconst (-1), 1) := by decide +kernel
theorem dX4_as_17 : decode cX4_as 17 = .ok (.ireturn, 1) := by decide +kernel
theorem dX4_as_18 : decode cX4_as 18 = .ok (.iload_n 2, 1) := by decide +kernel
theorem dX4_as_19 : decode cX4_as 19 = .ok (.ifCond .lt 8, 3) := by decide +kernel
theorem dX4_as_22 : decode cX4_as 22 = .ok (.iload_n 2, 1) := by decide +kernel
theorem dX4_as_23 : decode cX4_as 23 = .ok (.iconst 2, 1) := by decide +kernel
theorem dX4_as_24 : decode cX4_as 24 = .ok (.if_icmp .le 6, 3) := by decide +kernel
theorem dX4_as_27 : decode cX4_as 27 = .ok (.bipush (-2), 2) := by decide +kernel
theorem dX4_as_29 : decode cX4_as 29 = .ok (.ireturn, 1) := by decide +kernel
theorem dX4_as_30 : decode cX4_as 30 = .ok (.iload_n 2, 1) := by decide +kernel
theorem dX4_as_31 : decode cX4_as 31 = .ok (.aload_n 0, 1) := by decide +kernel
theorem dX4_as_32 : decode cX4_as 32 = .ok (.getfield 14, 3) := by decide +kernel
theorem dX4_as_35 : decode cX4_as 35 = .ok (.getfield 79, 3) := by decide +kernel
theorem dX4_as_38 : decode cX4_as 38 = .ok (.iload_n 1, 1) := by decide +kernel
theorem dX4_as_39 : decode cX4_as 39 = .ok (.iaload, 1) := by decide +kernel
theorem dX4_as_40 : decode cX4_as 40 = .ok (.if_icmp .gt 7, 3) := by decide +kernel
theorem dX4_as_43 : decode cX4_as 43 = .ok (.iconst 1, 1) := by decide +kernel
theorem dX4_as_44 : decode cX4_as 44 = .ok (.goto 8, 3) := by decide +kernel
theorem dX4_as_47 : decode cX4_as 47 = .ok (.aload_n 0, 1) := by decide +kernel
theorem dX4_as_48 : decode cX4_as 48 = .ok (.iconst 2, 1) := by decide +kernel
theorem dX4_as_49 : decode cX4_as 49 = .ok (.invokevirtual 62, 3) := by decide +kernel
theorem dX4_as_52 : decode cX4_as 52 = .ok (.ireturn, 1) := by decide +kernel
theorem dX4_trace_0 : decode cX4_trace 0 = .ok (.aload_n 0, 1) := by decide +kernel
theorem dX4_trace_1 : decode cX4_trace 1 = .ok (.getfield 227, 3) := by decide +kernel
theorem dX4_trace_4 : decode cX4_trace 4 = .ok (.ireturn, 1) := by decide +kernel
theorem dX4_fault_0 : decode cX4_fault 0 = .ok (.aload_n 0, 1) := by decide +kernel
theorem dX4_fault_1 : decode cX4_fault 1 = .ok (.getfield 42, 3) := by decide +kernel
theorem dX4_fault_4 : decode cX4_fault 4 = .ok (.ireturn, 1) := by decide +kernel
theorem dX4_many_0 : decode cX4_many 0 = .ok (.iload_n 1, 1) := by decide +kernel
theorem dX4_many_1 : decode cX4_many 1 = .ok (.tableswitch 63 0 3 #[31, 39, 47, 55], 31) := by decide +kernel
theorem dX4_many_32 : decode cX4_many 32 = .ok (.aload_n 0, 1) := by decide +kernel
theorem dX4_many_33 : decode cX4_many 33 = .ok (.getfield 14, 3) := by decide +kernel
theorem dX4_many_36 : decode cX4_many 36 = .ok (.getfield 73, 3) := by decide +kernel
theorem dX4_many_39 : decode cX4_many 39 = .ok (.ireturn, 1) := by decide +kernel
theorem dX4_many_40 : decode cX4_many 40 = .ok (.aload_n 0, 1) := by decide +kernel
theorem dX4_many_41 : decode cX4_many 41 = .ok (.getfield 14, 3) := by decide +kernel
theorem dX4_many_44 : decode cX4_many 44 = .ok (.getfield 124, 3) := by decide +kernel
theorem dX4_many_47 : decode cX4_many 47 = .ok (.ireturn, 1) := by decide +kernel
theorem dX4_many_48 : decode cX4_many 48 = .ok (.aload_n 0, 1) := by decide +kernel
theorem dX4_many_49 : decode cX4_many 49 = .ok (.getfield 14, 3) := by decide +kernel
theorem dX4_many_52 : decode cX4_many 52 = .ok (.getfield 96, 3) := by decide +kernel
theorem dX4_many_55 : decode cX4_many 55 = .ok (.ireturn, 1) := by decide +kernel
theorem dX4_many_56 : decode cX4_many 56 = .ok (.aload_n 0, 1) := by decide +kernel
theorem dX4_many_57 : decode cX4_many 57 = .ok (.getfield 31, 3) := by decide +kernel
theorem dX4_many_60 : decode cX4_many 60 = .ok (.getfield 171, 3) := by decide +kernel
theorem dX4_many_63 : decode cX4_many 63 = .ok (.ireturn, 1) := by decide +kernel
theorem dX4_many_64 : decode cX4_many 64 = .ok (.bipush (-2), 2) := by decide +kernel
theorem dX4_many_66 : decode cX4_many 66 = .ok (.ireturn, 1) := by decide +kernel
theorem dX4_isDigit_0 : decode cX4_isDigit 0 = .ok (.iload_n 0, 1) := by decide +kernel
theorem dX4_isDigit_1 : decode cX4_isDigit 1 = .ok (.ifCond .lt 13, 3) := by decide +kernel
theorem dX4_isDigit_4 : decode cX4_isDigit 4 = .ok (.iload_n 0, 1) := by decide +kernel
theorem dX4_isDigit_5 : decode cX4_isDigit 5 = .ok (.bipush 9, 2) := by decide +kernel
theorem dX4_isDigit_7 : decode cX4_isDigit 7 = .ok (.if_icmp .gt 7, 3) := by decide +kernel
theorem dX4_isDigit_10 : decode cX4_isDigit 10 = .ok (.iconst 1, 1) := by decide +kernel
theorem dX4_isDigit_11 : decode cX4_isDigit 11 = .ok (.goto 4, 3) := by decide +kernel
theorem dX4_isDigit_14 : decode cX4_isDigit 14 = .ok (.iconst 0, 1) := by decide +kernel
theorem dX4_isDigit_15 : decode cX4_isDigit 15 = .ok (.ireturn, 1) := by decide +kernel
theorem dX4_isSun_0 : decode cX4_isSun 0 = .ok (.iload_n 0, 1) := by decide +kernel
theorem dX4_isSun_1 : decode cX4_isSun 1 = .ok (.iconst 1, 1) := by decide +kernel
theorem dX4_isSun_2 : decode cX4_isSun 2 = .ok (.if_icmp .lt 12, 3) := by decide +kernel
theorem dX4_isSun_5 : decode cX4_isSun 5 = .ok (.iload_n 0, 1) := by decide +kernel
theorem dX4_isSun_6 : decode cX4_isSun 6 = .ok (.iconst 3, 1) := by decide +kernel
theorem dX4_isSun_7 : decode cX4_isSun 7 = .ok (.if_icmp .gt 7, 3) := by decide +kernel
theorem dX4_isSun_10 : decode cX4_isSun 10 = .ok (.iconst 1, 1) := by decide +kernel
theorem dX4_isSun_11 : decode cX4_isSun 11 = .ok (.goto 4, 3) := by decide +kernel
theorem dX4_isSun_14 : decode cX4_isSun 14 = .ok (.iconst 0, 1) := by decide +kernel
theorem dX4_isSun_15 : decode cX4_isSun 15 = .ok (.ireturn, 1) := by decide +kernel
theorem dX4_isLane_0 : decode cX4_isLane 0 = .ok (.iload_n 0, 1) := by decide +kernel
theorem dX4_isLane_1 : decode cX4_isLane 1 = .ok (.ifCond .lt 12, 3) := by decide +kernel
theorem dX4_isLane_4 : decode cX4_isLane 4 = .ok (.iload_n 0, 1) := by decide +kernel
theorem dX4_isLane_5 : decode cX4_isLane 5 = .ok (.iconst 2, 1) := by decide +kernel
theorem dX4_isLane_6 : decode cX4_isLane 6 = .ok (.if_icmp .gt 7, 3) := by decide +kernel
theorem dX4_isLane_9 : decode cX4_isLane 9 = .ok (.iconst 1, 1) := by decide +kernel
theorem dX4_isLane_10 : decode cX4_isLane 10 = .ok (.goto 4, 3) := by decide +kernel
theorem dX4_isLane_13 : decode cX4_isLane 13 = .ok (.iconst 0, 1) := by decide +kernel
theorem dX4_isLane_14 : decode cX4_isLane 14 = .ok (.ireturn, 1) := by decide +kernel
theorem dX4_isAskedOfWalks_0 : decode cX4_isAskedOfWalks 0 = .ok (.iload_n 0, 1) := by decide +kernel
theorem dX4_isAskedOfWalks_1 : decode cX4_isAskedOfWalks 1 = .ok (.ifCond .lt 8, 3) := by decide +kernel
theorem dX4_isAskedOfWalks_4 : decode cX4_isAskedOfWalks 4 = .ok (.iload_n 0, 1) := by decide +kernel
theorem dX4_isAskedOfWalks_5 : decode cX4_isAskedOfWalks 5 = .ok (.iconst 3, 1) := by decide +kernel
theorem dX4_isAskedOfWalks_6 : decode cX4_isAskedOfWalks 6 = .ok (.if_icmp .le 15, 3) := by decide +kernel
theorem dX4_isAskedOfWalks_9 : decode cX4_isAskedOfWalks 9 = .ok (.iload_n 0, 1) := by decide +kernel
theorem dX4_isAskedOfWalks_10 : decode cX4_isAskedOfWalks 10 = .ok (.bipush 10, 2) := by decide +kernel
theorem dX4_isAskedOfWalks_12 : decode cX4_isAskedOfWalks 12 = .ok (.if_icmp .lt 13, 3) := by decide +kernel
theorem dX4_isAskedOfWalks_15 : decode cX4_isAskedOfWalks 15 = .ok (.iload_n 0, 1) := by decide +kernel
theorem dX4_isAskedOfWalks_16 : decode cX4_isAskedOfWalks 16 = .ok (.bipush 15, 2) := by decide +kernel
theorem dX4_isAskedOfWalks_18 : decode cX4_isAskedOfWalks 18 = .ok (.if_icmp .ge 7, 3) := by decide +kernel
theorem dX4_isAskedOfWalks_21 : decode cX4_isAskedOfWalks 21 = .ok (.iconst 1, 1) := by decide +kernel
theorem dX4_isAskedOfWalks_22 : decode cX4_isAskedOfWalks 22 = .ok (.goto 4, 3) := by decide +kernel
theorem dX4_isAskedOfWalks_25 : decode cX4_isAskedOfWalks 25 = .ok (.iconst 0, 1) := by decide +kernel
theorem dX4_isAskedOfWalks_26 : decode cX4_isAskedOfWalks 26 = .ok (.ireturn, 1) := by decide +kernel
set_option maxRecDepth 20000 in
theorem ggX4_refusalAt_X4_isSun : GoodIn wsX4_refusalAt wsX4_isSun := goodIn_r _ [5] (by decide +kernel) (by decide +kernel)
set_option maxRecDepth 20000 in
theorem gX4_refusalAt_X4_isSun : GoodIn wsX4_refusalAt (va_wsS RX4 99 yX4_isSun wsX4_isSun) := goodIn_app (goodIn_of _ (by decide +kernel)) ggX4_refusalAt_X4_isSun
set_option maxRecDepth 20000 in
theorem ggX4_refusalAt_X3_isLaid : GoodIn wsX4_refusalAt wsX3_isLaid := goodIn_r _ [10, 11, 19, 20, 21, 22, 23, 24] (by decide +kernel) (by decide +kernel)
set_option maxRecDepth 20000 in
theorem gX4_refusalAt_X3_isLaid : GoodIn wsX4_refusalAt (wsV RX4 92 RX3 yX3_isLaid wsX3_isLaid) := goodIn_app (goodIn_of _ (by decide +kernel)) ggX4_refusalAt_X3_isLaid
theorem dX4_refusalAt_0 : decode cX4_refusalAt 0 = .ok (.iload_n 1, 1) := by decide +kernel
theorem dX4_refusalAt_1 : decode cX4_refusalAt 1 = .ok (.invokestatic 99, 3) := by decide +kernel
theorem dX4_refusalAt_4 : decode cX4_refusalAt 4 = .ok (.ifCond .ne 6, 3) := by decide +kernel
theorem dX4_refusalAt_7 : decode cX4_refusalAt 7 = .ok (.bipush (-2), 2) := by decide +kernel
theorem dX4_refusalAt_9 : decode cX4_refusalAt 9 = .ok (.ireturn, 1) := by decide +kernel
theorem dX4_refusalAt_10 : decode cX4_refusalAt 10 = .ok (.aload_n 0, 1) := by decide +kernel
theorem dX4_refusalAt_11 : decode cX4_refusalAt 11 = .ok (.getfield 14, 3) := by decide +kernel
theorem dX4_refusalAt_14 : decode cX4_refusalAt 14 = .ok (.invokevirtual 92, 3) := by decide +kernel
theorem dX4_refusalAt_17 : decode cX4_refusalAt 17 = .ok (.ifCond .eq 7, 3) := by decide +kernel
theorem dX4_refusalAt_20 : decode cX4_refusalAt 20 = .ok (.iconst 0, 1) := by decide +kernel
theorem dX4_refusalAt_21 : decode cX4_refusalAt 21 = .ok (.goto 5, 3) := by decide +kernel
theorem dX4_refusalAt_24 : decode cX4_refusalAt 24 = .ok (.bipush (-3), 2) := by decide +kernel
theorem dX4_refusalAt_26 : decode cX4_refusalAt 26 = .ok (.ireturn, 1) := by decide +kernel
set_option maxRecDepth 20000 in
theorem ggX4_refusalOfCount_X4_refusalAt : GoodIn wsX4_refusalOfCount wsX4_refusalAt := goodIn_r _ [5, 6, 7, 8, 4, 9, 10, 11, 12, 13, 14, 15, 16, 17, 18, 19, 20, 21, 22, 23, 24, 25, 26, 27, 28] (by decide +kernel) (by decide +kernel)
set_option maxRecDepth 20000 in
theorem gX4_refusalOfCount_X4_refusalAt : GoodIn wsX4_refusalOfCount (wsV RX4 106 RX4 yX4_refusalAt wsX4_refusalAt) := goodIn_app (goodIn_of _ (by decide +kernel)) ggX4_refusalOfCount_X4_refusalAt
theorem dX4_refusalOfCount_0 : decode cX4_refusalOfCount 0 = .ok (.iload_n 2, 1) := by decide +kernel
theorem dX4_refusalOfCount_1 : decode cX4_refusalOfCount 1 = .ok (.ifCond .lt 9, 3) := by decide +kernel
theorem dX4_refusalOfCount_4 : decode cX4_refusalOfCount 4 = .ok (.iload_n 2, 1) := by decide +kernel
theorem dX4_refusalOfCount_5 : decode cX4_refusalOfCount 5 = .ok (.bipush 99, 2) := by decide +kernel
theorem dX4_refusalOfCount_7 : decode cX4_refusalOfCount 7 = .ok (.if_icmp .le 8, 3) := by decide +kernel
theorem dX4_refusalOfCount_10 : decode cX4_refusalOfCount 10 = .ok (.bipush (-2), 2) := by decide +kernel
theorem dX4_refusalOfCount_12 : decode cX4_refusalOfCount 12 = .ok (.goto 8, 3) := by decide +kernel
theorem dX4_refusalOfCount_15 : decode cX4_refusalOfCount 15 = .ok (.aload_n 0, 1) := by decide +kernel
theorem dX4_refusalOfCount_16 : decode cX4_refusalOfCount 16 = .ok (.iload_n 1, 1) := by decide +kernel
theorem dX4_refusalOfCount_17 : decode cX4_refusalOfCount 17 = .ok (.invokevirtual 106, 3) := by decide +kernel
theorem dX4_refusalOfCount_20 : decode cX4_refusalOfCount 20 = .ok (.ireturn, 1) := by decide +kernel
theorem dX4_failed_0 : decode cX4_failed 0 = .ok (.aload_n 0, 1) := by decide +kernel
theorem dX4_failed_1 : decode cX4_failed 1 = .ok (.iload_n 1, 1) := by decide +kernel
theorem dX4_failed_2 : decode cX4_failed 2 = .ok (.putfield 42, 3) := by decide +kernel
theorem dX4_failed_5 : decode cX4_failed 5 = .ok (.bipush (-10), 2) := by decide +kernel
theorem dX4_failed_7 : decode cX4_failed 7 = .ok (.iload_n 1, 1) := by decide +kernel
theorem dX4_failed_8 : decode cX4_failed 8 = .ok (.isub, 1) := by decide +kernel
theorem dX4_failed_9 : decode cX4_failed 9 = .ok (.ireturn, 1) := by decide +kernel
theorem dX4_sheetAt_0 : decode cX4_sheetAt 0 = .ok (.iload_n 1, 1) := by decide +kernel
theorem dX4_sheetAt_1 : decode cX4_sheetAt 1 = .ok (.ifCond .lt 21, 3) := by decide +kernel
theorem dX4_sheetAt_4 : decode cX4_sheetAt 4 = .ok (.iload_n 1, 1) := by decide +kernel
theorem dX4_sheetAt_5 : decode cX4_sheetAt 5 = .ok (.aload_n 0, 1) := by decide +kernel
theorem dX4_sheetAt_6 : decode cX4_sheetAt 6 = .ok (.getfield 37, 3) := by decide +kernel
theorem dX4_sheetAt_9 : decode cX4_sheetAt 9 = .ok (.arraylength, 1) := by decide +kernel
theorem dX4_sheetAt_10 : decode cX4_sheetAt 10 = .ok (.if_icmp .ge 12, 3) := by decide +kernel
theorem dX4_sheetAt_13 : decode cX4_sheetAt 13 = .ok (.aload_n 0, 1) := by decide +kernel
theorem dX4_sheetAt_14 : decode cX4_sheetAt 14 = .ok (.getfield 37, 3) := by decide +kernel
theorem dX4_sheetAt_17 : decode cX4_sheetAt 17 = .ok (.iload_n 1, 1) := by decide +kernel
theorem dX4_sheetAt_18 : decode cX4_sheetAt 18 = .ok (.aaload, 1) := by decide +kernel
theorem dX4_sheetAt_19 : decode cX4_sheetAt 19 = .ok (.goto 4, 3) := by decide +kernel
theorem dX4_sheetAt_22 : decode cX4_sheetAt 22 = .ok (.aconst_null, 1) := by decide +kernel
theorem dX4_sheetAt_23 : decode cX4_sheetAt 23 = .ok (.areturn, 1) := by decide +kernel
set_option maxRecDepth 20000 in
theorem ggX4_firstFault_X2_at : GoodIn wsX4_firstFault wsX2_at := goodIn_r _ [5, 6, 7, 8, 9, 4, 10, 11, 22, 23, 24, 25] (by decide +kernel) (by decide +kernel)
set_option maxRecDepth 20000 in
theorem gX4_firstFault_X2_at : GoodIn wsX4_firstFault (wsV RX4 202 RX2 yX2_at wsX2_at) := goodIn_app (goodIn_of _ (by decide +kernel)) ggX4_firstFault_X2_at
set_option maxRecDepth 20000 in
theorem ggX4_firstFault_X4_goesOnWith : GoodIn wsX4_firstFault wsX4_goesOnWith := goodIn_r _ [15, 16, 17, 14, 18, 19, 20, 21] (by decide +kernel) (by decide +kernel)
set_option maxRecDepth 20000 in
theorem gX4_firstFault_X4_goesOnWith : GoodIn wsX4_firstFault (va_wsS RX4 230 yX4_goesOnWith wsX4_goesOnWith) := goodIn_app (goodIn_of _ (by decide +kernel)) ggX4_firstFault_X4_goesOnWith
theorem dX4_firstFault_0 : decode cX4_firstFault 0 = .ok (.iconst 0, 1) := by decide +kernel
theorem dX4_firstFault_1 : decode cX4_firstFault 1 = .ok (.istore_n 3, 1) := by decide +kernel
theorem dX4_firstFault_2 : decode cX4_firstFault 2 = .ok (.iload_n 3, 1) := by decide +kernel
theorem dX4_firstFault_3 : decode cX4_firstFault 3 = .ok (.iload_n 2, 1) := by decide +kernel
theorem dX4_firstFault_4 : decode cX4_firstFault 4 = .ok (.if_icmp .ge 25, 3) := by decide +kernel
theorem dX4_firstFault_7 : decode cX4_firstFault 7 = .ok (.iload_n 3, 1) := by decide +kernel
theorem dX4_firstFault_8 : decode cX4_firstFault 8 = .ok (.aload_n 0, 1) := by decide +kernel
theorem dX4_firstFault_9 : decode cX4_firstFault 9 = .ok (.iload_n 1, 1) := by decide +kernel
theorem dX4_firstFault_10 : decode cX4_firstFault 10 = .ok (.iload_n 3, 1) := by decide +kernel
theorem dX4_firstFault_11 : decode cX4_firstFault 11 = .ok (.iadd, 1) := by decide +kernel
theorem dX4_firstFault_12 : decode cX4_firstFault 12 = .ok (.invokevirtual 202, 3) := by decide +kernel
theorem dX4_firstFault_15 : decode cX4_firstFault 15 = .ok (.invokestatic 230, 3) := by decide +kernel
theorem dX4_firstFault_18 : decode cX4_firstFault 18 = .ok (.ifCond .ne 5, 3) := by decide +kernel
theorem dX4_firstFault_21 : decode cX4_firstFault 21 = .ok (.iload_n 3, 1) := by decide +kernel
theorem dX4_firstFault_22 : decode cX4_firstFault 22 = .ok (.ireturn, 1) := by decide +kernel
theorem dX4_firstFault_23 : decode cX4_firstFault 23 = .ok (.iinc 3 1, 3) := by decide +kernel
theorem dX4_firstFault_26 : decode cX4_firstFault 26 = .ok (.goto (-24), 3) := by decide +kernel
theorem dX4_firstFault_29 : decode cX4_firstFault 29 = .ok (.iload_n 2, 1) := by decide +kernel
theorem dX4_firstFault_30 : decode cX4_firstFault 30 = .ok (.bipush 7, 2) := by decide +kernel
theorem dX4_firstFault_32 : decode cX4_firstFault 32 = .ok (.if_icmp .lt 15, 3) := by decide +kernel
theorem dX4_firstFault_35 : decode cX4_firstFault 35 = .ok (.iload_n 2, 1) := by decide +kernel
theorem dX4_firstFault_36 : decode cX4_firstFault 36 = .ok (.iconst 3, 1) := by decide +kernel
theorem dX4_firstFault_37 : decode cX4_firstFault 37 = .ok (.isub, 1) := by decide +kernel
theorem dX4_firstFault_38 : decode cX4_firstFault 38 = .ok (.iconst 4, 1) := by decide +kernel
theorem dX4_firstFault_39 : decode cX4_firstFault 39 = .ok (.irem, 1) := by decide +kernel
theorem dX4_firstFault_40 : decode cX4_firstFault 40 = .ok (.ifCond .ne 7, 3) := by decide +kernel
theorem dX4_firstFault_43 : decode cX4_firstFault 43 = .ok (.iconst 1, 1) := by decide +kernel
theorem dX4_firstFault_44 : decode cX4_firstFault 44 = .ok (.goto 4, 3) := by decide +kernel
theorem dX4_firstFault_47 : decode cX4_firstFault 47 = .ok (.iconst 0, 1) := by decide +kernel
theorem dX4_firstFault_48 : decode cX4_firstFault 48 = .ok (.istore_n 3, 1) := by decide +kernel
theorem dX4_firstFault_49 : decode cX4_firstFault 49 = .ok (.iload_n 3, 1) := by decide +kernel
theorem dX4_firstFault_50 : decode cX4_firstFault 50 = .ok (.ifCond .eq 8, 3) := by decide +kernel
theorem dX4_firstFault_53 : decode cX4_firstFault 53 = .ok (.bipush (-9), 2) := by decide +kernel
theorem dX4_firstFault_55 : decode cX4_firstFault 55 = .ok (.goto 4, 3) := by decide +kernel
theorem dX4_firstFault_58 : decode cX4_firstFault 58 = .ok (.iload_n 2, 1) := by decide +kernel
theorem dX4_firstFault_59 : decode cX4_firstFault 59 = .ok (.ireturn, 1) := by decide +kernel
set_option maxRecDepth 20000 in
theorem ggX4_goesOnWith_X4_isDigitCode : GoodIn wsX4_goesOnWith wsX4_isDigitCode := goodIn_r _ [4] (by decide +kernel) (by decide +kernel)
set_option maxRecDepth 20000 in
theorem gX4_goesOnWith_X4_isDigitCode : GoodIn wsX4_goesOnWith (va_wsS RX4 233 yX4_isDigitCode wsX4_isDigitCode) := goodIn_app (goodIn_of _ (by decide +kernel)) ggX4_goesOnWith_X4_isDigitCode
set_option maxRecDepth 20000 in
theorem ggX4_goesOnWith_X4_kindOfLetter : GoodIn wsX4_goesOnWith wsX4_kindOfLetter := goodIn_r _ [7] (by decide +kernel) (by decide +kernel)
set_option maxRecDepth 20000 in
theorem gX4_goesOnWith_X4_kindOfLetter : GoodIn wsX4_goesOnWith (va_wsS RX4 236 yX4_kindOfLetter wsX4_kindOfLetter) := goodIn_app (goodIn_of _ (by decide +kernel)) ggX4_goesOnWith_X4_kindOfLetter
theorem dX4_goesOnWith_0 : decode cX4_goesOnWith 0 = .ok (.iload_n 0, 1) := by decide +kernel
theorem dX4_goesOnWith_1 : decode cX4_goesOnWith 1 = .ok (.ifCond .ne 15, 3) := by decide +kernel
theorem dX4_goesOnWith_4 : decode cX4_goesOnWith 4 = .ok (.iload_n 1, 1) := by decide +kernel
theorem dX4_goesOnWith_5 : decode cX4_goesOnWith 5 = .ok (.bipush 102, 2) := by decide +kernel
theorem dX4_goesOnWith_7 : decode cX4_goesOnWith 7 = .ok (.if_icmp .ne 7, 3) := by decide +kernel
theorem dX4_goesOnWith_10 : decode cX4_goesOnWith 10 = .ok (.iconst 1, 1) := by decide +kernel
theorem dX4_goesOnWith_11 : decode cX4_goesOnWith 11 = .ok (.goto 4, 3) := by decide +kernel
theorem dX4_goesOnWith_14 : decode cX4_goesOnWith 14 = .ok (.iconst 0, 1) := by decide +kernel
theorem dX4_goesOnWith_15 : decode cX4_goesOnWith 15 = .ok (.ireturn, 1) := by decide +kernel
theorem dX4_goesOnWith_16 : decode cX4_goesOnWith 16 = .ok (.iload_n 0, 1) := by decide +kernel
theorem dX4_goesOnWith_17 : decode cX4_goesOnWith 17 = .ok (.iconst 1, 1) := by decide +kernel
theorem dX4_goesOnWith_18 : decode cX4_goesOnWith 18 = .ok (.if_icmp .ne 21, 3) := by decide +kernel
theorem dX4_goesOnWith_21 : decode cX4_goesOnWith 21 = .ok (.iload_n 1, 1) := by decide +kernel
theorem dX4_goesOnWith_22 : decode cX4_goesOnWith 22 = .ok (.bipush 49, 2) := by decide +kernel
theorem dX4_goesOnWith_24 : decode cX4_goesOnWith 24 = .ok (.if_icmp .lt 13, 3) := by decide +kernel
theorem dX4_goesOnWith_27 : decode cX4_goesOnWith 27 = .ok (.iload_n 1, 1) := by decide +kernel
theorem dX4_goesOnWith_28 : decode cX4_goesOnWith 28 = .ok (.bipush 57, 2) := by decide +kernel
theorem dX4_goesOnWith_30 : decode cX4_goesOnWith 30 = .ok (.if_icmp .gt 7, 3) := by decide +kernel
theorem dX4_goesOnWith_33 : decode cX4_goesOnWith 33 = .ok (.iconst 1, 1) := by decide +kernel
theorem dX4_goesOnWith_34 : decode cX4_goesOnWith 34 = .ok (.goto 4, 3) := by decide +kernel
theorem dX4_goesOnWith_37 : decode cX4_goesOnWith 37 = .ok (.iconst 0, 1) := by decide +kernel
theorem dX4_goesOnWith_38 : decode cX4_goesOnWith 38 = .ok (.ireturn, 1) := by decide +kernel
theorem dX4_goesOnWith_39 : decode cX4_goesOnWith 39 = .ok (.iload_n 0, 1) := by decide +kernel
theorem dX4_goesOnWith_40 : decode cX4_goesOnWith 40 = .ok (.iconst 2, 1) := by decide +kernel
theorem dX4_goesOnWith_41 : decode cX4_goesOnWith 41 = .ok (.if_icmp .ne 8, 3) := by decide +kernel
theorem dX4_goesOnWith_44 : decode cX4_goesOnWith 44 = .ok (.iload_n 1, 1) := by decide +kernel
theorem dX4_goesOnWith_45 : decode cX4_goesOnWith 45 = .ok (.invokestatic 233, 3) := by decide +kernel
theorem dX4_goesOnWith_48 : decode cX4_goesOnWith 48 = .ok (.ireturn, 1) := by decide +kernel
theorem dX4_goesOnWith_49 : decode cX4_goesOnWith 49 = .ok (.iload_n 0, 1) := by decide +kernel
theorem dX4_goesOnWith_50 : decode cX4_goesOnWith 50 = .ok (.bipush 23, 2) := by decide +kernel
theorem dX4_goesOnWith_52 : decode cX4_goesOnWith 52 = .ok (.if_icmp .lt 5, 3) := by decide +kernel
theorem dX4_goesOnWith_55 : decode cX4_goesOnWith 55 = .ok (.iconst 0, 1) := by decide +kernel
theorem dX4_goesOnWith_56 : decode cX4_goesOnWith 56 = .ok (.ireturn, 1) := by decide +kernel
theorem dX4_goesOnWith_57 : decode cX4_goesOnWith 57 = .ok (.iload_n 0, 1) := by decide +kernel
theorem dX4_goesOnWith_58 : decode cX4_goesOnWith 58 = .ok (.iconst 3, 1) := by decide +kernel
theorem dX4_goesOnWith_59 : decode cX4_goesOnWith 59 = .ok (.isub, 1) := by decide +kernel
theorem dX4_goesOnWith_60 : decode cX4_goesOnWith 60 = .ok (.iconst 4, 1) := by decide +kernel
theorem dX4_goesOnWith_61 : decode cX4_goesOnWith 61 = .ok (.irem, 1) := by decide +kernel
theorem dX4_goesOnWith_62 : decode cX4_goesOnWith 62 = .ok (.lookupswitch 53 #[(0, 26), (1, 38)], 26) := by decide +kernel
theorem dX4_goesOnWith_88 : decode cX4_goesOnWith 88 = .ok (.iload_n 1, 1) := by decide +kernel
theorem dX4_goesOnWith_89 : decode cX4_goesOnWith 89 = .ok (.bipush 59, 2) := by decide +kernel
theorem dX4_goesOnWith_91 : decode cX4_goesOnWith 91 = .ok (.if_icmp .ne 7, 3) := by decide +kernel
theorem dX4_goesOnWith_94 : decode cX4_goesOnWith 94 = .ok (.iconst 1, 1) := by decide +kernel
theorem dX4_goesOnWith_95 : decode cX4_goesOnWith 95 = .ok (.goto 4, 3) := by decide +kernel
theorem dX4_goesOnWith_98 : decode cX4_goesOnWith 98 = .ok (.iconst 0, 1) := by decide +kernel
theorem dX4_goesOnWith_99 : decode cX4_goesOnWith 99 = .ok (.ireturn, 1) := by decide +kernel
theorem dX4_goesOnWith_100 : decode cX4_goesOnWith 100 = .ok (.iload_n 1, 1) := by decide +kernel
theorem dX4_goesOnWith_101 : decode cX4_goesOnWith 101 = .ok (.invokestatic 236, 3) := by decide +kernel
theorem dX4_goesOnWith_104 : decode cX4_goesOnWith 104 = .ok (.bipush (-9), 2) := by decide +kernel
theorem dX4_goesOnWith_106 : decode cX4_goesOnWith 106 = .ok (.if_icmp .eq 7, 3) := by decide +kernel
theorem dX4_goesOnWith_109 : decode cX4_goesOnWith 109 = .ok (.iconst 1, 1) := by decide +kernel
theorem dX4_goesOnWith_110 : decode cX4_goesOnWith 110 = .ok (.goto 4, 3) := by decide +kernel
theorem dX4_goesOnWith_113 : decode cX4_goesOnWith 113 = .ok (.iconst 0, 1) := by decide +kernel
theorem dX4_goesOnWith_114 : decode cX4_goesOnWith 114 = .ok (.ireturn, 1) := by decide +kernel
theorem dX4_goesOnWith_115 : decode cX4_goesOnWith 115 = .ok (.iload_n 1, 1) := by decide +kernel
theorem dX4_goesOnWith_116 : decode cX4_goesOnWith 116 = .ok (.invokestatic 233, 3) := by decide +kernel
theorem dX4_goesOnWith_119 : decode cX4_goesOnWith 119 = .ok (.ireturn, 1) := by decide +kernel
theorem dX4_isDigitCode_0 : decode cX4_isDigitCode 0 = .ok (.iload_n 0, 1) := by decide +kernel
theorem dX4_isDigitCode_1 : decode cX4_isDigitCode 1 = .ok (.bipush 48, 2) := by decide +kernel
theorem dX4_isDigitCode_3 : decode cX4_isDigitCode 3 = .ok (.if_icmp .lt 13, 3) := by decide +kernel
theorem dX4_isDigitCode_6 : decode cX4_isDigitCode 6 = .ok (.iload_n 0, 1) := by decide +kernel
theorem dX4_isDigitCode_7 : decode cX4_isDigitCode 7 = .ok (.bipush 57, 2) := by decide +kernel
theorem dX4_isDigitCode_9 : decode cX4_isDigitCode 9 = .ok (.if_icmp .gt 7, 3) := by decide +kernel
theorem dX4_isDigitCode_12 : decode cX4_isDigitCode 12 = .ok (.iconst 1, 1) := by decide +kernel
theorem dX4_isDigitCode_13 : decode cX4_isDigitCode 13 = .ok (.goto 4, 3) := by decide +kernel
theorem dX4_isDigitCode_16 : decode cX4_isDigitCode 16 = .ok (.iconst 0, 1) := by decide +kernel
theorem dX4_isDigitCode_17 : decode cX4_isDigitCode 17 = .ok (.ireturn, 1) := by decide +kernel
theorem dX4_kindOfLetter_0 : decode cX4_kindOfLetter 0 = .ok (.iload_n 0, 1) := by decide +kernel
theorem dX4_kindOfLetter_1 : decode cX4_kindOfLetter 1 = .ok (.tableswitch 37 112 115 #[35, 37, 33, 31], 31) := by decide +kernel
theorem dX4_kindOfLetter_32 : decode cX4_kindOfLetter 32 = .ok (.iconst 0, 1) := by decide +kernel
theorem dX4_kindOfLetter_33 : decode cX4_kindOfLetter 33 = .ok (.ireturn, 1) := by decide +kernel
theorem dX4_kindOfLetter_34 : decode cX4_kindOfLetter 34 = .ok (.iconst 1, 1) := by decide +kernel
theorem dX4_kindOfLetter_35 : decode cX4_kindOfLetter 35 = .ok (.ireturn, 1) := by decide +kernel
theorem dX4_kindOfLetter_36 : decode cX4_kindOfLetter 36 = .ok (.iconst 2, 1) := by decide +kernel
theorem dX4_kindOfLetter_37 : decode cX4_kindOfLetter 37 = .ok (.ireturn, 1) := by decide +kernel
theorem dX4_kindOfLetter_38 : decode cX4_kindOfLetter 38 = .ok (.bipush (-9), 2) := by decide +kernel
theorem dX4_kindOfLetter_40 : decode cX4_kindOfLetter 40 = .ok (.ireturn, 1) := by decide +kernel
set_option maxRecDepth 20000 in
theorem ggX4_layField_X2_at : GoodIn wsX4_layField wsX2_at := goodIn_r _ [14, 15, 16, 17, 18, 13, 19, 20, 41, 42, 43, 44] (by decide +kernel) (by decide +kernel)
set_option maxRecDepth 20000 in
theorem gX4_layField_X2_at : GoodIn wsX4_layField (wsV RX4 202 RX2 yX2_at wsX2_at) := goodIn_app (goodIn_of _ (by decide +kernel)) ggX4_layField_X2_at
set_option maxRecDepth 20000 in
theorem ggX4_layField_X4_kindOfLetter : GoodIn wsX4_layField wsX4_kindOfLetter := goodIn_r _ [24] (by decide +kernel) (by decide +kernel)
set_option maxRecDepth 20000 in
theorem gX4_layField_X4_kindOfLetter : GoodIn wsX4_layField (va_wsS RX4 236 yX4_kindOfLetter wsX4_kindOfLetter) := goodIn_app (goodIn_of _ (by decide +kernel)) ggX4_layField_X4_kindOfLetter
theorem dX4_layField_0 : decode cX4_layField 0 = .ok (.aload_n 0, 1) := by decide +kernel
theorem dX4_layField_1 : decode cX4_layField 1 = .ok (.getfield 14, 3) := by decide +kernel
theorem dX4_layField_4 : decode cX4_layField 4 = .ok (.aload_n 1, 1) := by decide +kernel
theorem dX4_layField_5 : decode cX4_layField 5 = .ok (.iload_n 2, 1) := by decide +kernel
theorem dX4_layField_6 : decode cX4_layField 6 = .ok (.iconst 1, 1) := by decide +kernel
theorem dX4_layField_7 : decode cX4_layField 7 = .ok (.iadd, 1) := by decide +kernel
theorem dX4_layField_8 : decode cX4_layField 8 = .ok (.invokevirtual 202, 3) := by decide +kernel
theorem dX4_layField_11 : decode cX4_layField 11 = .ok (.bipush 48, 2) := by decide +kernel
theorem dX4_layField_13 : decode cX4_layField 13 = .ok (.isub, 1) := by decide +kernel
theorem dX4_layField_14 : decode cX4_layField 14 = .ok (.putfield 124, 3) := by decide +kernel
theorem dX4_layField_17 : decode cX4_layField 17 = .ok (.aload_n 0, 1) := by decide +kernel
theorem dX4_layField_18 : decode cX4_layField 18 = .ok (.getfield 14, 3) := by decide +kernel
theorem dX4_layField_21 : decode cX4_layField 21 = .ok (.aload_n 1, 1) := by decide +kernel
theorem dX4_layField_22 : decode cX4_layField 22 = .ok (.iload_n 2, 1) := by decide +kernel
theorem dX4_layField_23 : decode cX4_layField 23 = .ok (.iconst 2, 1) := by decide +kernel
theorem dX4_layField_24 : decode cX4_layField 24 = .ok (.iadd, 1) := by decide +kernel
theorem dX4_layField_25 : decode cX4_layField 25 = .ok (.invokevirtual 202, 3) := by decide +kernel
theorem dX4_layField_28 : decode cX4_layField 28 = .ok (.bipush 48, 2) := by decide +kernel
theorem dX4_layField_30 : decode cX4_layField 30 = .ok (.isub, 1) := by decide +kernel
theorem dX4_layField_31 : decode cX4_layField 31 = .ok (.putfield 96, 3) := by decide +kernel
theorem dX4_layField_34 : decode cX4_layField 34 = .ok (.aload_n 0, 1) := by decide +kernel
theorem dX4_layField_35 : decode cX4_layField 35 = .ok (.getfield 14, 3) := by decide +kernel
theorem dX4_layField_38 : decode cX4_layField 38 = .ok (.iload_n 3, 1) := by decide +kernel
theorem dX4_layField_39 : decode cX4_layField 39 = .ok (.iconst 3, 1) := by decide +kernel
theorem dX4_layField_40 : decode cX4_layField 40 = .ok (.isub, 1) := by decide +kernel
theorem dX4_layField_41 : decode cX4_layField 41 = .ok (.iconst 4, 1) := by decide +kernel
theorem dX4_layField_42 : decode cX4_layField 42 = .ok (.idiv, 1) := by decide +kernel
theorem dX4_layField_43 : decode cX4_layField 43 = .ok (.putfield 73, 3) := by decide +kernel
theorem dX4_layField_46 : decode cX4_layField 46 = .ok (.iconst 0, 1) := by decide +kernel
theorem dX4_layField_47 : decode cX4_layField 47 = .ok (.istore 4, 2) := by decide +kernel
theorem dX4_layField_49 : decode cX4_layField 49 = .ok (.iload 4, 2) := by decide +kernel
theorem dX4_layField_51 : decode cX4_layField 51 = .ok (.aload_n 0, 1) := by decide +kernel
theorem dX4_layField_52 : decode cX4_layField 52 = .ok (.getfield 14, 3) := by decide +kernel
theorem dX4_layField_55 : decode cX4_layField 55 = .ok (.getfield 73, 3) := by decide +kernel
theorem dX4_layField_58 : decode cX4_layField 58 = .ok (.if_icmp .ge 88, 3) := by decide +kernel
theorem dX4_layField_61 : decode cX4_layField 61 = .ok (.iload 4, 2) := by decide +kernel
theorem dX4_layField_63 : decode cX4_layField 63 = .ok (.iconst 5, 1) := by decide +kernel
theorem dX4_layField_64 : decode cX4_layField 64 = .ok (.if_icmp .ge 82, 3) := by decide +kernel
theorem dX4_layField_67 : decode cX4_layField 67 = .ok (.iload_n 2, 1) := by decide +kernel
theorem dX4_layField_68 : decode cX4_layField 68 = .ok (.iconst 3, 1) := by decide +kernel
theorem dX4_layField_69 : decode cX4_layField 69 = .ok (.iadd, 1) := by decide +kernel
theorem dX4_layField_70 : decode cX4_layField 70 = .ok (.iconst 4, 1) := by decide +kernel
theorem dX4_layField_71 : decode cX4_layField 71 = .ok (.iload 4, 2) := by decide +kernel
theorem dX4_layField_73 : decode cX4_layField 73 = .ok (.imul, 1) := by decide +kernel
theorem dX4_layField_74 : decode cX4_layField 74 = .ok (.iadd, 1) := by decide +kernel
theorem dX4_layField_75 : decode cX4_layField 75 = .ok (.istore 5, 2) := by decide +kernel
theorem dX4_layField_77 : decode cX4_layField 77 = .ok (.aload_n 0, 1) := by decide +kernel
theorem dX4_layField_78 : decode cX4_layField 78 = .ok (.getfield 14, 3) := by decide +kernel
theorem dX4_layField_81 : decode cX4_layField 81 = .ok (.getfield 79, 3) := by decide +kernel
theorem dX4_layField_84 : decode cX4_layField 84 = .ok (.iload 4, 2) := by decide +kernel
theorem dX4_layField_86 : decode cX4_layField 86 = .ok (.aload_n 1, 1) := by decide +kernel
theorem dX4_layField_87 : decode cX4_layField 87 = .ok (.iload 5, 2) := by decide +kernel
theorem dX4_layField_89 : decode cX4_layField 89 = .ok (.iconst 1, 1) := by decide +kernel
theorem dX4_layField_90 : decode cX4_layField 90 = .ok (.iadd, 1) := by decide +kernel
theorem dX4_layField_91 : decode cX4_layField 91 = .ok (.invokevirtual 202, 3) := by decide +kernel
theorem dX4_layField_94 : decode cX4_layField 94 = .ok (.invokestatic 236, 3) := by decide +kernel
theorem dX4_layField_97 : decode cX4_layField 97 = .ok (.iastore, 1) := by decide +kernel
theorem dX4_layField_98 : decode cX4_layField 98 = .ok (.aload_n 0, 1) := by decide +kernel
theorem dX4_layField_99 : decode cX4_layField 99 = .ok (.getfield 14, 3) := by decide +kernel
theorem dX4_layField_102 : decode cX4_layField 102 = .ok (.getfield 83, 3) := by decide +kernel
theorem dX4_layField_105 : decode cX4_layField 105 = .ok (.iload 4, 2) := by decide +kernel
theorem dX4_layField_107 : decode cX4_layField 107 = .ok (.aload_n 1, 1) := by decide +kernel
theorem dX4_layField_108 : decode cX4_layField 108 = .ok (.iload 5, 2) := by decide +kernel
theorem dX4_layField_110 : decode cX4_layField 110 = .ok (.iconst 2, 1) := by decide +kernel
theorem dX4_layField_111 : decode cX4_layField 111 = .ok (.iadd, 1) := by decide +kernel
theorem dX4_layField_112 : decode cX4_layField 112 = .ok (.invokevirtual 202, 3) := by decide +kernel
theorem dX4_layField_115 : decode cX4_layField 115 = .ok (.bipush 48, 2) := by decide +kernel
theorem dX4_layField_117 : decode cX4_layField 117 = .ok (.isub, 1) := by decide +kernel
theorem dX4_layField_118 : decode cX4_layField 118 = .ok (.iastore, 1) := by decide +kernel
theorem dX4_layField_119 : decode cX4_layField 119 = .ok (.aload_n 0, 1) := by decide +kernel
theorem dX4_layField_120 : decode cX4_layField 120 = .ok (.getfield 14, 3) := by decide +kernel
theorem dX4_layField_123 : decode cX4_layField 123 = .ok (.getfield 86, 3) := by decide +kernel
theorem dX4_layField_126 : decode cX4_layField 126 = .ok (.iload 4, 2) := by decide +kernel
theorem dX4_layField_128 : decode cX4_layField 128 = .ok (.aload_n 1, 1) := by decide +kernel
theorem dX4_layField_129 : decode cX4_layField 129 = .ok (.iload 5, 2) := by decide +kernel
theorem dX4_layField_131 : decode cX4_layField 131 = .ok (.iconst 3, 1) := by decide +kernel
theorem dX4_layField_132 : decode cX4_layField 132 = .ok (.iadd, 1) := by decide +kernel
theorem dX4_layField_133 : decode cX4_layField 133 = .ok (.invokevirtual 202, 3) := by decide +kernel
theorem dX4_layField_136 : decode cX4_layField 136 = .ok (.bipush 48, 2) := by decide +kernel
theorem dX4_layField_138 : decode cX4_layField 138 = .ok (.isub, 1) := by decide +kernel
theorem dX4_layField_139 : decode cX4_layField 139 = .ok (.iastore, 1) := by decide +kernel
theorem dX4_layField_140 : decode cX4_layField 140 = .ok (.iinc 4 1, 3) := by decide +kernel
theorem dX4_layField_143 : decode cX4_layField 143 = .ok (.goto (-94), 3) := by decide +kernel
theorem dX4_layField_146 : decode cX4_layField 146 = .ok (.aload_n 0, 1) := by decide +kernel
theorem dX4_layField_147 : decode cX4_layField 147 = .ok (.getfield 31, 3) := by decide +kernel
theorem dX4_layField_150 : decode cX4_layField 150 = .ok (.iconst 0, 1) := by decide +kernel
theorem dX4_layField_151 : decode cX4_layField 151 = .ok (.putfield 171, 3) := by decide +kernel
theorem dX4_layField_154 : decode cX4_layField 154 = .ok (.return_, 1) := by decide +kernel
set_option maxRecDepth 20000 in
theorem ggX4_countedOn_X3_darkFeet : GoodIn wsX4_countedOn wsX3_darkFeet := goodIn_r _ [8, 9, 10, 11, 12, 7, 13, 14, 15, 16, 17, 18, 19, 20, 21, 22, 23, 24, 25, 26, 27, 28, 29, 30, 31, 32, 33, 55, 56, 57, 58, 59, 60] (by decide +kernel) (by decide +kernel)
set_option maxRecDepth 20000 in
theorem gX4_countedOn_X3_darkFeet : GoodIn wsX4_countedOn (wsV RX4 120 RX3 yX3_darkFeet wsX3_darkFeet) := goodIn_app (goodIn_of _ (by decide +kernel)) ggX4_countedOn_X3_darkFeet
set_option maxRecDepth 20000 in
theorem ggX4_countedOn_X1_measure : GoodIn wsX4_countedOn wsX1_measure := goodIn_r _ [38, 39, 40, 41, 42, 43, 44, 45, 37, 46, 47, 31, 32, 33, 61, 62, 63, 64] (by decide +kernel) (by decide +kernel)
set_option maxRecDepth 20000 in
theorem gX4_countedOn_X1_measure : GoodIn wsX4_countedOn (wsV RX4 127 RX1 yX1_measure wsX1_measure) := goodIn_app (goodIn_of _ (by decide +kernel)) ggX4_countedOn_X1_measure
theorem dX4_countedOn_0 : decode cX4_countedOn 0 = .ok (.aload_n 0, 1) := by decide +kernel
theorem dX4_countedOn_1 : decode cX4_countedOn 1 = .ok (.getfield 24, 3) := by decide +kernel
theorem dX4_countedOn_4 : decode cX4_countedOn 4 = .ok (.aload_n 1, 1) := by decide +kernel
theorem dX4_countedOn_5 : decode cX4_countedOn 5 = .ok (.iload_n 2, 1) := by decide +kernel
theorem dX4_countedOn_6 : decode cX4_countedOn 6 = .ok (.iload_n 3, 1) := by decide +kernel
theorem dX4_countedOn_7 : decode cX4_countedOn 7 = .ok (.invokevirtual 120, 3) := by decide +kernel
theorem dX4_countedOn_10 : decode cX4_countedOn 10 = .ok (.aload_n 1, 1) := by decide +kernel
theorem dX4_countedOn_11 : decode cX4_countedOn 11 = .ok (.getfield 124, 3) := by decide +kernel
theorem dX4_countedOn_14 : decode cX4_countedOn 14 = .ok (.invokevirtual 127, 3) := by decide +kernel
theorem dX4_countedOn_17 : decode cX4_countedOn 17 = .ok (.aload_n 0, 1) := by decide +kernel
theorem dX4_countedOn_18 : decode cX4_countedOn 18 = .ok (.getfield 24, 3) := by decide +kernel
theorem dX4_countedOn_21 : decode cX4_countedOn 21 = .ok (.getfield 239, 3) := by decide +kernel
theorem dX4_countedOn_24 : decode cX4_countedOn 24 = .ok (.ireturn, 1) := by decide +kernel
set_option maxRecDepth 20000 in
theorem ggX4_offAt_X3_everyone : GoodIn wsX4_offAt wsX3_everyone := goodIn_r _ [11, 12, 69, 70, 71, 72, 73, 74] (by decide +kernel) (by decide +kernel)
set_option maxRecDepth 20000 in
theorem gX4_offAt_X3_everyone : GoodIn wsX4_offAt (wsV RX4 112 RX3 yX3_everyone wsX3_everyone) := goodIn_app (goodIn_of _ (by decide +kernel)) ggX4_offAt_X3_everyone
set_option maxRecDepth 20000 in
theorem ggX4_offAt_X4_countedOn : GoodIn wsX4_offAt wsX4_countedOn := goodIn_r _ [17, 18, 19, 20, 21, 22, 23, 10, 24, 25, 26, 27, 28, 29, 30, 31, 32, 33, 12, 34, 35, 36, 37, 38, 39, 40, 41, 42, 43, 44, 45, 46, 5, 47, 48, 49, 50, 51, 52, 53, 54, 55, 56, 57, 58, 59, 60, 61, 62, 63, 64, 65, 66, 67, 68, 69, 70, 71, 72, 73, 74, 75, 76, 77, 78] (by decide +kernel) (by decide +kernel)
set_option maxRecDepth 20000 in
theorem gX4_offAt_X4_countedOn : GoodIn wsX4_offAt (wsV RX4 116 RX4 yX4_countedOn wsX4_countedOn) := goodIn_app (goodIn_of _ (by decide +kernel)) ggX4_offAt_X4_countedOn
theorem dX4_offAt_0 : decode cX4_offAt 0 = .ok (.aload_n 0, 1) := by decide +kernel
theorem dX4_offAt_1 : decode cX4_offAt 1 = .ok (.aload_n 0, 1) := by decide +kernel
theorem dX4_offAt_2 : decode cX4_offAt 2 = .ok (.getfield 14, 3) := by decide +kernel
theorem dX4_offAt_5 : decode cX4_offAt 5 = .ok (.iload_n 1, 1) := by decide +kernel
theorem dX4_offAt_6 : decode cX4_offAt 6 = .ok (.aload_n 0, 1) := by decide +kernel
theorem dX4_offAt_7 : decode cX4_offAt 7 = .ok (.getfield 14, 3) := by decide +kernel
theorem dX4_offAt_10 : decode cX4_offAt 10 = .ok (.invokevirtual 112, 3) := by decide +kernel
theorem dX4_offAt_13 : decode cX4_offAt 13 = .ok (.invokevirtual 116, 3) := by decide +kernel
theorem dX4_offAt_16 : decode cX4_offAt 16 = .ok (.aload_n 0, 1) := by decide +kernel
theorem dX4_offAt_17 : decode cX4_offAt 17 = .ok (.getfield 14, 3) := by decide +kernel
theorem dX4_offAt_20 : decode cX4_offAt 20 = .ok (.getfield 73, 3) := by decide +kernel
theorem dX4_offAt_23 : decode cX4_offAt 23 = .ok (.isub, 1) := by decide +kernel
theorem dX4_offAt_24 : decode cX4_offAt 24 = .ok (.invokestatic 242, 3) := by decide +kernel
theorem dX4_offAt_27 : decode cX4_offAt 27 = .ok (.ireturn, 1) := by decide +kernel
set_option maxRecDepth 20000 in
theorem ggX4_areReadingsSoOnTrial_X3_everyone : GoodIn wsX4_areReadingsSoOnTrial wsX3_everyone := goodIn_r _ [10, 11, 72, 73, 74, 75, 76, 77] (by decide +kernel) (by decide +kernel)
set_option maxRecDepth 20000 in
theorem gX4_areReadingsSoOnTrial_X3_everyone : GoodIn wsX4_areReadingsSoOnTrial (wsV RX4 112 RX3 yX3_everyone wsX3_everyone) := goodIn_app (goodIn_of _ (by decide +kernel)) ggX4_areReadingsSoOnTrial_X3_everyone
set_option maxRecDepth 20000 in
theorem ggX4_areReadingsSoOnTrial_X4_countedOn : GoodIn wsX4_areReadingsSoOnTrial wsX4_countedOn := goodIn_r _ [16, 17, 18, 19, 20, 21, 22, 9, 23, 24, 25, 26, 27, 28, 29, 30, 31, 32, 11, 33, 34, 35, 36, 37, 38, 39, 40, 41, 42, 43, 44, 45, 46, 47, 48, 49, 50, 51, 52, 53, 54, 55, 56, 57, 58, 59, 60, 61, 62, 63, 64, 65, 66, 67, 68, 72, 73, 74, 75, 76, 77, 78, 79, 80, 81] (by decide +kernel) (by decide +kernel)
set_option maxRecDepth 20000 in
theorem gX4_areReadingsSoOnTrial_X4_countedOn : GoodIn wsX4_areReadingsSoOnTrial (wsV RX4 116 RX4 yX4_countedOn wsX4_countedOn) := goodIn_app (goodIn_of _ (by decide +kernel)) ggX4_areReadingsSoOnTrial_X4_countedOn
theorem dX4_areReadingsSoOnTrial_0 : decode cX4_areReadingsSoOnTrial 0 = .ok (.iconst 0, 1) := by decide +kernel
theorem dX4_areReadingsSoOnTrial_1 : decode cX4_areReadingsSoOnTrial 1 = .ok (.istore_n 1, 1) := by decide +kernel
theorem dX4_areReadingsSoOnTrial_2 : decode cX4_areReadingsSoOnTrial 2 = .ok (.iload_n 1, 1) := by decide +kernel
theorem dX4_areReadingsSoOnTrial_3 : decode cX4_areReadingsSoOnTrial 3 = .ok (.aload_n 0, 1) := by decide +kernel
theorem dX4_areReadingsSoOnTrial_4 : decode cX4_areReadingsSoOnTrial 4 = .ok (.getfield 31, 3) := by decide +kernel
theorem dX4_areReadingsSoOnTrial_7 : decode cX4_areReadingsSoOnTrial 7 = .ok (.getfield 171, 3) := by decide +kernel
theorem dX4_areReadingsSoOnTrial_10 : decode cX4_areReadingsSoOnTrial 10 = .ok (.if_icmp .ge 53, 3) := by decide +kernel
theorem dX4_areReadingsSoOnTrial_13 : decode cX4_areReadingsSoOnTrial 13 = .ok (.iload_n 1, 1) := by decide +kernel
theorem dX4_areReadingsSoOnTrial_14 : decode cX4_areReadingsSoOnTrial 14 = .ok (.bipush 8, 2) := by decide +kernel
theorem dX4_areReadingsSoOnTrial_16 : decode cX4_areReadingsSoOnTrial 16 = .ok (.if_icmp .ge 47, 3) := by decide +kernel
theorem dX4_areReadingsSoOnTrial_19 : decode cX4_areReadingsSoOnTrial 19 = .ok (.aload_n 0, 1) := by decide +kernel
theorem dX4_areReadingsSoOnTrial_20 : decode cX4_areReadingsSoOnTrial 20 = .ok (.aload_n 0, 1) := by decide +kernel
theorem dX4_areReadingsSoOnTrial_21 : decode cX4_areReadingsSoOnTrial 21 = .ok (.getfield 18, 3) := by decide +kernel
theorem dX4_areReadingsSoOnTrial_24 : decode cX4_areReadingsSoOnTrial 24 = .ok (.aload_n 0, 1) := by decide +kernel
theorem dX4_areReadingsSoOnTrial_25 : decode cX4_areReadingsSoOnTrial 25 = .ok (.getfield 31, 3) := by decide +kernel
theorem dX4_areReadingsSoOnTrial_28 : decode cX4_areReadingsSoOnTrial 28 = .ok (.getfield 247, 3) := by decide +kernel
theorem dX4_areReadingsSoOnTrial_31 : decode cX4_areReadingsSoOnTrial 31 = .ok (.iload_n 1, 1) := by decide +kernel
theorem dX4_areReadingsSoOnTrial_32 : decode cX4_areReadingsSoOnTrial 32 = .ok (.iaload, 1) := by decide +kernel
theorem dX4_areReadingsSoOnTrial_33 : decode cX4_areReadingsSoOnTrial 33 = .ok (.aload_n 0, 1) := by decide +kernel
theorem dX4_areReadingsSoOnTrial_34 : decode cX4_areReadingsSoOnTrial 34 = .ok (.getfield 18, 3) := by decide +kernel
theorem dX4_areReadingsSoOnTrial_37 : decode cX4_areReadingsSoOnTrial 37 = .ok (.invokevirtual 112, 3) := by decide +kernel
theorem dX4_areReadingsSoOnTrial_40 : decode cX4_areReadingsSoOnTrial 40 = .ok (.invokevirtual 116, 3) := by decide +kernel
theorem dX4_areReadingsSoOnTrial_43 : decode cX4_areReadingsSoOnTrial 43 = .ok (.aload_n 0, 1) := by decide +kernel
theorem dX4_areReadingsSoOnTrial_44 : decode cX4_areReadingsSoOnTrial 44 = .ok (.getfield 31, 3) := by decide +kernel
theorem dX4_areReadingsSoOnTrial_47 : decode cX4_areReadingsSoOnTrial 47 = .ok (.getfield 250, 3) := by decide +kernel
theorem dX4_areReadingsSoOnTrial_50 : decode cX4_areReadingsSoOnTrial 50 = .ok (.iload_n 1, 1) := by decide +kernel
theorem dX4_areReadingsSoOnTrial_51 : decode cX4_areReadingsSoOnTrial 51 = .ok (.iaload, 1) := by decide +kernel
theorem dX4_areReadingsSoOnTrial_52 : decode cX4_areReadingsSoOnTrial 52 = .ok (.if_icmp .eq 5, 3) := by decide +kernel
theorem dX4_areReadingsSoOnTrial_55 : decode cX4_areReadingsSoOnTrial 55 = .ok (.iconst 0, 1) := by decide +kernel
theorem dX4_areReadingsSoOnTrial_56 : decode cX4_areReadingsSoOnTrial 56 = .ok (.ireturn, 1) := by decide +kernel
theorem dX4_areReadingsSoOnTrial_57 : decode cX4_areReadingsSoOnTrial 57 = .ok (.iinc 1 1, 3) := by decide +kernel
theorem dX4_areReadingsSoOnTrial_60 : decode cX4_areReadingsSoOnTrial 60 = .ok (.goto (-58), 3) := by decide +kernel
theorem dX4_areReadingsSoOnTrial_63 : decode cX4_areReadingsSoOnTrial 63 = .ok (.iconst 1, 1) := by decide +kernel
theorem dX4_areReadingsSoOnTrial_64 : decode cX4_areReadingsSoOnTrial 64 = .ok (.ireturn, 1) := by decide +kernel
set_option maxRecDepth 20000 in
theorem ggX4_refusalOfPairs_X2_at : GoodIn wsX4_refusalOfPairs wsX2_at := goodIn_r _ [6, 7, 8, 9, 10, 5, 11, 12, 30, 31, 32, 33] (by decide +kernel) (by decide +kernel)
set_option maxRecDepth 20000 in
theorem gX4_refusalOfPairs_X2_at : GoodIn wsX4_refusalOfPairs (wsV RX4 202 RX2 yX2_at wsX2_at) := goodIn_app (goodIn_of _ (by decide +kernel)) ggX4_refusalOfPairs_X2_at
set_option maxRecDepth 20000 in
theorem ggX4_refusalOfPairs_X3_has : GoodIn wsX4_refusalOfPairs wsX3_has := goodIn_r _ [17, 18, 34, 35, 36, 37, 38, 39] (by decide +kernel) (by decide +kernel)
set_option maxRecDepth 20000 in
theorem gX4_refusalOfPairs_X3_has : GoodIn wsX4_refusalOfPairs (wsV RX4 76 RX3 yX3_has wsX3_has) := goodIn_app (goodIn_of _ (by decide +kernel)) ggX4_refusalOfPairs_X3_has
set_option maxRecDepth 20000 in
theorem ggX4_refusalOfPairs_X4_isDigit : GoodIn wsX4_refusalOfPairs wsX4_isDigit := goodIn_r _ [22] (by decide +kernel) (by decide +kernel)
set_option maxRecDepth 20000 in
theorem gX4_refusalOfPairs_X4_isDigit : GoodIn wsX4_refusalOfPairs (va_wsS RX4 89 yX4_isDigit wsX4_isDigit) := goodIn_app (goodIn_of _ (by decide +kernel)) ggX4_refusalOfPairs_X4_isDigit
theorem dX4_refusalOfPairs_0 : decode cX4_refusalOfPairs 0 = .ok (.iconst 0, 1) := by decide +kernel
theorem dX4_refusalOfPairs_1 : decode cX4_refusalOfPairs 1 = .ok (.istore 4, 2) := by decide +kernel
theorem dX4_refusalOfPairs_3 : decode cX4_refusalOfPairs 3 = .ok (.iload 4, 2) := by decide +kernel
theorem dX4_refusalOfPairs_5 : decode cX4_refusalOfPairs 5 = .ok (.iload_n 3, 1) := by decide +kernel
theorem dX4_refusalOfPairs_6 : decode cX4_refusalOfPairs 6 = .ok (.if_icmp .ge 52, 3) := by decide +kernel
theorem dX4_refusalOfPairs_9 : decode cX4_refusalOfPairs 9 = .ok (.aload_n 0, 1) := by decide +kernel
theorem dX4_refusalOfPairs_10 : decode cX4_refusalOfPairs 10 = .ok (.getfield 14, 3) := by decide +kernel
theorem dX4_refusalOfPairs_13 : decode cX4_refusalOfPairs 13 = .ok (.aload_n 1, 1) := by decide +kernel
theorem dX4_refusalOfPairs_14 : decode cX4_refusalOfPairs 14 = .ok (.iload_n 2, 1) := by decide +kernel
theorem dX4_refusalOfPairs_15 : decode cX4_refusalOfPairs 15 = .ok (.iconst 2, 1) := by decide +kernel
theorem dX4_refusalOfPairs_16 : decode cX4_refusalOfPairs 16 = .ok (.iload 4, 2) := by decide +kernel
theorem dX4_refusalOfPairs_18 : decode cX4_refusalOfPairs 18 = .ok (.imul, 1) := by decide +kernel
theorem dX4_refusalOfPairs_19 : decode cX4_refusalOfPairs 19 = .ok (.iadd, 1) := by decide +kernel
theorem dX4_refusalOfPairs_20 : decode cX4_refusalOfPairs 20 = .ok (.invokevirtual 202, 3) := by decide +kernel
theorem dX4_refusalOfPairs_23 : decode cX4_refusalOfPairs 23 = .ok (.invokevirtual 76, 3) := by decide +kernel
theorem dX4_refusalOfPairs_26 : decode cX4_refusalOfPairs 26 = .ok (.ifCond .ne 5, 3) := by decide +kernel
theorem dX4_refusalOfPairs_29 : decode cX4_refusalOfPairs 29 = .ok (.iconst (-1), 1) := by decide +kernel
theorem dX4_refusalOfPairs_30 : decode cX4_refusalOfPairs 30 = .ok (.ireturn, 1) := by decide +kernel
theorem dX4_refusalOfPairs_31 : decode cX4_refusalOfPairs 31 = .ok (.aload_n 1, 1) := by decide +kernel
theorem dX4_refusalOfPairs_32 : decode cX4_refusalOfPairs 32 = .ok (.iload_n 2, 1) := by decide +kernel
theorem dX4_refusalOfPairs_33 : decode cX4_refusalOfPairs 33 = .ok (.iconst 2, 1) := by decide +kernel
theorem dX4_refusalOfPairs_34 : decode cX4_refusalOfPairs 34 = .ok (.iload 4, 2) := by decide +kernel
theorem dX4_refusalOfPairs_36 : decode cX4_refusalOfPairs 36 = .ok (.imul, 1) := by decide +kernel
theorem dX4_refusalOfPairs_37 : decode cX4_refusalOfPairs 37 = .ok (.iadd, 1) := by decide +kernel
theorem dX4_refusalOfPairs_38 : decode cX4_refusalOfPairs 38 = .ok (.iconst 1, 1) := by decide +kernel
theorem dX4_refusalOfPairs_39 : decode cX4_refusalOfPairs 39 = .ok (.iadd, 1) := by decide +kernel
theorem dX4_refusalOfPairs_40 : decode cX4_refusalOfPairs 40 = .ok (.invokevirtual 202, 3) := by decide +kernel
theorem dX4_refusalOfPairs_43 : decode cX4_refusalOfPairs 43 = .ok (.invokestatic 89, 3) := by decide +kernel
theorem dX4_refusalOfPairs_46 : decode cX4_refusalOfPairs 46 = .ok (.ifCond .ne 6, 3) := by decide +kernel
theorem dX4_refusalOfPairs_49 : decode cX4_refusalOfPairs 49 = .ok (.bipush (-2), 2) := by decide +kernel
theorem dX4_refusalOfPairs_51 : decode cX4_refusalOfPairs 51 = .ok (.ireturn, 1) := by decide +kernel
theorem dX4_refusalOfPairs_52 : decode cX4_refusalOfPairs 52 = .ok (.iinc 4 1, 3) := by decide +kernel
theorem dX4_refusalOfPairs_55 : decode cX4_refusalOfPairs 55 = .ok (.goto (-52), 3) := by decide +kernel
theorem dX4_refusalOfPairs_58 : decode cX4_refusalOfPairs 58 = .ok (.iconst 0, 1) := by decide +kernel
theorem dX4_refusalOfPairs_59 : decode cX4_refusalOfPairs 59 = .ok (.ireturn, 1) := by decide +kernel
set_option maxRecDepth 20000 in
theorem ggX4_walkOnTrial_X3_becomeLike : GoodIn wsX4_walkOnTrial wsX3_becomeLike := goodIn_r _ [12, 13, 14, 15, 16, 17, 18, 46, 47, 48, 49, 50, 51] (by decide +kernel) (by decide +kernel)
set_option maxRecDepth 20000 in
theorem gX4_walkOnTrial_X3_becomeLike : GoodIn wsX4_walkOnTrial (wsV RX4 156 RX3 yX3_becomeLike wsX3_becomeLike) := goodIn_app (goodIn_of _ (by decide +kernel)) ggX4_walkOnTrial_X3_becomeLike
set_option maxRecDepth 20000 in
theorem ggX4_walkOnTrial_X2_at : GoodIn wsX4_walkOnTrial wsX2_at := goodIn_r _ [23, 24, 25, 26, 27, 22, 28, 29, 52, 53, 54, 55] (by decide +kernel) (by decide +kernel)
set_option maxRecDepth 20000 in
theorem gX4_walkOnTrial_X2_at : GoodIn wsX4_walkOnTrial (wsV RX4 202 RX2 yX2_at wsX2_at) := goodIn_app (goodIn_of _ (by decide +kernel)) ggX4_walkOnTrial_X2_at
set_option maxRecDepth 20000 in
theorem ggX4_walkOnTrial_X3_has : GoodIn wsX4_walkOnTrial wsX3_has := goodIn_r _ [33, 16, 46, 47, 48, 49, 50, 51] (by decide +kernel) (by decide +kernel)
set_option maxRecDepth 20000 in
theorem gX4_walkOnTrial_X3_has : GoodIn wsX4_walkOnTrial (wsV RX4 76 RX3 yX3_has wsX3_has) := goodIn_app (goodIn_of _ (by decide +kernel)) ggX4_walkOnTrial_X3_has
set_option maxRecDepth 20000 in
theorem ggX4_walkOnTrial_X3_isAnotherOn : GoodIn wsX4_walkOnTrial wsX3_isAnotherOn := goodIn_r _ [37, 14, 38, 31, 32, 11, 33, 16, 46, 47, 48, 49, 50, 51] (by decide +kernel) (by decide +kernel)
set_option maxRecDepth 20000 in
theorem gX4_walkOnTrial_X3_isAnotherOn : GoodIn wsX4_walkOnTrial (wsV RX4 252 RX3 yX3_isAnotherOn wsX3_isAnotherOn) := goodIn_app (goodIn_of _ (by decide +kernel)) ggX4_walkOnTrial_X3_isAnotherOn
theorem dX4_walkOnTrial_0 : decode cX4_walkOnTrial 0 = .ok (.aload_n 0, 1) := by decide +kernel
theorem dX4_walkOnTrial_1 : decode cX4_walkOnTrial 1 = .ok (.getfield 18, 3) := by decide +kernel
theorem dX4_walkOnTrial_4 : decode cX4_walkOnTrial 4 = .ok (.aload_n 0, 1) := by decide +kernel
theorem dX4_walkOnTrial_5 : decode cX4_walkOnTrial 5 = .ok (.getfield 14, 3) := by decide +kernel
theorem dX4_walkOnTrial_8 : decode cX4_walkOnTrial 8 = .ok (.invokevirtual 156, 3) := by decide +kernel
theorem dX4_walkOnTrial_11 : decode cX4_walkOnTrial 11 = .ok (.iconst 0, 1) := by decide +kernel
theorem dX4_walkOnTrial_12 : decode cX4_walkOnTrial 12 = .ok (.istore 4, 2) := by decide +kernel
theorem dX4_walkOnTrial_14 : decode cX4_walkOnTrial 14 = .ok (.iconst 0, 1) := by decide +kernel
theorem dX4_walkOnTrial_15 : decode cX4_walkOnTrial 15 = .ok (.istore 5, 2) := by decide +kernel
theorem dX4_walkOnTrial_17 : decode cX4_walkOnTrial 17 = .ok (.iload 5, 2) := by decide +kernel
theorem dX4_walkOnTrial_19 : decode cX4_walkOnTrial 19 = .ok (.iload_n 3, 1) := by decide +kernel
theorem dX4_walkOnTrial_20 : decode cX4_walkOnTrial 20 = .ok (.if_icmp .ge 100, 3) := by decide +kernel
theorem dX4_walkOnTrial_23 : decode cX4_walkOnTrial 23 = .ok (.aload_n 1, 1) := by decide +kernel
theorem dX4_walkOnTrial_24 : decode cX4_walkOnTrial 24 = .ok (.iload_n 2, 1) := by decide +kernel
theorem dX4_walkOnTrial_25 : decode cX4_walkOnTrial 25 = .ok (.iconst 2, 1) := by decide +kernel
theorem dX4_walkOnTrial_26 : decode cX4_walkOnTrial 26 = .ok (.iload 5, 2) := by decide +kernel
theorem dX4_walkOnTrial_28 : decode cX4_walkOnTrial 28 = .ok (.imul, 1) := by decide +kernel
theorem dX4_walkOnTrial_29 : decode cX4_walkOnTrial 29 = .ok (.iadd, 1) := by decide +kernel
theorem dX4_walkOnTrial_30 : decode cX4_walkOnTrial 30 = .ok (.invokevirtual 202, 3) := by decide +kernel
theorem dX4_walkOnTrial_33 : decode cX4_walkOnTrial 33 = .ok (.istore 6, 2) := by decide +kernel
theorem dX4_walkOnTrial_35 : decode cX4_walkOnTrial 35 = .ok (.aload_n 1, 1) := by decide +kernel
theorem dX4_walkOnTrial_36 : decode cX4_walkOnTrial 36 = .ok (.iload_n 2, 1) := by decide +kernel
theorem dX4_walkOnTrial_37 : decode cX4_walkOnTrial 37 = .ok (.iconst 2, 1) := by decide +kernel
theorem dX4_walkOnTrial_38 : decode cX4_walkOnTrial 38 = .ok (.iload 5, 2) := by decide +kernel
theorem dX4_walkOnTrial_40 : decode cX4_walkOnTrial 40 = .ok (.imul, 1) := by decide +kernel
theorem dX4_walkOnTrial_41 : decode cX4_walkOnTrial 41 = .ok (.iadd, 1) := by decide +kernel
theorem dX4_walkOnTrial_42 : decode cX4_walkOnTrial 42 = .ok (.iconst 1, 1) := by decide +kernel
theorem dX4_walkOnTrial_43 : decode cX4_walkOnTrial 43 = .ok (.iadd, 1) := by decide +kernel
theorem dX4_walkOnTrial_44 : decode cX4_walkOnTrial 44 = .ok (.invokevirtual 202, 3) := by decide +kernel
theorem dX4_walkOnTrial_47 : decode cX4_walkOnTrial 47 = .ok (.istore 7, 2) := by decide +kernel
theorem dX4_walkOnTrial_49 : decode cX4_walkOnTrial 49 = .ok (.aload_n 0, 1) := by decide +kernel
theorem dX4_walkOnTrial_50 : decode cX4_walkOnTrial 50 = .ok (.getfield 18, 3) := by decide +kernel
theorem dX4_walkOnTrial_53 : decode cX4_walkOnTrial 53 = .ok (.iload 6, 2) := by decide +kernel
theorem dX4_walkOnTrial_55 : decode cX4_walkOnTrial 55 = .ok (.invokevirtual 76, 3) := by decide +kernel
theorem dX4_walkOnTrial_58 : decode cX4_walkOnTrial 58 = .ok (.ifCond .eq 17, 3) := by decide +kernel
theorem dX4_walkOnTrial_61 : decode cX4_walkOnTrial 61 = .ok (.aload_n 0, 1) := by decide +kernel
theorem dX4_walkOnTrial_62 : decode cX4_walkOnTrial 62 = .ok (.getfield 18, 3) := by decide +kernel
theorem dX4_walkOnTrial_65 : decode cX4_walkOnTrial 65 = .ok (.iload 7, 2) := by decide +kernel
theorem dX4_walkOnTrial_67 : decode cX4_walkOnTrial 67 = .ok (.iload 6, 2) := by decide +kernel
theorem dX4_walkOnTrial_69 : decode cX4_walkOnTrial 69 = .ok (.invokevirtual 252, 3) := by decide +kernel
theorem dX4_walkOnTrial_72 : decode cX4_walkOnTrial 72 = .ok (.ifCond .eq 9, 3) := by decide +kernel
theorem dX4_walkOnTrial_75 : decode cX4_walkOnTrial 75 = .ok (.bipush (-100), 2) := by decide +kernel
theorem dX4_walkOnTrial_77 : decode cX4_walkOnTrial 77 = .ok (.iload 5, 2) := by decide +kernel
theorem dX4_walkOnTrial_79 : decode cX4_walkOnTrial 79 = .ok (.isub, 1) := by decide +kernel
theorem dX4_walkOnTrial_80 : decode cX4_walkOnTrial 80 = .ok (.ireturn, 1) := by decide +kernel
theorem dX4_walkOnTrial_81 : decode cX4_walkOnTrial 81 = .ok (.iload 4, 2) := by decide +kernel
theorem dX4_walkOnTrial_83 : decode cX4_walkOnTrial 83 = .ok (.iload 7, 2) := by decide +kernel
theorem dX4_walkOnTrial_85 : decode cX4_walkOnTrial 85 = .ok (.aload_n 0, 1) := by decide +kernel
theorem dX4_walkOnTrial_86 : decode cX4_walkOnTrial 86 = .ok (.getfield 18, 3) := by decide +kernel
theorem dX4_walkOnTrial_89 : decode cX4_walkOnTrial 89 = .ok (.getfield 83, 3) := by decide +kernel
theorem dX4_walkOnTrial_92 : decode cX4_walkOnTrial 92 = .ok (.iload 6, 2) := by decide +kernel
theorem dX4_walkOnTrial_94 : decode cX4_walkOnTrial 94 = .ok (.iaload, 1) := by decide +kernel
theorem dX4_walkOnTrial_95 : decode cX4_walkOnTrial 95 = .ok (.isub, 1) := by decide +kernel
theorem dX4_walkOnTrial_96 : decode cX4_walkOnTrial 96 = .ok (.invokestatic 242, 3) := by decide +kernel
theorem dX4_walkOnTrial_99 : decode cX4_walkOnTrial 99 = .ok (.iadd, 1) := by decide +kernel
theorem dX4_walkOnTrial_100 : decode cX4_walkOnTrial 100 = .ok (.istore 4, 2) := by decide +kernel
theorem dX4_walkOnTrial_102 : decode cX4_walkOnTrial 102 = .ok (.aload_n 0, 1) := by decide +kernel
theorem dX4_walkOnTrial_103 : decode cX4_walkOnTrial 103 = .ok (.getfield 18, 3) := by decide +kernel
theorem dX4_walkOnTrial_106 : decode cX4_walkOnTrial 106 = .ok (.getfield 83, 3) := by decide +kernel
theorem dX4_walkOnTrial_109 : decode cX4_walkOnTrial 109 = .ok (.iload 6, 2) := by decide +kernel
theorem dX4_walkOnTrial_111 : decode cX4_walkOnTrial 111 = .ok (.iload 7, 2) := by decide +kernel
theorem dX4_walkOnTrial_113 : decode cX4_walkOnTrial 113 = .ok (.iastore, 1) := by decide +kernel
theorem dX4_walkOnTrial_114 : decode cX4_walkOnTrial 114 = .ok (.iinc 5 1, 3) := by decide +kernel
theorem dX4_walkOnTrial_117 : decode cX4_walkOnTrial 117 = .ok (.goto (-100), 3) := by decide +kernel
theorem dX4_walkOnTrial_120 : decode cX4_walkOnTrial 120 = .ok (.iload 4, 2) := by decide +kernel
theorem dX4_walkOnTrial_122 : decode cX4_walkOnTrial 122 = .ok (.ireturn, 1) := by decide +kernel
set_option maxRecDepth 20000 in
theorem ggX4_behindWalks_X3_everyone : GoodIn wsX4_behindWalks wsX3_everyone := goodIn_r _ [7, 8, 68, 69, 70, 71, 72, 73] (by decide +kernel) (by decide +kernel)
set_option maxRecDepth 20000 in
theorem gX4_behindWalks_X3_everyone : GoodIn wsX4_behindWalks (wsV RX4 112 RX3 yX3_everyone wsX3_everyone) := goodIn_app (goodIn_of _ (by decide +kernel)) ggX4_behindWalks_X3_everyone
set_option maxRecDepth 20000 in
theorem ggX4_behindWalks_X4_countedOn : GoodIn wsX4_behindWalks wsX4_countedOn := goodIn_r _ [13, 14, 15, 16, 17, 18, 19, 6, 20, 21, 22, 23, 24, 25, 26, 27, 28, 29, 8, 30, 31, 32, 33, 34, 35, 36, 37, 38, 39, 40, 41, 42, 43, 44, 45, 46, 47, 48, 49, 50, 51, 52, 53, 54, 55, 56, 57, 58, 61, 62, 63, 64, 65, 66, 67, 68, 69, 70, 71, 72, 73, 74, 75, 76, 77] (by decide +kernel) (by decide +kernel)
set_option maxRecDepth 20000 in
theorem gX4_behindWalks_X4_countedOn : GoodIn wsX4_behindWalks (wsV RX4 116 RX4 yX4_countedOn wsX4_countedOn) := goodIn_app (goodIn_of _ (by decide +kernel)) ggX4_behindWalks_X4_countedOn
set_option maxRecDepth 20000 in
theorem ggX4_behindWalks_X3_hiddenSet : GoodIn wsX4_behindWalks wsX3_hiddenSet := goodIn_r _ [25, 21, 26, 27, 28, 6, 29, 8, 30, 31, 32, 33, 34, 68, 69, 70, 71, 72, 73] (by decide +kernel) (by decide +kernel)
set_option maxRecDepth 20000 in
theorem gX4_behindWalks_X3_hiddenSet : GoodIn wsX4_behindWalks (wsV RX4 109 RX3 yX3_hiddenSet wsX3_hiddenSet) := goodIn_app (goodIn_of _ (by decide +kernel)) ggX4_behindWalks_X3_hiddenSet
set_option maxRecDepth 20000 in
theorem ggX4_behindWalks_X3_has : GoodIn wsX4_behindWalks wsX3_has := goodIn_r _ [29, 8, 68, 69, 70, 71, 72, 73] (by decide +kernel) (by decide +kernel)
set_option maxRecDepth 20000 in
theorem gX4_behindWalks_X3_has : GoodIn wsX4_behindWalks (wsV RX4 76 RX3 yX3_has wsX3_has) := goodIn_app (goodIn_of _ (by decide +kernel)) ggX4_behindWalks_X3_has
theorem dX4_behindWalks_0 : decode cX4_behindWalks 0 = .ok (.iload_n 3, 1) := by decide +kernel
theorem dX4_behindWalks_1 : decode cX4_behindWalks 1 = .ok (.iconst 1, 1) := by decide +kernel
theorem dX4_behindWalks_2 : decode cX4_behindWalks 2 = .ok (.if_icmp .ne 17, 3) := by decide +kernel
theorem dX4_behindWalks_5 : decode cX4_behindWalks 5 = .ok (.iload_n 2, 1) := by decide +kernel
theorem dX4_behindWalks_6 : decode cX4_behindWalks 6 = .ok (.ifCond .ge 10, 3) := by decide +kernel
theorem dX4_behindWalks_9 : decode cX4_behindWalks 9 = .ok (.bipush (-100), 2) := by decide +kernel
theorem dX4_behindWalks_11 : decode cX4_behindWalks 11 = .ok (.iload_n 2, 1) := by decide +kernel
theorem dX4_behindWalks_12 : decode cX4_behindWalks 12 = .ok (.isub, 1) := by decide +kernel
theorem dX4_behindWalks_13 : decode cX4_behindWalks 13 = .ok (.goto 5, 3) := by decide +kernel
theorem dX4_behindWalks_16 : decode cX4_behindWalks 16 = .ok (.bipush (-9), 2) := by decide +kernel
theorem dX4_behindWalks_18 : decode cX4_behindWalks 18 = .ok (.ireturn, 1) := by decide +kernel
theorem dX4_behindWalks_19 : decode cX4_behindWalks 19 = .ok (.iload_n 2, 1) := by decide +kernel
theorem dX4_behindWalks_20 : decode cX4_behindWalks 20 = .ok (.ifCond .ge 5, 3) := by decide +kernel
theorem dX4_behindWalks_23 : decode cX4_behindWalks 23 = .ok (.iload_n 2, 1) := by decide +kernel
theorem dX4_behindWalks_24 : decode cX4_behindWalks 24 = .ok (.ireturn, 1) := by decide +kernel
theorem dX4_behindWalks_25 : decode cX4_behindWalks 25 = .ok (.iload_n 3, 1) := by decide +kernel
theorem dX4_behindWalks_26 : decode cX4_behindWalks 26 = .ok (.tableswitch 58 0 3 #[30, 58, 47, 49], 30) := by decide +kernel
theorem dX4_behindWalks_56 : decode cX4_behindWalks 56 = .ok (.aload_n 0, 1) := by decide +kernel
theorem dX4_behindWalks_57 : decode cX4_behindWalks 57 = .ok (.aload_n 0, 1) := by decide +kernel
theorem dX4_behindWalks_58 : decode cX4_behindWalks 58 = .ok (.getfield 18, 3) := by decide +kernel
theorem dX4_behindWalks_61 : decode cX4_behindWalks 61 = .ok (.iload_n 1, 1) := by decide +kernel
theorem dX4_behindWalks_62 : decode cX4_behindWalks 62 = .ok (.aload_n 0, 1) := by decide +kernel
theorem dX4_behindWalks_63 : decode cX4_behindWalks 63 = .ok (.getfield 18, 3) := by decide +kernel
theorem dX4_behindWalks_66 : decode cX4_behindWalks 66 = .ok (.invokevirtual 112, 3) := by decide +kernel
theorem dX4_behindWalks_69 : decode cX4_behindWalks 69 = .ok (.invokevirtual 116, 3) := by decide +kernel
theorem dX4_behindWalks_72 : decode cX4_behindWalks 72 = .ok (.ireturn, 1) := by decide +kernel
theorem dX4_behindWalks_73 : decode cX4_behindWalks 73 = .ok (.iload_n 2, 1) := by decide +kernel
theorem dX4_behindWalks_74 : decode cX4_behindWalks 74 = .ok (.ireturn, 1) := by decide +kernel
theorem dX4_behindWalks_75 : decode cX4_behindWalks 75 = .ok (.aload_n 0, 1) := by decide +kernel
theorem dX4_behindWalks_76 : decode cX4_behindWalks 76 = .ok (.getfield 18, 3) := by decide +kernel
theorem dX4_behindWalks_79 : decode cX4_behindWalks 79 = .ok (.iload_n 1, 1) := by decide +kernel
theorem dX4_behindWalks_80 : decode cX4_behindWalks 80 = .ok (.invokevirtual 109, 3) := by decide +kernel
theorem dX4_behindWalks_83 : decode cX4_behindWalks 83 = .ok (.ireturn, 1) := by decide +kernel
theorem dX4_behindWalks_84 : decode cX4_behindWalks 84 = .ok (.aload_n 0, 1) := by decide +kernel
theorem dX4_behindWalks_85 : decode cX4_behindWalks 85 = .ok (.getfield 18, 3) := by decide +kernel
theorem dX4_behindWalks_88 : decode cX4_behindWalks 88 = .ok (.iload_n 3, 1) := by decide +kernel
theorem dX4_behindWalks_89 : decode cX4_behindWalks 89 = .ok (.bipush 10, 2) := by decide +kernel
theorem dX4_behindWalks_91 : decode cX4_behindWalks 91 = .ok (.isub, 1) := by decide +kernel
theorem dX4_behindWalks_92 : decode cX4_behindWalks 92 = .ok (.invokevirtual 76, 3) := by decide +kernel
theorem dX4_behindWalks_95 : decode cX4_behindWalks 95 = .ok (.ifCond .eq 18, 3) := by decide +kernel
theorem dX4_behindWalks_98 : decode cX4_behindWalks 98 = .ok (.aload_n 0, 1) := by decide +kernel
theorem dX4_behindWalks_99 : decode cX4_behindWalks 99 = .ok (.getfield 18, 3) := by decide +kernel
theorem dX4_behindWalks_102 : decode cX4_behindWalks 102 = .ok (.getfield 83, 3) := by decide +kernel
theorem dX4_behindWalks_105 : decode cX4_behindWalks 105 = .ok (.iload_n 3, 1) := by decide +kernel
theorem dX4_behindWalks_106 : decode cX4_behindWalks 106 = .ok (.bipush 10, 2) := by decide +kernel
theorem dX4_behindWalks_108 : decode cX4_behindWalks 108 = .ok (.isub, 1) := by decide +kernel
theorem dX4_behindWalks_109 : decode cX4_behindWalks 109 = .ok (.iaload, 1) := by decide +kernel
theorem dX4_behindWalks_110 : decode cX4_behindWalks 110 = .ok (.goto 5, 3) := by decide +kernel
theorem dX4_behindWalks_113 : decode cX4_behindWalks 113 = .ok (.bipush (-9), 2) := by decide +kernel
theorem dX4_behindWalks_115 : decode cX4_behindWalks 115 = .ok (.ireturn, 1) := by decide +kernel
set_option maxRecDepth 20000 in
theorem ggX4_tellAsStander_X4_leaveInTrace : GoodIn wsX4_tellAsStander wsX4_leaveInTrace := goodIn_r _ [7, 8, 15, 16, 17, 18, 19, 20, 21] (by decide +kernel) (by decide +kernel)
set_option maxRecDepth 20000 in
theorem gX4_tellAsStander_X4_leaveInTrace : GoodIn wsX4_tellAsStander (wsV RX4 223 RX4 yX4_leaveInTrace wsX4_leaveInTrace) := goodIn_app (goodIn_of _ (by decide +kernel)) ggX4_tellAsStander_X4_leaveInTrace
set_option maxRecDepth 20000 in
theorem ggX4_tellAsStander_X3_has : GoodIn wsX4_tellAsStander wsX3_has := goodIn_r _ [13, 14, 22, 23, 24, 25, 26, 27] (by decide +kernel) (by decide +kernel)
set_option maxRecDepth 20000 in
theorem gX4_tellAsStander_X3_has : GoodIn wsX4_tellAsStander (wsV RX4 76 RX3 yX3_has wsX3_has) := goodIn_app (goodIn_of _ (by decide +kernel)) ggX4_tellAsStander_X3_has
theorem dX4_tellAsStander_0 : decode cX4_tellAsStander 0 = .ok (.aload_n 0, 1) := by decide +kernel
theorem dX4_tellAsStander_1 : decode cX4_tellAsStander 1 = .ok (.iconst 1, 1) := by decide +kernel
theorem dX4_tellAsStander_2 : decode cX4_tellAsStander 2 = .ok (.invokevirtual 223, 3) := by decide +kernel
theorem dX4_tellAsStander_5 : decode cX4_tellAsStander 5 = .ok (.aload_n 0, 1) := by decide +kernel
theorem dX4_tellAsStander_6 : decode cX4_tellAsStander 6 = .ok (.getfield 14, 3) := by decide +kernel
theorem dX4_tellAsStander_9 : decode cX4_tellAsStander 9 = .ok (.iload_n 1, 1) := by decide +kernel
theorem dX4_tellAsStander_10 : decode cX4_tellAsStander 10 = .ok (.invokevirtual 76, 3) := by decide +kernel
theorem dX4_tellAsStander_13 : decode cX4_tellAsStander 13 = .ok (.ifCond .eq 15, 3) := by decide +kernel
theorem dX4_tellAsStander_16 : decode cX4_tellAsStander 16 = .ok (.aload_n 0, 1) := by decide +kernel
theorem dX4_tellAsStander_17 : decode cX4_tellAsStander 17 = .ok (.getfield 14, 3) := by decide +kernel
theorem dX4_tellAsStander_20 : decode cX4_tellAsStander 20 = .ok (.getfield 86, 3) := by decide +kernel
theorem dX4_tellAsStander_23 : decode cX4_tellAsStander 23 = .ok (.iload_n 1, 1) := by decide +kernel
theorem dX4_tellAsStander_24 : decode cX4_tellAsStander 24 = .ok (.iaload, 1) := by decide +kernel
theorem dX4_tellAsStander_25 : decode cX4_tellAsStander 25 = .ok (.goto 4, 3) := by decide +kernel
theorem dX4_tellAsStander_28 : decode cX4_tellAsStander 28 = .ok (.iconst 0, 1) := by decide +kernel
theorem dX4_tellAsStander_29 : decode cX4_tellAsStander 29 = .ok (.ireturn, 1) := by decide +kernel
set_option maxRecDepth 20000 in
theorem ggX4_tellAsRider_X4_leaveInTrace : GoodIn wsX4_tellAsRider wsX4_leaveInTrace := goodIn_r _ [5, 6, 19, 20, 21, 22, 23, 24, 25] (by decide +kernel) (by decide +kernel)
set_option maxRecDepth 20000 in
theorem gX4_tellAsRider_X4_leaveInTrace : GoodIn wsX4_tellAsRider (wsV RX4 223 RX4 yX4_leaveInTrace wsX4_leaveInTrace) := goodIn_app (goodIn_of _ (by decide +kernel)) ggX4_tellAsRider_X4_leaveInTrace
set_option maxRecDepth 20000 in
theorem ggX4_tellAsRider_X4_tellAsStander : GoodIn wsX4_tellAsRider wsX4_tellAsStander := goodIn_r _ [10, 11, 12, 1, 2, 3, 4, 5, 6, 13, 14, 15, 16, 17, 18, 19, 20, 21, 22, 23, 24, 25, 26, 27, 28, 29, 30, 31] (by decide +kernel) (by decide +kernel)
set_option maxRecDepth 20000 in
theorem gX4_tellAsRider_X4_tellAsStander : GoodIn wsX4_tellAsRider (wsV RX4 220 RX4 yX4_tellAsStander wsX4_tellAsStander) := goodIn_app (goodIn_of _ (by decide +kernel)) ggX4_tellAsRider_X4_tellAsStander
theorem dX4_tellAsRider_0 : decode cX4_tellAsRider 0 = .ok (.aload_n 0, 1) := by decide +kernel
theorem dX4_tellAsRider_1 : decode cX4_tellAsRider 1 = .ok (.iconst 2, 1) := by decide +kernel
theorem dX4_tellAsRider_2 : decode cX4_tellAsRider 2 = .ok (.invokevirtual 223, 3) := by decide +kernel
theorem dX4_tellAsRider_5 : decode cX4_tellAsRider 5 = .ok (.aload_n 0, 1) := by decide +kernel
theorem dX4_tellAsRider_6 : decode cX4_tellAsRider 6 = .ok (.iload_n 1, 1) := by decide +kernel
theorem dX4_tellAsRider_7 : decode cX4_tellAsRider 7 = .ok (.invokevirtual 220, 3) := by decide +kernel
theorem dX4_tellAsRider_10 : decode cX4_tellAsRider 10 = .ok (.bipush 100, 2) := by decide +kernel
theorem dX4_tellAsRider_12 : decode cX4_tellAsRider 12 = .ok (.iadd, 1) := by decide +kernel
theorem dX4_tellAsRider_13 : decode cX4_tellAsRider 13 = .ok (.ireturn, 1) := by decide +kernel
set_option maxRecDepth 20000 in
theorem ggX4_tellAsPole_X4_leaveInTrace : GoodIn wsX4_tellAsPole wsX4_leaveInTrace := goodIn_r _ [5, 6, 23, 24, 25, 26, 27, 28, 29] (by decide +kernel) (by decide +kernel)
set_option maxRecDepth 20000 in
theorem gX4_tellAsPole_X4_leaveInTrace : GoodIn wsX4_tellAsPole (wsV RX4 223 RX4 yX4_leaveInTrace wsX4_leaveInTrace) := goodIn_app (goodIn_of _ (by decide +kernel)) ggX4_tellAsPole_X4_leaveInTrace
set_option maxRecDepth 20000 in
theorem ggX4_tellAsPole_X4_tellAsRider : GoodIn wsX4_tellAsPole wsX4_tellAsRider := goodIn_r _ [10, 1, 2, 3, 4, 5, 6, 11, 12, 13, 14, 15, 16, 17, 18, 19, 20, 21, 22, 23, 24, 25, 26, 27, 28, 29, 30, 31, 32, 33, 34, 35] (by decide +kernel) (by decide +kernel)
set_option maxRecDepth 20000 in
theorem gX4_tellAsPole_X4_tellAsRider : GoodIn wsX4_tellAsPole (wsV RX4 214 RX4 yX4_tellAsRider wsX4_tellAsRider) := goodIn_app (goodIn_of _ (by decide +kernel)) ggX4_tellAsPole_X4_tellAsRider
set_option maxRecDepth 20000 in
theorem ggX4_tellAsPole_X4_tellAsStander : GoodIn wsX4_tellAsPole wsX4_tellAsStander := goodIn_r _ [14, 15, 16, 1, 2, 3, 4, 5, 6, 17, 18, 19, 20, 21, 22, 23, 24, 25, 26, 27, 28, 29, 30, 31, 32, 33, 34, 35] (by decide +kernel) (by decide +kernel)
set_option maxRecDepth 20000 in
theorem gX4_tellAsPole_X4_tellAsStander : GoodIn wsX4_tellAsPole (wsV RX4 220 RX4 yX4_tellAsStander wsX4_tellAsStander) := goodIn_app (goodIn_of _ (by decide +kernel)) ggX4_tellAsPole_X4_tellAsStander
theorem dX4_tellAsPole_0 : decode cX4_tellAsPole 0 = .ok (.aload_n 0, 1) := by decide +kernel
theorem dX4_tellAsPole_1 : decode cX4_tellAsPole 1 = .ok (.iconst 3, 1) := by decide +kernel
theorem dX4_tellAsPole_2 : decode cX4_tellAsPole 2 = .ok (.invokevirtual 223, 3) := by decide +kernel
theorem dX4_tellAsPole_5 : decode cX4_tellAsPole 5 = .ok (.aload_n 0, 1) := by decide +kernel
theorem dX4_tellAsPole_6 : decode cX4_tellAsPole 6 = .ok (.iload_n 1, 1) := by decide +kernel
theorem dX4_tellAsPole_7 : decode cX4_tellAsPole 7 = .ok (.invokevirtual 214, 3) := by decide +kernel
theorem dX4_tellAsPole_10 : decode cX4_tellAsPole 10 = .ok (.istore_n 2, 1) := by decide +kernel
theorem dX4_tellAsPole_11 : decode cX4_tellAsPole 11 = .ok (.iload_n 2, 1) := by decide +kernel
theorem dX4_tellAsPole_12 : decode cX4_tellAsPole 12 = .ok (.aload_n 0, 1) := by decide +kernel
theorem dX4_tellAsPole_13 : decode cX4_tellAsPole 13 = .ok (.iload_n 1, 1) := by decide +kernel
theorem dX4_tellAsPole_14 : decode cX4_tellAsPole 14 = .ok (.invokevirtual 220, 3) := by decide +kernel
theorem dX4_tellAsPole_17 : decode cX4_tellAsPole 17 = .ok (.iadd, 1) := by decide +kernel
theorem dX4_tellAsPole_18 : decode cX4_tellAsPole 18 = .ok (.ireturn, 1) := by decide +kernel
theorem dX4_leaveInTrace_0 : decode cX4_leaveInTrace 0 = .ok (.aload_n 0, 1) := by decide +kernel
theorem dX4_leaveInTrace_1 : decode cX4_leaveInTrace 1 = .ok (.bipush 31, 2) := by decide +kernel
theorem dX4_leaveInTrace_3 : decode cX4_leaveInTrace 3 = .ok (.aload_n 0, 1) := by decide +kernel
theorem dX4_leaveInTrace_4 : decode cX4_leaveInTrace 4 = .ok (.getfield 227, 3) := by decide +kernel
theorem dX4_leaveInTrace_7 : decode cX4_leaveInTrace 7 = .ok (.imul, 1) := by decide +kernel
theorem dX4_leaveInTrace_8 : decode cX4_leaveInTrace 8 = .ok (.iload_n 1, 1) := by decide +kernel
theorem dX4_leaveInTrace_9 : decode cX4_leaveInTrace 9 = .ok (.iadd, 1) := by decide +kernel
theorem dX4_leaveInTrace_10 : decode cX4_leaveInTrace 10 = .ok (.putfield 227, 3) := by decide +kernel
theorem dX4_leaveInTrace_13 : decode cX4_leaveInTrace 13 = .ok (.return_, 1) := by decide +kernel
