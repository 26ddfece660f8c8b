theorem dX0_init_0 : decode cX0_init 0 = .ok (.aload_n 0, 1) := by decide +kernel
theorem dX0_init_1 : decode cX0_init 1 = .ok (.invokespecial 3, 3) := by decide +kernel
theorem dX0_init_4 : decode cX0_init 4 = .ok (.aload_n 0, 1) := by decide +kernel
theorem dX0_init_5 : decode cX0_init 5 = .ok (.iconst 2, 1) := by decide +kernel
theorem dX0_init_6 : decode cX0_init 6 = .ok (.anewarray 9, 3) := by decide +kernel
theorem dX0_init_9 : decode cX0_init 9 = .ok (.putfield 11, 3) := by decide +kernel
theorem dX0_init_12 : decode cX0_init 12 = .ok (.aload_n 0, 1) := by decide +kernel
theorem dX0_init_13 : decode cX0_init 13 = .ok (.iconst 2, 1) := by decide +kernel
theorem dX0_init_14 : decode cX0_init 14 = .ok (.newarray .int, 2) := by decide +kernel
theorem dX0_init_16 : decode cX0_init 16 = .ok (.putfield 17, 3) := by decide +kernel
theorem dX0_init_19 : decode cX0_init 19 = .ok (.aload_n 0, 1) := by decide +kernel
theorem dX0_init_20 : decode cX0_init 20 = .ok (.iconst 2, 1) := by decide +kernel
theorem dX0_init_21 : decode cX0_init 21 = .ok (.newarray .boolean, 2) := by decide +kernel
theorem dX0_init_23 : decode cX0_init 23 = .ok (.putfield 21, 3) := by decide +kernel
theorem dX0_init_26 : decode cX0_init 26 = .ok (.iconst 0, 1) := by decide +kernel
theorem dX0_init_27 : decode cX0_init 27 = .ok (.istore_n 1, 1) := by decide +kernel
theorem dX0_init_28 : decode cX0_init 28 = .ok (.iload_n 1, 1) := by decide +kernel
theorem dX0_init_29 : decode cX0_init 29 = .ok (.iconst 2, 1) := by decide +kernel
theorem dX0_init_30 : decode cX0_init 30 = .ok (.if_icmp .ge 22, 3) := by decide +kernel
theorem dX0_init_33 : decode cX0_init 33 = .ok (.aload_n 0, 1) := by decide +kernel
theorem dX0_init_34 : decode cX0_init 34 = .ok (.getfield 11, 3) := by decide +kernel
theorem dX0_init_37 : decode cX0_init 37 = .ok (.iload_n 1, 1) := by decide +kernel
theorem dX0_init_38 : decode cX0_init 38 = .ok (.new 9, 3) := by decide +kernel
theorem dX0_init_41 : decode cX0_init 41 = .ok (.dup, 1) := by decide +kernel
theorem dX0_init_42 : decode cX0_init 42 = .ok (.invokespecial 25, 3) := by decide +kernel
theorem dX0_init_45 : decode cX0_init 45 = .ok (.aastore, 1) := by decide +kernel
theorem dX0_init_46 : decode cX0_init 46 = .ok (.iinc 1 1, 3) := by decide +kernel
theorem dX0_init_49 : decode cX0_init 49 = .ok (.goto (-21), 3) := by decide +kernel
theorem dX0_init_52 : decode cX0_init 52 = .ok (.return_, 1) := by decide +kernel
theorem dX0_clear_0 : decode cX0_clear 0 = .ok (.iconst 0, 1) := by decide +kernel
theorem dX0_clear_1 : decode cX0_clear 1 = .ok (.istore_n 1, 1) := by decide +kernel
theorem dX0_clear_2 : decode cX0_clear 2 = .ok (.iload_n 1, 1) := by decide +kernel
theorem dX0_clear_3 : decode cX0_clear 3 = .ok (.iconst 2, 1) := by decide +kernel
theorem dX0_clear_4 : decode cX0_clear 4 = .ok (.if_icmp .ge 16, 3) := by decide +kernel
theorem dX0_clear_7 : decode cX0_clear 7 = .ok (.aload_n 0, 1) := by decide +kernel
theorem dX0_clear_8 : decode cX0_clear 8 = .ok (.getfield 21, 3) := by decide +kernel
theorem dX0_clear_11 : decode cX0_clear 11 = .ok (.iload_n 1, 1) := by decide +kernel
theorem dX0_clear_12 : decode cX0_clear 12 = .ok (.iconst 0, 1) := by decide +kernel
theorem dX0_clear_13 : decode cX0_clear 13 = .ok (.bastore, 1) := by decide +kernel
theorem dX0_clear_14 : decode cX0_clear 14 = .ok (.iinc 1 1, 3) := by decide +kernel
theorem dX0_clear_17 : decode cX0_clear 17 = .ok (.goto (-15), 3) := by decide +kernel
theorem dX0_clear_20 : decode cX0_clear 20 = .ok (.return_, 1) := by decide +kernel
theorem dX0_hasPlace_0 : decode cX0_hasPlace 0 = .ok (.iload_n 1, 1) := by decide +kernel
theorem dX0_hasPlace_1 : decode cX0_hasPlace 1 = .ok (.ifCond .lt 12, 3) := by decide +kernel
theorem dX0_hasPlace_4 : decode cX0_hasPlace 4 = .ok (.iload_n 1, 1) := by decide +kernel
theorem dX0_hasPlace_5 : decode cX0_hasPlace 5 = .ok (.iconst 2, 1) := by decide +kernel
theorem dX0_hasPlace_6 : decode cX0_hasPlace 6 = .ok (.if_icmp .ge 7, 3) := by decide +kernel
theorem dX0_hasPlace_9 : decode cX0_hasPlace 9 = .ok (.iconst 1, 1) := by decide +kernel
theorem dX0_hasPlace_10 : decode cX0_hasPlace 10 = .ok (.goto 4, 3) := by decide +kernel
theorem dX0_hasPlace_13 : decode cX0_hasPlace 13 = .ok (.iconst 0, 1) := by decide +kernel
theorem dX0_hasPlace_14 : decode cX0_hasPlace 14 = .ok (.ireturn, 1) := by decide +kernel
theorem dX0_store_0 : decode cX0_store 0 = .ok (.aload_n 0, 1) := by decide +kernel
theorem dX0_store_1 : decode cX0_store 1 = .ok (.iload_n 1, 1) := by decide +kernel
theorem dX0_store_2 : decode cX0_store 2 = .ok (.invokevirtual 26, 3) := by decide +kernel
theorem dX0_store_5 : decode cX0_store 5 = .ok (.ifCond .eq 12, 3) := by decide +kernel
theorem dX0_store_8 : decode cX0_store 8 = .ok (.aload_n 0, 1) := by decide +kernel
theorem dX0_store_9 : decode cX0_store 9 = .ok (.getfield 11, 3) := by decide +kernel
theorem dX0_store_12 : decode cX0_store 12 = .ok (.iload_n 1, 1) := by decide +kernel
theorem dX0_store_13 : decode cX0_store 13 = .ok (.aaload, 1) := by decide +kernel
theorem dX0_store_14 : decode cX0_store 14 = .ok (.ifnonnull 4, 3) := by decide +kernel
theorem dX0_store_17 : decode cX0_store 17 = .ok (.return_, 1) := by decide +kernel
theorem dX0_store_18 : decode cX0_store 18 = .ok (.aload_n 0, 1) := by decide +kernel
theorem dX0_store_19 : decode cX0_store 19 = .ok (.getfield 11, 3) := by decide +kernel
theorem dX0_store_22 : decode cX0_store 22 = .ok (.iload_n 1, 1) := by decide +kernel
theorem dX0_store_23 : decode cX0_store 23 = .ok (.aaload, 1) := by decide +kernel
theorem dX0_store_24 : decode cX0_store 24 = .ok (.aload_n 2, 1) := by decide +kernel
theorem dX0_store_25 : decode cX0_store 25 = .ok (.invokevirtual 30, 3) := by decide +kernel
theorem dX0_store_28 : decode cX0_store 28 = .ok (.aload_n 0, 1) := by decide +kernel
theorem dX0_store_29 : decode cX0_store 29 = .ok (.getfield 17, 3) := by decide +kernel
theorem dX0_store_32 : decode cX0_store 32 = .ok (.iload_n 1, 1) := by decide +kernel
theorem dX0_store_33 : decode cX0_store 33 = .ok (.aload_n 3, 1) := by decide +kernel
theorem dX0_store_34 : decode cX0_store 34 = .ok (.getfield 34, 3) := by decide +kernel
theorem dX0_store_37 : decode cX0_store 37 = .ok (.iastore, 1) := by decide +kernel
theorem dX0_store_38 : decode cX0_store 38 = .ok (.aload_n 0, 1) := by decide +kernel
theorem dX0_store_39 : decode cX0_store 39 = .ok (.getfield 21, 3) := by decide +kernel
theorem dX0_store_42 : decode cX0_store 42 = .ok (.iload_n 1, 1) := by decide +kernel
theorem dX0_store_43 : decode cX0_store 43 = .ok (.iconst 1, 1) := by decide +kernel
theorem dX0_store_44 : decode cX0_store 44 = .ok (.bastore, 1) := by decide +kernel
theorem dX0_store_45 : decode cX0_store 45 = .ok (.return_, 1) := by decide +kernel
theorem dX0_load_0 : decode cX0_load 0 = .ok (.aload_n 0, 1) := by decide +kernel
theorem dX0_load_1 : decode cX0_load 1 = .ok (.iload_n 1, 1) := by decide +kernel
theorem dX0_load_2 : decode cX0_load 2 = .ok (.invokevirtual 26, 3) := by decide +kernel
theorem dX0_load_5 : decode cX0_load 5 = .ok (.ifCond .eq 21, 3) := by decide +kernel
theorem dX0_load_8 : decode cX0_load 8 = .ok (.aload_n 0, 1) := by decide +kernel
theorem dX0_load_9 : decode cX0_load 9 = .ok (.getfield 11, 3) := by decide +kernel
theorem dX0_load_12 : decode cX0_load 12 = .ok (.iload_n 1, 1) := by decide +kernel
theorem dX0_load_13 : decode cX0_load 13 = .ok (.aaload, 1) := by decide +kernel
theorem dX0_load_14 : decode cX0_load 14 = .ok (.ifnull 12, 3) := by decide +kernel
theorem dX0_load_17 : decode cX0_load 17 = .ok (.aload_n 0, 1) := by decide +kernel
theorem dX0_load_18 : decode cX0_load 18 = .ok (.getfield 21, 3) := by decide +kernel
theorem dX0_load_21 : decode cX0_load 21 = .ok (.iload_n 1, 1) := by decide +kernel
theorem dX0_load_22 : decode cX0_load 22 = .ok (.baload, 1) := by decide +kernel
theorem dX0_load_23 : decode cX0_load 23 = .ok (.ifCond .ne 5, 3) := by decide +kernel
theorem dX0_load_26 : decode cX0_load 26 = .ok (.iconst 0, 1) := by decide +kernel
theorem dX0_load_27 : decode cX0_load 27 = .ok (.ireturn, 1) := by decide +kernel
theorem dX0_load_28 : decode cX0_load 28 = .ok (.aload_n 2, 1) := by decide +kernel
theorem dX0_load_29 : decode cX0_load 29 = .ok (.aload_n 0, 1) := by decide +kernel
theorem dX0_load_30 : decode cX0_load 30 = .ok (.getfield 11, 3) := by decide +kernel
theorem dX0_load_33 : decode cX0_load 33 = .ok (.iload_n 1, 1) := by decide +kernel
theorem dX0_load_34 : decode cX0_load 34 = .ok (.aaload, 1) := by decide +kernel
theorem dX0_load_35 : decode cX0_load 35 = .ok (.invokevirtual 30, 3) := by decide +kernel
theorem dX0_load_38 : decode cX0_load 38 = .ok (.aload_n 3, 1) := by decide +kernel
theorem dX0_load_39 : decode cX0_load 39 = .ok (.aload_n 0, 1) := by decide +kernel
theorem dX0_load_40 : decode cX0_load 40 = .ok (.getfield 17, 3) := by decide +kernel
theorem dX0_load_43 : decode cX0_load 43 = .ok (.iload_n 1, 1) := by decide +kernel
theorem dX0_load_44 : decode cX0_load 44 = .ok (.iaload, 1) := by decide +kernel
theorem dX0_load_45 : decode cX0_load 45 = .ok (.putfield 34, 3) := by decide +kernel
theorem dX0_load_48 : decode cX0_load 48 = .ok (.iconst 1, 1) := by decide +kernel
theorem dX0_load_49 : decode cX0_load 49 = .ok (.ireturn, 1) := by decide +kernel
theorem dX1_init_0 : decode cX1_init 0 = .ok (.aload_n 0, 1) := by decide +kernel
theorem dX1_init_1 : decode cX1_init 1 = .ok (.invokespecial 3, 3) := by decide +kernel
theorem dX1_init_4 : decode cX1_init 4 = .ok (.aload_n 0, 1) := by decide +kernel
theorem dX1_init_5 : decode cX1_init 5 = .ok (.bipush 15, 2) := by decide +kernel
theorem dX1_init_7 : decode cX1_init 7 = .ok (.newarray .int, 2) := by decide +kernel
theorem dX1_init_9 : decode cX1_init 9 = .ok (.putfield 9, 3) := by decide +kernel
theorem dX1_init_12 : decode cX1_init 12 = .ok (.aload_n 0, 1) := by decide +kernel
theorem dX1_init_13 : decode cX1_init 13 = .ok (.bipush 15, 2) := by decide +kernel
theorem dX1_init_15 : decode cX1_init 15 = .ok (.newarray .int, 2) := by decide +kernel
theorem dX1_init_17 : decode cX1_init 17 = .ok (.putfield 15, 3) := by decide +kernel
theorem dX1_init_20 : decode cX1_init 20 = .ok (.return_, 1) := by decide +kernel
theorem dX1_clear_0 : decode cX1_clear 0 = .ok (.aload_n 0, 1) := by decide +kernel
theorem dX1_clear_1 : decode cX1_clear 1 = .ok (.iconst 0, 1) := by decide +kernel
theorem dX1_clear_2 : decode cX1_clear 2 = .ok (.putfield 18, 3) := by decide +kernel
theorem dX1_clear_5 : decode cX1_clear 5 = .ok (.return_, 1) := by decide +kernel
theorem dX1_append_0 : decode cX1_append 0 = .ok (.aload_n 0, 1) := by decide +kernel
theorem dX1_append_1 : decode cX1_append 1 = .ok (.getfield 18, 3) := by decide +kernel
theorem dX1_append_4 : decode cX1_append 4 = .ok (.ifCond .lt 12, 3) := by decide +kernel
theorem dX1_append_7 : decode cX1_append 7 = .ok (.aload_n 0, 1) := by decide +kernel
theorem dX1_append_8 : decode cX1_append 8 = .ok (.getfield 18, 3) := by decide +kernel
theorem dX1_append_11 : decode cX1_append 11 = .ok (.bipush 15, 2) := by decide +kernel
theorem dX1_append_13 : decode cX1_append 13 = .ok (.if_icmp .lt 5, 3) := by decide +kernel
theorem dX1_append_16 : decode cX1_append 16 = .ok (.iconst 0, 1) := by decide +kernel
theorem dX1_append_17 : decode cX1_append 17 = .ok (.ireturn, 1) := by decide +kernel
theorem dX1_append_18 : decode cX1_append 18 = .ok (.aload_n 0, 1) := by decide +kernel
theorem dX1_append_19 : decode cX1_append 19 = .ok (.getfield 9, 3) := by decide +kernel
theorem dX1_append_22 : decode cX1_append 22 = .ok (.aload_n 0, 1) := by decide +kernel
theorem dX1_append_23 : decode cX1_append 23 = .ok (.getfield 18, 3) := by decide +kernel
theorem dX1_append_26 : decode cX1_append 26 = .ok (.iload_n 1, 1) := by decide +kernel
theorem dX1_append_27 : decode cX1_append 27 = .ok (.iastore, 1) := by decide +kernel
theorem dX1_append_28 : decode cX1_append 28 = .ok (.aload_n 0, 1) := by decide +kernel
theorem dX1_append_29 : decode cX1_append 29 = .ok (.getfield 15, 3) := by decide +kernel
theorem dX1_append_32 : decode cX1_append 32 = .ok (.aload_n 0, 1) := by decide +kernel
theorem dX1_append_33 : decode cX1_append 33 = .ok (.getfield 18, 3) := by decide +kernel
theorem dX1_append_36 : decode cX1_append 36 = .ok (.iload_n 2, 1) := by decide +kernel
theorem dX1_append_37 : decode cX1_append 37 = .ok (.iastore, 1) := by decide +kernel
theorem dX1_append_38 : decode cX1_append 38 = .ok (.aload_n 0, 1) := by decide +kernel
theorem dX1_append_39 : decode cX1_append 39 = .ok (.dup, 1) := by decide +kernel
theorem dX1_append_40 : decode cX1_append 40 = .ok (.getfield 18, 3) := by decide +kernel
theorem dX1_append_43 : decode cX1_append 43 = .ok (.iconst 1, 1) := by decide +kernel
theorem dX1_append_44 : decode cX1_append 44 = .ok (.iadd, 1) := by decide +kernel
theorem dX1_append_45 : decode cX1_append 45 = .ok (.putfield 18, 3) := by decide +kernel
theorem dX1_append_48 : decode cX1_append 48 = .ok (.iconst 1, 1) := by decide +kernel
theorem dX1_append_49 : decode cX1_append 49 = .ok (.ireturn, 1) := by decide +kernel
theorem dX1_firstWrong_0 : decode cX1_firstWrong 0 = .ok (.iconst 0, 1) := by decide +kernel
theorem dX1_firstWrong_1 : decode cX1_firstWrong 1 = .ok (.istore_n 2, 1) := by decide +kernel
theorem dX1_firstWrong_2 : decode cX1_firstWrong 2 = .ok (.iload_n 2, 1) := by decide +kernel
theorem dX1_firstWrong_3 : decode cX1_firstWrong 3 = .ok (.aload_n 0, 1) := by decide +kernel
theorem dX1_firstWrong_4 : decode cX1_firstWrong 4 = .ok (.getfield 18, 3) := by decide +kernel
theorem dX1_firstWrong_7 : decode cX1_firstWrong 7 = .ok (.if_icmp .ge 52, 3) := by decide +kernel
theorem dX1_firstWrong_10 : decode cX1_firstWrong 10 = .ok (.iload_n 2, 1) := by decide +kernel
theorem dX1_firstWrong_11 : decode cX1_firstWrong 11 = .ok (.bipush 15, 2) := by decide +kernel
theorem dX1_firstWrong_13 : decode cX1_firstWrong 13 = .ok (.if_icmp .ge 46, 3) := by decide +kernel
theorem dX1_firstWrong_16 : decode cX1_firstWrong 16 = .ok (.aload_n 0, 1) := by decide +kernel
theorem dX1_firstWrong_17 : decode cX1_firstWrong 17 = .ok (.getfield 9, 3) := by decide +kernel
theorem dX1_firstWrong_20 : decode cX1_firstWrong 20 = .ok (.iload_n 2, 1) := by decide +kernel
theorem dX1_firstWrong_21 : decode cX1_firstWrong 21 = .ok (.iaload, 1) := by decide +kernel
theorem dX1_firstWrong_22 : decode cX1_firstWrong 22 = .ok (.istore_n 3, 1) := by decide +kernel
theorem dX1_firstWrong_23 : decode cX1_firstWrong 23 = .ok (.iload_n 3, 1) := by decide +kernel
theorem dX1_firstWrong_24 : decode cX1_firstWrong 24 = .ok (.ifCond .lt 29, 3) := by decide +kernel
theorem dX1_firstWrong_27 : decode cX1_firstWrong 27 = .ok (.iload_n 3, 1) := by decide +kernel
theorem dX1_firstWrong_28 : decode cX1_firstWrong 28 = .ok (.bipush 6, 2) := by decide +kernel
theorem dX1_firstWrong_30 : decode cX1_firstWrong 30 = .ok (.if_icmp .lt 6, 3) := by decide +kernel
theorem dX1_firstWrong_33 : decode cX1_firstWrong 33 = .ok (.goto 20, 3) := by decide +kernel
theorem dX1_firstWrong_36 : decode cX1_firstWrong 36 = .ok (.aload_n 1, 1) := by decide +kernel
theorem dX1_firstWrong_37 : decode cX1_firstWrong 37 = .ok (.getfield 22, 3) := by decide +kernel
theorem dX1_firstWrong_40 : decode cX1_firstWrong 40 = .ok (.iload_n 3, 1) := by decide +kernel
theorem dX1_firstWrong_41 : decode cX1_firstWrong 41 = .ok (.iaload, 1) := by decide +kernel
theorem dX1_firstWrong_42 : decode cX1_firstWrong 42 = .ok (.aload_n 0, 1) := by decide +kernel
theorem dX1_firstWrong_43 : decode cX1_firstWrong 43 = .ok (.getfield 15, 3) := by decide +kernel
theorem dX1_firstWrong_46 : decode cX1_firstWrong 46 = .ok (.iload_n 2, 1) := by decide +kernel
theorem dX1_firstWrong_47 : decode cX1_firstWrong 47 = .ok (.iaload, 1) := by decide +kernel
theorem dX1_firstWrong_48 : decode cX1_firstWrong 48 = .ok (.if_icmp .eq 5, 3) := by decide +kernel
theorem dX1_firstWrong_51 : decode cX1_firstWrong 51 = .ok (.iload_n 2, 1) := by decide +kernel
theorem dX1_firstWrong_52 : decode cX1_firstWrong 52 = .ok (.ireturn, 1) := by decide +kernel
theorem dX1_firstWrong_53 : decode cX1_firstWrong 53 = .ok (.iinc 2 1, 3) := by decide +kernel
theorem dX1_firstWrong_56 : decode cX1_firstWrong 56 = .ok (.goto (-54), 3) := by decide +kernel
theorem dX1_firstWrong_59 : decode cX1_firstWrong 59 = .ok (.iconst (-1), 1) := by decide +kernel
theorem dX1_firstWrong_60 : decode cX1_firstWrong 60 = .ok (.ireturn, 1) := by decide +kernel
theorem dX2_init_0 : decode cX2_init 0 = .ok (.aload_n 0, 1) := by decide +kernel
theorem dX2_init_1 : decode cX2_init 1 = .ok (.invokespecial 3, 3) := by decide +kernel
theorem dX2_init_4 : decode cX2_init 4 = .ok (.aload_n 0, 1) := by decide +kernel
theorem dX2_init_5 : decode cX2_init 5 = .ok (.bipush 6, 2) := by decide +kernel
theorem dX2_init_7 : decode cX2_init 7 = .ok (.newarray .int, 2) := by decide +kernel
theorem dX2_init_9 : decode cX2_init 9 = .ok (.putfield 9, 3) := by decide +kernel
theorem dX2_init_12 : decode cX2_init 12 = .ok (.aload_n 0, 1) := by decide +kernel
theorem dX2_init_13 : decode cX2_init 13 = .ok (.bipush 6, 2) := by decide +kernel
theorem dX2_init_15 : decode cX2_init 15 = .ok (.newarray .int, 2) := by decide +kernel
theorem dX2_init_17 : decode cX2_init 17 = .ok (.putfield 15, 3) := by decide +kernel
theorem dX2_init_20 : decode cX2_init 20 = .ok (.aload_n 0, 1) := by decide +kernel
theorem dX2_init_21 : decode cX2_init 21 = .ok (.bipush 6, 2) := by decide +kernel
theorem dX2_init_23 : decode cX2_init 23 = .ok (.newarray .int, 2) := by decide +kernel
theorem dX2_init_25 : decode cX2_init 25 = .ok (.putfield 18, 3) := by decide +kernel
theorem dX2_init_28 : decode cX2_init 28 = .ok (.aload_n 0, 1) := by decide +kernel
theorem dX2_init_29 : decode cX2_init 29 = .ok (.bipush 6, 2) := by decide +kernel
theorem dX2_init_31 : decode cX2_init 31 = .ok (.newarray .int, 2) := by decide +kernel
theorem dX2_init_33 : decode cX2_init 33 = .ok (.putfield 21, 3) := by decide +kernel
theorem dX2_init_36 : decode cX2_init 36 = .ok (.aload_n 0, 1) := by decide +kernel
theorem dX2_init_37 : decode cX2_init 37 = .ok (.bipush 8, 2) := by decide +kernel
theorem dX2_init_39 : decode cX2_init 39 = .ok (.newarray .int, 2) := by decide +kernel
theorem dX2_init_41 : decode cX2_init 41 = .ok (.putfield 24, 3) := by decide +kernel
theorem dX2_init_44 : decode cX2_init 44 = .ok (.return_, 1) := by decide +kernel
theorem dX2_clear_0 : decode cX2_clear 0 = .ok (.aload_n 0, 1) := by decide +kernel
theorem dX2_clear_1 : decode cX2_clear 1 = .ok (.iconst 0, 1) := by decide +kernel
theorem dX2_clear_2 : decode cX2_clear 2 = .ok (.putfield 27, 3) := by decide +kernel
theorem dX2_clear_5 : decode cX2_clear 5 = .ok (.aload_n 0, 1) := by decide +kernel
theorem dX2_clear_6 : decode cX2_clear 6 = .ok (.iconst 0, 1) := by decide +kernel
theorem dX2_clear_7 : decode cX2_clear 7 = .ok (.putfield 31, 3) := by decide +kernel
theorem dX2_clear_10 : decode cX2_clear 10 = .ok (.aload_n 0, 1) := by decide +kernel
theorem dX2_clear_11 : decode cX2_clear 11 = .ok (.iconst 0, 1) := by decide +kernel
theorem dX2_clear_12 : decode cX2_clear 12 = .ok (.putfield 34, 3) := by decide +kernel
theorem dX2_clear_15 : decode cX2_clear 15 = .ok (.aload_n 0, 1) := by decide +kernel
theorem dX2_clear_16 : decode cX2_clear 16 = .ok (.iconst 0, 1) := by decide +kernel
theorem dX2_clear_17 : decode cX2_clear 17 = .ok (.putfield 37, 3) := by decide +kernel
theorem dX2_clear_20 : decode cX2_clear 20 = .ok (.aload_n 0, 1) := by decide +kernel
theorem dX2_clear_21 : decode cX2_clear 21 = .ok (.iconst 0, 1) := by decide +kernel
theorem dX2_clear_22 : decode cX2_clear 22 = .ok (.putfield 40, 3) := by decide +kernel
theorem dX2_clear_25 : decode cX2_clear 25 = .ok (.aload_n 0, 1) := by decide +kernel
theorem dX2_clear_26 : decode cX2_clear 26 = .ok (.iconst 0, 1) := by decide +kernel
theorem dX2_clear_27 : decode cX2_clear 27 = .ok (.putfield 43, 3) := by decide +kernel
theorem dX2_clear_30 : decode cX2_clear 30 = .ok (.return_, 1) := by decide +kernel
theorem dX2_copyFrom_0 : decode cX2_copyFrom 0 = .ok (.aload_n 0, 1) := by decide +kernel
theorem dX2_copyFrom_1 : decode cX2_copyFrom 1 = .ok (.aload_n 1, 1) := by decide +kernel
theorem dX2_copyFrom_2 : decode cX2_copyFrom 2 = .ok (.getfield 27, 3) := by decide +kernel
theorem dX2_copyFrom_5 : decode cX2_copyFrom 5 = .ok (.putfield 27, 3) := by decide +kernel
theorem dX2_copyFrom_8 : decode cX2_copyFrom 8 = .ok (.aload_n 0, 1) := by decide +kernel
theorem dX2_copyFrom_9 : decode cX2_copyFrom 9 = .ok (.aload_n 1, 1) := by decide +kernel
theorem dX2_copyFrom_10 : decode cX2_copyFrom 10 = .ok (.getfield 31, 3) := by decide +kernel
theorem dX2_copyFrom_13 : decode cX2_copyFrom 13 = .ok (.putfield 31, 3) := by decide +kernel
theorem dX2_copyFrom_16 : decode cX2_copyFrom 16 = .ok (.aload_n 0, 1) := by decide +kernel
theorem dX2_copyFrom_17 : decode cX2_copyFrom 17 = .ok (.aload_n 1, 1) := by decide +kernel
theorem dX2_copyFrom_18 : decode cX2_copyFrom 18 = .ok (.getfield 34, 3) := by decide +kernel
theorem dX2_copyFrom_21 : decode cX2_copyFrom 21 = .ok (.putfield 34, 3) := by decide +kernel
theorem dX2_copyFrom_24 : decode cX2_copyFrom 24 = .ok (.aload_n 0, 1) := by decide +kernel
theorem dX2_copyFrom_25 : decode cX2_copyFrom 25 = .ok (.aload_n 1, 1) := by decide +kernel
theorem dX2_copyFrom_26 : decode cX2_copyFrom 26 = .ok (.getfield 37, 3) := by decide +kernel
theorem dX2_copyFrom_29 : decode cX2_copyFrom 29 = .ok (.putfield 37, 3) := by decide +kernel
theorem dX2_copyFrom_32 : decode cX2_copyFrom 32 = .ok (.aload_n 0, 1) := by decide +kernel
theorem dX2_copyFrom_33 : decode cX2_copyFrom 33 = .ok (.aload_n 1, 1) := by decide +kernel
theorem dX2_copyFrom_34 : decode cX2_copyFrom 34 = .ok (.getfield 40, 3) := by decide +kernel
theorem dX2_copyFrom_37 : decode cX2_copyFrom 37 = .ok (.putfield 40, 3) := by decide +kernel
theorem dX2_copyFrom_40 : decode cX2_copyFrom 40 = .ok (.aload_n 0, 1) := by decide +kernel
theorem dX2_copyFrom_41 : decode cX2_copyFrom 41 = .ok (.aload_n 1, 1) := by decide +kernel
theorem dX2_copyFrom_42 : decode cX2_copyFrom 42 = .ok (.getfield 43, 3) := by decide +kernel
theorem dX2_copyFrom_45 : decode cX2_copyFrom 45 = .ok (.putfield 43, 3) := by decide +kernel
theorem dX2_copyFrom_48 : decode cX2_copyFrom 48 = .ok (.aload_n 1, 1) := by decide +kernel
theorem dX2_copyFrom_49 : decode cX2_copyFrom 49 = .ok (.getfield 9, 3) := by decide +kernel
theorem dX2_copyFrom_52 : decode cX2_copyFrom 52 = .ok (.iconst 0, 1) := by decide +kernel
theorem dX2_copyFrom_53 : decode cX2_copyFrom 53 = .ok (.aload_n 0, 1) := by decide +kernel
theorem dX2_copyFrom_54 : decode cX2_copyFrom 54 = .ok (.getfield 9, 3) := by decide +kernel
theorem dX2_copyFrom_57 : decode cX2_copyFrom 57 = .ok (.iconst 0, 1) := by decide +kernel
theorem dX2_copyFrom_58 : decode cX2_copyFrom 58 = .ok (.bipush 6, 2) := by decide +kernel
theorem dX2_copyFrom_60 : decode cX2_copyFrom 60 = .ok (.invokestatic 46, 3) := by decide +kernel
theorem dX2_copyFrom_63 : decode cX2_copyFrom 63 = .ok (.aload_n 1, 1) := by decide +kernel
theorem dX2_copyFrom_64 : decode cX2_copyFrom 64 = .ok (.getfield 15, 3) := by decide +kernel
theorem dX2_copyFrom_67 : decode cX2_copyFrom 67 = .ok (.iconst 0, 1) := by decide +kernel
theorem dX2_copyFrom_68 : decode cX2_copyFrom 68 = .ok (.aload_n 0, 1) := by decide +kernel
theorem dX2_copyFrom_69 : decode cX2_copyFrom 69 = .ok (.getfield 15, 3) := by decide +kernel
theorem dX2_copyFrom_72 : decode cX2_copyFrom 72 = .ok (.iconst 0, 1) := by decide +kernel
theorem dX2_copyFrom_73 : decode cX2_copyFrom 73 = .ok (.bipush 6, 2) := by decide +kernel
theorem dX2_copyFrom_75 : decode cX2_copyFrom 75 = .ok (.invokestatic 46, 3) := by decide +kernel
theorem dX2_copyFrom_78 : decode cX2_copyFrom 78 = .ok (.aload_n 1, 1) := by decide +kernel
theorem dX2_copyFrom_79 : decode cX2_copyFrom 79 = .ok (.getfield 18, 3) := by decide +kernel
theorem dX2_copyFrom_82 : decode cX2_copyFrom 82 = .ok (.iconst 0, 1) := by decide +kernel
theorem dX2_copyFrom_83 : decode cX2_copyFrom 83 = .ok (.aload_n 0, 1) := by decide +kernel
theorem dX2_copyFrom_84 : decode cX2_copyFrom 84 = .ok (.getfield 18, 3) := by decide +kernel
theorem dX2_copyFrom_87 : decode cX2_copyFrom 87 = .ok (.iconst 0, 1) := by decide +kernel
theorem dX2_copyFrom_88 : decode cX2_copyFrom 88 = .ok (.bipush 6, 2) := by decide +kernel
theorem dX2_copyFrom_90 : decode cX2_copyFrom 90 = .ok (.invokestatic 46, 3) := by decide +kernel
theorem dX2_copyFrom_93 : decode cX2_copyFrom 93 = .ok (.aload_n 1, 1) := by decide +kernel
theorem dX2_copyFrom_94 : decode cX2_copyFrom 94 = .ok (.getfield 21, 3) := by decide +kernel
theorem dX2_copyFrom_97 : decode cX2_copyFrom 97 = .ok (.iconst 0, 1) := by decide +kernel
theorem dX2_copyFrom_98 : decode cX2_copyFrom 98 = .ok (.aload_n 0, 1) := by decide +kernel
theorem dX2_copyFrom_99 : decode cX2_copyFrom 99 = .ok (.getfield 21, 3) := by decide +kernel
theorem dX2_copyFrom_102 : decode cX2_copyFrom 102 = .ok (.iconst 0, 1) := by decide +kernel
theorem dX2_copyFrom_103 : decode cX2_copyFrom 103 = .ok (.bipush 6, 2) := by decide +kernel
theorem dX2_copyFrom_105 : decode cX2_copyFrom 105 = .ok (.invokestatic 46, 3) := by decide +kernel
theorem dX2_copyFrom_108 : decode cX2_copyFrom 108 = .ok (.aload_n 1, 1) := by decide +kernel
theorem dX2_copyFrom_109 : decode cX2_copyFrom 109 = .ok (.getfield 24, 3) := by decide +kernel
theorem dX2_copyFrom_112 : decode cX2_copyFrom 112 = .ok (.iconst 0, 1) := by decide +kernel
theorem dX2_copyFrom_113 : decode cX2_copyFrom 113 = .ok (.aload_n 0, 1) := by decide +kernel
theorem dX2_copyFrom_114 : decode cX2_copyFrom 114 = .ok (.getfield 24, 3) := by decide +kernel
theorem dX2_copyFrom_117 : decode cX2_copyFrom 117 = .ok (.iconst 0, 1) := by decide +kernel
theorem dX2_copyFrom_118 : decode cX2_copyFrom 118 = .ok (.bipush 8, 2) := by decide +kernel
theorem dX2_copyFrom_120 : decode cX2_copyFrom 120 = .ok (.invokestatic 46, 3) := by decide +kernel
theorem dX2_copyFrom_123 : decode cX2_copyFrom 123 = .ok (.return_, 1) := by decide +kernel
theorem dX2_stands_0 : decode cX2_stands 0 = .ok (.aload_n 0, 1) := by decide +kernel
theorem dX2_stands_1 : decode cX2_stands 1 = .ok (.getfield 27, 3) := by decide +kernel
theorem dX2_stands_4 : decode cX2_stands 4 = .ok (.ifCond .le 7, 3) := by decide +kernel
theorem dX2_stands_7 : decode cX2_stands 7 = .ok (.iconst 1, 1) := by decide +kernel
theorem dX2_stands_8 : decode cX2_stands 8 = .ok (.goto 4, 3) := by decide +kernel
theorem dX2_stands_11 : decode cX2_stands 11 = .ok (.iconst 0, 1) := by decide +kernel
theorem dX2_stands_12 : decode cX2_stands 12 = .ok (.ireturn, 1) := by decide +kernel
theorem dX2_hasWatcher_0 : decode cX2_hasWatcher 0 = .ok (.iload_n 1, 1) := by decide +kernel
theorem dX2_hasWatcher_1 : decode cX2_hasWatcher 1 = .ok (.ifCond .lt 21, 3) := by decide +kernel
theorem dX2_hasWatcher_4 : decode cX2_hasWatcher 4 = .ok (.iload_n 1, 1) := by decide +kernel
theorem dX2_hasWatcher_5 : decode cX2_hasWatcher 5 = .ok (.aload_n 0, 1) := by decide +kernel
theorem dX2_hasWatcher_6 : decode cX2_hasWatcher 6 = .ok (.getfield 40, 3) := by decide +kernel
theorem dX2_hasWatcher_9 : decode cX2_hasWatcher 9 = .ok (.if_icmp .ge 13, 3) := by decide +kernel
theorem dX2_hasWatcher_12 : decode cX2_hasWatcher 12 = .ok (.iload_n 1, 1) := by decide +kernel
theorem dX2_hasWatcher_13 : decode cX2_hasWatcher 13 = .ok (.bipush 6, 2) := by decide +kernel
theorem dX2_hasWatcher_15 : decode cX2_hasWatcher 15 = .ok (.if_icmp .ge 7, 3) := by decide +kernel
theorem dX2_hasWatcher_18 : decode cX2_hasWatcher 18 = .ok (.iconst 1, 1) := by decide +kernel
theorem dX2_hasWatcher_19 : decode cX2_hasWatcher 19 = .ok (.goto 4, 3) := by decide +kernel
theorem dX2_hasWatcher_22 : decode cX2_hasWatcher 22 = .ok (.iconst 0, 1) := by decide +kernel
theorem dX2_hasWatcher_23 : decode cX2_hasWatcher 23 = .ok (.ireturn, 1) := by decide +kernel
theorem dX2_hasSleeper_0 : decode cX2_hasSleeper 0 = .ok (.iload_n 1, 1) := by decide +kernel
theorem dX2_hasSleeper_1 : decode cX2_hasSleeper 1 = .ok (.ifCond .lt 21, 3) := by decide +kernel
theorem dX2_hasSleeper_4 : decode cX2_hasSleeper 4 = .ok (.iload_n 1, 1) := by decide +kernel
theorem dX2_hasSleeper_5 : decode cX2_hasSleeper 5 = .ok (.aload_n 0, 1) := by decide +kernel
theorem dX2_hasSleeper_6 : decode cX2_hasSleeper 6 = .ok (.getfield 43, 3) := by decide +kernel
theorem dX2_hasSleeper_9 : decode cX2_hasSleeper 9 = .ok (.if_icmp .ge 13, 3) := by decide +kernel
theorem dX2_hasSleeper_12 : decode cX2_hasSleeper 12 = .ok (.iload_n 1, 1) := by decide +kernel
theorem dX2_hasSleeper_13 : decode cX2_hasSleeper 13 = .ok (.bipush 8, 2) := by decide +kernel
theorem dX2_hasSleeper_15 : decode cX2_hasSleeper 15 = .ok (.if_icmp .ge 7, 3) := by decide +kernel
theorem dX2_hasSleeper_18 : decode cX2_hasSleeper 18 = .ok (.iconst 1, 1) := by decide +kernel
theorem dX2_hasSleeper_19 : decode cX2_hasSleeper 19 = .ok (.goto 4, 3) := by decide +kernel
theorem dX2_hasSleeper_22 : decode cX2_hasSleeper 22 = .ok (.iconst 0, 1) := by decide +kernel
theorem dX2_hasSleeper_23 : decode cX2_hasSleeper 23 = .ok (.ireturn, 1) := by decide +kernel
theorem dX2_everybody_0 : decode cX2_everybody 0 = .ok (.iconst 1, 1) := by decide +kernel
theorem dX2_everybody_1 : decode cX2_everybody 1 = .ok (.aload_n 0, 1) := by decide +kernel
theorem dX2_everybody_2 : decode cX2_everybody 2 = .ok (.getfield 40, 3) := by decide +kernel
theorem dX2_everybody_5 : decode cX2_everybody 5 = .ok (.ishl, 1) := by decide +kernel
theorem dX2_everybody_6 : decode cX2_everybody 6 = .ok (.iconst 1, 1) := by decide +kernel
theorem dX2_everybody_7 : decode cX2_everybody 7 = .ok (.isub, 1) := by decide +kernel
theorem dX2_everybody_8 : decode cX2_everybody 8 = .ok (.ireturn, 1) := by decide +kernel
theorem dX2_hasAll_0 : decode cX2_hasAll 0 = .ok (.iload_n 1, 1) := by decide +kernel
theorem dX2_hasAll_1 : decode cX2_hasAll 1 = .ok (.aload_n 0, 1) := by decide +kernel
theorem dX2_hasAll_2 : decode cX2_hasAll 2 = .ok (.invokevirtual 52, 3) := by decide +kernel
theorem dX2_hasAll_5 : decode cX2_hasAll 5 = .ok (.iconst (-1), 1) := by decide +kernel
theorem dX2_hasAll_6 : decode cX2_hasAll 6 = .ok (.ixor, 1) := by decide +kernel
theorem dX2_hasAll_7 : decode cX2_hasAll 7 = .ok (.iand, 1) := by decide +kernel
theorem dX2_hasAll_8 : decode cX2_hasAll 8 = .ok (.ifCond .ne 7, 3) := by decide +kernel
theorem dX2_hasAll_11 : decode cX2_hasAll 11 = .ok (.iconst 1, 1) := by decide +kernel
theorem dX2_hasAll_12 : decode cX2_hasAll 12 = .ok (.goto 4, 3) := by decide +kernel
theorem dX2_hasAll_15 : decode cX2_hasAll 15 = .ok (.iconst 0, 1) := by decide +kernel
theorem dX2_hasAll_16 : decode cX2_hasAll 16 = .ok (.ireturn, 1) := by decide +kernel
theorem dX2_addWatcher_0 : decode cX2_addWatcher 0 = .ok (.aload_n 0, 1) := by decide +kernel
theorem dX2_addWatcher_1 : decode cX2_addWatcher 1 = .ok (.getfield 40, 3) := by decide +kernel
theorem dX2_addWatcher_4 : decode cX2_addWatcher 4 = .ok (.ifCond .lt 12, 3) := by decide +kernel
theorem dX2_addWatcher_7 : decode cX2_addWatcher 7 = .ok (.aload_n 0, 1) := by decide +kernel
theorem dX2_addWatcher_8 : decode cX2_addWatcher 8 = .ok (.getfield 40, 3) := by decide +kernel
theorem dX2_addWatcher_11 : decode cX2_addWatcher 11 = .ok (.bipush 6, 2) := by decide +kernel
theorem dX2_addWatcher_13 : decode cX2_addWatcher 13 = .ok (.if_icmp .lt 4, 3) := by decide +kernel
theorem dX2_addWatcher_16 : decode cX2_addWatcher 16 = .ok (.return_, 1) := by decide +kernel
theorem dX2_addWatcher_17 : decode cX2_addWatcher 17 = .ok (.aload_n 0, 1) := by decide +kernel
theorem dX2_addWatcher_18 : decode cX2_addWatcher 18 = .ok (.getfield 9, 3) := by decide +kernel
theorem dX2_addWatcher_21 : decode cX2_addWatcher 21 = .ok (.aload_n 0, 1) := by decide +kernel
theorem dX2_addWatcher_22 : decode cX2_addWatcher 22 = .ok (.getfield 40, 3) := by decide +kernel
theorem dX2_addWatcher_25 : decode cX2_addWatcher 25 = .ok (.iload_n 1, 1) := by decide +kernel
theorem dX2_addWatcher_26 : decode cX2_addWatcher 26 = .ok (.iastore, 1) := by decide +kernel
theorem dX2_addWatcher_27 : decode cX2_addWatcher 27 = .ok (.aload_n 0, 1) := by decide +kernel
theorem dX2_addWatcher_28 : decode cX2_addWatcher 28 = .ok (.getfield 15, 3) := by decide +kernel
theorem dX2_addWatcher_31 : decode cX2_addWatcher 31 = .ok (.aload_n 0, 1) := by decide +kernel
theorem dX2_addWatcher_32 : decode cX2_addWatcher 32 = .ok (.getfield 40, 3) := by decide +kernel
theorem dX2_addWatcher_35 : decode cX2_addWatcher 35 = .ok (.iload_n 2, 1) := by decide +kernel
theorem dX2_addWatcher_36 : decode cX2_addWatcher 36 = .ok (.iastore, 1) := by decide +kernel
theorem dX2_addWatcher_37 : decode cX2_addWatcher 37 = .ok (.aload_n 0, 1) := by decide +kernel
theorem dX2_addWatcher_38 : decode cX2_addWatcher 38 = .ok (.getfield 18, 3) := by decide +kernel
theorem dX2_addWatcher_41 : decode cX2_addWatcher 41 = .ok (.aload_n 0, 1) := by decide +kernel
theorem dX2_addWatcher_42 : decode cX2_addWatcher 42 = .ok (.getfield 40, 3) := by decide +kernel
theorem dX2_addWatcher_45 : decode cX2_addWatcher 45 = .ok (.iload_n 3, 1) := by decide +kernel
theorem dX2_addWatcher_46 : decode cX2_addWatcher 46 = .ok (.iastore, 1) := by decide +kernel
theorem dX2_addWatcher_47 : decode cX2_addWatcher 47 = .ok (.aload_n 0, 1) := by decide +kernel
theorem dX2_addWatcher_48 : decode cX2_addWatcher 48 = .ok (.getfield 21, 3) := by decide +kernel
theorem dX2_addWatcher_51 : decode cX2_addWatcher 51 = .ok (.aload_n 0, 1) := by decide +kernel
theorem dX2_addWatcher_52 : decode cX2_addWatcher 52 = .ok (.getfield 40, 3) := by decide +kernel
theorem dX2_addWatcher_55 : decode cX2_addWatcher 55 = .ok (.iload 4, 2) := by decide +kernel
theorem dX2_addWatcher_57 : decode cX2_addWatcher 57 = .ok (.iastore, 1) := by decide +kernel
theorem dX2_addWatcher_58 : decode cX2_addWatcher 58 = .ok (.aload_n 0, 1) := by decide +kernel
theorem dX2_addWatcher_59 : decode cX2_addWatcher 59 = .ok (.dup, 1) := by decide +kernel
theorem dX2_addWatcher_60 : decode cX2_addWatcher 60 = .ok (.getfield 40, 3) := by decide +kernel
theorem dX2_addWatcher_63 : decode cX2_addWatcher 63 = .ok (.iconst 1, 1) := by decide +kernel
theorem dX2_addWatcher_64 : decode cX2_addWatcher 64 = .ok (.iadd, 1) := by decide +kernel
theorem dX2_addWatcher_65 : decode cX2_addWatcher 65 = .ok (.putfield 40, 3) := by decide +kernel
theorem dX2_addWatcher_68 : decode cX2_addWatcher 68 = .ok (.return_, 1) := by decide +kernel
theorem dX2_addSleeper_0 : decode cX2_addSleeper 0 = .ok (.aload_n 0, 1) := by decide +kernel
theorem dX2_addSleeper_1 : decode cX2_addSleeper 1 = .ok (.getfield 43, 3) := by decide +kernel
theorem dX2_addSleeper_4 : decode cX2_addSleeper 4 = .ok (.ifCond .lt 12, 3) := by decide +kernel
theorem dX2_addSleeper_7 : decode cX2_addSleeper 7 = .ok (.aload_n 0, 1) := by decide +kernel
theorem dX2_addSleeper_8 : decode cX2_addSleeper 8 = .ok (.getfield 43, 3) := by decide +kernel
theorem dX2_addSleeper_11 : decode cX2_addSleeper 11 = .ok (.bipush 8, 2) := by decide +kernel
theorem dX2_addSleeper_13 : decode cX2_addSleeper 13 = .ok (.if_icmp .lt 4, 3) := by decide +kernel
theorem dX2_addSleeper_16 : decode cX2_addSleeper 16 = .ok (.return_, 1) := by decide +kernel
theorem dX2_addSleeper_17 : decode cX2_addSleeper 17 = .ok (.aload_n 0, 1) := by decide +kernel
theorem dX2_addSleeper_18 : decode cX2_addSleeper 18 = .ok (.getfield 24, 3) := by decide +kernel
theorem dX2_addSleeper_21 : decode cX2_addSleeper 21 = .ok (.aload_n 0, 1) := by decide +kernel
theorem dX2_addSleeper_22 : decode cX2_addSleeper 22 = .ok (.getfield 43, 3) := by decide +kernel
theorem dX2_addSleeper_25 : decode cX2_addSleeper 25 = .ok (.iload_n 1, 1) := by decide +kernel
theorem dX2_addSleeper_26 : decode cX2_addSleeper 26 = .ok (.iastore, 1) := by decide +kernel
theorem dX2_addSleeper_27 : decode cX2_addSleeper 27 = .ok (.aload_n 0, 1) := by decide +kernel
theorem dX2_addSleeper_28 : decode cX2_addSleeper 28 = .ok (.dup, 1) := by decide +kernel
theorem dX2_addSleeper_29 : decode cX2_addSleeper 29 = .ok (.getfield 43, 3) := by decide +kernel
theorem dX2_addSleeper_32 : decode cX2_addSleeper 32 = .ok (.iconst 1, 1) := by decide +kernel
theorem dX2_addSleeper_33 : decode cX2_addSleeper 33 = .ok (.iadd, 1) := by decide +kernel
theorem dX2_addSleeper_34 : decode cX2_addSleeper 34 = .ok (.putfield 43, 3) := by decide +kernel
theorem dX2_addSleeper_37 : decode cX2_addSleeper 37 = .ok (.return_, 1) := by decide +kernel
theorem dX2_spendHour_0 : decode cX2_spendHour 0 = .ok (.iconst 0, 1) := by decide +kernel
theorem dX2_spendHour_1 : decode cX2_spendHour 1 = .ok (.istore 4, 2) := by decide +kernel
theorem dX2_spendHour_3 : decode cX2_spendHour 3 = .ok (.iconst 0, 1) := by decide +kernel
theorem dX2_spendHour_4 : decode cX2_spendHour 4 = .ok (.istore 5, 2) := by decide +kernel
theorem dX2_spendHour_6 : decode cX2_spendHour 6 = .ok (.iload 5, 2) := by decide +kernel
theorem dX2_spendHour_8 : decode cX2_spendHour 8 = .ok (.aload_n 0, 1) := by decide +kernel
theorem dX2_spendHour_9 : decode cX2_spendHour 9 = .ok (.getfield 40, 3) := by decide +kernel
theorem dX2_spendHour_12 : decode cX2_spendHour 12 = .ok (.if_icmp .ge 117, 3) := by decide +kernel
theorem dX2_spendHour_15 : decode cX2_spendHour 15 = .ok (.iload 5, 2) := by decide +kernel
theorem dX2_spendHour_17 : decode cX2_spendHour 17 = .ok (.bipush 6, 2) := by decide +kernel
theorem dX2_spendHour_19 : decode cX2_spendHour 19 = .ok (.if_icmp .ge 110, 3) := by decide +kernel
theorem dX2_spendHour_22 : decode cX2_spendHour 22 = .ok (.iload_n 2, 1) := by decide +kernel
theorem dX2_spendHour_23 : decode cX2_spendHour 23 = .ok (.iload 5, 2) := by decide +kernel
theorem dX2_spendHour_25 : decode cX2_spendHour 25 = .ok (.ishr, 1) := by decide +kernel
theorem dX2_spendHour_26 : decode cX2_spendHour 26 = .ok (.iconst 1, 1) := by decide +kernel
theorem dX2_spendHour_27 : decode cX2_spendHour 27 = .ok (.iand, 1) := by decide +kernel
theorem dX2_spendHour_28 : decode cX2_spendHour 28 = .ok (.ifCond .eq 75, 3) := by decide +kernel
theorem dX2_spendHour_31 : decode cX2_spendHour 31 = .ok (.iload_n 3, 1) := by decide +kernel
theorem dX2_spendHour_32 : decode cX2_spendHour 32 = .ok (.ifCond .eq 19, 3) := by decide +kernel
theorem dX2_spendHour_35 : decode cX2_spendHour 35 = .ok (.iconst 0, 1) := by decide +kernel
theorem dX2_spendHour_36 : decode cX2_spendHour 36 = .ok (.aload_n 1, 1) := by decide +kernel
theorem dX2_spendHour_37 : decode cX2_spendHour 37 = .ok (.iload 5, 2) := by decide +kernel
theorem dX2_spendHour_39 : decode cX2_spendHour 39 = .ok (.iaload, 1) := by decide +kernel
theorem dX2_spendHour_40 : decode cX2_spendHour 40 = .ok (.aload_n 0, 1) := by decide +kernel
theorem dX2_spendHour_41 : decode cX2_spendHour 41 = .ok (.getfield 37, 3) := by decide +kernel
theorem dX2_spendHour_44 : decode cX2_spendHour 44 = .ok (.isub, 1) := by decide +kernel
theorem dX2_spendHour_45 : decode cX2_spendHour 45 = .ok (.invokestatic 56, 3) := by decide +kernel
theorem dX2_spendHour_48 : decode cX2_spendHour 48 = .ok (.goto 7, 3) := by decide +kernel
theorem dX2_spendHour_51 : decode cX2_spendHour 51 = .ok (.aload_n 1, 1) := by decide +kernel
theorem dX2_spendHour_52 : decode cX2_spendHour 52 = .ok (.iload 5, 2) := by decide +kernel
theorem dX2_spendHour_54 : decode cX2_spendHour 54 = .ok (.iaload, 1) := by decide +kernel
theorem dX2_spendHour_55 : decode cX2_spendHour 55 = .ok (.istore 6, 2) := by decide +kernel
theorem dX2_spendHour_57 : decode cX2_spendHour 57 = .ok (.aload_n 1, 1) := by decide +kernel
theorem dX2_spendHour_58 : decode cX2_spendHour 58 = .ok (.iload 5, 2) := by decide +kernel
theorem dX2_spendHour_60 : decode cX2_spendHour 60 = .ok (.sipush 199, 3) := by decide +kernel
theorem dX2_spendHour_63 : decode cX2_spendHour 63 = .ok (.iload 6, 2) := by decide +kernel
theorem dX2_spendHour_65 : decode cX2_spendHour 65 = .ok (.aload_n 0, 1) := by decide +kernel
theorem dX2_spendHour_66 : decode cX2_spendHour 66 = .ok (.getfield 15, 3) := by decide +kernel
theorem dX2_spendHour_69 : decode cX2_spendHour 69 = .ok (.iload 5, 2) := by decide +kernel
theorem dX2_spendHour_71 : decode cX2_spendHour 71 = .ok (.iaload, 1) := by decide +kernel
theorem dX2_spendHour_72 : decode cX2_spendHour 72 = .ok (.iadd, 1) := by decide +kernel
theorem dX2_spendHour_73 : decode cX2_spendHour 73 = .ok (.invokestatic 62, 3) := by decide +kernel
theorem dX2_spendHour_76 : decode cX2_spendHour 76 = .ok (.iastore, 1) := by decide +kernel
theorem dX2_spendHour_77 : decode cX2_spendHour 77 = .ok (.aload_n 1, 1) := by decide +kernel
theorem dX2_spendHour_78 : decode cX2_spendHour 78 = .ok (.iload 5, 2) := by decide +kernel
theorem dX2_spendHour_80 : decode cX2_spendHour 80 = .ok (.iaload, 1) := by decide +kernel
theorem dX2_spendHour_81 : decode cX2_spendHour 81 = .ok (.aload_n 0, 1) := by decide +kernel
theorem dX2_spendHour_82 : decode cX2_spendHour 82 = .ok (.getfield 21, 3) := by decide +kernel
theorem dX2_spendHour_85 : decode cX2_spendHour 85 = .ok (.iload 5, 2) := by decide +kernel
theorem dX2_spendHour_87 : decode cX2_spendHour 87 = .ok (.iaload, 1) := by decide +kernel
theorem dX2_spendHour_88 : decode cX2_spendHour 88 = .ok (.if_icmp .le 12, 3) := by decide +kernel
theorem dX2_spendHour_91 : decode cX2_spendHour 91 = .ok (.iload 4, 2) := by decide +kernel
theorem dX2_spendHour_93 : decode cX2_spendHour 93 = .ok (.iconst 1, 1) := by decide +kernel
theorem dX2_spendHour_94 : decode cX2_spendHour 94 = .ok (.iload 5, 2) := by decide +kernel
theorem dX2_spendHour_96 : decode cX2_spendHour 96 = .ok (.ishl, 1) := by decide +kernel
theorem dX2_spendHour_97 : decode cX2_spendHour 97 = .ok (.ior, 1) := by decide +kernel
theorem dX2_spendHour_98 : decode cX2_spendHour 98 = .ok (.istore 4, 2) := by decide +kernel
theorem dX2_spendHour_100 : decode cX2_spendHour 100 = .ok (.goto 23, 3) := by decide +kernel
theorem dX2_spendHour_103 : decode cX2_spendHour 103 = .ok (.aload_n 1, 1) := by decide +kernel
theorem dX2_spendHour_104 : decode cX2_spendHour 104 = .ok (.iload 5, 2) := by decide +kernel
theorem dX2_spendHour_106 : decode cX2_spendHour 106 = .ok (.iconst 0, 1) := by decide +kernel
theorem dX2_spendHour_107 : decode cX2_spendHour 107 = .ok (.aload_n 1, 1) := by decide +kernel
theorem dX2_spendHour_108 : decode cX2_spendHour 108 = .ok (.iload 5, 2) := by decide +kernel
theorem dX2_spendHour_110 : decode cX2_spendHour 110 = .ok (.iaload, 1) := by decide +kernel
theorem dX2_spendHour_111 : decode cX2_spendHour 111 = .ok (.aload_n 0, 1) := by decide +kernel
theorem dX2_spendHour_112 : decode cX2_spendHour 112 = .ok (.getfield 18, 3) := by decide +kernel
theorem dX2_spendHour_115 : decode cX2_spendHour 115 = .ok (.iload 5, 2) := by decide +kernel
theorem dX2_spendHour_117 : decode cX2_spendHour 117 = .ok (.iaload, 1) := by decide +kernel
theorem dX2_spendHour_118 : decode cX2_spendHour 118 = .ok (.isub, 1) := by decide +kernel
theorem dX2_spendHour_119 : decode cX2_spendHour 119 = .ok (.invokestatic 56, 3) := by decide +kernel
theorem dX2_spendHour_122 : decode cX2_spendHour 122 = .ok (.iastore, 1) := by decide +kernel
theorem dX2_spendHour_123 : decode cX2_spendHour 123 = .ok (.iinc 5 1, 3) := by decide +kernel
theorem dX2_spendHour_126 : decode cX2_spendHour 126 = .ok (.goto (-120), 3) := by decide +kernel
theorem dX2_spendHour_129 : decode cX2_spendHour 129 = .ok (.iload 4, 2) := by decide +kernel
theorem dX2_spendHour_131 : decode cX2_spendHour 131 = .ok (.ireturn, 1) := by decide +kernel
theorem dX2_sitsUp_0 : decode cX2_sitsUp 0 = .ok (.aload_n 0, 1) := by decide +kernel
theorem dX2_sitsUp_1 : decode cX2_sitsUp 1 = .ok (.iload_n 1, 1) := by decide +kernel
theorem dX2_sitsUp_2 : decode cX2_sitsUp 2 = .ok (.invokevirtual 65, 3) := by decide +kernel
theorem dX2_sitsUp_5 : decode cX2_sitsUp 5 = .ok (.ifCond .ne 5, 3) := by decide +kernel
theorem dX2_sitsUp_8 : decode cX2_sitsUp 8 = .ok (.iconst 0, 1) := by decide +kernel
theorem dX2_sitsUp_9 : decode cX2_sitsUp 9 = .ok (.ireturn, 1) := by decide +kernel
theorem dX2_sitsUp_10 : decode cX2_sitsUp 10 = .ok (.aload_n 0, 1) := by decide +kernel
theorem dX2_sitsUp_11 : decode cX2_sitsUp 11 = .ok (.getfield 24, 3) := by decide +kernel
theorem dX2_sitsUp_14 : decode cX2_sitsUp 14 = .ok (.iload_n 1, 1) := by decide +kernel
theorem dX2_sitsUp_15 : decode cX2_sitsUp 15 = .ok (.iaload, 1) := by decide +kernel
theorem dX2_sitsUp_16 : decode cX2_sitsUp 16 = .ok (.iload_n 2, 1) := by decide +kernel
theorem dX2_sitsUp_17 : decode cX2_sitsUp 17 = .ok (.iand, 1) := by decide +kernel
theorem dX2_sitsUp_18 : decode cX2_sitsUp 18 = .ok (.istore 4, 2) := by decide +kernel
theorem dX2_sitsUp_20 : decode cX2_sitsUp 20 = .ok (.iload 4, 2) := by decide +kernel
theorem dX2_sitsUp_22 : decode cX2_sitsUp 22 = .ok (.ifCond .ne 7, 3) := by decide +kernel
theorem dX2_sitsUp_25 : decode cX2_sitsUp 25 = .ok (.iload_n 2, 1) := by decide +kernel
theorem dX2_sitsUp_26 : decode cX2_sitsUp 26 = .ok (.goto 5, 3) := by decide +kernel
theorem dX2_sitsUp_29 : decode cX2_sitsUp 29 = .ok (.iload 4, 2) := by decide +kernel
theorem dX2_sitsUp_31 : decode cX2_sitsUp 31 = .ok (.istore 5, 2) := by decide +kernel
theorem dX2_sitsUp_33 : decode cX2_sitsUp 33 = .ok (.iload 5, 2) := by decide +kernel
theorem dX2_sitsUp_35 : decode cX2_sitsUp 35 = .ok (.iload_n 3, 1) := by decide +kernel
theorem dX2_sitsUp_36 : decode cX2_sitsUp 36 = .ok (.iconst (-1), 1) := by decide +kernel
theorem dX2_sitsUp_37 : decode cX2_sitsUp 37 = .ok (.ixor, 1) := by decide +kernel
theorem dX2_sitsUp_38 : decode cX2_sitsUp 38 = .ok (.iand, 1) := by decide +kernel
theorem dX2_sitsUp_39 : decode cX2_sitsUp 39 = .ok (.ifCond .ne 7, 3) := by decide +kernel
theorem dX2_sitsUp_42 : decode cX2_sitsUp 42 = .ok (.iconst 1, 1) := by decide +kernel
theorem dX2_sitsUp_43 : decode cX2_sitsUp 43 = .ok (.goto 4, 3) := by decide +kernel
theorem dX2_sitsUp_46 : decode cX2_sitsUp 46 = .ok (.iconst 0, 1) := by decide +kernel
theorem dX2_sitsUp_47 : decode cX2_sitsUp 47 = .ok (.ireturn, 1) := by decide +kernel
theorem dX2_allSittingUp_0 : decode cX2_allSittingUp 0 = .ok (.iconst 0, 1) := by decide +kernel
theorem dX2_allSittingUp_1 : decode cX2_allSittingUp 1 = .ok (.istore_n 3, 1) := by decide +kernel
theorem dX2_allSittingUp_2 : decode cX2_allSittingUp 2 = .ok (.iconst 0, 1) := by decide +kernel
theorem dX2_allSittingUp_3 : decode cX2_allSittingUp 3 = .ok (.istore 4, 2) := by decide +kernel
theorem dX2_allSittingUp_5 : decode cX2_allSittingUp 5 = .ok (.iload 4, 2) := by decide +kernel
theorem dX2_allSittingUp_7 : decode cX2_allSittingUp 7 = .ok (.aload_n 0, 1) := by decide +kernel
theorem dX2_allSittingUp_8 : decode cX2_allSittingUp 8 = .ok (.getfield 43, 3) := by decide +kernel
theorem dX2_allSittingUp_11 : decode cX2_allSittingUp 11 = .ok (.if_icmp .ge 34, 3) := by decide +kernel
theorem dX2_allSittingUp_14 : decode cX2_allSittingUp 14 = .ok (.iload 4, 2) := by decide +kernel
theorem dX2_allSittingUp_16 : decode cX2_allSittingUp 16 = .ok (.bipush 8, 2) := by decide +kernel
theorem dX2_allSittingUp_18 : decode cX2_allSittingUp 18 = .ok (.if_icmp .ge 27, 3) := by decide +kernel
theorem dX2_allSittingUp_21 : decode cX2_allSittingUp 21 = .ok (.aload_n 0, 1) := by decide +kernel
theorem dX2_allSittingUp_22 : decode cX2_allSittingUp 22 = .ok (.iload 4, 2) := by decide +kernel
theorem dX2_allSittingUp_24 : decode cX2_allSittingUp 24 = .ok (.iload_n 1, 1) := by decide +kernel
theorem dX2_allSittingUp_25 : decode cX2_allSittingUp 25 = .ok (.iload_n 2, 1) := by decide +kernel
theorem dX2_allSittingUp_26 : decode cX2_allSittingUp 26 = .ok (.invokevirtual 69, 3) := by decide +kernel
theorem dX2_allSittingUp_29 : decode cX2_allSittingUp 29 = .ok (.ifCond .eq 10, 3) := by decide +kernel
theorem dX2_allSittingUp_32 : decode cX2_allSittingUp 32 = .ok (.iload_n 3, 1) := by decide +kernel
theorem dX2_allSittingUp_33 : decode cX2_allSittingUp 33 = .ok (.iconst 1, 1) := by decide +kernel
theorem dX2_allSittingUp_34 : decode cX2_allSittingUp 34 = .ok (.iload 4, 2) := by decide +kernel
theorem dX2_allSittingUp_36 : decode cX2_allSittingUp 36 = .ok (.ishl, 1) := by decide +kernel
theorem dX2_allSittingUp_37 : decode cX2_allSittingUp 37 = .ok (.ior, 1) := by decide +kernel
theorem dX2_allSittingUp_38 : decode cX2_allSittingUp 38 = .ok (.istore_n 3, 1) := by decide +kernel
theorem dX2_allSittingUp_39 : decode cX2_allSittingUp 39 = .ok (.iinc 4 1, 3) := by decide +kernel
theorem dX2_allSittingUp_42 : decode cX2_allSittingUp 42 = .ok (.goto (-37), 3) := by decide +kernel
theorem dX2_allSittingUp_45 : decode cX2_allSittingUp 45 = .ok (.iload_n 3, 1) := by decide +kernel
theorem dX2_allSittingUp_46 : decode cX2_allSittingUp 46 = .ok (.ireturn, 1) := by decide +kernel
theorem dX3_init_0 : decode cX3_init 0 = .ok (.aload_n 0, 1) := by decide +kernel
theorem dX3_init_1 : decode cX3_init 1 = .ok (.invokespecial 1, 3) := by decide +kernel
theorem dX3_init_4 : decode cX3_init 4 = .ok (.return_, 1) := by decide +kernel
theorem dX3_draw_0 : decode cX3_draw 0 = .ok (.aload_n 0, 1) := by decide +kernel
theorem dX3_draw_1 : decode cX3_draw 1 = .ok (.aload_n 0, 1) := by decide +kernel
theorem dX3_draw_2 : decode cX3_draw 2 = .ok (.getfield 7, 3) := by decide +kernel
theorem dX3_draw_5 : decode cX3_draw 5 = .ok (.i2l, 1) := by decide +kernel
theorem dX3_draw_6 : decode cX3_draw 6 = .ok (.ldc2_w 13, 3) := by decide +kernel
theorem dX3_draw_9 : decode cX3_draw 9 = .ok (.lmul, 1) := by decide +kernel
theorem dX3_draw_10 : decode cX3_draw 10 = .ok (.ldc2_w 15, 3) := by decide +kernel
theorem dX3_draw_13 : decode cX3_draw 13 = .ok (.ladd, 1) := by decide +kernel
theorem dX3_draw_14 : decode cX3_draw 14 = .ok (.ldc2_w 17, 3) := by decide +kernel
theorem dX3_draw_17 : decode cX3_draw 17 = .ok (.land, 1) := by decide +kernel
theorem dX3_draw_18 : decode cX3_draw 18 = .ok (.l2i, 1) := by decide +kernel
theorem dX3_draw_19 : decode cX3_draw 19 = .ok (.putfield 7, 3) := by decide +kernel
theorem dX3_draw_22 : decode cX3_draw 22 = .ok (.iload_n 1, 1) := by decide +kernel
theorem dX3_draw_23 : decode cX3_draw 23 = .ok (.ifCond .gt 5, 3) := by decide +kernel
theorem dX3_draw_26 : decode cX3_draw 26 = .ok (.iconst 0, 1) := by decide +kernel
theorem dX3_draw_27 : decode cX3_draw 27 = .ok (.ireturn, 1) := by decide +kernel
theorem dX3_draw_28 : decode cX3_draw 28 = .ok (.aload_n 0, 1) := by decide +kernel
theorem dX3_draw_29 : decode cX3_draw 29 = .ok (.getfield 7, 3) := by decide +kernel
theorem dX3_draw_32 : decode cX3_draw 32 = .ok (.ldc 19, 2) := by decide +kernel
theorem dX3_draw_34 : decode cX3_draw 34 = .ok (.idiv, 1) := by decide +kernel
theorem dX3_draw_35 : decode cX3_draw 35 = .ok (.iload_n 1, 1) := by decide +kernel
theorem dX3_draw_36 : decode cX3_draw 36 = .ok (.irem, 1) := by decide +kernel
theorem dX3_draw_37 : decode cX3_draw 37 = .ok (.ireturn, 1) := by decide +kernel
theorem dX4_init_0 : decode cX4_init 0 = .ok (.aload_n 0, 1) := by decide +kernel
theorem dX4_init_1 : decode cX4_init 1 = .ok (.invokespecial 3, 3) := by decide +kernel
theorem dX4_init_4 : decode cX4_init 4 = .ok (.aload_n 0, 1) := by decide +kernel
theorem dX4_init_5 : decode cX4_init 5 = .ok (.bipush 20, 2) := by decide +kernel
theorem dX4_init_7 : decode cX4_init 7 = .ok (.anewarray 9, 3) := by decide +kernel
theorem dX4_init_10 : decode cX4_init 10 = .ok (.putfield 11, 3) := by decide +kernel
theorem dX4_init_13 : decode cX4_init 13 = .ok (.iconst 0, 1) := by decide +kernel
theorem dX4_init_14 : decode cX4_init 14 = .ok (.istore_n 1, 1) := by decide +kernel
theorem dX4_init_15 : decode cX4_init 15 = .ok (.iload_n 1, 1) := by decide +kernel
theorem dX4_init_16 : decode cX4_init 16 = .ok (.bipush 20, 2) := by decide +kernel
theorem dX4_init_18 : decode cX4_init 18 = .ok (.if_icmp .ge 22, 3) := by decide +kernel
theorem dX4_init_21 : decode cX4_init 21 = .ok (.aload_n 0, 1) := by decide +kernel
theorem dX4_init_22 : decode cX4_init 22 = .ok (.getfield 11, 3) := by decide +kernel
theorem dX4_init_25 : decode cX4_init 25 = .ok (.iload_n 1, 1) := by decide +kernel
theorem dX4_init_26 : decode cX4_init 26 = .ok (.new 9, 3) := by decide +kernel
theorem dX4_init_29 : decode cX4_init 29 = .ok (.dup, 1) := by decide +kernel
theorem dX4_init_30 : decode cX4_init 30 = .ok (.invokespecial 17, 3) := by decide +kernel
theorem dX4_init_33 : decode cX4_init 33 = .ok (.aastore, 1) := by decide +kernel
theorem dX4_init_34 : decode cX4_init 34 = .ok (.iinc 1 1, 3) := by decide +kernel
theorem dX4_init_37 : decode cX4_init 37 = .ok (.goto (-22), 3) := by decide +kernel
theorem dX4_init_40 : decode cX4_init 40 = .ok (.return_, 1) := by decide +kernel
theorem dX4_clear_0 : decode cX4_clear 0 = .ok (.aload_n 0, 1) := by decide +kernel
theorem dX4_clear_1 : decode cX4_clear 1 = .ok (.iconst 0, 1) := by decide +kernel
theorem dX4_clear_2 : decode cX4_clear 2 = .ok (.putfield 18, 3) := by decide +kernel
theorem dX4_clear_5 : decode cX4_clear 5 = .ok (.aload_n 0, 1) := by decide +kernel
theorem dX4_clear_6 : decode cX4_clear 6 = .ok (.iconst 0, 1) := by decide +kernel
theorem dX4_clear_7 : decode cX4_clear 7 = .ok (.putfield 22, 3) := by decide +kernel
theorem dX4_clear_10 : decode cX4_clear 10 = .ok (.return_, 1) := by decide +kernel
theorem dX4_remember_0 : decode cX4_remember 0 = .ok (.aload_n 0, 1) := by decide +kernel
theorem dX4_remember_1 : decode cX4_remember 1 = .ok (.getfield 22, 3) := by decide +kernel
theorem dX4_remember_4 : decode cX4_remember 4 = .ok (.ifCond .lt 24, 3) := by decide +kernel
theorem dX4_remember_7 : decode cX4_remember 7 = .ok (.aload_n 0, 1) := by decide +kernel
theorem dX4_remember_8 : decode cX4_remember 8 = .ok (.getfield 22, 3) := by decide +kernel
theorem dX4_remember_11 : decode cX4_remember 11 = .ok (.bipush 20, 2) := by decide +kernel
theorem dX4_remember_13 : decode cX4_remember 13 = .ok (.if_icmp .ge 15, 3) := by decide +kernel
theorem dX4_remember_16 : decode cX4_remember 16 = .ok (.aload_n 0, 1) := by decide +kernel
theorem dX4_remember_17 : decode cX4_remember 17 = .ok (.getfield 11, 3) := by decide +kernel
theorem dX4_remember_20 : decode cX4_remember 20 = .ok (.aload_n 0, 1) := by decide +kernel
theorem dX4_remember_21 : decode cX4_remember 21 = .ok (.getfield 22, 3) := by decide +kernel
theorem dX4_remember_24 : decode cX4_remember 24 = .ok (.aaload, 1) := by decide +kernel
theorem dX4_remember_25 : decode cX4_remember 25 = .ok (.ifnonnull 4, 3) := by decide +kernel
theorem dX4_remember_28 : decode cX4_remember 28 = .ok (.return_, 1) := by decide +kernel
theorem dX4_remember_29 : decode cX4_remember 29 = .ok (.aload_n 0, 1) := by decide +kernel
theorem dX4_remember_30 : decode cX4_remember 30 = .ok (.getfield 11, 3) := by decide +kernel
theorem dX4_remember_33 : decode cX4_remember 33 = .ok (.aload_n 0, 1) := by decide +kernel
theorem dX4_remember_34 : decode cX4_remember 34 = .ok (.getfield 22, 3) := by decide +kernel
theorem dX4_remember_37 : decode cX4_remember 37 = .ok (.aaload, 1) := by decide +kernel
theorem dX4_remember_38 : decode cX4_remember 38 = .ok (.aload_n 1, 1) := by decide +kernel
theorem dX4_remember_39 : decode cX4_remember 39 = .ok (.invokevirtual 25, 3) := by decide +kernel
theorem dX4_remember_42 : decode cX4_remember 42 = .ok (.aload_n 0, 1) := by decide +kernel
theorem dX4_remember_43 : decode cX4_remember 43 = .ok (.aload_n 0, 1) := by decide +kernel
theorem dX4_remember_44 : decode cX4_remember 44 = .ok (.getfield 22, 3) := by decide +kernel
theorem dX4_remember_47 : decode cX4_remember 47 = .ok (.iconst 1, 1) := by decide +kernel
theorem dX4_remember_48 : decode cX4_remember 48 = .ok (.iadd, 1) := by decide +kernel
theorem dX4_remember_49 : decode cX4_remember 49 = .ok (.bipush 20, 2) := by decide +kernel
theorem dX4_remember_51 : decode cX4_remember 51 = .ok (.irem, 1) := by decide +kernel
theorem dX4_remember_52 : decode cX4_remember 52 = .ok (.putfield 22, 3) := by decide +kernel
theorem dX4_remember_55 : decode cX4_remember 55 = .ok (.aload_n 0, 1) := by decide +kernel
theorem dX4_remember_56 : decode cX4_remember 56 = .ok (.bipush 20, 2) := by decide +kernel
theorem dX4_remember_58 : decode cX4_remember 58 = .ok (.aload_n 0, 1) := by decide +kernel
theorem dX4_remember_59 : decode cX4_remember 59 = .ok (.getfield 18, 3) := by decide +kernel
theorem dX4_remember_62 : decode cX4_remember 62 = .ok (.iconst 1, 1) := by decide +kernel
theorem dX4_remember_63 : decode cX4_remember 63 = .ok (.iadd, 1) := by decide +kernel
theorem dX4_remember_64 : decode cX4_remember 64 = .ok (.invokestatic 29, 3) := by decide +kernel
theorem dX4_remember_67 : decode cX4_remember 67 = .ok (.putfield 18, 3) := by decide +kernel
theorem dX4_remember_70 : decode cX4_remember 70 = .ok (.return_, 1) := by decide +kernel
theorem dX4_recall_0 : decode cX4_recall 0 = .ok (.aload_n 0, 1) := by decide +kernel
theorem dX4_recall_1 : decode cX4_recall 1 = .ok (.getfield 18, 3) := by decide +kernel
theorem dX4_recall_4 : decode cX4_recall 4 = .ok (.ifCond .gt 5, 3) := by decide +kernel
theorem dX4_recall_7 : decode cX4_recall 7 = .ok (.iconst 0, 1) := by decide +kernel
theorem dX4_recall_8 : decode cX4_recall 8 = .ok (.ireturn, 1) := by decide +kernel
theorem dX4_recall_9 : decode cX4_recall 9 = .ok (.aload_n 0, 1) := by decide +kernel
theorem dX4_recall_10 : decode cX4_recall 10 = .ok (.getfield 22, 3) := by decide +kernel
theorem dX4_recall_13 : decode cX4_recall 13 = .ok (.bipush 20, 2) := by decide +kernel
theorem dX4_recall_15 : decode cX4_recall 15 = .ok (.iadd, 1) := by decide +kernel
theorem dX4_recall_16 : decode cX4_recall 16 = .ok (.iconst 1, 1) := by decide +kernel
theorem dX4_recall_17 : decode cX4_recall 17 = .ok (.isub, 1) := by decide +kernel
theorem dX4_recall_18 : decode cX4_recall 18 = .ok (.bipush 20, 2) := by decide +kernel
theorem dX4_recall_20 : decode cX4_recall 20 = .ok (.irem, 1) := by decide +kernel
theorem dX4_recall_21 : decode cX4_recall 21 = .ok (.istore_n 2, 1) := by decide +kernel
theorem dX4_recall_22 : decode cX4_recall 22 = .ok (.iload_n 2, 1) := by decide +kernel
theorem dX4_recall_23 : decode cX4_recall 23 = .ok (.ifCond .lt 12, 3) := by decide +kernel
theorem dX4_recall_26 : decode cX4_recall 26 = .ok (.aload_n 0, 1) := by decide +kernel
theorem dX4_recall_27 : decode cX4_recall 27 = .ok (.getfield 11, 3) := by decide +kernel
theorem dX4_recall_30 : decode cX4_recall 30 = .ok (.iload_n 2, 1) := by decide +kernel
theorem dX4_recall_31 : decode cX4_recall 31 = .ok (.aaload, 1) := by decide +kernel
theorem dX4_recall_32 : decode cX4_recall 32 = .ok (.ifnonnull 5, 3) := by decide +kernel
theorem dX4_recall_35 : decode cX4_recall 35 = .ok (.iconst 0, 1) := by decide +kernel
theorem dX4_recall_36 : decode cX4_recall 36 = .ok (.ireturn, 1) := by decide +kernel
theorem dX4_recall_37 : decode cX4_recall 37 = .ok (.aload_n 1, 1) := by decide +kernel
theorem dX4_recall_38 : decode cX4_recall 38 = .ok (.aload_n 0, 1) := by decide +kernel
theorem dX4_recall_39 : decode cX4_recall 39 = .ok (.getfield 11, 3) := by decide +kernel
theorem dX4_recall_42 : decode cX4_recall 42 = .ok (.iload_n 2, 1) := by decide +kernel
theorem dX4_recall_43 : decode cX4_recall 43 = .ok (.aaload, 1) := by decide +kernel
theorem dX4_recall_44 : decode cX4_recall 44 = .ok (.invokevirtual 25, 3) := by decide +kernel
theorem dX4_recall_47 : decode cX4_recall 47 = .ok (.aload_n 0, 1) := by decide +kernel
theorem dX4_recall_48 : decode cX4_recall 48 = .ok (.iload_n 2, 1) := by decide +kernel
theorem dX4_recall_49 : decode cX4_recall 49 = .ok (.putfield 22, 3) := by decide +kernel
theorem dX4_recall_52 : decode cX4_recall 52 = .ok (.aload_n 0, 1) := by decide +kernel
theorem dX4_recall_53 : decode cX4_recall 53 = .ok (.dup, 1) := by decide +kernel
theorem dX4_recall_54 : decode cX4_recall 54 = .ok (.getfield 18, 3) := by decide +kernel
theorem dX4_recall_57 : decode cX4_recall 57 = .ok (.iconst 1, 1) := by decide +kernel
theorem dX4_recall_58 : decode cX4_recall 58 = .ok (.isub, 1) := by decide +kernel
theorem dX4_recall_59 : decode cX4_recall 59 = .ok (.putfield 18, 3) := by decide +kernel
theorem dX4_recall_62 : decode cX4_recall 62 = .ok (.iconst 1, 1) := by decide +kernel
theorem dX4_recall_63 : decode cX4_recall 63 = .ok (.ireturn, 1) := by decide +kernel
theorem dX5_init_0 : decode cX5_init 0 = .ok (.aload_n 0, 1) := by decide +kernel
theorem dX5_init_1 : decode cX5_init 1 = .ok (.invokespecial 3, 3) := by decide +kernel
theorem dX5_init_4 : decode cX5_init 4 = .ok (.aload_n 0, 1) := by decide +kernel
theorem dX5_init_5 : decode cX5_init 5 = .ok (.new 9, 3) := by decide +kernel
theorem dX5_init_8 : decode cX5_init 8 = .ok (.dup, 1) := by decide +kernel
theorem dX5_init_9 : decode cX5_init 9 = .ok (.invokespecial 11, 3) := by decide +kernel
theorem dX5_init_12 : decode cX5_init 12 = .ok (.putfield 12, 3) := by decide +kernel
theorem dX5_init_15 : decode cX5_init 15 = .ok (.aload_n 0, 1) := by decide +kernel
theorem dX5_init_16 : decode cX5_init 16 = .ok (.iconst (-1), 1) := by decide +kernel
theorem dX5_init_17 : decode cX5_init 17 = .ok (.putfield 18, 3) := by decide +kernel
theorem dX5_init_20 : decode cX5_init 20 = .ok (.aload_n 0, 1) := by decide +kernel
theorem dX5_init_21 : decode cX5_init 21 = .ok (.sipush 220, 3) := by decide +kernel
theorem dX5_init_24 : decode cX5_init 24 = .ok (.newarray .int, 2) := by decide +kernel
theorem dX5_init_26 : decode cX5_init 26 = .ok (.putfield 22, 3) := by decide +kernel
theorem dX5_init_29 : decode cX5_init 29 = .ok (.return_, 1) := by decide +kernel
theorem dX5_append_0 : decode cX5_append 0 = .ok (.aload_n 0, 1) := by decide +kernel
theorem dX5_append_1 : decode cX5_append 1 = .ok (.getfield 26, 3) := by decide +kernel
theorem dX5_append_4 : decode cX5_append 4 = .ok (.ifCond .lt 13, 3) := by decide +kernel
theorem dX5_append_7 : decode cX5_append 7 = .ok (.aload_n 0, 1) := by decide +kernel
theorem dX5_append_8 : decode cX5_append 8 = .ok (.getfield 26, 3) := by decide +kernel
theorem dX5_append_11 : decode cX5_append 11 = .ok (.sipush 220, 3) := by decide +kernel
theorem dX5_append_14 : decode cX5_append 14 = .ok (.if_icmp .lt 5, 3) := by decide +kernel
theorem dX5_append_17 : decode cX5_append 17 = .ok (.iconst 0, 1) := by decide +kernel
theorem dX5_append_18 : decode cX5_append 18 = .ok (.ireturn, 1) := by decide +kernel
theorem dX5_append_19 : decode cX5_append 19 = .ok (.aload_n 0, 1) := by decide +kernel
theorem dX5_append_20 : decode cX5_append 20 = .ok (.getfield 22, 3) := by decide +kernel
theorem dX5_append_23 : decode cX5_append 23 = .ok (.aload_n 0, 1) := by decide +kernel
theorem dX5_append_24 : decode cX5_append 24 = .ok (.getfield 26, 3) := by decide +kernel
theorem dX5_append_27 : decode cX5_append 27 = .ok (.iload_n 1, 1) := by decide +kernel
theorem dX5_append_28 : decode cX5_append 28 = .ok (.iastore, 1) := by decide +kernel
theorem dX5_append_29 : decode cX5_append 29 = .ok (.aload_n 0, 1) := by decide +kernel
theorem dX5_append_30 : decode cX5_append 30 = .ok (.dup, 1) := by decide +kernel
theorem dX5_append_31 : decode cX5_append 31 = .ok (.getfield 26, 3) := by decide +kernel
theorem dX5_append_34 : decode cX5_append 34 = .ok (.iconst 1, 1) := by decide +kernel
theorem dX5_append_35 : decode cX5_append 35 = .ok (.iadd, 1) := by decide +kernel
theorem dX5_append_36 : decode cX5_append 36 = .ok (.putfield 26, 3) := by decide +kernel
theorem dX5_append_39 : decode cX5_append 39 = .ok (.iconst 1, 1) := by decide +kernel
theorem dX5_append_40 : decode cX5_append 40 = .ok (.ireturn, 1) := by decide +kernel
theorem dX5_readText_0 : decode cX5_readText 0 = .ok (.aload_n 0, 1) := by decide +kernel
theorem dX5_readText_1 : decode cX5_readText 1 = .ok (.getfield 12, 3) := by decide +kernel
theorem dX5_readText_4 : decode cX5_readText 4 = .ok (.invokevirtual 29, 3) := by decide +kernel
theorem dX5_readText_7 : decode cX5_readText 7 = .ok (.aload_n 0, 1) := by decide +kernel
theorem dX5_readText_8 : decode cX5_readText 8 = .ok (.iconst 0, 1) := by decide +kernel
theorem dX5_readText_9 : decode cX5_readText 9 = .ok (.putfield 32, 3) := by decide +kernel
theorem dX5_readText_12 : decode cX5_readText 12 = .ok (.aload_n 0, 1) := by decide +kernel
theorem dX5_readText_13 : decode cX5_readText 13 = .ok (.iconst 0, 1) := by decide +kernel
theorem dX5_readText_14 : decode cX5_readText 14 = .ok (.putfield 35, 3) := by decide +kernel
theorem dX5_readText_17 : decode cX5_readText 17 = .ok (.aload_n 0, 1) := by decide +kernel
theorem dX5_readText_18 : decode cX5_readText 18 = .ok (.iconst (-1), 1) := by decide +kernel
theorem dX5_readText_19 : decode cX5_readText 19 = .ok (.putfield 18, 3) := by decide +kernel
theorem dX5_readText_22 : decode cX5_readText 22 = .ok (.aload_n 0, 1) := by decide +kernel
theorem dX5_readText_23 : decode cX5_readText 23 = .ok (.invokevirtual 38, 3) := by decide +kernel
theorem dX5_readText_26 : decode cX5_readText 26 = .ok (.iconst 0, 1) := by decide +kernel
theorem dX5_readText_27 : decode cX5_readText 27 = .ok (.istore_n 1, 1) := by decide +kernel
theorem dX5_readText_28 : decode cX5_readText 28 = .ok (.iload_n 1, 1) := by decide +kernel
theorem dX5_readText_29 : decode cX5_readText 29 = .ok (.sipush 220, 3) := by decide +kernel
theorem dX5_readText_32 : decode cX5_readText 32 = .ok (.if_icmp .ge 35, 3) := by decide +kernel
theorem dX5_readText_35 : decode cX5_readText 35 = .ok (.aload_n 0, 1) := by decide +kernel
theorem dX5_readText_36 : decode cX5_readText 36 = .ok (.getfield 32, 3) := by decide +kernel
theorem dX5_readText_39 : decode cX5_readText 39 = .ok (.aload_n 0, 1) := by decide +kernel
theorem dX5_readText_40 : decode cX5_readText 40 = .ok (.getfield 26, 3) := by decide +kernel
theorem dX5_readText_43 : decode cX5_readText 43 = .ok (.if_icmp .ge 24, 3) := by decide +kernel
theorem dX5_readText_46 : decode cX5_readText 46 = .ok (.aload_n 0, 1) := by decide +kernel
theorem dX5_readText_47 : decode cX5_readText 47 = .ok (.getfield 35, 3) := by decide +kernel
theorem dX5_readText_50 : decode cX5_readText 50 = .ok (.ifCond .ne 17, 3) := by decide +kernel
theorem dX5_readText_53 : decode cX5_readText 53 = .ok (.aload_n 0, 1) := by decide +kernel
theorem dX5_readText_54 : decode cX5_readText 54 = .ok (.invokevirtual 41, 3) := by decide +kernel
theorem dX5_readText_57 : decode cX5_readText 57 = .ok (.aload_n 0, 1) := by decide +kernel
theorem dX5_readText_58 : decode cX5_readText 58 = .ok (.invokevirtual 38, 3) := by decide +kernel
theorem dX5_readText_61 : decode cX5_readText 61 = .ok (.iinc 1 1, 3) := by decide +kernel
theorem dX5_readText_64 : decode cX5_readText 64 = .ok (.goto (-36), 3) := by decide +kernel
theorem dX5_readText_67 : decode cX5_readText 67 = .ok (.aload_n 0, 1) := by decide +kernel
theorem dX5_readText_68 : decode cX5_readText 68 = .ok (.iconst 0, 1) := by decide +kernel
theorem dX5_readText_69 : decode cX5_readText 69 = .ok (.putfield 26, 3) := by decide +kernel
theorem dX5_readText_72 : decode cX5_readText 72 = .ok (.aload_n 0, 1) := by decide +kernel
theorem dX5_readText_73 : decode cX5_readText 73 = .ok (.getfield 35, 3) := by decide +kernel
theorem dX5_readText_76 : decode cX5_readText 76 = .ok (.ireturn, 1) := by decide +kernel
theorem dX5_readClause_0 : decode cX5_readClause 0 = .ok (.aload_n 0, 1) := by decide +kernel
theorem dX5_readClause_1 : decode cX5_readClause 1 = .ok (.invokevirtual 44, 3) := by decide +kernel
theorem dX5_readClause_4 : decode cX5_readClause 4 = .ok (.istore_n 1, 1) := by decide +kernel
theorem dX5_readClause_5 : decode cX5_readClause 5 = .ok (.aload_n 0, 1) := by decide +kernel
theorem dX5_readClause_6 : decode cX5_readClause 6 = .ok (.iload_n 1, 1) := by decide +kernel
theorem dX5_readClause_7 : decode cX5_readClause 7 = .ok (.invokevirtual 48, 3) := by decide +kernel
theorem dX5_readClause_10 : decode cX5_readClause 10 = .ok (.istore_n 2, 1) := by decide +kernel
theorem dX5_readClause_11 : decode cX5_readClause 11 = .ok (.iload_n 2, 1) := by decide +kernel
theorem dX5_readClause_12 : decode cX5_readClause 12 = .ok (.ifCond .eq 13, 3) := by decide +kernel
theorem dX5_readClause_15 : decode cX5_readClause 15 = .ok (.aload_n 0, 1) := by decide +kernel
theorem dX5_readClause_16 : decode cX5_readClause 16 = .ok (.iload_n 2, 1) := by decide +kernel
theorem dX5_readClause_17 : decode cX5_readClause 17 = .ok (.aload_n 0, 1) := by decide +kernel
theorem dX5_readClause_18 : decode cX5_readClause 18 = .ok (.getfield 32, 3) := by decide +kernel
theorem dX5_readClause_21 : decode cX5_readClause 21 = .ok (.invokevirtual 52, 3) := by decide +kernel
theorem dX5_readClause_24 : decode cX5_readClause 24 = .ok (.return_, 1) := by decide +kernel
theorem dX5_readClause_25 : decode cX5_readClause 25 = .ok (.aload_n 0, 1) := by decide +kernel
theorem dX5_readClause_26 : decode cX5_readClause 26 = .ok (.dup, 1) := by decide +kernel
theorem dX5_readClause_27 : decode cX5_readClause 27 = .ok (.getfield 32, 3) := by decide +kernel
theorem dX5_readClause_30 : decode cX5_readClause 30 = .ok (.iconst 1, 1) := by decide +kernel
theorem dX5_readClause_31 : decode cX5_readClause 31 = .ok (.iadd, 1) := by decide +kernel
theorem dX5_readClause_32 : decode cX5_readClause 32 = .ok (.putfield 32, 3) := by decide +kernel
theorem dX5_readClause_35 : decode cX5_readClause 35 = .ok (.iload_n 1, 1) := by decide +kernel
theorem dX5_readClause_36 : decode cX5_readClause 36 = .ok (.bipush 107, 2) := by decide +kernel
theorem dX5_readClause_38 : decode cX5_readClause 38 = .ok (.if_icmp .ne 10, 3) := by decide +kernel
theorem dX5_readClause_41 : decode cX5_readClause 41 = .ok (.aload_n 0, 1) := by decide +kernel
theorem dX5_readClause_42 : decode cX5_readClause 42 = .ok (.invokevirtual 56, 3) := by decide +kernel
theorem dX5_readClause_45 : decode cX5_readClause 45 = .ok (.goto 20, 3) := by decide +kernel
theorem dX5_readClause_48 : decode cX5_readClause 48 = .ok (.iload_n 1, 1) := by decide +kernel
theorem dX5_readClause_49 : decode cX5_readClause 49 = .ok (.bipush 112, 2) := by decide +kernel
theorem dX5_readClause_51 : decode cX5_readClause 51 = .ok (.if_icmp .ne 10, 3) := by decide +kernel
theorem dX5_readClause_54 : decode cX5_readClause 54 = .ok (.aload_n 0, 1) := by decide +kernel
theorem dX5_readClause_55 : decode cX5_readClause 55 = .ok (.invokevirtual 59, 3) := by decide +kernel
theorem dX5_readClause_58 : decode cX5_readClause 58 = .ok (.goto 7, 3) := by decide +kernel
theorem dX5_readClause_61 : decode cX5_readClause 61 = .ok (.aload_n 0, 1) := by decide +kernel
theorem dX5_readClause_62 : decode cX5_readClause 62 = .ok (.invokevirtual 62, 3) := by decide +kernel
theorem dX5_readClause_65 : decode cX5_readClause 65 = .ok (.return_, 1) := by decide +kernel
theorem dX5_faultOfWord_0 : decode cX5_faultOfWord 0 = .ok (.aload_n 0, 1) := by decide +kernel
theorem dX5_faultOfWord_1 : decode cX5_faultOfWord 1 = .ok (.getfield 12, 3) := by decide +kernel
theorem dX5_faultOfWord_4 : decode cX5_faultOfWord 4 = .ok (.invokevirtual 65, 3) := by decide +kernel
theorem dX5_faultOfWord_7 : decode cX5_faultOfWord 7 = .ok (.ifCond .ne 7, 3) := by decide +kernel
theorem dX5_faultOfWord_10 : decode cX5_faultOfWord 10 = .ok (.iconst 1, 1) := by decide +kernel
theorem dX5_faultOfWord_11 : decode cX5_faultOfWord 11 = .ok (.goto 4, 3) := by decide +kernel
theorem dX5_faultOfWord_14 : decode cX5_faultOfWord 14 = .ok (.iconst 0, 1) := by decide +kernel
theorem dX5_faultOfWord_15 : decode cX5_faultOfWord 15 = .ok (.istore_n 2, 1) := by decide +kernel
theorem dX5_faultOfWord_16 : decode cX5_faultOfWord 16 = .ok (.iload_n 1, 1) := by decide +kernel
theorem dX5_faultOfWord_17 : decode cX5_faultOfWord 17 = .ok (.bipush 107, 2) := by decide +kernel
theorem dX5_faultOfWord_19 : decode cX5_faultOfWord 19 = .ok (.if_icmp .ne 13, 3) := by decide +kernel
theorem dX5_faultOfWord_22 : decode cX5_faultOfWord 22 = .ok (.iload_n 2, 1) := by decide +kernel
theorem dX5_faultOfWord_23 : decode cX5_faultOfWord 23 = .ok (.ifCond .eq 7, 3) := by decide +kernel
theorem dX5_faultOfWord_26 : decode cX5_faultOfWord 26 = .ok (.iconst 0, 1) := by decide +kernel
theorem dX5_faultOfWord_27 : decode cX5_faultOfWord 27 = .ok (.goto 4, 3) := by decide +kernel
theorem dX5_faultOfWord_30 : decode cX5_faultOfWord 30 = .ok (.iconst 3, 1) := by decide +kernel
theorem dX5_faultOfWord_31 : decode cX5_faultOfWord 31 = .ok (.ireturn, 1) := by decide +kernel
theorem dX5_faultOfWord_32 : decode cX5_faultOfWord 32 = .ok (.iload_n 2, 1) := by decide +kernel
theorem dX5_faultOfWord_33 : decode cX5_faultOfWord 33 = .ok (.ifCond .ne 15, 3) := by decide +kernel
theorem dX5_faultOfWord_36 : decode cX5_faultOfWord 36 = .ok (.iload_n 1, 1) := by decide +kernel
theorem dX5_faultOfWord_37 : decode cX5_faultOfWord 37 = .ok (.bipush 112, 2) := by decide +kernel
theorem dX5_faultOfWord_39 : decode cX5_faultOfWord 39 = .ok (.if_icmp .eq 11, 3) := by decide +kernel
theorem dX5_faultOfWord_42 : decode cX5_faultOfWord 42 = .ok (.iload_n 1, 1) := by decide +kernel
theorem dX5_faultOfWord_43 : decode cX5_faultOfWord 43 = .ok (.bipush 115, 2) := by decide +kernel
theorem dX5_faultOfWord_45 : decode cX5_faultOfWord 45 = .ok (.if_icmp .eq 5, 3) := by decide +kernel
theorem dX5_faultOfWord_48 : decode cX5_faultOfWord 48 = .ok (.iconst 1, 1) := by decide +kernel
theorem dX5_faultOfWord_49 : decode cX5_faultOfWord 49 = .ok (.ireturn, 1) := by decide +kernel
theorem dX5_faultOfWord_50 : decode cX5_faultOfWord 50 = .ok (.iload_n 1, 1) := by decide +kernel
theorem dX5_faultOfWord_51 : decode cX5_faultOfWord 51 = .ok (.bipush 112, 2) := by decide +kernel
theorem dX5_faultOfWord_53 : decode cX5_faultOfWord 53 = .ok (.if_icmp .ne 23, 3) := by decide +kernel
theorem dX5_faultOfWord_56 : decode cX5_faultOfWord 56 = .ok (.aload_n 0, 1) := by decide +kernel
theorem dX5_faultOfWord_57 : decode cX5_faultOfWord 57 = .ok (.getfield 12, 3) := by decide +kernel
theorem dX5_faultOfWord_60 : decode cX5_faultOfWord 60 = .ok (.getfield 69, 3) := by decide +kernel
theorem dX5_faultOfWord_63 : decode cX5_faultOfWord 63 = .ok (.bipush 6, 2) := by decide +kernel
theorem dX5_faultOfWord_65 : decode cX5_faultOfWord 65 = .ok (.if_icmp .lt 7, 3) := by decide +kernel
theorem dX5_faultOfWord_68 : decode cX5_faultOfWord 68 = .ok (.iconst 1, 1) := by decide +kernel
theorem dX5_faultOfWord_69 : decode cX5_faultOfWord 69 = .ok (.goto 24, 3) := by decide +kernel
theorem dX5_faultOfWord_72 : decode cX5_faultOfWord 72 = .ok (.iconst 0, 1) := by decide +kernel
theorem dX5_faultOfWord_73 : decode cX5_faultOfWord 73 = .ok (.goto 20, 3) := by decide +kernel
theorem dX5_faultOfWord_76 : decode cX5_faultOfWord 76 = .ok (.aload_n 0, 1) := by decide +kernel
theorem dX5_faultOfWord_77 : decode cX5_faultOfWord 77 = .ok (.getfield 12, 3) := by decide +kernel
theorem dX5_faultOfWord_80 : decode cX5_faultOfWord 80 = .ok (.getfield 72, 3) := by decide +kernel
theorem dX5_faultOfWord_83 : decode cX5_faultOfWord 83 = .ok (.bipush 8, 2) := by decide +kernel
theorem dX5_faultOfWord_85 : decode cX5_faultOfWord 85 = .ok (.if_icmp .lt 7, 3) := by decide +kernel
theorem dX5_faultOfWord_88 : decode cX5_faultOfWord 88 = .ok (.iconst 1, 1) := by decide +kernel
theorem dX5_faultOfWord_89 : decode cX5_faultOfWord 89 = .ok (.goto 4, 3) := by decide +kernel
theorem dX5_faultOfWord_92 : decode cX5_faultOfWord 92 = .ok (.iconst 0, 1) := by decide +kernel
theorem dX5_faultOfWord_93 : decode cX5_faultOfWord 93 = .ok (.istore_n 3, 1) := by decide +kernel
theorem dX5_faultOfWord_94 : decode cX5_faultOfWord 94 = .ok (.iload_n 3, 1) := by decide +kernel
theorem dX5_faultOfWord_95 : decode cX5_faultOfWord 95 = .ok (.ifCond .eq 7, 3) := by decide +kernel
theorem dX5_faultOfWord_98 : decode cX5_faultOfWord 98 = .ok (.iconst 3, 1) := by decide +kernel
theorem dX5_faultOfWord_99 : decode cX5_faultOfWord 99 = .ok (.goto 4, 3) := by decide +kernel
theorem dX5_faultOfWord_102 : decode cX5_faultOfWord 102 = .ok (.iconst 0, 1) := by decide +kernel
theorem dX5_faultOfWord_103 : decode cX5_faultOfWord 103 = .ok (.ireturn, 1) := by decide +kernel
theorem dX5_readNight_0 : decode cX5_readNight 0 = .ok (.aload_n 0, 1) := by decide +kernel
theorem dX5_readNight_1 : decode cX5_readNight 1 = .ok (.getfield 12, 3) := by decide +kernel
theorem dX5_readNight_4 : decode cX5_readNight 4 = .ok (.aload_n 0, 1) := by decide +kernel
theorem dX5_readNight_5 : decode cX5_readNight 5 = .ok (.iconst 1, 1) := by decide +kernel
theorem dX5_readNight_6 : decode cX5_readNight 6 = .ok (.bipush 6, 2) := by decide +kernel
theorem dX5_readNight_8 : decode cX5_readNight 8 = .ok (.invokevirtual 75, 3) := by decide +kernel
theorem dX5_readNight_11 : decode cX5_readNight 11 = .ok (.putfield 79, 3) := by decide +kernel
theorem dX5_readNight_14 : decode cX5_readNight 14 = .ok (.aload_n 0, 1) := by decide +kernel
theorem dX5_readNight_15 : decode cX5_readNight 15 = .ok (.getfield 12, 3) := by decide +kernel
theorem dX5_readNight_18 : decode cX5_readNight 18 = .ok (.aload_n 0, 1) := by decide +kernel
theorem dX5_readNight_19 : decode cX5_readNight 19 = .ok (.iconst 0, 1) := by decide +kernel
theorem dX5_readNight_20 : decode cX5_readNight 20 = .ok (.bipush 99, 2) := by decide +kernel
theorem dX5_readNight_22 : decode cX5_readNight 22 = .ok (.invokevirtual 75, 3) := by decide +kernel
theorem dX5_readNight_25 : decode cX5_readNight 25 = .ok (.putfield 82, 3) := by decide +kernel
theorem dX5_readNight_28 : decode cX5_readNight 28 = .ok (.aload_n 0, 1) := by decide +kernel
theorem dX5_readNight_29 : decode cX5_readNight 29 = .ok (.getfield 12, 3) := by decide +kernel
theorem dX5_readNight_32 : decode cX5_readNight 32 = .ok (.aload_n 0, 1) := by decide +kernel
theorem dX5_readNight_33 : decode cX5_readNight 33 = .ok (.iconst 0, 1) := by decide +kernel
theorem dX5_readNight_34 : decode cX5_readNight 34 = .ok (.bipush 99, 2) := by decide +kernel
theorem dX5_readNight_36 : decode cX5_readNight 36 = .ok (.invokevirtual 75, 3) := by decide +kernel
theorem dX5_readNight_39 : decode cX5_readNight 39 = .ok (.putfield 85, 3) := by decide +kernel
theorem dX5_readNight_42 : decode cX5_readNight 42 = .ok (.aload_n 0, 1) := by decide +kernel
theorem dX5_readNight_43 : decode cX5_readNight 43 = .ok (.getfield 12, 3) := by decide +kernel
theorem dX5_readNight_46 : decode cX5_readNight 46 = .ok (.aload_n 0, 1) := by decide +kernel
theorem dX5_readNight_47 : decode cX5_readNight 47 = .ok (.iconst 0, 1) := by decide +kernel
theorem dX5_readNight_48 : decode cX5_readNight 48 = .ok (.bipush 20, 2) := by decide +kernel
theorem dX5_readNight_50 : decode cX5_readNight 50 = .ok (.invokevirtual 75, 3) := by decide +kernel
theorem dX5_readNight_53 : decode cX5_readNight 53 = .ok (.putfield 88, 3) := by decide +kernel
theorem dX5_readNight_56 : decode cX5_readNight 56 = .ok (.aload_n 0, 1) := by decide +kernel
theorem dX5_readNight_57 : decode cX5_readNight 57 = .ok (.invokevirtual 91, 3) := by decide +kernel
theorem dX5_readNight_60 : decode cX5_readNight 60 = .ok (.return_, 1) := by decide +kernel
theorem dX5_readWatcher_0 : decode cX5_readWatcher 0 = .ok (.aload_n 0, 1) := by decide +kernel
theorem dX5_readWatcher_1 : decode cX5_readWatcher 1 = .ok (.iconst 0, 1) := by decide +kernel
theorem dX5_readWatcher_2 : decode cX5_readWatcher 2 = .ok (.bipush 99, 2) := by decide +kernel
theorem dX5_readWatcher_4 : decode cX5_readWatcher 4 = .ok (.invokevirtual 75, 3) := by decide +kernel
theorem dX5_readWatcher_7 : decode cX5_readWatcher 7 = .ok (.istore_n 1, 1) := by decide +kernel
theorem dX5_readWatcher_8 : decode cX5_readWatcher 8 = .ok (.aload_n 0, 1) := by decide +kernel
theorem dX5_readWatcher_9 : decode cX5_readWatcher 9 = .ok (.iconst 0, 1) := by decide +kernel
theorem dX5_readWatcher_10 : decode cX5_readWatcher 10 = .ok (.bipush 30, 2) := by decide +kernel
theorem dX5_readWatcher_12 : decode cX5_readWatcher 12 = .ok (.invokevirtual 75, 3) := by decide +kernel
theorem dX5_readWatcher_15 : decode cX5_readWatcher 15 = .ok (.istore_n 2, 1) := by decide +kernel
theorem dX5_readWatcher_16 : decode cX5_readWatcher 16 = .ok (.aload_n 0, 1) := by decide +kernel
theorem dX5_readWatcher_17 : decode cX5_readWatcher 17 = .ok (.iconst 0, 1) := by decide +kernel
theorem dX5_readWatcher_18 : decode cX5_readWatcher 18 = .ok (.bipush 30, 2) := by decide +kernel
theorem dX5_readWatcher_20 : decode cX5_readWatcher 20 = .ok (.invokevirtual 75, 3) := by decide +kernel
theorem dX5_readWatcher_23 : decode cX5_readWatcher 23 = .ok (.istore_n 3, 1) := by decide +kernel
theorem dX5_readWatcher_24 : decode cX5_readWatcher 24 = .ok (.aload_n 0, 1) := by decide +kernel
theorem dX5_readWatcher_25 : decode cX5_readWatcher 25 = .ok (.iconst 0, 1) := by decide +kernel
theorem dX5_readWatcher_26 : decode cX5_readWatcher 26 = .ok (.bipush 99, 2) := by decide +kernel
theorem dX5_readWatcher_28 : decode cX5_readWatcher 28 = .ok (.invokevirtual 75, 3) := by decide +kernel
theorem dX5_readWatcher_31 : decode cX5_readWatcher 31 = .ok (.istore 4, 2) := by decide +kernel
theorem dX5_readWatcher_33 : decode cX5_readWatcher 33 = .ok (.aload_n 0, 1) := by decide +kernel
theorem dX5_readWatcher_34 : decode cX5_readWatcher 34 = .ok (.invokevirtual 91, 3) := by decide +kernel
theorem dX5_readWatcher_37 : decode cX5_readWatcher 37 = .ok (.aload_n 0, 1) := by decide +kernel
theorem dX5_readWatcher_38 : decode cX5_readWatcher 38 = .ok (.getfield 12, 3) := by decide +kernel
theorem dX5_readWatcher_41 : decode cX5_readWatcher 41 = .ok (.iload_n 1, 1) := by decide +kernel
theorem dX5_readWatcher_42 : decode cX5_readWatcher 42 = .ok (.iload_n 2, 1) := by decide +kernel
theorem dX5_readWatcher_43 : decode cX5_readWatcher 43 = .ok (.iload_n 3, 1) := by decide +kernel
theorem dX5_readWatcher_44 : decode cX5_readWatcher 44 = .ok (.iload 4, 2) := by decide +kernel
theorem dX5_readWatcher_46 : decode cX5_readWatcher 46 = .ok (.invokevirtual 94, 3) := by decide +kernel
theorem dX5_readWatcher_49 : decode cX5_readWatcher 49 = .ok (.return_, 1) := by decide +kernel
theorem dX5_readSleeper_0 : decode cX5_readSleeper 0 = .ok (.aload_n 0, 1) := by decide +kernel
theorem dX5_readSleeper_1 : decode cX5_readSleeper 1 = .ok (.iconst 0, 1) := by decide +kernel
theorem dX5_readSleeper_2 : decode cX5_readSleeper 2 = .ok (.aload_n 0, 1) := by decide +kernel
theorem dX5_readSleeper_3 : decode cX5_readSleeper 3 = .ok (.getfield 12, 3) := by decide +kernel
theorem dX5_readSleeper_6 : decode cX5_readSleeper 6 = .ok (.invokevirtual 98, 3) := by decide +kernel
theorem dX5_readSleeper_9 : decode cX5_readSleeper 9 = .ok (.invokevirtual 75, 3) := by decide +kernel
theorem dX5_readSleeper_12 : decode cX5_readSleeper 12 = .ok (.istore_n 1, 1) := by decide +kernel
theorem dX5_readSleeper_13 : decode cX5_readSleeper 13 = .ok (.aload_n 0, 1) := by decide +kernel
theorem dX5_readSleeper_14 : decode cX5_readSleeper 14 = .ok (.invokevirtual 91, 3) := by decide +kernel
theorem dX5_readSleeper_17 : decode cX5_readSleeper 17 = .ok (.aload_n 0, 1) := by decide +kernel
theorem dX5_readSleeper_18 : decode cX5_readSleeper 18 = .ok (.getfield 12, 3) := by decide +kernel
theorem dX5_readSleeper_21 : decode cX5_readSleeper 21 = .ok (.iload_n 1, 1) := by decide +kernel
theorem dX5_readSleeper_22 : decode cX5_readSleeper 22 = .ok (.invokevirtual 101, 3) := by decide +kernel
theorem dX5_readSleeper_25 : decode cX5_readSleeper 25 = .ok (.return_, 1) := by decide +kernel
theorem dX5_readNumber_0 : decode cX5_readNumber 0 = .ok (.aload_n 0, 1) := by decide +kernel
theorem dX5_readNumber_1 : decode cX5_readNumber 1 = .ok (.getfield 35, 3) := by decide +kernel
theorem dX5_readNumber_4 : decode cX5_readNumber 4 = .ok (.ifCond .eq 5, 3) := by decide +kernel
theorem dX5_readNumber_7 : decode cX5_readNumber 7 = .ok (.iload_n 1, 1) := by decide +kernel
theorem dX5_readNumber_8 : decode cX5_readNumber 8 = .ok (.ireturn, 1) := by decide +kernel
theorem dX5_readNumber_9 : decode cX5_readNumber 9 = .ok (.aload_n 0, 1) := by decide +kernel
theorem dX5_readNumber_10 : decode cX5_readNumber 10 = .ok (.invokevirtual 38, 3) := by decide +kernel
theorem dX5_readNumber_13 : decode cX5_readNumber 13 = .ok (.aload_n 0, 1) := by decide +kernel
theorem dX5_readNumber_14 : decode cX5_readNumber 14 = .ok (.getfield 32, 3) := by decide +kernel
theorem dX5_readNumber_17 : decode cX5_readNumber 17 = .ok (.istore_n 3, 1) := by decide +kernel
theorem dX5_readNumber_18 : decode cX5_readNumber 18 = .ok (.iconst 0, 1) := by decide +kernel
theorem dX5_readNumber_19 : decode cX5_readNumber 19 = .ok (.istore 4, 2) := by decide +kernel
theorem dX5_readNumber_21 : decode cX5_readNumber 21 = .ok (.iconst 0, 1) := by decide +kernel
theorem dX5_readNumber_22 : decode cX5_readNumber 22 = .ok (.istore 5, 2) := by decide +kernel
theorem dX5_readNumber_24 : decode cX5_readNumber 24 = .ok (.aload_n 0, 1) := by decide +kernel
theorem dX5_readNumber_25 : decode cX5_readNumber 25 = .ok (.getfield 32, 3) := by decide +kernel
theorem dX5_readNumber_28 : decode cX5_readNumber 28 = .ok (.aload_n 0, 1) := by decide +kernel
theorem dX5_readNumber_29 : decode cX5_readNumber 29 = .ok (.getfield 26, 3) := by decide +kernel
theorem dX5_readNumber_32 : decode cX5_readNumber 32 = .ok (.if_icmp .ge 50, 3) := by decide +kernel
theorem dX5_readNumber_35 : decode cX5_readNumber 35 = .ok (.aload_n 0, 1) := by decide +kernel
theorem dX5_readNumber_36 : decode cX5_readNumber 36 = .ok (.invokevirtual 44, 3) := by decide +kernel
theorem dX5_readNumber_39 : decode cX5_readNumber 39 = .ok (.invokestatic 105, 3) := by decide +kernel
theorem dX5_readNumber_42 : decode cX5_readNumber 42 = .ok (.ifCond .eq 40, 3) := by decide +kernel
theorem dX5_readNumber_45 : decode cX5_readNumber 45 = .ok (.iinc 5 1, 3) := by decide +kernel
theorem dX5_readNumber_48 : decode cX5_readNumber 48 = .ok (.iload 5, 2) := by decide +kernel
theorem dX5_readNumber_50 : decode cX5_readNumber 50 = .ok (.iconst 3, 1) := by decide +kernel
theorem dX5_readNumber_51 : decode cX5_readNumber 51 = .ok (.if_icmp .gt 18, 3) := by decide +kernel
theorem dX5_readNumber_54 : decode cX5_readNumber 54 = .ok (.iload 4, 2) := by decide +kernel
theorem dX5_readNumber_56 : decode cX5_readNumber 56 = .ok (.bipush 10, 2) := by decide +kernel
theorem dX5_readNumber_58 : decode cX5_readNumber 58 = .ok (.imul, 1) := by decide +kernel
theorem dX5_readNumber_59 : decode cX5_readNumber 59 = .ok (.aload_n 0, 1) := by decide +kernel
theorem dX5_readNumber_60 : decode cX5_readNumber 60 = .ok (.invokevirtual 44, 3) := by decide +kernel
theorem dX5_readNumber_63 : decode cX5_readNumber 63 = .ok (.iadd, 1) := by decide +kernel
theorem dX5_readNumber_64 : decode cX5_readNumber 64 = .ok (.bipush 48, 2) := by decide +kernel
theorem dX5_readNumber_66 : decode cX5_readNumber 66 = .ok (.isub, 1) := by decide +kernel
theorem dX5_readNumber_67 : decode cX5_readNumber 67 = .ok (.istore 4, 2) := by decide +kernel
theorem dX5_readNumber_69 : decode cX5_readNumber 69 = .ok (.aload_n 0, 1) := by decide +kernel
theorem dX5_readNumber_70 : decode cX5_readNumber 70 = .ok (.dup, 1) := by decide +kernel
theorem dX5_readNumber_71 : decode cX5_readNumber 71 = .ok (.getfield 32, 3) := by decide +kernel
theorem dX5_readNumber_74 : decode cX5_readNumber 74 = .ok (.iconst 1, 1) := by decide +kernel
theorem dX5_readNumber_75 : decode cX5_readNumber 75 = .ok (.iadd, 1) := by decide +kernel
theorem dX5_readNumber_76 : decode cX5_readNumber 76 = .ok (.putfield 32, 3) := by decide +kernel
theorem dX5_readNumber_79 : decode cX5_readNumber 79 = .ok (.goto (-55), 3) := by decide +kernel
theorem dX5_readNumber_82 : decode cX5_readNumber 82 = .ok (.iload 5, 2) := by decide +kernel
theorem dX5_readNumber_84 : decode cX5_readNumber 84 = .ok (.ifCond .ne 12, 3) := by decide +kernel
theorem dX5_readNumber_87 : decode cX5_readNumber 87 = .ok (.aload_n 0, 1) := by decide +kernel
theorem dX5_readNumber_88 : decode cX5_readNumber 88 = .ok (.iconst 1, 1) := by decide +kernel
theorem dX5_readNumber_89 : decode cX5_readNumber 89 = .ok (.iload_n 3, 1) := by decide +kernel
theorem dX5_readNumber_90 : decode cX5_readNumber 90 = .ok (.invokevirtual 52, 3) := by decide +kernel
theorem dX5_readNumber_93 : decode cX5_readNumber 93 = .ok (.goto 27, 3) := by decide +kernel
theorem dX5_readNumber_96 : decode cX5_readNumber 96 = .ok (.iload 5, 2) := by decide +kernel
theorem dX5_readNumber_98 : decode cX5_readNumber 98 = .ok (.iconst 3, 1) := by decide +kernel
theorem dX5_readNumber_99 : decode cX5_readNumber 99 = .ok (.if_icmp .gt 15, 3) := by decide +kernel
theorem dX5_readNumber_102 : decode cX5_readNumber 102 = .ok (.iload 4, 2) := by decide +kernel
theorem dX5_readNumber_104 : decode cX5_readNumber 104 = .ok (.iload_n 1, 1) := by decide +kernel
theorem dX5_readNumber_105 : decode cX5_readNumber 105 = .ok (.if_icmp .lt 9, 3) := by decide +kernel
theorem dX5_readNumber_108 : decode cX5_readNumber 108 = .ok (.iload 4, 2) := by decide +kernel
theorem dX5_readNumber_110 : decode cX5_readNumber 110 = .ok (.iload_n 2, 1) := by decide +kernel
theorem dX5_readNumber_111 : decode cX5_readNumber 111 = .ok (.if_icmp .le 9, 3) := by decide +kernel
theorem dX5_readNumber_114 : decode cX5_readNumber 114 = .ok (.aload_n 0, 1) := by decide +kernel
theorem dX5_readNumber_115 : decode cX5_readNumber 115 = .ok (.iconst 2, 1) := by decide +kernel
theorem dX5_readNumber_116 : decode cX5_readNumber 116 = .ok (.iload_n 3, 1) := by decide +kernel
theorem dX5_readNumber_117 : decode cX5_readNumber 117 = .ok (.invokevirtual 52, 3) := by decide +kernel
theorem dX5_readNumber_120 : decode cX5_readNumber 120 = .ok (.iload 4, 2) := by decide +kernel
theorem dX5_readNumber_122 : decode cX5_readNumber 122 = .ok (.ireturn, 1) := by decide +kernel
theorem dX5_readEnd_0 : decode cX5_readEnd 0 = .ok (.aload_n 0, 1) := by decide +kernel
theorem dX5_readEnd_1 : decode cX5_readEnd 1 = .ok (.getfield 35, 3) := by decide +kernel
theorem dX5_readEnd_4 : decode cX5_readEnd 4 = .ok (.ifCond .eq 4, 3) := by decide +kernel
theorem dX5_readEnd_7 : decode cX5_readEnd 7 = .ok (.return_, 1) := by decide +kernel
theorem dX5_readEnd_8 : decode cX5_readEnd 8 = .ok (.aload_n 0, 1) := by decide +kernel
theorem dX5_readEnd_9 : decode cX5_readEnd 9 = .ok (.invokevirtual 38, 3) := by decide +kernel
theorem dX5_readEnd_12 : decode cX5_readEnd 12 = .ok (.aload_n 0, 1) := by decide +kernel
theorem dX5_readEnd_13 : decode cX5_readEnd 13 = .ok (.invokevirtual 44, 3) := by decide +kernel
theorem dX5_readEnd_16 : decode cX5_readEnd 16 = .ok (.bipush 59, 2) := by decide +kernel
theorem dX5_readEnd_18 : decode cX5_readEnd 18 = .ok (.if_icmp .ne 16, 3) := by decide +kernel
theorem dX5_readEnd_21 : decode cX5_readEnd 21 = .ok (.aload_n 0, 1) := by decide +kernel
theorem dX5_readEnd_22 : decode cX5_readEnd 22 = .ok (.dup, 1) := by decide +kernel
theorem dX5_readEnd_23 : decode cX5_readEnd 23 = .ok (.getfield 32, 3) := by decide +kernel
theorem dX5_readEnd_26 : decode cX5_readEnd 26 = .ok (.iconst 1, 1) := by decide +kernel
theorem dX5_readEnd_27 : decode cX5_readEnd 27 = .ok (.iadd, 1) := by decide +kernel
theorem dX5_readEnd_28 : decode cX5_readEnd 28 = .ok (.putfield 32, 3) := by decide +kernel
theorem dX5_readEnd_31 : decode cX5_readEnd 31 = .ok (.goto 12, 3) := by decide +kernel
theorem dX5_readEnd_34 : decode cX5_readEnd 34 = .ok (.aload_n 0, 1) := by decide +kernel
theorem dX5_readEnd_35 : decode cX5_readEnd 35 = .ok (.iconst 1, 1) := by decide +kernel
theorem dX5_readEnd_36 : decode cX5_readEnd 36 = .ok (.aload_n 0, 1) := by decide +kernel
theorem dX5_readEnd_37 : decode cX5_readEnd 37 = .ok (.getfield 32, 3) := by decide +kernel
theorem dX5_readEnd_40 : decode cX5_readEnd 40 = .ok (.invokevirtual 52, 3) := by decide +kernel
theorem dX5_readEnd_43 : decode cX5_readEnd 43 = .ok (.return_, 1) := by decide +kernel
theorem dX5_skipBlanks_0 : decode cX5_skipBlanks 0 = .ok (.aload_n 0, 1) := by decide +kernel
theorem dX5_skipBlanks_1 : decode cX5_skipBlanks 1 = .ok (.getfield 32, 3) := by decide +kernel
theorem dX5_skipBlanks_4 : decode cX5_skipBlanks 4 = .ok (.aload_n 0, 1) := by decide +kernel
theorem dX5_skipBlanks_5 : decode cX5_skipBlanks 5 = .ok (.getfield 26, 3) := by decide +kernel
theorem dX5_skipBlanks_8 : decode cX5_skipBlanks 8 = .ok (.if_icmp .ge 25, 3) := by decide +kernel
theorem dX5_skipBlanks_11 : decode cX5_skipBlanks 11 = .ok (.aload_n 0, 1) := by decide +kernel
theorem dX5_skipBlanks_12 : decode cX5_skipBlanks 12 = .ok (.invokevirtual 44, 3) := by decide +kernel
theorem dX5_skipBlanks_15 : decode cX5_skipBlanks 15 = .ok (.bipush 32, 2) := by decide +kernel
theorem dX5_skipBlanks_17 : decode cX5_skipBlanks 17 = .ok (.if_icmp .ne 16, 3) := by decide +kernel
theorem dX5_skipBlanks_20 : decode cX5_skipBlanks 20 = .ok (.aload_n 0, 1) := by decide +kernel
theorem dX5_skipBlanks_21 : decode cX5_skipBlanks 21 = .ok (.dup, 1) := by decide +kernel
theorem dX5_skipBlanks_22 : decode cX5_skipBlanks 22 = .ok (.getfield 32, 3) := by decide +kernel
theorem dX5_skipBlanks_25 : decode cX5_skipBlanks 25 = .ok (.iconst 1, 1) := by decide +kernel
theorem dX5_skipBlanks_26 : decode cX5_skipBlanks 26 = .ok (.iadd, 1) := by decide +kernel
theorem dX5_skipBlanks_27 : decode cX5_skipBlanks 27 = .ok (.putfield 32, 3) := by decide +kernel
theorem dX5_skipBlanks_30 : decode cX5_skipBlanks 30 = .ok (.goto (-30), 3) := by decide +kernel
theorem dX5_skipBlanks_33 : decode cX5_skipBlanks 33 = .ok (.return_, 1) := by decide +kernel
theorem dX5_letterHere_0 : decode cX5_letterHere 0 = .ok (.aload_n 0, 1) := by decide +kernel
theorem dX5_letterHere_1 : decode cX5_letterHere 1 = .ok (.getfield 32, 3) := by decide +kernel
theorem dX5_letterHere_4 : decode cX5_letterHere 4 = .ok (.ifCond .lt 24, 3) := by decide +kernel
theorem dX5_letterHere_7 : decode cX5_letterHere 7 = .ok (.aload_n 0, 1) := by decide +kernel
theorem dX5_letterHere_8 : decode cX5_letterHere 8 = .ok (.getfield 32, 3) := by decide +kernel
theorem dX5_letterHere_11 : decode cX5_letterHere 11 = .ok (.aload_n 0, 1) := by decide +kernel
theorem dX5_letterHere_12 : decode cX5_letterHere 12 = .ok (.getfield 26, 3) := by decide +kernel
theorem dX5_letterHere_15 : decode cX5_letterHere 15 = .ok (.if_icmp .ge 13, 3) := by decide +kernel
theorem dX5_letterHere_18 : decode cX5_letterHere 18 = .ok (.aload_n 0, 1) := by decide +kernel
theorem dX5_letterHere_19 : decode cX5_letterHere 19 = .ok (.getfield 32, 3) := by decide +kernel
theorem dX5_letterHere_22 : decode cX5_letterHere 22 = .ok (.sipush 220, 3) := by decide +kernel
theorem dX5_letterHere_25 : decode cX5_letterHere 25 = .ok (.if_icmp .lt 5, 3) := by decide +kernel
theorem dX5_letterHere_28 : decode cX5_letterHere 28 = .ok (.iconst (-1), 1) := by decide +kernel
theorem dX5_letterHere_29 : decode cX5_letterHere 29 = .ok (.ireturn, 1) := by decide +kernel
theorem dX5_letterHere_30 : decode cX5_letterHere 30 = .ok (.aload_n 0, 1) := by decide +kernel
theorem dX5_letterHere_31 : decode cX5_letterHere 31 = .ok (.getfield 22, 3) := by decide +kernel
theorem dX5_letterHere_34 : decode cX5_letterHere 34 = .ok (.aload_n 0, 1) := by decide +kernel
theorem dX5_letterHere_35 : decode cX5_letterHere 35 = .ok (.getfield 32, 3) := by decide +kernel
theorem dX5_letterHere_38 : decode cX5_letterHere 38 = .ok (.iaload, 1) := by decide +kernel
theorem dX5_letterHere_39 : decode cX5_letterHere 39 = .ok (.ireturn, 1) := by decide +kernel
theorem dX5_blame_0 : decode cX5_blame 0 = .ok (.aload_n 0, 1) := by decide +kernel
theorem dX5_blame_1 : decode cX5_blame 1 = .ok (.iload_n 1, 1) := by decide +kernel
theorem dX5_blame_2 : decode cX5_blame 2 = .ok (.putfield 35, 3) := by decide +kernel
theorem dX5_blame_5 : decode cX5_blame 5 = .ok (.aload_n 0, 1) := by decide +kernel
theorem dX5_blame_6 : decode cX5_blame 6 = .ok (.iload_n 2, 1) := by decide +kernel
theorem dX5_blame_7 : decode cX5_blame 7 = .ok (.putfield 18, 3) := by decide +kernel
theorem dX5_blame_10 : decode cX5_blame 10 = .ok (.return_, 1) := by decide +kernel
theorem dX5_isFigure_0 : decode cX5_isFigure 0 = .ok (.iload_n 0, 1) := by decide +kernel
theorem dX5_isFigure_1 : decode cX5_isFigure 1 = .ok (.bipush 48, 2) := by decide +kernel
theorem dX5_isFigure_3 : decode cX5_isFigure 3 = .ok (.if_icmp .lt 13, 3) := by decide +kernel
theorem dX5_isFigure_6 : decode cX5_isFigure 6 = .ok (.iload_n 0, 1) := by decide +kernel
theorem dX5_isFigure_7 : decode cX5_isFigure 7 = .ok (.bipush 57, 2) := by decide +kernel
theorem dX5_isFigure_9 : decode cX5_isFigure 9 = .ok (.if_icmp .gt 7, 3) := by decide +kernel
theorem dX5_isFigure_12 : decode cX5_isFigure 12 = .ok (.iconst 1, 1) := by decide +kernel
theorem dX5_isFigure_13 : decode cX5_isFigure 13 = .ok (.goto 4, 3) := by decide +kernel
theorem dX5_isFigure_16 : decode cX5_isFigure 16 = .ok (.iconst 0, 1) := by decide +kernel
theorem dX5_isFigure_17 : decode cX5_isFigure 17 = .ok (.ireturn, 1) := by decide +kernel
theorem dX6_init_0 : decode cX6_init 0 = .ok (.aload_n 0, 1) := by decide +kernel
theorem dX6_init_1 : decode cX6_init 1 = .ok (.invokespecial 3, 3) := by decide +kernel
theorem dX6_init_4 : decode cX6_init 4 = .ok (.aload_n 0, 1) := by decide +kernel
theorem dX6_init_5 : decode cX6_init 5 = .ok (.bipush 8, 2) := by decide +kernel
theorem dX6_init_7 : decode cX6_init 7 = .ok (.newarray .int, 2) := by decide +kernel
theorem dX6_init_9 : decode cX6_init 9 = .ok (.putfield 9, 3) := by decide +kernel
theorem dX6_init_12 : decode cX6_init 12 = .ok (.aload_n 0, 1) := by decide +kernel
theorem dX6_init_13 : decode cX6_init 13 = .ok (.bipush 8, 2) := by decide +kernel
theorem dX6_init_15 : decode cX6_init 15 = .ok (.newarray .boolean, 2) := by decide +kernel
theorem dX6_init_17 : decode cX6_init 17 = .ok (.putfield 15, 3) := by decide +kernel
theorem dX6_init_20 : decode cX6_init 20 = .ok (.return_, 1) := by decide +kernel
theorem dX6_clear_0 : decode cX6_clear 0 = .ok (.aload_n 0, 1) := by decide +kernel
theorem dX6_clear_1 : decode cX6_clear 1 = .ok (.iconst 0, 1) := by decide +kernel
theorem dX6_clear_2 : decode cX6_clear 2 = .ok (.putfield 19, 3) := by decide +kernel
theorem dX6_clear_5 : decode cX6_clear 5 = .ok (.return_, 1) := by decide +kernel
theorem dX6_append_0 : decode cX6_append 0 = .ok (.aload_n 0, 1) := by decide +kernel
theorem dX6_append_1 : decode cX6_append 1 = .ok (.getfield 19, 3) := by decide +kernel
theorem dX6_append_4 : decode cX6_append 4 = .ok (.ifCond .lt 12, 3) := by decide +kernel
theorem dX6_append_7 : decode cX6_append 7 = .ok (.aload_n 0, 1) := by decide +kernel
theorem dX6_append_8 : decode cX6_append 8 = .ok (.getfield 19, 3) := by decide +kernel
theorem dX6_append_11 : decode cX6_append 11 = .ok (.bipush 8, 2) := by decide +kernel
theorem dX6_append_13 : decode cX6_append 13 = .ok (.if_icmp .lt 5, 3) := by decide +kernel
theorem dX6_append_16 : decode cX6_append 16 = .ok (.iconst 0, 1) := by decide +kernel
theorem dX6_append_17 : decode cX6_append 17 = .ok (.ireturn, 1) := by decide +kernel
theorem dX6_append_18 : decode cX6_append 18 = .ok (.aload_n 0, 1) := by decide +kernel
theorem dX6_append_19 : decode cX6_append 19 = .ok (.getfield 9, 3) := by decide +kernel
theorem dX6_append_22 : decode cX6_append 22 = .ok (.aload_n 0, 1) := by decide +kernel
theorem dX6_append_23 : decode cX6_append 23 = .ok (.getfield 19, 3) := by decide +kernel
theorem dX6_append_26 : decode cX6_append 26 = .ok (.iload_n 1, 1) := by decide +kernel
theorem dX6_append_27 : decode cX6_append 27 = .ok (.iastore, 1) := by decide +kernel
theorem dX6_append_28 : decode cX6_append 28 = .ok (.aload_n 0, 1) := by decide +kernel
theorem dX6_append_29 : decode cX6_append 29 = .ok (.getfield 15, 3) := by decide +kernel
theorem dX6_append_32 : decode cX6_append 32 = .ok (.aload_n 0, 1) := by decide +kernel
theorem dX6_append_33 : decode cX6_append 33 = .ok (.getfield 19, 3) := by decide +kernel
theorem dX6_append_36 : decode cX6_append 36 = .ok (.iload_n 2, 1) := by decide +kernel
theorem dX6_append_37 : decode cX6_append 37 = .ok (.bastore, 1) := by decide +kernel
theorem dX6_append_38 : decode cX6_append 38 = .ok (.aload_n 0, 1) := by decide +kernel
theorem dX6_append_39 : decode cX6_append 39 = .ok (.dup, 1) := by decide +kernel
theorem dX6_append_40 : decode cX6_append 40 = .ok (.getfield 19, 3) := by decide +kernel
theorem dX6_append_43 : decode cX6_append 43 = .ok (.iconst 1, 1) := by decide +kernel
theorem dX6_append_44 : decode cX6_append 44 = .ok (.iadd, 1) := by decide +kernel
theorem dX6_append_45 : decode cX6_append 45 = .ok (.putfield 19, 3) := by decide +kernel
theorem dX6_append_48 : decode cX6_append 48 = .ok (.iconst 1, 1) := by decide +kernel
theorem dX6_append_49 : decode cX6_append 49 = .ok (.ireturn, 1) := by decide +kernel
theorem dX6_fits_0 : decode cX6_fits 0 = .ok (.iload_n 3, 1) := by decide +kernel
theorem dX6_fits_1 : decode cX6_fits 1 = .ok (.iload_n 2, 1) := by decide +kernel
theorem dX6_fits_2 : decode cX6_fits 2 = .ok (.iconst (-1), 1) := by decide +kernel
theorem dX6_fits_3 : decode cX6_fits 3 = .ok (.ixor, 1) := by decide +kernel
theorem dX6_fits_4 : decode cX6_fits 4 = .ok (.iand, 1) := by decide +kernel
theorem dX6_fits_5 : decode cX6_fits 5 = .ok (.ifCond .eq 5, 3) := by decide +kernel
theorem dX6_fits_8 : decode cX6_fits 8 = .ok (.iconst 0, 1) := by decide +kernel
theorem dX6_fits_9 : decode cX6_fits 9 = .ok (.ireturn, 1) := by decide +kernel
theorem dX6_fits_10 : decode cX6_fits 10 = .ok (.iconst 0, 1) := by decide +kernel
theorem dX6_fits_11 : decode cX6_fits 11 = .ok (.istore 4, 2) := by decide +kernel
theorem dX6_fits_13 : decode cX6_fits 13 = .ok (.iload 4, 2) := by decide +kernel
theorem dX6_fits_15 : decode cX6_fits 15 = .ok (.aload_n 0, 1) := by decide +kernel
theorem dX6_fits_16 : decode cX6_fits 16 = .ok (.getfield 19, 3) := by decide +kernel
theorem dX6_fits_19 : decode cX6_fits 19 = .ok (.if_icmp .ge 41, 3) := by decide +kernel
theorem dX6_fits_22 : decode cX6_fits 22 = .ok (.iload 4, 2) := by decide +kernel
theorem dX6_fits_24 : decode cX6_fits 24 = .ok (.bipush 8, 2) := by decide +kernel
theorem dX6_fits_26 : decode cX6_fits 26 = .ok (.if_icmp .ge 34, 3) := by decide +kernel
theorem dX6_fits_29 : decode cX6_fits 29 = .ok (.aload_n 1, 1) := by decide +kernel
theorem dX6_fits_30 : decode cX6_fits 30 = .ok (.aload_n 0, 1) := by decide +kernel
theorem dX6_fits_31 : decode cX6_fits 31 = .ok (.getfield 9, 3) := by decide +kernel
theorem dX6_fits_34 : decode cX6_fits 34 = .ok (.iload 4, 2) := by decide +kernel
theorem dX6_fits_36 : decode cX6_fits 36 = .ok (.iaload, 1) := by decide +kernel
theorem dX6_fits_37 : decode cX6_fits 37 = .ok (.iload_n 2, 1) := by decide +kernel
theorem dX6_fits_38 : decode cX6_fits 38 = .ok (.iload_n 3, 1) := by decide +kernel
theorem dX6_fits_39 : decode cX6_fits 39 = .ok (.invokevirtual 23, 3) := by decide +kernel
theorem dX6_fits_42 : decode cX6_fits 42 = .ok (.aload_n 0, 1) := by decide +kernel
theorem dX6_fits_43 : decode cX6_fits 43 = .ok (.getfield 15, 3) := by decide +kernel
theorem dX6_fits_46 : decode cX6_fits 46 = .ok (.iload 4, 2) := by decide +kernel
theorem dX6_fits_48 : decode cX6_fits 48 = .ok (.baload, 1) := by decide +kernel
theorem dX6_fits_49 : decode cX6_fits 49 = .ok (.if_icmp .eq 5, 3) := by decide +kernel
theorem dX6_fits_52 : decode cX6_fits 52 = .ok (.iconst 0, 1) := by decide +kernel
theorem dX6_fits_53 : decode cX6_fits 53 = .ok (.ireturn, 1) := by decide +kernel
theorem dX6_fits_54 : decode cX6_fits 54 = .ok (.iinc 4 1, 3) := by decide +kernel
theorem dX6_fits_57 : decode cX6_fits 57 = .ok (.goto (-44), 3) := by decide +kernel
theorem dX6_fits_60 : decode cX6_fits 60 = .ok (.iconst 1, 1) := by decide +kernel
theorem dX6_fits_61 : decode cX6_fits 61 = .ok (.ireturn, 1) := by decide +kernel
theorem dX6_countFitting_0 : decode cX6_countFitting 0 = .ok (.iconst 0, 1) := by decide +kernel
theorem dX6_countFitting_1 : decode cX6_countFitting 1 = .ok (.istore_n 3, 1) := by decide +kernel
theorem dX6_countFitting_2 : decode cX6_countFitting 2 = .ok (.iconst 0, 1) := by decide +kernel
theorem dX6_countFitting_3 : decode cX6_countFitting 3 = .ok (.istore 4, 2) := by decide +kernel
theorem dX6_countFitting_5 : decode cX6_countFitting 5 = .ok (.iload 4, 2) := by decide +kernel
theorem dX6_countFitting_7 : decode cX6_countFitting 7 = .ok (.iload_n 2, 1) := by decide +kernel
theorem dX6_countFitting_8 : decode cX6_countFitting 8 = .ok (.if_icmp .gt 30, 3) := by decide +kernel
theorem dX6_countFitting_11 : decode cX6_countFitting 11 = .ok (.iload 4, 2) := by decide +kernel
theorem dX6_countFitting_13 : decode cX6_countFitting 13 = .ok (.bipush 64, 2) := by decide +kernel
theorem dX6_countFitting_15 : decode cX6_countFitting 15 = .ok (.if_icmp .ge 23, 3) := by decide +kernel
theorem dX6_countFitting_18 : decode cX6_countFitting 18 = .ok (.aload_n 0, 1) := by decide +kernel
theorem dX6_countFitting_19 : decode cX6_countFitting 19 = .ok (.aload_n 1, 1) := by decide +kernel
theorem dX6_countFitting_20 : decode cX6_countFitting 20 = .ok (.iload_n 2, 1) := by decide +kernel
theorem dX6_countFitting_21 : decode cX6_countFitting 21 = .ok (.iload 4, 2) := by decide +kernel
theorem dX6_countFitting_23 : decode cX6_countFitting 23 = .ok (.invokevirtual 29, 3) := by decide +kernel
theorem dX6_countFitting_26 : decode cX6_countFitting 26 = .ok (.ifCond .eq 6, 3) := by decide +kernel
theorem dX6_countFitting_29 : decode cX6_countFitting 29 = .ok (.iinc 3 1, 3) := by decide +kernel
theorem dX6_countFitting_32 : decode cX6_countFitting 32 = .ok (.iinc 4 1, 3) := by decide +kernel
theorem dX6_countFitting_35 : decode cX6_countFitting 35 = .ok (.goto (-30), 3) := by decide +kernel
theorem dX6_countFitting_38 : decode cX6_countFitting 38 = .ok (.iload_n 3, 1) := by decide +kernel
theorem dX6_countFitting_39 : decode cX6_countFitting 39 = .ok (.ireturn, 1) := by decide +kernel
theorem dX6_inAllFitting_0 : decode cX6_inAllFitting 0 = .ok (.aload_n 0, 1) := by decide +kernel
theorem dX6_inAllFitting_1 : decode cX6_inAllFitting 1 = .ok (.aload_n 1, 1) := by decide +kernel
theorem dX6_inAllFitting_2 : decode cX6_inAllFitting 2 = .ok (.iload_n 2, 1) := by decide +kernel
theorem dX6_inAllFitting_3 : decode cX6_inAllFitting 3 = .ok (.invokevirtual 33, 3) := by decide +kernel
theorem dX6_inAllFitting_6 : decode cX6_inAllFitting 6 = .ok (.ifCond .ne 5, 3) := by decide +kernel
theorem dX6_inAllFitting_9 : decode cX6_inAllFitting 9 = .ok (.iconst 0, 1) := by decide +kernel
theorem dX6_inAllFitting_10 : decode cX6_inAllFitting 10 = .ok (.ireturn, 1) := by decide +kernel
theorem dX6_inAllFitting_11 : decode cX6_inAllFitting 11 = .ok (.iload_n 2, 1) := by decide +kernel
theorem dX6_inAllFitting_12 : decode cX6_inAllFitting 12 = .ok (.istore_n 3, 1) := by decide +kernel
theorem dX6_inAllFitting_13 : decode cX6_inAllFitting 13 = .ok (.iconst 0, 1) := by decide +kernel
theorem dX6_inAllFitting_14 : decode cX6_inAllFitting 14 = .ok (.istore 4, 2) := by decide +kernel
theorem dX6_inAllFitting_16 : decode cX6_inAllFitting 16 = .ok (.iload 4, 2) := by decide +kernel
theorem dX6_inAllFitting_18 : decode cX6_inAllFitting 18 = .ok (.iload_n 2, 1) := by decide +kernel
theorem dX6_inAllFitting_19 : decode cX6_inAllFitting 19 = .ok (.if_icmp .gt 32, 3) := by decide +kernel
theorem dX6_inAllFitting_22 : decode cX6_inAllFitting 22 = .ok (.iload 4, 2) := by decide +kernel
theorem dX6_inAllFitting_24 : decode cX6_inAllFitting 24 = .ok (.bipush 64, 2) := by decide +kernel
theorem dX6_inAllFitting_26 : decode cX6_inAllFitting 26 = .ok (.if_icmp .ge 25, 3) := by decide +kernel
theorem dX6_inAllFitting_29 : decode cX6_inAllFitting 29 = .ok (.aload_n 0, 1) := by decide +kernel
theorem dX6_inAllFitting_30 : decode cX6_inAllFitting 30 = .ok (.aload_n 1, 1) := by decide +kernel
theorem dX6_inAllFitting_31 : decode cX6_inAllFitting 31 = .ok (.iload_n 2, 1) := by decide +kernel
theorem dX6_inAllFitting_32 : decode cX6_inAllFitting 32 = .ok (.iload 4, 2) := by decide +kernel
theorem dX6_inAllFitting_34 : decode cX6_inAllFitting 34 = .ok (.invokevirtual 29, 3) := by decide +kernel
theorem dX6_inAllFitting_37 : decode cX6_inAllFitting 37 = .ok (.ifCond .eq 8, 3) := by decide +kernel
theorem dX6_inAllFitting_40 : decode cX6_inAllFitting 40 = .ok (.iload_n 3, 1) := by decide +kernel
theorem dX6_inAllFitting_41 : decode cX6_inAllFitting 41 = .ok (.iload 4, 2) := by decide +kernel
theorem dX6_inAllFitting_43 : decode cX6_inAllFitting 43 = .ok (.iand, 1) := by decide +kernel
theorem dX6_inAllFitting_44 : decode cX6_inAllFitting 44 = .ok (.istore_n 3, 1) := by decide +kernel
theorem dX6_inAllFitting_45 : decode cX6_inAllFitting 45 = .ok (.iinc 4 1, 3) := by decide +kernel
theorem dX6_inAllFitting_48 : decode cX6_inAllFitting 48 = .ok (.goto (-32), 3) := by decide +kernel
theorem dX6_inAllFitting_51 : decode cX6_inAllFitting 51 = .ok (.iload_n 3, 1) := by decide +kernel
theorem dX6_inAllFitting_52 : decode cX6_inAllFitting 52 = .ok (.ireturn, 1) := by decide +kernel
theorem dX6_fittingAt_0 : decode cX6_fittingAt 0 = .ok (.iload_n 3, 1) := by decide +kernel
theorem dX6_fittingAt_1 : decode cX6_fittingAt 1 = .ok (.istore 4, 2) := by decide +kernel
theorem dX6_fittingAt_3 : decode cX6_fittingAt 3 = .ok (.iconst 0, 1) := by decide +kernel
theorem dX6_fittingAt_4 : decode cX6_fittingAt 4 = .ok (.istore 5, 2) := by decide +kernel
theorem dX6_fittingAt_6 : decode cX6_fittingAt 6 = .ok (.iload 5, 2) := by decide +kernel
theorem dX6_fittingAt_8 : decode cX6_fittingAt 8 = .ok (.bipush 6, 2) := by decide +kernel
theorem dX6_fittingAt_10 : decode cX6_fittingAt 10 = .ok (.if_icmp .gt 71, 3) := by decide +kernel
theorem dX6_fittingAt_13 : decode cX6_fittingAt 13 = .ok (.iload 4, 2) := by decide +kernel
theorem dX6_fittingAt_15 : decode cX6_fittingAt 15 = .ok (.ifCond .lt 66, 3) := by decide +kernel
theorem dX6_fittingAt_18 : decode cX6_fittingAt 18 = .ok (.iconst 0, 1) := by decide +kernel
theorem dX6_fittingAt_19 : decode cX6_fittingAt 19 = .ok (.istore 6, 2) := by decide +kernel
theorem dX6_fittingAt_21 : decode cX6_fittingAt 21 = .ok (.iload 6, 2) := by decide +kernel
theorem dX6_fittingAt_23 : decode cX6_fittingAt 23 = .ok (.iload_n 2, 1) := by decide +kernel
theorem dX6_fittingAt_24 : decode cX6_fittingAt 24 = .ok (.if_icmp .gt 51, 3) := by decide +kernel
theorem dX6_fittingAt_27 : decode cX6_fittingAt 27 = .ok (.iload 6, 2) := by decide +kernel
theorem dX6_fittingAt_29 : decode cX6_fittingAt 29 = .ok (.bipush 64, 2) := by decide +kernel
theorem dX6_fittingAt_31 : decode cX6_fittingAt 31 = .ok (.if_icmp .ge 44, 3) := by decide +kernel
theorem dX6_fittingAt_34 : decode cX6_fittingAt 34 = .ok (.iload 6, 2) := by decide +kernel
theorem dX6_fittingAt_36 : decode cX6_fittingAt 36 = .ok (.invokestatic 37, 3) := by decide +kernel
theorem dX6_fittingAt_39 : decode cX6_fittingAt 39 = .ok (.iload 5, 2) := by decide +kernel
theorem dX6_fittingAt_41 : decode cX6_fittingAt 41 = .ok (.if_icmp .ne 28, 3) := by decide +kernel
theorem dX6_fittingAt_44 : decode cX6_fittingAt 44 = .ok (.aload_n 0, 1) := by decide +kernel
theorem dX6_fittingAt_45 : decode cX6_fittingAt 45 = .ok (.aload_n 1, 1) := by decide +kernel
theorem dX6_fittingAt_46 : decode cX6_fittingAt 46 = .ok (.iload_n 2, 1) := by decide +kernel
theorem dX6_fittingAt_47 : decode cX6_fittingAt 47 = .ok (.iload 6, 2) := by decide +kernel
theorem dX6_fittingAt_49 : decode cX6_fittingAt 49 = .ok (.invokevirtual 29, 3) := by decide +kernel
theorem dX6_fittingAt_52 : decode cX6_fittingAt 52 = .ok (.ifCond .ne 6, 3) := by decide +kernel
theorem dX6_fittingAt_55 : decode cX6_fittingAt 55 = .ok (.goto 14, 3) := by decide +kernel
theorem dX6_fittingAt_58 : decode cX6_fittingAt 58 = .ok (.iload 4, 2) := by decide +kernel
theorem dX6_fittingAt_60 : decode cX6_fittingAt 60 = .ok (.ifCond .ne 6, 3) := by decide +kernel
theorem dX6_fittingAt_63 : decode cX6_fittingAt 63 = .ok (.iload 6, 2) := by decide +kernel
theorem dX6_fittingAt_65 : decode cX6_fittingAt 65 = .ok (.ireturn, 1) := by decide +kernel
theorem dX6_fittingAt_66 : decode cX6_fittingAt 66 = .ok (.iinc 4 (-1), 3) := by decide +kernel
theorem dX6_fittingAt_69 : decode cX6_fittingAt 69 = .ok (.iinc 6 1, 3) := by decide +kernel
theorem dX6_fittingAt_72 : decode cX6_fittingAt 72 = .ok (.goto (-51), 3) := by decide +kernel
theorem dX6_fittingAt_75 : decode cX6_fittingAt 75 = .ok (.iinc 5 1, 3) := by decide +kernel
theorem dX6_fittingAt_78 : decode cX6_fittingAt 78 = .ok (.goto (-72), 3) := by decide +kernel
theorem dX6_fittingAt_81 : decode cX6_fittingAt 81 = .ok (.iconst (-1), 1) := by decide +kernel
theorem dX6_fittingAt_82 : decode cX6_fittingAt 82 = .ok (.ireturn, 1) := by decide +kernel
theorem dX6_bestToAsk_0 : decode cX6_bestToAsk 0 = .ok (.iconst (-1), 1) := by decide +kernel
theorem dX6_bestToAsk_1 : decode cX6_bestToAsk 1 = .ok (.istore_n 3, 1) := by decide +kernel
theorem dX6_bestToAsk_2 : decode cX6_bestToAsk 2 = .ok (.aload_n 0, 1) := by decide +kernel
theorem dX6_bestToAsk_3 : decode cX6_bestToAsk 3 = .ok (.aload_n 1, 1) := by decide +kernel
theorem dX6_bestToAsk_4 : decode cX6_bestToAsk 4 = .ok (.iload_n 2, 1) := by decide +kernel
theorem dX6_bestToAsk_5 : decode cX6_bestToAsk 5 = .ok (.invokevirtual 33, 3) := by decide +kernel
theorem dX6_bestToAsk_8 : decode cX6_bestToAsk 8 = .ok (.istore 4, 2) := by decide +kernel
theorem dX6_bestToAsk_10 : decode cX6_bestToAsk 10 = .ok (.iconst 0, 1) := by decide +kernel
theorem dX6_bestToAsk_11 : decode cX6_bestToAsk 11 = .ok (.istore 5, 2) := by decide +kernel
theorem dX6_bestToAsk_13 : decode cX6_bestToAsk 13 = .ok (.iload 5, 2) := by decide +kernel
theorem dX6_bestToAsk_15 : decode cX6_bestToAsk 15 = .ok (.aload_n 1, 1) := by decide +kernel
theorem dX6_bestToAsk_16 : decode cX6_bestToAsk 16 = .ok (.getfield 43, 3) := by decide +kernel
theorem dX6_bestToAsk_19 : decode cX6_bestToAsk 19 = .ok (.if_icmp .ge 40, 3) := by decide +kernel
theorem dX6_bestToAsk_22 : decode cX6_bestToAsk 22 = .ok (.iload 5, 2) := by decide +kernel
theorem dX6_bestToAsk_24 : decode cX6_bestToAsk 24 = .ok (.bipush 8, 2) := by decide +kernel
theorem dX6_bestToAsk_26 : decode cX6_bestToAsk 26 = .ok (.if_icmp .ge 33, 3) := by decide +kernel
theorem dX6_bestToAsk_29 : decode cX6_bestToAsk 29 = .ok (.aload_n 0, 1) := by decide +kernel
theorem dX6_bestToAsk_30 : decode cX6_bestToAsk 30 = .ok (.aload_n 1, 1) := by decide +kernel
theorem dX6_bestToAsk_31 : decode cX6_bestToAsk 31 = .ok (.iload 5, 2) := by decide +kernel
theorem dX6_bestToAsk_33 : decode cX6_bestToAsk 33 = .ok (.iload_n 2, 1) := by decide +kernel
theorem dX6_bestToAsk_34 : decode cX6_bestToAsk 34 = .ok (.invokevirtual 45, 3) := by decide +kernel
theorem dX6_bestToAsk_37 : decode cX6_bestToAsk 37 = .ok (.istore 6, 2) := by decide +kernel
theorem dX6_bestToAsk_39 : decode cX6_bestToAsk 39 = .ok (.iload 6, 2) := by decide +kernel
theorem dX6_bestToAsk_41 : decode cX6_bestToAsk 41 = .ok (.iload 4, 2) := by decide +kernel
theorem dX6_bestToAsk_43 : decode cX6_bestToAsk 43 = .ok (.if_icmp .ge 10, 3) := by decide +kernel
theorem dX6_bestToAsk_46 : decode cX6_bestToAsk 46 = .ok (.iload 6, 2) := by decide +kernel
theorem dX6_bestToAsk_48 : decode cX6_bestToAsk 48 = .ok (.istore 4, 2) := by decide +kernel
theorem dX6_bestToAsk_50 : decode cX6_bestToAsk 50 = .ok (.iload 5, 2) := by decide +kernel
theorem dX6_bestToAsk_52 : decode cX6_bestToAsk 52 = .ok (.istore_n 3, 1) := by decide +kernel
theorem dX6_bestToAsk_53 : decode cX6_bestToAsk 53 = .ok (.iinc 5 1, 3) := by decide +kernel
theorem dX6_bestToAsk_56 : decode cX6_bestToAsk 56 = .ok (.goto (-43), 3) := by decide +kernel
theorem dX6_bestToAsk_59 : decode cX6_bestToAsk 59 = .ok (.iload_n 3, 1) := by decide +kernel
theorem dX6_bestToAsk_60 : decode cX6_bestToAsk 60 = .ok (.ireturn, 1) := by decide +kernel
theorem dX6_greaterPart_0 : decode cX6_greaterPart 0 = .ok (.iconst 0, 1) := by decide +kernel
theorem dX6_greaterPart_1 : decode cX6_greaterPart 1 = .ok (.istore 4, 2) := by decide +kernel
theorem dX6_greaterPart_3 : decode cX6_greaterPart 3 = .ok (.iconst 0, 1) := by decide +kernel
theorem dX6_greaterPart_4 : decode cX6_greaterPart 4 = .ok (.istore 5, 2) := by decide +kernel
theorem dX6_greaterPart_6 : decode cX6_greaterPart 6 = .ok (.iconst 0, 1) := by decide +kernel
theorem dX6_greaterPart_7 : decode cX6_greaterPart 7 = .ok (.istore 6, 2) := by decide +kernel
theorem dX6_greaterPart_9 : decode cX6_greaterPart 9 = .ok (.iload 6, 2) := by decide +kernel
theorem dX6_greaterPart_11 : decode cX6_greaterPart 11 = .ok (.iload_n 3, 1) := by decide +kernel
theorem dX6_greaterPart_12 : decode cX6_greaterPart 12 = .ok (.if_icmp .gt 50, 3) := by decide +kernel
theorem dX6_greaterPart_15 : decode cX6_greaterPart 15 = .ok (.iload 6, 2) := by decide +kernel
theorem dX6_greaterPart_17 : decode cX6_greaterPart 17 = .ok (.bipush 64, 2) := by decide +kernel
theorem dX6_greaterPart_19 : decode cX6_greaterPart 19 = .ok (.if_icmp .ge 43, 3) := by decide +kernel
theorem dX6_greaterPart_22 : decode cX6_greaterPart 22 = .ok (.aload_n 0, 1) := by decide +kernel
theorem dX6_greaterPart_23 : decode cX6_greaterPart 23 = .ok (.aload_n 1, 1) := by decide +kernel
theorem dX6_greaterPart_24 : decode cX6_greaterPart 24 = .ok (.iload_n 3, 1) := by decide +kernel
theorem dX6_greaterPart_25 : decode cX6_greaterPart 25 = .ok (.iload 6, 2) := by decide +kernel
theorem dX6_greaterPart_27 : decode cX6_greaterPart 27 = .ok (.invokevirtual 29, 3) := by decide +kernel
theorem dX6_greaterPart_30 : decode cX6_greaterPart 30 = .ok (.ifCond .ne 6, 3) := by decide +kernel
theorem dX6_greaterPart_33 : decode cX6_greaterPart 33 = .ok (.goto 23, 3) := by decide +kernel
theorem dX6_greaterPart_36 : decode cX6_greaterPart 36 = .ok (.aload_n 1, 1) := by decide +kernel
theorem dX6_greaterPart_37 : decode cX6_greaterPart 37 = .ok (.iload_n 2, 1) := by decide +kernel
theorem dX6_greaterPart_38 : decode cX6_greaterPart 38 = .ok (.iload_n 3, 1) := by decide +kernel
theorem dX6_greaterPart_39 : decode cX6_greaterPart 39 = .ok (.iload 6, 2) := by decide +kernel
theorem dX6_greaterPart_41 : decode cX6_greaterPart 41 = .ok (.invokevirtual 23, 3) := by decide +kernel
theorem dX6_greaterPart_44 : decode cX6_greaterPart 44 = .ok (.ifCond .eq 9, 3) := by decide +kernel
theorem dX6_greaterPart_47 : decode cX6_greaterPart 47 = .ok (.iinc 4 1, 3) := by decide +kernel
theorem dX6_greaterPart_50 : decode cX6_greaterPart 50 = .ok (.goto 6, 3) := by decide +kernel
theorem dX6_greaterPart_53 : decode cX6_greaterPart 53 = .ok (.iinc 5 1, 3) := by decide +kernel
theorem dX6_greaterPart_56 : decode cX6_greaterPart 56 = .ok (.iinc 6 1, 3) := by decide +kernel
theorem dX6_greaterPart_59 : decode cX6_greaterPart 59 = .ok (.goto (-50), 3) := by decide +kernel
theorem dX6_greaterPart_62 : decode cX6_greaterPart 62 = .ok (.iload 4, 2) := by decide +kernel
theorem dX6_greaterPart_64 : decode cX6_greaterPart 64 = .ok (.iload 5, 2) := by decide +kernel
theorem dX6_greaterPart_66 : decode cX6_greaterPart 66 = .ok (.invokestatic 49, 3) := by decide +kernel
theorem dX6_greaterPart_69 : decode cX6_greaterPart 69 = .ok (.ireturn, 1) := by decide +kernel
theorem dX7_init_0 : decode cX7_init 0 = .ok (.aload_n 0, 1) := by decide +kernel
theorem dX7_init_1 : decode cX7_init 1 = .ok (.invokespecial 3, 3) := by decide +kernel
theorem dX7_init_4 : decode cX7_init 4 = .ok (.aload_n 0, 1) := by decide +kernel
theorem dX7_init_5 : decode cX7_init 5 = .ok (.bipush 6, 2) := by decide +kernel
theorem dX7_init_7 : decode cX7_init 7 = .ok (.newarray .int, 2) := by decide +kernel
theorem dX7_init_9 : decode cX7_init 9 = .ok (.putfield 9, 3) := by decide +kernel
theorem dX7_init_12 : decode cX7_init 12 = .ok (.aload_n 0, 1) := by decide +kernel
theorem dX7_init_13 : decode cX7_init 13 = .ok (.bipush 6, 2) := by decide +kernel
theorem dX7_init_15 : decode cX7_init 15 = .ok (.newarray .int, 2) := by decide +kernel
theorem dX7_init_17 : decode cX7_init 17 = .ok (.putfield 15, 3) := by decide +kernel
theorem dX7_init_20 : decode cX7_init 20 = .ok (.return_, 1) := by decide +kernel
theorem dX7_begin_0 : decode cX7_begin 0 = .ok (.aload_n 0, 1) := by decide +kernel
theorem dX7_begin_1 : decode cX7_begin 1 = .ok (.iconst 0, 1) := by decide +kernel
theorem dX7_begin_2 : decode cX7_begin 2 = .ok (.putfield 18, 3) := by decide +kernel
theorem dX7_begin_5 : decode cX7_begin 5 = .ok (.aload_n 0, 1) := by decide +kernel
theorem dX7_begin_6 : decode cX7_begin 6 = .ok (.iconst 0, 1) := by decide +kernel
theorem dX7_begin_7 : decode cX7_begin 7 = .ok (.putfield 22, 3) := by decide +kernel
theorem dX7_begin_10 : decode cX7_begin 10 = .ok (.aload_n 0, 1) := by decide +kernel
theorem dX7_begin_11 : decode cX7_begin 11 = .ok (.iconst 0, 1) := by decide +kernel
theorem dX7_begin_12 : decode cX7_begin 12 = .ok (.putfield 25, 3) := by decide +kernel
theorem dX7_begin_15 : decode cX7_begin 15 = .ok (.aload_n 0, 1) := by decide +kernel
theorem dX7_begin_16 : decode cX7_begin 16 = .ok (.iconst 0, 1) := by decide +kernel
theorem dX7_begin_17 : decode cX7_begin 17 = .ok (.putfield 28, 3) := by decide +kernel
theorem dX7_begin_20 : decode cX7_begin 20 = .ok (.aload_n 0, 1) := by decide +kernel
theorem dX7_begin_21 : decode cX7_begin 21 = .ok (.iconst 0, 1) := by decide +kernel
theorem dX7_begin_22 : decode cX7_begin 22 = .ok (.putfield 31, 3) := by decide +kernel
theorem dX7_begin_25 : decode cX7_begin 25 = .ok (.aload_n 0, 1) := by decide +kernel
theorem dX7_begin_26 : decode cX7_begin 26 = .ok (.iconst 0, 1) := by decide +kernel
theorem dX7_begin_27 : decode cX7_begin 27 = .ok (.putfield 34, 3) := by decide +kernel
theorem dX7_begin_30 : decode cX7_begin 30 = .ok (.aload_n 0, 1) := by decide +kernel
theorem dX7_begin_31 : decode cX7_begin 31 = .ok (.iconst 0, 1) := by decide +kernel
theorem dX7_begin_32 : decode cX7_begin 32 = .ok (.putfield 37, 3) := by decide +kernel
theorem dX7_begin_35 : decode cX7_begin 35 = .ok (.iconst 0, 1) := by decide +kernel
theorem dX7_begin_36 : decode cX7_begin 36 = .ok (.istore_n 2, 1) := by decide +kernel
theorem dX7_begin_37 : decode cX7_begin 37 = .ok (.iload_n 2, 1) := by decide +kernel
theorem dX7_begin_38 : decode cX7_begin 38 = .ok (.bipush 6, 2) := by decide +kernel
theorem dX7_begin_40 : decode cX7_begin 40 = .ok (.if_icmp .ge 28, 3) := by decide +kernel
theorem dX7_begin_43 : decode cX7_begin 43 = .ok (.aload_n 0, 1) := by decide +kernel
theorem dX7_begin_44 : decode cX7_begin 44 = .ok (.getfield 9, 3) := by decide +kernel
theorem dX7_begin_47 : decode cX7_begin 47 = .ok (.iload_n 2, 1) := by decide +kernel
theorem dX7_begin_48 : decode cX7_begin 48 = .ok (.aload_n 1, 1) := by decide +kernel
theorem dX7_begin_49 : decode cX7_begin 49 = .ok (.getfield 40, 3) := by decide +kernel
theorem dX7_begin_52 : decode cX7_begin 52 = .ok (.iload_n 2, 1) := by decide +kernel
theorem dX7_begin_53 : decode cX7_begin 53 = .ok (.iaload, 1) := by decide +kernel
theorem dX7_begin_54 : decode cX7_begin 54 = .ok (.iastore, 1) := by decide +kernel
theorem dX7_begin_55 : decode cX7_begin 55 = .ok (.aload_n 0, 1) := by decide +kernel
theorem dX7_begin_56 : decode cX7_begin 56 = .ok (.getfield 15, 3) := by decide +kernel
theorem dX7_begin_59 : decode cX7_begin 59 = .ok (.iload_n 2, 1) := by decide +kernel
theorem dX7_begin_60 : decode cX7_begin 60 = .ok (.iconst 0, 1) := by decide +kernel
theorem dX7_begin_61 : decode cX7_begin 61 = .ok (.iastore, 1) := by decide +kernel
theorem dX7_begin_62 : decode cX7_begin 62 = .ok (.iinc 2 1, 3) := by decide +kernel
theorem dX7_begin_65 : decode cX7_begin 65 = .ok (.goto (-28), 3) := by decide +kernel
theorem dX7_begin_68 : decode cX7_begin 68 = .ok (.return_, 1) := by decide +kernel
theorem dX7_copyFrom_0 : decode cX7_copyFrom 0 = .ok (.aload_n 0, 1) := by decide +kernel
theorem dX7_copyFrom_1 : decode cX7_copyFrom 1 = .ok (.aload_n 1, 1) := by decide +kernel
theorem dX7_copyFrom_2 : decode cX7_copyFrom 2 = .ok (.getfield 18, 3) := by decide +kernel
theorem dX7_copyFrom_5 : decode cX7_copyFrom 5 = .ok (.putfield 18, 3) := by decide +kernel
theorem dX7_copyFrom_8 : decode cX7_copyFrom 8 = .ok (.aload_n 0, 1) := by decide +kernel
theorem dX7_copyFrom_9 : decode cX7_copyFrom 9 = .ok (.aload_n 1, 1) := by decide +kernel
theorem dX7_copyFrom_10 : decode cX7_copyFrom 10 = .ok (.getfield 22, 3) := by decide +kernel
theorem dX7_copyFrom_13 : decode cX7_copyFrom 13 = .ok (.putfield 22, 3) := by decide +kernel
theorem dX7_copyFrom_16 : decode cX7_copyFrom 16 = .ok (.aload_n 0, 1) := by decide +kernel
theorem dX7_copyFrom_17 : decode cX7_copyFrom 17 = .ok (.aload_n 1, 1) := by decide +kernel
theorem dX7_copyFrom_18 : decode cX7_copyFrom 18 = .ok (.getfield 25, 3) := by decide +kernel
theorem dX7_copyFrom_21 : decode cX7_copyFrom 21 = .ok (.putfield 25, 3) := by decide +kernel
theorem dX7_copyFrom_24 : decode cX7_copyFrom 24 = .ok (.aload_n 0, 1) := by decide +kernel
theorem dX7_copyFrom_25 : decode cX7_copyFrom 25 = .ok (.aload_n 1, 1) := by decide +kernel
theorem dX7_copyFrom_26 : decode cX7_copyFrom 26 = .ok (.getfield 28, 3) := by decide +kernel
theorem dX7_copyFrom_29 : decode cX7_copyFrom 29 = .ok (.putfield 28, 3) := by decide +kernel
theorem dX7_copyFrom_32 : decode cX7_copyFrom 32 = .ok (.aload_n 0, 1) := by decide +kernel
theorem dX7_copyFrom_33 : decode cX7_copyFrom 33 = .ok (.aload_n 1, 1) := by decide +kernel
theorem dX7_copyFrom_34 : decode cX7_copyFrom 34 = .ok (.getfield 31, 3) := by decide +kernel
theorem dX7_copyFrom_37 : decode cX7_copyFrom 37 = .ok (.putfield 31, 3) := by decide +kernel
theorem dX7_copyFrom_40 : decode cX7_copyFrom 40 = .ok (.aload_n 0, 1) := by decide +kernel
theorem dX7_copyFrom_41 : decode cX7_copyFrom 41 = .ok (.aload_n 1, 1) := by decide +kernel
theorem dX7_copyFrom_42 : decode cX7_copyFrom 42 = .ok (.getfield 34, 3) := by decide +kernel
theorem dX7_copyFrom_45 : decode cX7_copyFrom 45 = .ok (.putfield 34, 3) := by decide +kernel
theorem dX7_copyFrom_48 : decode cX7_copyFrom 48 = .ok (.aload_n 0, 1) := by decide +kernel
theorem dX7_copyFrom_49 : decode cX7_copyFrom 49 = .ok (.aload_n 1, 1) := by decide +kernel
theorem dX7_copyFrom_50 : decode cX7_copyFrom 50 = .ok (.getfield 37, 3) := by decide +kernel
theorem dX7_copyFrom_53 : decode cX7_copyFrom 53 = .ok (.putfield 37, 3) := by decide +kernel
theorem dX7_copyFrom_56 : decode cX7_copyFrom 56 = .ok (.aload_n 1, 1) := by decide +kernel
theorem dX7_copyFrom_57 : decode cX7_copyFrom 57 = .ok (.getfield 9, 3) := by decide +kernel
theorem dX7_copyFrom_60 : decode cX7_copyFrom 60 = .ok (.iconst 0, 1) := by decide +kernel
theorem dX7_copyFrom_61 : decode cX7_copyFrom 61 = .ok (.aload_n 0, 1) := by decide +kernel
theorem dX7_copyFrom_62 : decode cX7_copyFrom 62 = .ok (.getfield 9, 3) := by decide +kernel
theorem dX7_copyFrom_65 : decode cX7_copyFrom 65 = .ok (.iconst 0, 1) := by decide +kernel
theorem dX7_copyFrom_66 : decode cX7_copyFrom 66 = .ok (.bipush 6, 2) := by decide +kernel
theorem dX7_copyFrom_68 : decode cX7_copyFrom 68 = .ok (.invokestatic 45, 3) := by decide +kernel
theorem dX7_copyFrom_71 : decode cX7_copyFrom 71 = .ok (.aload_n 1, 1) := by decide +kernel
theorem dX7_copyFrom_72 : decode cX7_copyFrom 72 = .ok (.getfield 15, 3) := by decide +kernel
theorem dX7_copyFrom_75 : decode cX7_copyFrom 75 = .ok (.iconst 0, 1) := by decide +kernel
theorem dX7_copyFrom_76 : decode cX7_copyFrom 76 = .ok (.aload_n 0, 1) := by decide +kernel
theorem dX7_copyFrom_77 : decode cX7_copyFrom 77 = .ok (.getfield 15, 3) := by decide +kernel
theorem dX7_copyFrom_80 : decode cX7_copyFrom 80 = .ok (.iconst 0, 1) := by decide +kernel
theorem dX7_copyFrom_81 : decode cX7_copyFrom 81 = .ok (.bipush 6, 2) := by decide +kernel
theorem dX7_copyFrom_83 : decode cX7_copyFrom 83 = .ok (.invokestatic 45, 3) := by decide +kernel
theorem dX7_copyFrom_86 : decode cX7_copyFrom 86 = .ok (.return_, 1) := by decide +kernel
theorem dX7_passWatched_0 : decode cX7_passWatched 0 = .ok (.aload_n 0, 1) := by decide +kernel
theorem dX7_passWatched_1 : decode cX7_passWatched 1 = .ok (.aload_n 1, 1) := by decide +kernel
theorem dX7_passWatched_2 : decode cX7_passWatched 2 = .ok (.aload_n 0, 1) := by decide +kernel
theorem dX7_passWatched_3 : decode cX7_passWatched 3 = .ok (.getfield 9, 3) := by decide +kernel
theorem dX7_passWatched_6 : decode cX7_passWatched 6 = .ok (.iload_n 2, 1) := by decide +kernel
theorem dX7_passWatched_7 : decode cX7_passWatched 7 = .ok (.iload_n 3, 1) := by decide +kernel
theorem dX7_passWatched_8 : decode cX7_passWatched 8 = .ok (.invokevirtual 51, 3) := by decide +kernel
theorem dX7_passWatched_11 : decode cX7_passWatched 11 = .ok (.putfield 28, 3) := by decide +kernel
theorem dX7_passWatched_14 : decode cX7_passWatched 14 = .ok (.aload_n 0, 1) := by decide +kernel
theorem dX7_passWatched_15 : decode cX7_passWatched 15 = .ok (.aload_n 1, 1) := by decide +kernel
theorem dX7_passWatched_16 : decode cX7_passWatched 16 = .ok (.iload_n 2, 1) := by decide +kernel
theorem dX7_passWatched_17 : decode cX7_passWatched 17 = .ok (.aload_n 0, 1) := by decide +kernel
theorem dX7_passWatched_18 : decode cX7_passWatched 18 = .ok (.getfield 28, 3) := by decide +kernel
theorem dX7_passWatched_21 : decode cX7_passWatched 21 = .ok (.invokevirtual 55, 3) := by decide +kernel
theorem dX7_passWatched_24 : decode cX7_passWatched 24 = .ok (.putfield 31, 3) := by decide +kernel
theorem dX7_passWatched_27 : decode cX7_passWatched 27 = .ok (.iload_n 2, 1) := by decide +kernel
theorem dX7_passWatched_28 : decode cX7_passWatched 28 = .ok (.aload_n 0, 1) := by decide +kernel
theorem dX7_passWatched_29 : decode cX7_passWatched 29 = .ok (.getfield 28, 3) := by decide +kernel
theorem dX7_passWatched_32 : decode cX7_passWatched 32 = .ok (.iconst (-1), 1) := by decide +kernel
theorem dX7_passWatched_33 : decode cX7_passWatched 33 = .ok (.ixor, 1) := by decide +kernel
theorem dX7_passWatched_34 : decode cX7_passWatched 34 = .ok (.iand, 1) := by decide +kernel
theorem dX7_passWatched_35 : decode cX7_passWatched 35 = .ok (.istore 4, 2) := by decide +kernel
theorem dX7_passWatched_37 : decode cX7_passWatched 37 = .ok (.iload 4, 2) := by decide +kernel
theorem dX7_passWatched_39 : decode cX7_passWatched 39 = .ok (.ifCond .ne 16, 3) := by decide +kernel
theorem dX7_passWatched_42 : decode cX7_passWatched 42 = .ok (.aload_n 0, 1) := by decide +kernel
theorem dX7_passWatched_43 : decode cX7_passWatched 43 = .ok (.dup, 1) := by decide +kernel
theorem dX7_passWatched_44 : decode cX7_passWatched 44 = .ok (.getfield 34, 3) := by decide +kernel
theorem dX7_passWatched_47 : decode cX7_passWatched 47 = .ok (.iconst 1, 1) := by decide +kernel
theorem dX7_passWatched_48 : decode cX7_passWatched 48 = .ok (.iadd, 1) := by decide +kernel
theorem dX7_passWatched_49 : decode cX7_passWatched 49 = .ok (.putfield 34, 3) := by decide +kernel
theorem dX7_passWatched_52 : decode cX7_passWatched 52 = .ok (.goto 21, 3) := by decide +kernel
theorem dX7_passWatched_55 : decode cX7_passWatched 55 = .ok (.aload_n 0, 1) := by decide +kernel
theorem dX7_passWatched_56 : decode cX7_passWatched 56 = .ok (.ldc 59, 2) := by decide +kernel
theorem dX7_passWatched_58 : decode cX7_passWatched 58 = .ok (.aload_n 0, 1) := by decide +kernel
theorem dX7_passWatched_59 : decode cX7_passWatched 59 = .ok (.getfield 22, 3) := by decide +kernel
theorem dX7_passWatched_62 : decode cX7_passWatched 62 = .ok (.aload_n 1, 1) := by decide +kernel
theorem dX7_passWatched_63 : decode cX7_passWatched 63 = .ok (.getfield 60, 3) := by decide +kernel
theorem dX7_passWatched_66 : decode cX7_passWatched 66 = .ok (.iadd, 1) := by decide +kernel
theorem dX7_passWatched_67 : decode cX7_passWatched 67 = .ok (.invokestatic 61, 3) := by decide +kernel
theorem dX7_passWatched_70 : decode cX7_passWatched 70 = .ok (.putfield 22, 3) := by decide +kernel
theorem dX7_passWatched_73 : decode cX7_passWatched 73 = .ok (.aload_n 0, 1) := by decide +kernel
theorem dX7_passWatched_74 : decode cX7_passWatched 74 = .ok (.ldc 59, 2) := by decide +kernel
theorem dX7_passWatched_76 : decode cX7_passWatched 76 = .ok (.aload_n 0, 1) := by decide +kernel
theorem dX7_passWatched_77 : decode cX7_passWatched 77 = .ok (.getfield 25, 3) := by decide +kernel
theorem dX7_passWatched_80 : decode cX7_passWatched 80 = .ok (.aload_n 1, 1) := by decide +kernel
theorem dX7_passWatched_81 : decode cX7_passWatched 81 = .ok (.getfield 66, 3) := by decide +kernel
theorem dX7_passWatched_84 : decode cX7_passWatched 84 = .ok (.aload_n 0, 1) := by decide +kernel
theorem dX7_passWatched_85 : decode cX7_passWatched 85 = .ok (.getfield 31, 3) := by decide +kernel
theorem dX7_passWatched_88 : decode cX7_passWatched 88 = .ok (.invokestatic 69, 3) := by decide +kernel
theorem dX7_passWatched_91 : decode cX7_passWatched 91 = .ok (.imul, 1) := by decide +kernel
theorem dX7_passWatched_92 : decode cX7_passWatched 92 = .ok (.iadd, 1) := by decide +kernel
theorem dX7_passWatched_93 : decode cX7_passWatched 93 = .ok (.invokestatic 61, 3) := by decide +kernel
theorem dX7_passWatched_96 : decode cX7_passWatched 96 = .ok (.putfield 25, 3) := by decide +kernel
theorem dX7_passWatched_99 : decode cX7_passWatched 99 = .ok (.iconst 0, 1) := by decide +kernel
theorem dX7_passWatched_100 : decode cX7_passWatched 100 = .ok (.istore 5, 2) := by decide +kernel
theorem dX7_passWatched_102 : decode cX7_passWatched 102 = .ok (.iload 5, 2) := by decide +kernel
theorem dX7_passWatched_104 : decode cX7_passWatched 104 = .ok (.bipush 6, 2) := by decide +kernel
theorem dX7_passWatched_106 : decode cX7_passWatched 106 = .ok (.if_icmp .ge 26, 3) := by decide +kernel
theorem dX7_passWatched_109 : decode cX7_passWatched 109 = .ok (.aload_n 0, 1) := by decide +kernel
theorem dX7_passWatched_110 : decode cX7_passWatched 110 = .ok (.getfield 15, 3) := by decide +kernel
theorem dX7_passWatched_113 : decode cX7_passWatched 113 = .ok (.iload 5, 2) := by decide +kernel
theorem dX7_passWatched_115 : decode cX7_passWatched 115 = .ok (.dup2, 1) := by decide +kernel
theorem dX7_passWatched_116 : decode cX7_passWatched 116 = .ok (.iaload, 1) := by decide +kernel
theorem dX7_passWatched_117 : decode cX7_passWatched 117 = .ok (.iload 4, 2) := by decide +kernel
theorem dX7_passWatched_119 : decode cX7_passWatched 119 = .ok (.iload 5, 2) := by decide +kernel
theorem dX7_passWatched_121 : decode cX7_passWatched 121 = .ok (.ishr, 1) := by decide +kernel
theorem dX7_passWatched_122 : decode cX7_passWatched 122 = .ok (.iconst 1, 1) := by decide +kernel
theorem dX7_passWatched_123 : decode cX7_passWatched 123 = .ok (.iand, 1) := by decide +kernel
theorem dX7_passWatched_124 : decode cX7_passWatched 124 = .ok (.iadd, 1) := by decide +kernel
theorem dX7_passWatched_125 : decode cX7_passWatched 125 = .ok (.iastore, 1) := by decide +kernel
theorem dX7_passWatched_126 : decode cX7_passWatched 126 = .ok (.iinc 5 1, 3) := by decide +kernel
theorem dX7_passWatched_129 : decode cX7_passWatched 129 = .ok (.goto (-27), 3) := by decide +kernel
theorem dX7_passWatched_132 : decode cX7_passWatched 132 = .ok (.aload_n 0, 1) := by decide +kernel
theorem dX7_passWatched_133 : decode cX7_passWatched 133 = .ok (.aload_n 1, 1) := by decide +kernel
theorem dX7_passWatched_134 : decode cX7_passWatched 134 = .ok (.invokevirtual 75, 3) := by decide +kernel
theorem dX7_passWatched_137 : decode cX7_passWatched 137 = .ok (.return_, 1) := by decide +kernel
theorem dX7_passResting_0 : decode cX7_passResting 0 = .ok (.aload_n 1, 1) := by decide +kernel
theorem dX7_passResting_1 : decode cX7_passResting 1 = .ok (.aload_n 0, 1) := by decide +kernel
theorem dX7_passResting_2 : decode cX7_passResting 2 = .ok (.getfield 9, 3) := by decide +kernel
theorem dX7_passResting_5 : decode cX7_passResting 5 = .ok (.iconst 0, 1) := by decide +kernel
theorem dX7_passResting_6 : decode cX7_passResting 6 = .ok (.iconst 0, 1) := by decide +kernel
theorem dX7_passResting_7 : decode cX7_passResting 7 = .ok (.invokevirtual 51, 3) := by decide +kernel
theorem dX7_passResting_10 : decode cX7_passResting 10 = .ok (.pop, 1) := by decide +kernel
theorem dX7_passResting_11 : decode cX7_passResting 11 = .ok (.aload_n 0, 1) := by decide +kernel
theorem dX7_passResting_12 : decode cX7_passResting 12 = .ok (.iconst 0, 1) := by decide +kernel
theorem dX7_passResting_13 : decode cX7_passResting 13 = .ok (.putfield 28, 3) := by decide +kernel
theorem dX7_passResting_16 : decode cX7_passResting 16 = .ok (.aload_n 0, 1) := by decide +kernel
theorem dX7_passResting_17 : decode cX7_passResting 17 = .ok (.iconst 0, 1) := by decide +kernel
theorem dX7_passResting_18 : decode cX7_passResting 18 = .ok (.putfield 31, 3) := by decide +kernel
theorem dX7_passResting_21 : decode cX7_passResting 21 = .ok (.aload_n 0, 1) := by decide +kernel
theorem dX7_passResting_22 : decode cX7_passResting 22 = .ok (.aload_n 1, 1) := by decide +kernel
theorem dX7_passResting_23 : decode cX7_passResting 23 = .ok (.invokevirtual 75, 3) := by decide +kernel
theorem dX7_passResting_26 : decode cX7_passResting 26 = .ok (.return_, 1) := by decide +kernel
theorem dX7_endHour_0 : decode cX7_endHour 0 = .ok (.aload_n 0, 1) := by decide +kernel
theorem dX7_endHour_1 : decode cX7_endHour 1 = .ok (.dup, 1) := by decide +kernel
theorem dX7_endHour_2 : decode cX7_endHour 2 = .ok (.getfield 18, 3) := by decide +kernel
theorem dX7_endHour_5 : decode cX7_endHour 5 = .ok (.iconst 1, 1) := by decide +kernel
theorem dX7_endHour_6 : decode cX7_endHour 6 = .ok (.iadd, 1) := by decide +kernel
theorem dX7_endHour_7 : decode cX7_endHour 7 = .ok (.putfield 18, 3) := by decide +kernel
theorem dX7_endHour_10 : decode cX7_endHour 10 = .ok (.aload_n 1, 1) := by decide +kernel
theorem dX7_endHour_11 : decode cX7_endHour 11 = .ok (.getfield 79, 3) := by decide +kernel
theorem dX7_endHour_14 : decode cX7_endHour 14 = .ok (.ifCond .le 20, 3) := by decide +kernel
theorem dX7_endHour_17 : decode cX7_endHour 17 = .ok (.aload_n 0, 1) := by decide +kernel
theorem dX7_endHour_18 : decode cX7_endHour 18 = .ok (.getfield 18, 3) := by decide +kernel
theorem dX7_endHour_21 : decode cX7_endHour 21 = .ok (.aload_n 1, 1) := by decide +kernel
theorem dX7_endHour_22 : decode cX7_endHour 22 = .ok (.getfield 79, 3) := by decide +kernel
theorem dX7_endHour_25 : decode cX7_endHour 25 = .ok (.irem, 1) := by decide +kernel
theorem dX7_endHour_26 : decode cX7_endHour 26 = .ok (.ifCond .ne 8, 3) := by decide +kernel
theorem dX7_endHour_29 : decode cX7_endHour 29 = .ok (.aload_n 0, 1) := by decide +kernel
theorem dX7_endHour_30 : decode cX7_endHour 30 = .ok (.iconst 0, 1) := by decide +kernel
theorem dX7_endHour_31 : decode cX7_endHour 31 = .ok (.putfield 37, 3) := by decide +kernel
theorem dX7_endHour_34 : decode cX7_endHour 34 = .ok (.return_, 1) := by decide +kernel
theorem dX7_partOf_0 : decode cX7_partOf 0 = .ok (.iload_n 1, 1) := by decide +kernel
theorem dX7_partOf_1 : decode cX7_partOf 1 = .ok (.ifCond .lt 9, 3) := by decide +kernel
theorem dX7_partOf_4 : decode cX7_partOf 4 = .ok (.iload_n 1, 1) := by decide +kernel
theorem dX7_partOf_5 : decode cX7_partOf 5 = .ok (.bipush 6, 2) := by decide +kernel
theorem dX7_partOf_7 : decode cX7_partOf 7 = .ok (.if_icmp .lt 5, 3) := by decide +kernel
theorem dX7_partOf_10 : decode cX7_partOf 10 = .ok (.iconst 0, 1) := by decide +kernel
theorem dX7_partOf_11 : decode cX7_partOf 11 = .ok (.ireturn, 1) := by decide +kernel
theorem dX7_partOf_12 : decode cX7_partOf 12 = .ok (.lconst 0, 1) := by decide +kernel
theorem dX7_partOf_13 : decode cX7_partOf 13 = .ok (.lstore_n 3, 1) := by decide +kernel
theorem dX7_partOf_14 : decode cX7_partOf 14 = .ok (.iconst 0, 1) := by decide +kernel
theorem dX7_partOf_15 : decode cX7_partOf 15 = .ok (.istore 5, 2) := by decide +kernel
theorem dX7_partOf_17 : decode cX7_partOf 17 = .ok (.iload 5, 2) := by decide +kernel
theorem dX7_partOf_19 : decode cX7_partOf 19 = .ok (.bipush 6, 2) := by decide +kernel
theorem dX7_partOf_21 : decode cX7_partOf 21 = .ok (.if_icmp .ge 20, 3) := by decide +kernel
theorem dX7_partOf_24 : decode cX7_partOf 24 = .ok (.lload_n 3, 1) := by decide +kernel
theorem dX7_partOf_25 : decode cX7_partOf 25 = .ok (.aload_n 0, 1) := by decide +kernel
theorem dX7_partOf_26 : decode cX7_partOf 26 = .ok (.getfield 15, 3) := by decide +kernel
theorem dX7_partOf_29 : decode cX7_partOf 29 = .ok (.iload 5, 2) := by decide +kernel
theorem dX7_partOf_31 : decode cX7_partOf 31 = .ok (.iaload, 1) := by decide +kernel
theorem dX7_partOf_32 : decode cX7_partOf 32 = .ok (.i2l, 1) := by decide +kernel
theorem dX7_partOf_33 : decode cX7_partOf 33 = .ok (.ladd, 1) := by decide +kernel
theorem dX7_partOf_34 : decode cX7_partOf 34 = .ok (.lstore_n 3, 1) := by decide +kernel
theorem dX7_partOf_35 : decode cX7_partOf 35 = .ok (.iinc 5 1, 3) := by decide +kernel
theorem dX7_partOf_38 : decode cX7_partOf 38 = .ok (.goto (-21), 3) := by decide +kernel
theorem dX7_partOf_41 : decode cX7_partOf 41 = .ok (.lload_n 3, 1) := by decide +kernel
theorem dX7_partOf_42 : decode cX7_partOf 42 = .ok (.lconst 0, 1) := by decide +kernel
theorem dX7_partOf_43 : decode cX7_partOf 43 = .ok (.lcmp, 1) := by decide +kernel
theorem dX7_partOf_44 : decode cX7_partOf 44 = .ok (.ifCond .gt 5, 3) := by decide +kernel
theorem dX7_partOf_47 : decode cX7_partOf 47 = .ok (.iconst 0, 1) := by decide +kernel
theorem dX7_partOf_48 : decode cX7_partOf 48 = .ok (.ireturn, 1) := by decide +kernel
theorem dX7_partOf_49 : decode cX7_partOf 49 = .ok (.iload_n 2, 1) := by decide +kernel
theorem dX7_partOf_50 : decode cX7_partOf 50 = .ok (.i2l, 1) := by decide +kernel
theorem dX7_partOf_51 : decode cX7_partOf 51 = .ok (.aload_n 0, 1) := by decide +kernel
theorem dX7_partOf_52 : decode cX7_partOf 52 = .ok (.getfield 15, 3) := by decide +kernel
theorem dX7_partOf_55 : decode cX7_partOf 55 = .ok (.iload_n 1, 1) := by decide +kernel
theorem dX7_partOf_56 : decode cX7_partOf 56 = .ok (.iaload, 1) := by decide +kernel
theorem dX7_partOf_57 : decode cX7_partOf 57 = .ok (.i2l, 1) := by decide +kernel
theorem dX7_partOf_58 : decode cX7_partOf 58 = .ok (.lmul, 1) := by decide +kernel
theorem dX7_partOf_59 : decode cX7_partOf 59 = .ok (.lload_n 3, 1) := by decide +kernel
theorem dX7_partOf_60 : decode cX7_partOf 60 = .ok (.ldiv, 1) := by decide +kernel
theorem dX7_partOf_61 : decode cX7_partOf 61 = .ok (.l2i, 1) := by decide +kernel
theorem dX7_partOf_62 : decode cX7_partOf 62 = .ok (.ireturn, 1) := by decide +kernel
theorem dX8_init_0 : decode cX8_init 0 = .ok (.aload_n 0, 1) := by decide +kernel
theorem dX8_init_1 : decode cX8_init 1 = .ok (.invokespecial 3, 3) := by decide +kernel
theorem dX8_init_4 : decode cX8_init 4 = .ok (.aload_n 0, 1) := by decide +kernel
theorem dX8_init_5 : decode cX8_init 5 = .ok (.bipush 6, 2) := by decide +kernel
theorem dX8_init_7 : decode cX8_init 7 = .ok (.newarray .int, 2) := by decide +kernel
theorem dX8_init_9 : decode cX8_init 9 = .ok (.putfield 9, 3) := by decide +kernel
theorem dX8_init_12 : decode cX8_init 12 = .ok (.aload_n 0, 1) := by decide +kernel
theorem dX8_init_13 : decode cX8_init 13 = .ok (.bipush 7, 2) := by decide +kernel
theorem dX8_init_15 : decode cX8_init 15 = .ok (.bipush 6, 2) := by decide +kernel
theorem dX8_init_17 : decode cX8_init 17 = .ok (.multianewarray 15 2, 4) := by decide +kernel
theorem dX8_init_21 : decode cX8_init 21 = .ok (.putfield 17, 3) := by decide +kernel
theorem dX8_init_24 : decode cX8_init 24 = .ok (.aload_n 0, 1) := by decide +kernel
theorem dX8_init_25 : decode cX8_init 25 = .ok (.bipush 6, 2) := by decide +kernel
theorem dX8_init_27 : decode cX8_init 27 = .ok (.newarray .int, 2) := by decide +kernel
theorem dX8_init_29 : decode cX8_init 29 = .ok (.putfield 20, 3) := by decide +kernel
theorem dX8_init_32 : decode cX8_init 32 = .ok (.aload_n 0, 1) := by decide +kernel
theorem dX8_init_33 : decode cX8_init 33 = .ok (.bipush 6, 2) := by decide +kernel
theorem dX8_init_35 : decode cX8_init 35 = .ok (.newarray .int, 2) := by decide +kernel
theorem dX8_init_37 : decode cX8_init 37 = .ok (.putfield 23, 3) := by decide +kernel
theorem dX8_init_40 : decode cX8_init 40 = .ok (.return_, 1) := by decide +kernel
theorem dX8_layRow_0 : decode cX8_layRow 0 = .ok (.aload_n 1, 1) := by decide +kernel
theorem dX8_layRow_1 : decode cX8_layRow 1 = .ok (.getfield 26, 3) := by decide +kernel
theorem dX8_layRow_4 : decode cX8_layRow 4 = .ok (.iconst 0, 1) := by decide +kernel
theorem dX8_layRow_5 : decode cX8_layRow 5 = .ok (.aload_n 0, 1) := by decide +kernel
theorem dX8_layRow_6 : decode cX8_layRow 6 = .ok (.getfield 17, 3) := by decide +kernel
theorem dX8_layRow_9 : decode cX8_layRow 9 = .ok (.iconst 0, 1) := by decide +kernel
theorem dX8_layRow_10 : decode cX8_layRow 10 = .ok (.aaload, 1) := by decide +kernel
theorem dX8_layRow_11 : decode cX8_layRow 11 = .ok (.iconst 0, 1) := by decide +kernel
theorem dX8_layRow_12 : decode cX8_layRow 12 = .ok (.bipush 6, 2) := by decide +kernel
theorem dX8_layRow_14 : decode cX8_layRow 14 = .ok (.invokestatic 31, 3) := by decide +kernel
theorem dX8_layRow_17 : decode cX8_layRow 17 = .ok (.return_, 1) := by decide +kernel
theorem dX8_findWatches_0 : decode cX8_findWatches 0 = .ok (.aload_n 0, 1) := by decide +kernel
theorem dX8_findWatches_1 : decode cX8_findWatches 1 = .ok (.aload_n 2, 1) := by decide +kernel
theorem dX8_findWatches_2 : decode cX8_findWatches 2 = .ok (.invokevirtual 37, 3) := by decide +kernel
theorem dX8_findWatches_5 : decode cX8_findWatches 5 = .ok (.aload_n 0, 1) := by decide +kernel
theorem dX8_findWatches_6 : decode cX8_findWatches 6 = .ok (.sipush 200, 3) := by decide +kernel
theorem dX8_findWatches_9 : decode cX8_findWatches 9 = .ok (.putfield 41, 3) := by decide +kernel
theorem dX8_findWatches_12 : decode cX8_findWatches 12 = .ok (.aload_n 0, 1) := by decide +kernel
theorem dX8_findWatches_13 : decode cX8_findWatches 13 = .ok (.aload_n 1, 1) := by decide +kernel
theorem dX8_findWatches_14 : decode cX8_findWatches 14 = .ok (.iconst 0, 1) := by decide +kernel
theorem dX8_findWatches_15 : decode cX8_findWatches 15 = .ok (.invokevirtual 45, 3) := by decide +kernel
theorem dX8_findWatches_18 : decode cX8_findWatches 18 = .ok (.aload_n 0, 1) := by decide +kernel
theorem dX8_findWatches_19 : decode cX8_findWatches 19 = .ok (.getfield 41, 3) := by decide +kernel
theorem dX8_findWatches_22 : decode cX8_findWatches 22 = .ok (.sipush 199, 3) := by decide +kernel
theorem dX8_findWatches_25 : decode cX8_findWatches 25 = .ok (.if_icmp .gt 7, 3) := by decide +kernel
theorem dX8_findWatches_28 : decode cX8_findWatches 28 = .ok (.iconst 1, 1) := by decide +kernel
theorem dX8_findWatches_29 : decode cX8_findWatches 29 = .ok (.goto 4, 3) := by decide +kernel
theorem dX8_findWatches_32 : decode cX8_findWatches 32 = .ok (.iconst 0, 1) := by decide +kernel
theorem dX8_findWatches_33 : decode cX8_findWatches 33 = .ok (.ireturn, 1) := by decide +kernel
theorem dX8_chooseFrom_0 : decode cX8_chooseFrom 0 = .ok (.iload_n 2, 1) := by decide +kernel
theorem dX8_chooseFrom_1 : decode cX8_chooseFrom 1 = .ok (.ifCond .lt 9, 3) := by decide +kernel
theorem dX8_chooseFrom_4 : decode cX8_chooseFrom 4 = .ok (.iload_n 2, 1) := by decide +kernel
theorem dX8_chooseFrom_5 : decode cX8_chooseFrom 5 = .ok (.bipush 6, 2) := by decide +kernel
theorem dX8_chooseFrom_7 : decode cX8_chooseFrom 7 = .ok (.if_icmp .lt 4, 3) := by decide +kernel
theorem dX8_chooseFrom_10 : decode cX8_chooseFrom 10 = .ok (.return_, 1) := by decide +kernel
theorem dX8_chooseFrom_11 : decode cX8_chooseFrom 11 = .ok (.iconst 0, 1) := by decide +kernel
theorem dX8_chooseFrom_12 : decode cX8_chooseFrom 12 = .ok (.istore_n 3, 1) := by decide +kernel
theorem dX8_chooseFrom_13 : decode cX8_chooseFrom 13 = .ok (.iload_n 3, 1) := by decide +kernel
theorem dX8_chooseFrom_14 : decode cX8_chooseFrom 14 = .ok (.aload_n 1, 1) := by decide +kernel
theorem dX8_chooseFrom_15 : decode cX8_chooseFrom 15 = .ok (.getfield 49, 3) := by decide +kernel
theorem dX8_chooseFrom_18 : decode cX8_chooseFrom 18 = .ok (.if_icmp .ge 126, 3) := by decide +kernel
theorem dX8_chooseFrom_21 : decode cX8_chooseFrom 21 = .ok (.iload_n 3, 1) := by decide +kernel
theorem dX8_chooseFrom_22 : decode cX8_chooseFrom 22 = .ok (.bipush 6, 2) := by decide +kernel
theorem dX8_chooseFrom_24 : decode cX8_chooseFrom 24 = .ok (.if_icmp .ge 120, 3) := by decide +kernel
theorem dX8_chooseFrom_27 : decode cX8_chooseFrom 27 = .ok (.aload_n 0, 1) := by decide +kernel
theorem dX8_chooseFrom_28 : decode cX8_chooseFrom 28 = .ok (.getfield 17, 3) := by decide +kernel
theorem dX8_chooseFrom_31 : decode cX8_chooseFrom 31 = .ok (.iload_n 2, 1) := by decide +kernel
theorem dX8_chooseFrom_32 : decode cX8_chooseFrom 32 = .ok (.aaload, 1) := by decide +kernel
theorem dX8_chooseFrom_33 : decode cX8_chooseFrom 33 = .ok (.iconst 0, 1) := by decide +kernel
theorem dX8_chooseFrom_34 : decode cX8_chooseFrom 34 = .ok (.aload_n 0, 1) := by decide +kernel
theorem dX8_chooseFrom_35 : decode cX8_chooseFrom 35 = .ok (.getfield 17, 3) := by decide +kernel
theorem dX8_chooseFrom_38 : decode cX8_chooseFrom 38 = .ok (.iload_n 2, 1) := by decide +kernel
theorem dX8_chooseFrom_39 : decode cX8_chooseFrom 39 = .ok (.iconst 1, 1) := by decide +kernel
theorem dX8_chooseFrom_40 : decode cX8_chooseFrom 40 = .ok (.iadd, 1) := by decide +kernel
theorem dX8_chooseFrom_41 : decode cX8_chooseFrom 41 = .ok (.aaload, 1) := by decide +kernel
theorem dX8_chooseFrom_42 : decode cX8_chooseFrom 42 = .ok (.iconst 0, 1) := by decide +kernel
theorem dX8_chooseFrom_43 : decode cX8_chooseFrom 43 = .ok (.bipush 6, 2) := by decide +kernel
theorem dX8_chooseFrom_45 : decode cX8_chooseFrom 45 = .ok (.invokestatic 31, 3) := by decide +kernel
theorem dX8_chooseFrom_48 : decode cX8_chooseFrom 48 = .ok (.aload_n 0, 1) := by decide +kernel
theorem dX8_chooseFrom_49 : decode cX8_chooseFrom 49 = .ok (.getfield 20, 3) := by decide +kernel
theorem dX8_chooseFrom_52 : decode cX8_chooseFrom 52 = .ok (.iload_n 2, 1) := by decide +kernel
theorem dX8_chooseFrom_53 : decode cX8_chooseFrom 53 = .ok (.iload_n 3, 1) := by decide +kernel
theorem dX8_chooseFrom_54 : decode cX8_chooseFrom 54 = .ok (.iastore, 1) := by decide +kernel
theorem dX8_chooseFrom_55 : decode cX8_chooseFrom 55 = .ok (.aload_n 1, 1) := by decide +kernel
theorem dX8_chooseFrom_56 : decode cX8_chooseFrom 56 = .ok (.aload_n 0, 1) := by decide +kernel
theorem dX8_chooseFrom_57 : decode cX8_chooseFrom 57 = .ok (.getfield 17, 3) := by decide +kernel
theorem dX8_chooseFrom_60 : decode cX8_chooseFrom 60 = .ok (.iload_n 2, 1) := by decide +kernel
theorem dX8_chooseFrom_61 : decode cX8_chooseFrom 61 = .ok (.iconst 1, 1) := by decide +kernel
theorem dX8_chooseFrom_62 : decode cX8_chooseFrom 62 = .ok (.iadd, 1) := by decide +kernel
theorem dX8_chooseFrom_63 : decode cX8_chooseFrom 63 = .ok (.aaload, 1) := by decide +kernel
theorem dX8_chooseFrom_64 : decode cX8_chooseFrom 64 = .ok (.iconst 1, 1) := by decide +kernel
theorem dX8_chooseFrom_65 : decode cX8_chooseFrom 65 = .ok (.iload_n 3, 1) := by decide +kernel
theorem dX8_chooseFrom_66 : decode cX8_chooseFrom 66 = .ok (.ishl, 1) := by decide +kernel
theorem dX8_chooseFrom_67 : decode cX8_chooseFrom 67 = .ok (.iconst 0, 1) := by decide +kernel
theorem dX8_chooseFrom_68 : decode cX8_chooseFrom 68 = .ok (.invokevirtual 54, 3) := by decide +kernel
theorem dX8_chooseFrom_71 : decode cX8_chooseFrom 71 = .ok (.ifCond .eq 6, 3) := by decide +kernel
theorem dX8_chooseFrom_74 : decode cX8_chooseFrom 74 = .ok (.goto 64, 3) := by decide +kernel
theorem dX8_chooseFrom_77 : decode cX8_chooseFrom 77 = .ok (.aload_n 1, 1) := by decide +kernel
theorem dX8_chooseFrom_78 : decode cX8_chooseFrom 78 = .ok (.getfield 58, 3) := by decide +kernel
theorem dX8_chooseFrom_81 : decode cX8_chooseFrom 81 = .ok (.iload_n 2, 1) := by decide +kernel
theorem dX8_chooseFrom_82 : decode cX8_chooseFrom 82 = .ok (.isub, 1) := by decide +kernel
theorem dX8_chooseFrom_83 : decode cX8_chooseFrom 83 = .ok (.iconst 1, 1) := by decide +kernel
theorem dX8_chooseFrom_84 : decode cX8_chooseFrom 84 = .ok (.isub, 1) := by decide +kernel
theorem dX8_chooseFrom_85 : decode cX8_chooseFrom 85 = .ok (.istore 4, 2) := by decide +kernel
theorem dX8_chooseFrom_87 : decode cX8_chooseFrom 87 = .ok (.aload_n 0, 1) := by decide +kernel
theorem dX8_chooseFrom_88 : decode cX8_chooseFrom 88 = .ok (.aload_n 1, 1) := by decide +kernel
theorem dX8_chooseFrom_89 : decode cX8_chooseFrom 89 = .ok (.aload_n 0, 1) := by decide +kernel
theorem dX8_chooseFrom_90 : decode cX8_chooseFrom 90 = .ok (.getfield 17, 3) := by decide +kernel
theorem dX8_chooseFrom_93 : decode cX8_chooseFrom 93 = .ok (.iload_n 2, 1) := by decide +kernel
theorem dX8_chooseFrom_94 : decode cX8_chooseFrom 94 = .ok (.iconst 1, 1) := by decide +kernel
theorem dX8_chooseFrom_95 : decode cX8_chooseFrom 95 = .ok (.iadd, 1) := by decide +kernel
theorem dX8_chooseFrom_96 : decode cX8_chooseFrom 96 = .ok (.aaload, 1) := by decide +kernel
theorem dX8_chooseFrom_97 : decode cX8_chooseFrom 97 = .ok (.iload 4, 2) := by decide +kernel
theorem dX8_chooseFrom_99 : decode cX8_chooseFrom 99 = .ok (.invokevirtual 61, 3) := by decide +kernel
theorem dX8_chooseFrom_102 : decode cX8_chooseFrom 102 = .ok (.istore 5, 2) := by decide +kernel
theorem dX8_chooseFrom_104 : decode cX8_chooseFrom 104 = .ok (.iload 5, 2) := by decide +kernel
theorem dX8_chooseFrom_106 : decode cX8_chooseFrom 106 = .ok (.aload_n 0, 1) := by decide +kernel
theorem dX8_chooseFrom_107 : decode cX8_chooseFrom 107 = .ok (.getfield 41, 3) := by decide +kernel
theorem dX8_chooseFrom_110 : decode cX8_chooseFrom 110 = .ok (.if_icmp .lt 6, 3) := by decide +kernel
theorem dX8_chooseFrom_113 : decode cX8_chooseFrom 113 = .ok (.goto 25, 3) := by decide +kernel
theorem dX8_chooseFrom_116 : decode cX8_chooseFrom 116 = .ok (.iload 4, 2) := by decide +kernel
theorem dX8_chooseFrom_118 : decode cX8_chooseFrom 118 = .ok (.ifCond .le 14, 3) := by decide +kernel
theorem dX8_chooseFrom_121 : decode cX8_chooseFrom 121 = .ok (.aload_n 0, 1) := by decide +kernel
theorem dX8_chooseFrom_122 : decode cX8_chooseFrom 122 = .ok (.aload_n 1, 1) := by decide +kernel
theorem dX8_chooseFrom_123 : decode cX8_chooseFrom 123 = .ok (.iload_n 2, 1) := by decide +kernel
theorem dX8_chooseFrom_124 : decode cX8_chooseFrom 124 = .ok (.iconst 1, 1) := by decide +kernel
theorem dX8_chooseFrom_125 : decode cX8_chooseFrom 125 = .ok (.iadd, 1) := by decide +kernel
theorem dX8_chooseFrom_126 : decode cX8_chooseFrom 126 = .ok (.invokevirtual 45, 3) := by decide +kernel
theorem dX8_chooseFrom_129 : decode cX8_chooseFrom 129 = .ok (.goto 9, 3) := by decide +kernel
theorem dX8_chooseFrom_132 : decode cX8_chooseFrom 132 = .ok (.aload_n 0, 1) := by decide +kernel
theorem dX8_chooseFrom_133 : decode cX8_chooseFrom 133 = .ok (.iload 5, 2) := by decide +kernel
theorem dX8_chooseFrom_135 : decode cX8_chooseFrom 135 = .ok (.invokevirtual 65, 3) := by decide +kernel
theorem dX8_chooseFrom_138 : decode cX8_chooseFrom 138 = .ok (.iinc 3 1, 3) := by decide +kernel
theorem dX8_chooseFrom_141 : decode cX8_chooseFrom 141 = .ok (.goto (-128), 3) := by decide +kernel
theorem dX8_chooseFrom_144 : decode cX8_chooseFrom 144 = .ok (.return_, 1) := by decide +kernel
theorem dX8_leastPossibleEnd_0 : decode cX8_leastPossibleEnd 0 = .ok (.iconst 0, 1) := by decide +kernel
theorem dX8_leastPossibleEnd_1 : decode cX8_leastPossibleEnd 1 = .ok (.istore 4, 2) := by decide +kernel
theorem dX8_leastPossibleEnd_3 : decode cX8_leastPossibleEnd 3 = .ok (.iconst 0, 1) := by decide +kernel
theorem dX8_leastPossibleEnd_4 : decode cX8_leastPossibleEnd 4 = .ok (.istore 5, 2) := by decide +kernel
theorem dX8_leastPossibleEnd_6 : decode cX8_leastPossibleEnd 6 = .ok (.iload 5, 2) := by decide +kernel
theorem dX8_leastPossibleEnd_8 : decode cX8_leastPossibleEnd 8 = .ok (.aload_n 1, 1) := by decide +kernel
theorem dX8_leastPossibleEnd_9 : decode cX8_leastPossibleEnd 9 = .ok (.getfield 49, 3) := by decide +kernel
theorem dX8_leastPossibleEnd_12 : decode cX8_leastPossibleEnd 12 = .ok (.if_icmp .ge 37, 3) := by decide +kernel
theorem dX8_leastPossibleEnd_15 : decode cX8_leastPossibleEnd 15 = .ok (.iload 5, 2) := by decide +kernel
theorem dX8_leastPossibleEnd_17 : decode cX8_leastPossibleEnd 17 = .ok (.bipush 6, 2) := by decide +kernel
theorem dX8_leastPossibleEnd_19 : decode cX8_leastPossibleEnd 19 = .ok (.if_icmp .ge 30, 3) := by decide +kernel
theorem dX8_leastPossibleEnd_22 : decode cX8_leastPossibleEnd 22 = .ok (.iload 4, 2) := by decide +kernel
theorem dX8_leastPossibleEnd_24 : decode cX8_leastPossibleEnd 24 = .ok (.aload_n 2, 1) := by decide +kernel
theorem dX8_leastPossibleEnd_25 : decode cX8_leastPossibleEnd 25 = .ok (.iload 5, 2) := by decide +kernel
theorem dX8_leastPossibleEnd_27 : decode cX8_leastPossibleEnd 27 = .ok (.iaload, 1) := by decide +kernel
theorem dX8_leastPossibleEnd_28 : decode cX8_leastPossibleEnd 28 = .ok (.aload_n 1, 1) := by decide +kernel
theorem dX8_leastPossibleEnd_29 : decode cX8_leastPossibleEnd 29 = .ok (.getfield 69, 3) := by decide +kernel
theorem dX8_leastPossibleEnd_32 : decode cX8_leastPossibleEnd 32 = .ok (.iload 5, 2) := by decide +kernel
theorem dX8_leastPossibleEnd_34 : decode cX8_leastPossibleEnd 34 = .ok (.iaload, 1) := by decide +kernel
theorem dX8_leastPossibleEnd_35 : decode cX8_leastPossibleEnd 35 = .ok (.iload_n 3, 1) := by decide +kernel
theorem dX8_leastPossibleEnd_36 : decode cX8_leastPossibleEnd 36 = .ok (.imul, 1) := by decide +kernel
theorem dX8_leastPossibleEnd_37 : decode cX8_leastPossibleEnd 37 = .ok (.isub, 1) := by decide +kernel
theorem dX8_leastPossibleEnd_38 : decode cX8_leastPossibleEnd 38 = .ok (.invokestatic 72, 3) := by decide +kernel
theorem dX8_leastPossibleEnd_41 : decode cX8_leastPossibleEnd 41 = .ok (.istore 4, 2) := by decide +kernel
theorem dX8_leastPossibleEnd_43 : decode cX8_leastPossibleEnd 43 = .ok (.iinc 5 1, 3) := by decide +kernel
theorem dX8_leastPossibleEnd_46 : decode cX8_leastPossibleEnd 46 = .ok (.goto (-40), 3) := by decide +kernel
theorem dX8_leastPossibleEnd_49 : decode cX8_leastPossibleEnd 49 = .ok (.iload 4, 2) := by decide +kernel
theorem dX8_leastPossibleEnd_51 : decode cX8_leastPossibleEnd 51 = .ok (.ireturn, 1) := by decide +kernel
theorem dX8_takeChosen_0 : decode cX8_takeChosen 0 = .ok (.aload_n 0, 1) := by decide +kernel
theorem dX8_takeChosen_1 : decode cX8_takeChosen 1 = .ok (.iload_n 1, 1) := by decide +kernel
theorem dX8_takeChosen_2 : decode cX8_takeChosen 2 = .ok (.putfield 41, 3) := by decide +kernel
theorem dX8_takeChosen_5 : decode cX8_takeChosen 5 = .ok (.aload_n 0, 1) := by decide +kernel
theorem dX8_takeChosen_6 : decode cX8_takeChosen 6 = .ok (.getfield 20, 3) := by decide +kernel
theorem dX8_takeChosen_9 : decode cX8_takeChosen 9 = .ok (.iconst 0, 1) := by decide +kernel
theorem dX8_takeChosen_10 : decode cX8_takeChosen 10 = .ok (.aload_n 0, 1) := by decide +kernel
theorem dX8_takeChosen_11 : decode cX8_takeChosen 11 = .ok (.getfield 9, 3) := by decide +kernel
theorem dX8_takeChosen_14 : decode cX8_takeChosen 14 = .ok (.iconst 0, 1) := by decide +kernel
theorem dX8_takeChosen_15 : decode cX8_takeChosen 15 = .ok (.bipush 6, 2) := by decide +kernel
theorem dX8_takeChosen_17 : decode cX8_takeChosen 17 = .ok (.invokestatic 31, 3) := by decide +kernel
theorem dX8_takeChosen_20 : decode cX8_takeChosen 20 = .ok (.return_, 1) := by decide +kernel
theorem dX8_nodsWithBell_0 : decode cX8_nodsWithBell 0 = .ok (.aload_n 0, 1) := by decide +kernel
theorem dX8_nodsWithBell_1 : decode cX8_nodsWithBell 1 = .ok (.aload_n 2, 1) := by decide +kernel
theorem dX8_nodsWithBell_2 : decode cX8_nodsWithBell 2 = .ok (.invokevirtual 37, 3) := by decide +kernel
theorem dX8_nodsWithBell_5 : decode cX8_nodsWithBell 5 = .ok (.aload_n 0, 1) := by decide +kernel
theorem dX8_nodsWithBell_6 : decode cX8_nodsWithBell 6 = .ok (.aload_n 1, 1) := by decide +kernel
theorem dX8_nodsWithBell_7 : decode cX8_nodsWithBell 7 = .ok (.iload_n 3, 1) := by decide +kernel
theorem dX8_nodsWithBell_8 : decode cX8_nodsWithBell 8 = .ok (.invokevirtual 78, 3) := by decide +kernel
theorem dX8_nodsWithBell_11 : decode cX8_nodsWithBell 11 = .ok (.ireturn, 1) := by decide +kernel
theorem dX8_nodsWithCoffee_0 : decode cX8_nodsWithCoffee 0 = .ok (.aload_n 0, 1) := by decide +kernel
theorem dX8_nodsWithCoffee_1 : decode cX8_nodsWithCoffee 1 = .ok (.aload_n 2, 1) := by decide +kernel
theorem dX8_nodsWithCoffee_2 : decode cX8_nodsWithCoffee 2 = .ok (.invokevirtual 37, 3) := by decide +kernel
theorem dX8_nodsWithCoffee_5 : decode cX8_nodsWithCoffee 5 = .ok (.iload_n 3, 1) := by decide +kernel
theorem dX8_nodsWithCoffee_6 : decode cX8_nodsWithCoffee 6 = .ok (.ifCond .lt 28, 3) := by decide +kernel
theorem dX8_nodsWithCoffee_9 : decode cX8_nodsWithCoffee 9 = .ok (.iload_n 3, 1) := by decide +kernel
theorem dX8_nodsWithCoffee_10 : decode cX8_nodsWithCoffee 10 = .ok (.bipush 6, 2) := by decide +kernel
theorem dX8_nodsWithCoffee_12 : decode cX8_nodsWithCoffee 12 = .ok (.if_icmp .ge 22, 3) := by decide +kernel
theorem dX8_nodsWithCoffee_15 : decode cX8_nodsWithCoffee 15 = .ok (.aload_n 0, 1) := by decide +kernel
theorem dX8_nodsWithCoffee_16 : decode cX8_nodsWithCoffee 16 = .ok (.getfield 17, 3) := by decide +kernel
theorem dX8_nodsWithCoffee_19 : decode cX8_nodsWithCoffee 19 = .ok (.iconst 0, 1) := by decide +kernel
theorem dX8_nodsWithCoffee_20 : decode cX8_nodsWithCoffee 20 = .ok (.aaload, 1) := by decide +kernel
theorem dX8_nodsWithCoffee_21 : decode cX8_nodsWithCoffee 21 = .ok (.iload_n 3, 1) := by decide +kernel
theorem dX8_nodsWithCoffee_22 : decode cX8_nodsWithCoffee 22 = .ok (.aload_n 0, 1) := by decide +kernel
theorem dX8_nodsWithCoffee_23 : decode cX8_nodsWithCoffee 23 = .ok (.getfield 17, 3) := by decide +kernel
theorem dX8_nodsWithCoffee_26 : decode cX8_nodsWithCoffee 26 = .ok (.iconst 0, 1) := by decide +kernel
theorem dX8_nodsWithCoffee_27 : decode cX8_nodsWithCoffee 27 = .ok (.aaload, 1) := by decide +kernel
theorem dX8_nodsWithCoffee_28 : decode cX8_nodsWithCoffee 28 = .ok (.iload_n 3, 1) := by decide +kernel
theorem dX8_nodsWithCoffee_29 : decode cX8_nodsWithCoffee 29 = .ok (.iaload, 1) := by decide +kernel
theorem dX8_nodsWithCoffee_30 : decode cX8_nodsWithCoffee 30 = .ok (.invokestatic 82, 3) := by decide +kernel
theorem dX8_nodsWithCoffee_33 : decode cX8_nodsWithCoffee 33 = .ok (.iastore, 1) := by decide +kernel
theorem dX8_nodsWithCoffee_34 : decode cX8_nodsWithCoffee 34 = .ok (.aload_n 0, 1) := by decide +kernel
theorem dX8_nodsWithCoffee_35 : decode cX8_nodsWithCoffee 35 = .ok (.aload_n 1, 1) := by decide +kernel
theorem dX8_nodsWithCoffee_36 : decode cX8_nodsWithCoffee 36 = .ok (.iconst (-1), 1) := by decide +kernel
theorem dX8_nodsWithCoffee_37 : decode cX8_nodsWithCoffee 37 = .ok (.invokevirtual 78, 3) := by decide +kernel
theorem dX8_nodsWithCoffee_40 : decode cX8_nodsWithCoffee 40 = .ok (.ireturn, 1) := by decide +kernel
theorem dX8_nodsOfAll_0 : decode cX8_nodsOfAll 0 = .ok (.iconst 0, 1) := by decide +kernel
theorem dX8_nodsOfAll_1 : decode cX8_nodsOfAll 1 = .ok (.istore_n 3, 1) := by decide +kernel
theorem dX8_nodsOfAll_2 : decode cX8_nodsOfAll 2 = .ok (.iconst 0, 1) := by decide +kernel
theorem dX8_nodsOfAll_3 : decode cX8_nodsOfAll 3 = .ok (.istore 4, 2) := by decide +kernel
theorem dX8_nodsOfAll_5 : decode cX8_nodsOfAll 5 = .ok (.iload 4, 2) := by decide +kernel
theorem dX8_nodsOfAll_7 : decode cX8_nodsOfAll 7 = .ok (.aload_n 1, 1) := by decide +kernel
theorem dX8_nodsOfAll_8 : decode cX8_nodsOfAll 8 = .ok (.getfield 58, 3) := by decide +kernel
theorem dX8_nodsOfAll_11 : decode cX8_nodsOfAll 11 = .ok (.if_icmp .ge 47, 3) := by decide +kernel
theorem dX8_nodsOfAll_14 : decode cX8_nodsOfAll 14 = .ok (.iload 4, 2) := by decide +kernel
theorem dX8_nodsOfAll_16 : decode cX8_nodsOfAll 16 = .ok (.bipush 6, 2) := by decide +kernel
theorem dX8_nodsOfAll_18 : decode cX8_nodsOfAll 18 = .ok (.if_icmp .ge 40, 3) := by decide +kernel
theorem dX8_nodsOfAll_21 : decode cX8_nodsOfAll 21 = .ok (.iload_n 3, 1) := by decide +kernel
theorem dX8_nodsOfAll_22 : decode cX8_nodsOfAll 22 = .ok (.aload_n 1, 1) := by decide +kernel
theorem dX8_nodsOfAll_23 : decode cX8_nodsOfAll 23 = .ok (.aload_n 0, 1) := by decide +kernel
theorem dX8_nodsOfAll_24 : decode cX8_nodsOfAll 24 = .ok (.getfield 17, 3) := by decide +kernel
theorem dX8_nodsOfAll_27 : decode cX8_nodsOfAll 27 = .ok (.iconst 0, 1) := by decide +kernel
theorem dX8_nodsOfAll_28 : decode cX8_nodsOfAll 28 = .ok (.aaload, 1) := by decide +kernel
theorem dX8_nodsOfAll_29 : decode cX8_nodsOfAll 29 = .ok (.aload_n 1, 1) := by decide +kernel
theorem dX8_nodsOfAll_30 : decode cX8_nodsOfAll 30 = .ok (.invokevirtual 86, 3) := by decide +kernel
theorem dX8_nodsOfAll_33 : decode cX8_nodsOfAll 33 = .ok (.iload 4, 2) := by decide +kernel
theorem dX8_nodsOfAll_35 : decode cX8_nodsOfAll 35 = .ok (.iload_n 2, 1) := by decide +kernel
theorem dX8_nodsOfAll_36 : decode cX8_nodsOfAll 36 = .ok (.if_icmp .ne 7, 3) := by decide +kernel
theorem dX8_nodsOfAll_39 : decode cX8_nodsOfAll 39 = .ok (.iconst 1, 1) := by decide +kernel
theorem dX8_nodsOfAll_40 : decode cX8_nodsOfAll 40 = .ok (.goto 4, 3) := by decide +kernel
theorem dX8_nodsOfAll_43 : decode cX8_nodsOfAll 43 = .ok (.iconst 0, 1) := by decide +kernel
theorem dX8_nodsOfAll_44 : decode cX8_nodsOfAll 44 = .ok (.invokevirtual 54, 3) := by decide +kernel
theorem dX8_nodsOfAll_47 : decode cX8_nodsOfAll 47 = .ok (.invokestatic 90, 3) := by decide +kernel
theorem dX8_nodsOfAll_50 : decode cX8_nodsOfAll 50 = .ok (.iadd, 1) := by decide +kernel
theorem dX8_nodsOfAll_51 : decode cX8_nodsOfAll 51 = .ok (.istore_n 3, 1) := by decide +kernel
theorem dX8_nodsOfAll_52 : decode cX8_nodsOfAll 52 = .ok (.iinc 4 1, 3) := by decide +kernel
theorem dX8_nodsOfAll_55 : decode cX8_nodsOfAll 55 = .ok (.goto (-50), 3) := by decide +kernel
theorem dX8_nodsOfAll_58 : decode cX8_nodsOfAll 58 = .ok (.iload_n 3, 1) := by decide +kernel
theorem dX8_nodsOfAll_59 : decode cX8_nodsOfAll 59 = .ok (.ireturn, 1) := by decide +kernel
theorem dX8_nightsOf_0 : decode cX8_nightsOf 0 = .ok (.aload_n 1, 1) := by decide +kernel
theorem dX8_nightsOf_1 : decode cX8_nightsOf 1 = .ok (.iload_n 3, 1) := by decide +kernel
theorem dX8_nightsOf_2 : decode cX8_nightsOf 2 = .ok (.invokevirtual 95, 3) := by decide +kernel
theorem dX8_nightsOf_5 : decode cX8_nightsOf 5 = .ok (.ifCond .eq 10, 3) := by decide +kernel
theorem dX8_nightsOf_8 : decode cX8_nightsOf 8 = .ok (.aload_n 1, 1) := by decide +kernel
theorem dX8_nightsOf_9 : decode cX8_nightsOf 9 = .ok (.getfield 58, 3) := by decide +kernel
theorem dX8_nightsOf_12 : decode cX8_nightsOf 12 = .ok (.ifCond .gt 5, 3) := by decide +kernel
theorem dX8_nightsOf_15 : decode cX8_nightsOf 15 = .ok (.iconst (-1), 1) := by decide +kernel
theorem dX8_nightsOf_16 : decode cX8_nightsOf 16 = .ok (.ireturn, 1) := by decide +kernel
theorem dX8_nightsOf_17 : decode cX8_nightsOf 17 = .ok (.aload_n 2, 1) := by decide +kernel
theorem dX8_nightsOf_18 : decode cX8_nightsOf 18 = .ok (.getfield 26, 3) := by decide +kernel
theorem dX8_nightsOf_21 : decode cX8_nightsOf 21 = .ok (.iload_n 3, 1) := by decide +kernel
theorem dX8_nightsOf_22 : decode cX8_nightsOf 22 = .ok (.iaload, 1) := by decide +kernel
theorem dX8_nightsOf_23 : decode cX8_nightsOf 23 = .ok (.istore 4, 2) := by decide +kernel
theorem dX8_nightsOf_25 : decode cX8_nightsOf 25 = .ok (.iconst 0, 1) := by decide +kernel
theorem dX8_nightsOf_26 : decode cX8_nightsOf 26 = .ok (.istore 5, 2) := by decide +kernel
theorem dX8_nightsOf_28 : decode cX8_nightsOf 28 = .ok (.iload 5, 2) := by decide +kernel
theorem dX8_nightsOf_30 : decode cX8_nightsOf 30 = .ok (.bipush 100, 2) := by decide +kernel
theorem dX8_nightsOf_32 : decode cX8_nightsOf 32 = .ok (.aload_n 1, 1) := by decide +kernel
theorem dX8_nightsOf_33 : decode cX8_nightsOf 33 = .ok (.getfield 58, 3) := by decide +kernel
theorem dX8_nightsOf_36 : decode cX8_nightsOf 36 = .ok (.imul, 1) := by decide +kernel
theorem dX8_nightsOf_37 : decode cX8_nightsOf 37 = .ok (.if_icmp .ge 45, 3) := by decide +kernel
theorem dX8_nightsOf_40 : decode cX8_nightsOf 40 = .ok (.sipush 199, 3) := by decide +kernel
theorem dX8_nightsOf_43 : decode cX8_nightsOf 43 = .ok (.iload 4, 2) := by decide +kernel
theorem dX8_nightsOf_45 : decode cX8_nightsOf 45 = .ok (.aload_n 1, 1) := by decide +kernel
theorem dX8_nightsOf_46 : decode cX8_nightsOf 46 = .ok (.getfield 99, 3) := by decide +kernel
theorem dX8_nightsOf_49 : decode cX8_nightsOf 49 = .ok (.iload_n 3, 1) := by decide +kernel
theorem dX8_nightsOf_50 : decode cX8_nightsOf 50 = .ok (.iaload, 1) := by decide +kernel
theorem dX8_nightsOf_51 : decode cX8_nightsOf 51 = .ok (.iadd, 1) := by decide +kernel
theorem dX8_nightsOf_52 : decode cX8_nightsOf 52 = .ok (.invokestatic 102, 3) := by decide +kernel
theorem dX8_nightsOf_55 : decode cX8_nightsOf 55 = .ok (.istore 4, 2) := by decide +kernel
theorem dX8_nightsOf_57 : decode cX8_nightsOf 57 = .ok (.iload 4, 2) := by decide +kernel
theorem dX8_nightsOf_59 : decode cX8_nightsOf 59 = .ok (.aload_n 1, 1) := by decide +kernel
theorem dX8_nightsOf_60 : decode cX8_nightsOf 60 = .ok (.getfield 105, 3) := by decide +kernel
theorem dX8_nightsOf_63 : decode cX8_nightsOf 63 = .ok (.iload_n 3, 1) := by decide +kernel
theorem dX8_nightsOf_64 : decode cX8_nightsOf 64 = .ok (.iaload, 1) := by decide +kernel
theorem dX8_nightsOf_65 : decode cX8_nightsOf 65 = .ok (.if_icmp .le 11, 3) := by decide +kernel
theorem dX8_nightsOf_68 : decode cX8_nightsOf 68 = .ok (.iload 5, 2) := by decide +kernel
theorem dX8_nightsOf_70 : decode cX8_nightsOf 70 = .ok (.aload_n 1, 1) := by decide +kernel
theorem dX8_nightsOf_71 : decode cX8_nightsOf 71 = .ok (.getfield 58, 3) := by decide +kernel
theorem dX8_nightsOf_74 : decode cX8_nightsOf 74 = .ok (.idiv, 1) := by decide +kernel
theorem dX8_nightsOf_75 : decode cX8_nightsOf 75 = .ok (.ireturn, 1) := by decide +kernel
theorem dX8_nightsOf_76 : decode cX8_nightsOf 76 = .ok (.iinc 5 1, 3) := by decide +kernel
theorem dX8_nightsOf_79 : decode cX8_nightsOf 79 = .ok (.goto (-51), 3) := by decide +kernel
theorem dX8_nightsOf_82 : decode cX8_nightsOf 82 = .ok (.iconst (-1), 1) := by decide +kernel
theorem dX8_nightsOf_83 : decode cX8_nightsOf 83 = .ok (.ireturn, 1) := by decide +kernel
theorem dX8_fewestHolding_0 : decode cX8_fewestHolding 0 = .ok (.aload_n 0, 1) := by decide +kernel
theorem dX8_fewestHolding_1 : decode cX8_fewestHolding 1 = .ok (.aload_n 2, 1) := by decide +kernel
theorem dX8_fewestHolding_2 : decode cX8_fewestHolding 2 = .ok (.invokevirtual 37, 3) := by decide +kernel
theorem dX8_fewestHolding_5 : decode cX8_fewestHolding 5 = .ok (.iconst 0, 1) := by decide +kernel
theorem dX8_fewestHolding_6 : decode cX8_fewestHolding 6 = .ok (.istore_n 3, 1) := by decide +kernel
theorem dX8_fewestHolding_7 : decode cX8_fewestHolding 7 = .ok (.iload_n 3, 1) := by decide +kernel
theorem dX8_fewestHolding_8 : decode cX8_fewestHolding 8 = .ok (.aload_n 1, 1) := by decide +kernel
theorem dX8_fewestHolding_9 : decode cX8_fewestHolding 9 = .ok (.getfield 58, 3) := by decide +kernel
theorem dX8_fewestHolding_12 : decode cX8_fewestHolding 12 = .ok (.if_icmp .ge 43, 3) := by decide +kernel
theorem dX8_fewestHolding_15 : decode cX8_fewestHolding 15 = .ok (.iload_n 3, 1) := by decide +kernel
theorem dX8_fewestHolding_16 : decode cX8_fewestHolding 16 = .ok (.bipush 6, 2) := by decide +kernel
theorem dX8_fewestHolding_18 : decode cX8_fewestHolding 18 = .ok (.if_icmp .ge 37, 3) := by decide +kernel
theorem dX8_fewestHolding_21 : decode cX8_fewestHolding 21 = .ok (.aload_n 0, 1) := by decide +kernel
theorem dX8_fewestHolding_22 : decode cX8_fewestHolding 22 = .ok (.getfield 23, 3) := by decide +kernel
theorem dX8_fewestHolding_25 : decode cX8_fewestHolding 25 = .ok (.iload_n 3, 1) := by decide +kernel
theorem dX8_fewestHolding_26 : decode cX8_fewestHolding 26 = .ok (.aload_n 1, 1) := by decide +kernel
theorem dX8_fewestHolding_27 : decode cX8_fewestHolding 27 = .ok (.invokevirtual 86, 3) := by decide +kernel
theorem dX8_fewestHolding_30 : decode cX8_fewestHolding 30 = .ok (.aload_n 1, 1) := by decide +kernel
theorem dX8_fewestHolding_31 : decode cX8_fewestHolding 31 = .ok (.aload_n 0, 1) := by decide +kernel
theorem dX8_fewestHolding_32 : decode cX8_fewestHolding 32 = .ok (.getfield 17, 3) := by decide +kernel
theorem dX8_fewestHolding_35 : decode cX8_fewestHolding 35 = .ok (.iconst 0, 1) := by decide +kernel
theorem dX8_fewestHolding_36 : decode cX8_fewestHolding 36 = .ok (.aaload, 1) := by decide +kernel
theorem dX8_fewestHolding_37 : decode cX8_fewestHolding 37 = .ok (.aload_n 1, 1) := by decide +kernel
theorem dX8_fewestHolding_38 : decode cX8_fewestHolding 38 = .ok (.invokevirtual 86, 3) := by decide +kernel
theorem dX8_fewestHolding_41 : decode cX8_fewestHolding 41 = .ok (.iconst 0, 1) := by decide +kernel
theorem dX8_fewestHolding_42 : decode cX8_fewestHolding 42 = .ok (.invokevirtual 54, 3) := by decide +kernel
theorem dX8_fewestHolding_45 : decode cX8_fewestHolding 45 = .ok (.iconst (-1), 1) := by decide +kernel
theorem dX8_fewestHolding_46 : decode cX8_fewestHolding 46 = .ok (.ixor, 1) := by decide +kernel
theorem dX8_fewestHolding_47 : decode cX8_fewestHolding 47 = .ok (.iand, 1) := by decide +kernel
theorem dX8_fewestHolding_48 : decode cX8_fewestHolding 48 = .ok (.iastore, 1) := by decide +kernel
theorem dX8_fewestHolding_49 : decode cX8_fewestHolding 49 = .ok (.iinc 3 1, 3) := by decide +kernel
theorem dX8_fewestHolding_52 : decode cX8_fewestHolding 52 = .ok (.goto (-45), 3) := by decide +kernel
theorem dX8_fewestHolding_55 : decode cX8_fewestHolding 55 = .ok (.iconst (-1), 1) := by decide +kernel
theorem dX8_fewestHolding_56 : decode cX8_fewestHolding 56 = .ok (.istore_n 3, 1) := by decide +kernel
theorem dX8_fewestHolding_57 : decode cX8_fewestHolding 57 = .ok (.iconst 0, 1) := by decide +kernel
theorem dX8_fewestHolding_58 : decode cX8_fewestHolding 58 = .ok (.istore 4, 2) := by decide +kernel
theorem dX8_fewestHolding_60 : decode cX8_fewestHolding 60 = .ok (.iload 4, 2) := by decide +kernel
theorem dX8_fewestHolding_62 : decode cX8_fewestHolding 62 = .ok (.aload_n 1, 1) := by decide +kernel
theorem dX8_fewestHolding_63 : decode cX8_fewestHolding 63 = .ok (.invokevirtual 86, 3) := by decide +kernel
theorem dX8_fewestHolding_66 : decode cX8_fewestHolding 66 = .ok (.if_icmp .gt 49, 3) := by decide +kernel
theorem dX8_fewestHolding_69 : decode cX8_fewestHolding 69 = .ok (.iload 4, 2) := by decide +kernel
theorem dX8_fewestHolding_71 : decode cX8_fewestHolding 71 = .ok (.bipush 64, 2) := by decide +kernel
theorem dX8_fewestHolding_73 : decode cX8_fewestHolding 73 = .ok (.if_icmp .ge 42, 3) := by decide +kernel
theorem dX8_fewestHolding_76 : decode cX8_fewestHolding 76 = .ok (.aload_n 0, 1) := by decide +kernel
theorem dX8_fewestHolding_77 : decode cX8_fewestHolding 77 = .ok (.aload_n 1, 1) := by decide +kernel
theorem dX8_fewestHolding_78 : decode cX8_fewestHolding 78 = .ok (.iload 4, 2) := by decide +kernel
theorem dX8_fewestHolding_80 : decode cX8_fewestHolding 80 = .ok (.invokevirtual 108, 3) := by decide +kernel
theorem dX8_fewestHolding_83 : decode cX8_fewestHolding 83 = .ok (.ifCond .ne 6, 3) := by decide +kernel
theorem dX8_fewestHolding_86 : decode cX8_fewestHolding 86 = .ok (.goto 23, 3) := by decide +kernel
theorem dX8_fewestHolding_89 : decode cX8_fewestHolding 89 = .ok (.iload_n 3, 1) := by decide +kernel
theorem dX8_fewestHolding_90 : decode cX8_fewestHolding 90 = .ok (.iconst (-1), 1) := by decide +kernel
theorem dX8_fewestHolding_91 : decode cX8_fewestHolding 91 = .ok (.if_icmp .eq 15, 3) := by decide +kernel
theorem dX8_fewestHolding_94 : decode cX8_fewestHolding 94 = .ok (.iload 4, 2) := by decide +kernel
theorem dX8_fewestHolding_96 : decode cX8_fewestHolding 96 = .ok (.invokestatic 90, 3) := by decide +kernel
theorem dX8_fewestHolding_99 : decode cX8_fewestHolding 99 = .ok (.iload_n 3, 1) := by decide +kernel
theorem dX8_fewestHolding_100 : decode cX8_fewestHolding 100 = .ok (.invokestatic 90, 3) := by decide +kernel
theorem dX8_fewestHolding_103 : decode cX8_fewestHolding 103 = .ok (.if_icmp .ge 6, 3) := by decide +kernel
theorem dX8_fewestHolding_106 : decode cX8_fewestHolding 106 = .ok (.iload 4, 2) := by decide +kernel
theorem dX8_fewestHolding_108 : decode cX8_fewestHolding 108 = .ok (.istore_n 3, 1) := by decide +kernel
theorem dX8_fewestHolding_109 : decode cX8_fewestHolding 109 = .ok (.iinc 4 1, 3) := by decide +kernel
theorem dX8_fewestHolding_112 : decode cX8_fewestHolding 112 = .ok (.goto (-52), 3) := by decide +kernel
theorem dX8_fewestHolding_115 : decode cX8_fewestHolding 115 = .ok (.iload_n 3, 1) := by decide +kernel
theorem dX8_fewestHolding_116 : decode cX8_fewestHolding 116 = .ok (.ireturn, 1) := by decide +kernel
theorem dX8_holds_0 : decode cX8_holds 0 = .ok (.iconst 0, 1) := by decide +kernel
theorem dX8_holds_1 : decode cX8_holds 1 = .ok (.istore_n 3, 1) := by decide +kernel
theorem dX8_holds_2 : decode cX8_holds 2 = .ok (.iload_n 3, 1) := by decide +kernel
theorem dX8_holds_3 : decode cX8_holds 3 = .ok (.aload_n 1, 1) := by decide +kernel
theorem dX8_holds_4 : decode cX8_holds 4 = .ok (.getfield 58, 3) := by decide +kernel
theorem dX8_holds_7 : decode cX8_holds 7 = .ok (.if_icmp .ge 28, 3) := by decide +kernel
theorem dX8_holds_10 : decode cX8_holds 10 = .ok (.iload_n 3, 1) := by decide +kernel
theorem dX8_holds_11 : decode cX8_holds 11 = .ok (.bipush 6, 2) := by decide +kernel
theorem dX8_holds_13 : decode cX8_holds 13 = .ok (.if_icmp .ge 22, 3) := by decide +kernel
theorem dX8_holds_16 : decode cX8_holds 16 = .ok (.iload_n 2, 1) := by decide +kernel
theorem dX8_holds_17 : decode cX8_holds 17 = .ok (.aload_n 0, 1) := by decide +kernel
theorem dX8_holds_18 : decode cX8_holds 18 = .ok (.getfield 23, 3) := by decide +kernel
theorem dX8_holds_21 : decode cX8_holds 21 = .ok (.iload_n 3, 1) := by decide +kernel
theorem dX8_holds_22 : decode cX8_holds 22 = .ok (.iaload, 1) := by decide +kernel
theorem dX8_holds_23 : decode cX8_holds 23 = .ok (.iand, 1) := by decide +kernel
theorem dX8_holds_24 : decode cX8_holds 24 = .ok (.ifCond .ne 5, 3) := by decide +kernel
theorem dX8_holds_27 : decode cX8_holds 27 = .ok (.iconst 0, 1) := by decide +kernel
theorem dX8_holds_28 : decode cX8_holds 28 = .ok (.ireturn, 1) := by decide +kernel
theorem dX8_holds_29 : decode cX8_holds 29 = .ok (.iinc 3 1, 3) := by decide +kernel
theorem dX8_holds_32 : decode cX8_holds 32 = .ok (.goto (-30), 3) := by decide +kernel
theorem dX8_holds_35 : decode cX8_holds 35 = .ok (.iconst 1, 1) := by decide +kernel
theorem dX8_holds_36 : decode cX8_holds 36 = .ok (.ireturn, 1) := by decide +kernel
