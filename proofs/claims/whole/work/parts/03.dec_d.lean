theorem dX10_coffee_57 : decode cX10_coffee 57 = .ok (.dup2, 1) := by decide +kernel
theorem dX10_coffee_58 : decode cX10_coffee 58 = .ok (.iaload, 1) := by decide +kernel
theorem dX10_coffee_59 : decode cX10_coffee 59 = .ok (.iconst 1, 1) := by decide +kernel
theorem dX10_coffee_60 : decode cX10_coffee 60 = .ok (.iload_n 1, 1) := by decide +kernel
theorem dX10_coffee_61 : decode cX10_coffee 61 = .ok (.ishl, 1) := by decide +kernel
theorem dX10_coffee_62 : decode cX10_coffee 62 = .ok (.ior, 1) := by decide +kernel
theorem dX10_coffee_63 : decode cX10_coffee 63 = .ok (.iastore, 1) := by decide +kernel
theorem dX10_coffee_64 : decode cX10_coffee 64 = .ok (.aload_n 0, 1) := by decide +kernel
theorem dX10_coffee_65 : decode cX10_coffee 65 = .ok (.getfield 22, 3) := by decide +kernel
theorem dX10_coffee_68 : decode cX10_coffee 68 = .ok (.iload_n 1, 1) := by decide +kernel
theorem dX10_coffee_69 : decode cX10_coffee 69 = .ok (.iaload, 1) := by decide +kernel
theorem dX10_coffee_70 : decode cX10_coffee 70 = .ok (.ireturn, 1) := by decide +kernel
theorem dX10_hoursRefused_0 : decode cX10_hoursRefused 0 = .ok (.iload_n 1, 1) := by decide +kernel
theorem dX10_hoursRefused_1 : decode cX10_hoursRefused 1 = .ok (.i2l, 1) := by decide +kernel
theorem dX10_hoursRefused_2 : decode cX10_hoursRefused 2 = .ok (.lconst 1, 1) := by decide +kernel
theorem dX10_hoursRefused_3 : decode cX10_hoursRefused 3 = .ok (.ldc2_w 214, 3) := by decide +kernel
theorem dX10_hoursRefused_6 : decode cX10_hoursRefused 6 = .ok (.invokestatic 87, 3) := by decide +kernel
theorem dX10_hoursRefused_9 : decode cX10_hoursRefused 9 = .ok (.ifCond .ne 6, 3) := by decide +kernel
theorem dX10_hoursRefused_12 : decode cX10_hoursRefused 12 = .ok (.ldc 96, 2) := by decide +kernel
theorem dX10_hoursRefused_14 : decode cX10_hoursRefused 14 = .ok (.ireturn, 1) := by decide +kernel
theorem dX10_hoursRefused_15 : decode cX10_hoursRefused 15 = .ok (.aload_n 0, 1) := by decide +kernel
theorem dX10_hoursRefused_16 : decode cX10_hoursRefused 16 = .ok (.getfield 81, 3) := by decide +kernel
theorem dX10_hoursRefused_19 : decode cX10_hoursRefused 19 = .ok (.ifCond .ne 8, 3) := by decide +kernel
theorem dX10_hoursRefused_22 : decode cX10_hoursRefused 22 = .ok (.ldc 205, 2) := by decide +kernel
theorem dX10_hoursRefused_24 : decode cX10_hoursRefused 24 = .ok (.goto 21, 3) := by decide +kernel
theorem dX10_hoursRefused_27 : decode cX10_hoursRefused 27 = .ok (.aload_n 0, 1) := by decide +kernel
theorem dX10_hoursRefused_28 : decode cX10_hoursRefused 28 = .ok (.getfield 22, 3) := by decide +kernel
theorem dX10_hoursRefused_31 : decode cX10_hoursRefused 31 = .ok (.bipush 12, 2) := by decide +kernel
theorem dX10_hoursRefused_33 : decode cX10_hoursRefused 33 = .ok (.iaload, 1) := by decide +kernel
theorem dX10_hoursRefused_34 : decode cX10_hoursRefused 34 = .ok (.ldc 206, 2) := by decide +kernel
theorem dX10_hoursRefused_36 : decode cX10_hoursRefused 36 = .ok (.if_icmp .le 8, 3) := by decide +kernel
theorem dX10_hoursRefused_39 : decode cX10_hoursRefused 39 = .ok (.ldc 100, 2) := by decide +kernel
theorem dX10_hoursRefused_41 : decode cX10_hoursRefused 41 = .ok (.goto 4, 3) := by decide +kernel
theorem dX10_hoursRefused_44 : decode cX10_hoursRefused 44 = .ok (.iconst 0, 1) := by decide +kernel
theorem dX10_hoursRefused_45 : decode cX10_hoursRefused 45 = .ok (.ireturn, 1) := by decide +kernel
theorem dX10_rest_0 : decode cX10_rest 0 = .ok (.aload_n 0, 1) := by decide +kernel
theorem dX10_rest_1 : decode cX10_rest 1 = .ok (.iload_n 1, 1) := by decide +kernel
theorem dX10_rest_2 : decode cX10_rest 2 = .ok (.invokevirtual 216, 3) := by decide +kernel
theorem dX10_rest_5 : decode cX10_rest 5 = .ok (.istore_n 2, 1) := by decide +kernel
theorem dX10_rest_6 : decode cX10_rest 6 = .ok (.iload_n 2, 1) := by decide +kernel
theorem dX10_rest_7 : decode cX10_rest 7 = .ok (.ifCond .eq 5, 3) := by decide +kernel
theorem dX10_rest_10 : decode cX10_rest 10 = .ok (.iload_n 2, 1) := by decide +kernel
theorem dX10_rest_11 : decode cX10_rest 11 = .ok (.ireturn, 1) := by decide +kernel
theorem dX10_rest_12 : decode cX10_rest 12 = .ok (.aload_n 0, 1) := by decide +kernel
theorem dX10_rest_13 : decode cX10_rest 13 = .ok (.invokevirtual 207, 3) := by decide +kernel
theorem dX10_rest_16 : decode cX10_rest 16 = .ok (.iconst 0, 1) := by decide +kernel
theorem dX10_rest_17 : decode cX10_rest 17 = .ok (.istore_n 3, 1) := by decide +kernel
theorem dX10_rest_18 : decode cX10_rest 18 = .ok (.iload_n 3, 1) := by decide +kernel
theorem dX10_rest_19 : decode cX10_rest 19 = .ok (.iload_n 1, 1) := by decide +kernel
theorem dX10_rest_20 : decode cX10_rest 20 = .ok (.if_icmp .ge 34, 3) := by decide +kernel
theorem dX10_rest_23 : decode cX10_rest 23 = .ok (.aload_n 0, 1) := by decide +kernel
theorem dX10_rest_24 : decode cX10_rest 24 = .ok (.getfield 22, 3) := by decide +kernel
theorem dX10_rest_27 : decode cX10_rest 27 = .ok (.bipush 15, 2) := by decide +kernel
theorem dX10_rest_29 : decode cX10_rest 29 = .ok (.aload_n 0, 1) := by decide +kernel
theorem dX10_rest_30 : decode cX10_rest 30 = .ok (.iconst 0, 1) := by decide +kernel
theorem dX10_rest_31 : decode cX10_rest 31 = .ok (.iconst 0, 1) := by decide +kernel
theorem dX10_rest_32 : decode cX10_rest 32 = .ok (.invokevirtual 186, 3) := by decide +kernel
theorem dX10_rest_35 : decode cX10_rest 35 = .ok (.iastore, 1) := by decide +kernel
theorem dX10_rest_36 : decode cX10_rest 36 = .ok (.aload_n 0, 1) := by decide +kernel
theorem dX10_rest_37 : decode cX10_rest 37 = .ok (.getfield 22, 3) := by decide +kernel
theorem dX10_rest_40 : decode cX10_rest 40 = .ok (.bipush 16, 2) := by decide +kernel
theorem dX10_rest_42 : decode cX10_rest 42 = .ok (.iconst 0, 1) := by decide +kernel
theorem dX10_rest_43 : decode cX10_rest 43 = .ok (.iastore, 1) := by decide +kernel
theorem dX10_rest_44 : decode cX10_rest 44 = .ok (.aload_n 0, 1) := by decide +kernel
theorem dX10_rest_45 : decode cX10_rest 45 = .ok (.invokevirtual 199, 3) := by decide +kernel
theorem dX10_rest_48 : decode cX10_rest 48 = .ok (.iinc 3 1, 3) := by decide +kernel
theorem dX10_rest_51 : decode cX10_rest 51 = .ok (.goto (-33), 3) := by decide +kernel
theorem dX10_rest_54 : decode cX10_rest 54 = .ok (.aload_n 0, 1) := by decide +kernel
theorem dX10_rest_55 : decode cX10_rest 55 = .ok (.getfield 22, 3) := by decide +kernel
theorem dX10_rest_58 : decode cX10_rest 58 = .ok (.bipush 12, 2) := by decide +kernel
theorem dX10_rest_60 : decode cX10_rest 60 = .ok (.iaload, 1) := by decide +kernel
theorem dX10_rest_61 : decode cX10_rest 61 = .ok (.ireturn, 1) := by decide +kernel
theorem dX10_draw_0 : decode cX10_draw 0 = .ok (.aload_n 0, 1) := by decide +kernel
theorem dX10_draw_1 : decode cX10_draw 1 = .ok (.aload_n 0, 1) := by decide +kernel
theorem dX10_draw_2 : decode cX10_draw 2 = .ok (.getfield 219, 3) := by decide +kernel
theorem dX10_draw_5 : decode cX10_draw 5 = .ok (.i2l, 1) := by decide +kernel
theorem dX10_draw_6 : decode cX10_draw 6 = .ok (.ldc2_w 222, 3) := by decide +kernel
theorem dX10_draw_9 : decode cX10_draw 9 = .ok (.lmul, 1) := by decide +kernel
theorem dX10_draw_10 : decode cX10_draw 10 = .ok (.ldc2_w 224, 3) := by decide +kernel
theorem dX10_draw_13 : decode cX10_draw 13 = .ok (.ladd, 1) := by decide +kernel
theorem dX10_draw_14 : decode cX10_draw 14 = .ok (.ldc2_w 226, 3) := by decide +kernel
theorem dX10_draw_17 : decode cX10_draw 17 = .ok (.lrem, 1) := by decide +kernel
theorem dX10_draw_18 : decode cX10_draw 18 = .ok (.l2i, 1) := by decide +kernel
theorem dX10_draw_19 : decode cX10_draw 19 = .ok (.putfield 219, 3) := by decide +kernel
theorem dX10_draw_22 : decode cX10_draw 22 = .ok (.aload_n 0, 1) := by decide +kernel
theorem dX10_draw_23 : decode cX10_draw 23 = .ok (.getfield 219, 3) := by decide +kernel
theorem dX10_draw_26 : decode cX10_draw 26 = .ok (.ldc 228, 2) := by decide +kernel
theorem dX10_draw_28 : decode cX10_draw 28 = .ok (.idiv, 1) := by decide +kernel
theorem dX10_draw_29 : decode cX10_draw 29 = .ok (.iload_n 1, 1) := by decide +kernel
theorem dX10_draw_30 : decode cX10_draw 30 = .ok (.irem, 1) := by decide +kernel
theorem dX10_draw_31 : decode cX10_draw 31 = .ok (.ireturn, 1) := by decide +kernel
theorem dX10_drift_0 : decode cX10_drift 0 = .ok (.aload_n 0, 1) := by decide +kernel
theorem dX10_drift_1 : decode cX10_drift 1 = .ok (.iload_n 1, 1) := by decide +kernel
theorem dX10_drift_2 : decode cX10_drift 2 = .ok (.invokevirtual 216, 3) := by decide +kernel
theorem dX10_drift_5 : decode cX10_drift 5 = .ok (.istore_n 2, 1) := by decide +kernel
theorem dX10_drift_6 : decode cX10_drift 6 = .ok (.iload_n 2, 1) := by decide +kernel
theorem dX10_drift_7 : decode cX10_drift 7 = .ok (.ifCond .eq 5, 3) := by decide +kernel
theorem dX10_drift_10 : decode cX10_drift 10 = .ok (.iload_n 2, 1) := by decide +kernel
theorem dX10_drift_11 : decode cX10_drift 11 = .ok (.ireturn, 1) := by decide +kernel
theorem dX10_drift_12 : decode cX10_drift 12 = .ok (.aload_n 0, 1) := by decide +kernel
theorem dX10_drift_13 : decode cX10_drift 13 = .ok (.invokevirtual 207, 3) := by decide +kernel
theorem dX10_drift_16 : decode cX10_drift 16 = .ok (.iconst 0, 1) := by decide +kernel
theorem dX10_drift_17 : decode cX10_drift 17 = .ok (.istore_n 3, 1) := by decide +kernel
theorem dX10_drift_18 : decode cX10_drift 18 = .ok (.iload_n 3, 1) := by decide +kernel
theorem dX10_drift_19 : decode cX10_drift 19 = .ok (.iload_n 1, 1) := by decide +kernel
theorem dX10_drift_20 : decode cX10_drift 20 = .ok (.if_icmp .ge 40, 3) := by decide +kernel
theorem dX10_drift_23 : decode cX10_drift 23 = .ok (.aload_n 0, 1) := by decide +kernel
theorem dX10_drift_24 : decode cX10_drift 24 = .ok (.iconst 1, 1) := by decide +kernel
theorem dX10_drift_25 : decode cX10_drift 25 = .ok (.aload_n 0, 1) := by decide +kernel
theorem dX10_drift_26 : decode cX10_drift 26 = .ok (.getfield 84, 3) := by decide +kernel
theorem dX10_drift_29 : decode cX10_drift 29 = .ok (.ishl, 1) := by decide +kernel
theorem dX10_drift_30 : decode cX10_drift 30 = .ok (.invokevirtual 229, 3) := by decide +kernel
theorem dX10_drift_33 : decode cX10_drift 33 = .ok (.istore 4, 2) := by decide +kernel
theorem dX10_drift_35 : decode cX10_drift 35 = .ok (.aload_n 0, 1) := by decide +kernel
theorem dX10_drift_36 : decode cX10_drift 36 = .ok (.iload 4, 2) := by decide +kernel
theorem dX10_drift_38 : decode cX10_drift 38 = .ok (.aload_n 0, 1) := by decide +kernel
theorem dX10_drift_39 : decode cX10_drift 39 = .ok (.iconst 3, 1) := by decide +kernel
theorem dX10_drift_40 : decode cX10_drift 40 = .ok (.invokevirtual 229, 3) := by decide +kernel
theorem dX10_drift_43 : decode cX10_drift 43 = .ok (.ifCond .ne 7, 3) := by decide +kernel
theorem dX10_drift_46 : decode cX10_drift 46 = .ok (.iconst 1, 1) := by decide +kernel
theorem dX10_drift_47 : decode cX10_drift 47 = .ok (.goto 4, 3) := by decide +kernel
theorem dX10_drift_50 : decode cX10_drift 50 = .ok (.iconst 0, 1) := by decide +kernel
theorem dX10_drift_51 : decode cX10_drift 51 = .ok (.invokevirtual 210, 3) := by decide +kernel
theorem dX10_drift_54 : decode cX10_drift 54 = .ok (.iinc 3 1, 3) := by decide +kernel
theorem dX10_drift_57 : decode cX10_drift 57 = .ok (.goto (-39), 3) := by decide +kernel
theorem dX10_drift_60 : decode cX10_drift 60 = .ok (.aload_n 0, 1) := by decide +kernel
theorem dX10_drift_61 : decode cX10_drift 61 = .ok (.getfield 22, 3) := by decide +kernel
theorem dX10_drift_64 : decode cX10_drift 64 = .ok (.bipush 12, 2) := by decide +kernel
theorem dX10_drift_66 : decode cX10_drift 66 = .ok (.iaload, 1) := by decide +kernel
theorem dX10_drift_67 : decode cX10_drift 67 = .ok (.ireturn, 1) := by decide +kernel
theorem dX10_undo_0 : decode cX10_undo 0 = .ok (.aload_n 0, 1) := by decide +kernel
theorem dX10_undo_1 : decode cX10_undo 1 = .ok (.getfield 165, 3) := by decide +kernel
theorem dX10_undo_4 : decode cX10_undo 4 = .ok (.ifCond .ne 6, 3) := by decide +kernel
theorem dX10_undo_7 : decode cX10_undo 7 = .ok (.ldc 205, 2) := by decide +kernel
theorem dX10_undo_9 : decode cX10_undo 9 = .ok (.ireturn, 1) := by decide +kernel
theorem dX10_undo_10 : decode cX10_undo 10 = .ok (.aload_n 0, 1) := by decide +kernel
theorem dX10_undo_11 : decode cX10_undo 11 = .ok (.dup, 1) := by decide +kernel
theorem dX10_undo_12 : decode cX10_undo 12 = .ok (.getfield 165, 3) := by decide +kernel
theorem dX10_undo_15 : decode cX10_undo 15 = .ok (.iconst 1, 1) := by decide +kernel
theorem dX10_undo_16 : decode cX10_undo 16 = .ok (.isub, 1) := by decide +kernel
theorem dX10_undo_17 : decode cX10_undo 17 = .ok (.putfield 165, 3) := by decide +kernel
theorem dX10_undo_20 : decode cX10_undo 20 = .ok (.iconst 0, 1) := by decide +kernel
theorem dX10_undo_21 : decode cX10_undo 21 = .ok (.istore_n 1, 1) := by decide +kernel
theorem dX10_undo_22 : decode cX10_undo 22 = .ok (.iload_n 1, 1) := by decide +kernel
theorem dX10_undo_23 : decode cX10_undo 23 = .ok (.bipush 19, 2) := by decide +kernel
theorem dX10_undo_25 : decode cX10_undo 25 = .ok (.if_icmp .ge 29, 3) := by decide +kernel
theorem dX10_undo_28 : decode cX10_undo 28 = .ok (.aload_n 0, 1) := by decide +kernel
theorem dX10_undo_29 : decode cX10_undo 29 = .ok (.getfield 22, 3) := by decide +kernel
theorem dX10_undo_32 : decode cX10_undo 32 = .ok (.iload_n 1, 1) := by decide +kernel
theorem dX10_undo_33 : decode cX10_undo 33 = .ok (.aload_n 0, 1) := by decide +kernel
theorem dX10_undo_34 : decode cX10_undo 34 = .ok (.getfield 50, 3) := by decide +kernel
theorem dX10_undo_37 : decode cX10_undo 37 = .ok (.bipush 19, 2) := by decide +kernel
theorem dX10_undo_39 : decode cX10_undo 39 = .ok (.aload_n 0, 1) := by decide +kernel
theorem dX10_undo_40 : decode cX10_undo 40 = .ok (.getfield 165, 3) := by decide +kernel
theorem dX10_undo_43 : decode cX10_undo 43 = .ok (.imul, 1) := by decide +kernel
theorem dX10_undo_44 : decode cX10_undo 44 = .ok (.iload_n 1, 1) := by decide +kernel
theorem dX10_undo_45 : decode cX10_undo 45 = .ok (.iadd, 1) := by decide +kernel
theorem dX10_undo_46 : decode cX10_undo 46 = .ok (.iaload, 1) := by decide +kernel
theorem dX10_undo_47 : decode cX10_undo 47 = .ok (.iastore, 1) := by decide +kernel
theorem dX10_undo_48 : decode cX10_undo 48 = .ok (.iinc 1 1, 3) := by decide +kernel
theorem dX10_undo_51 : decode cX10_undo 51 = .ok (.goto (-29), 3) := by decide +kernel
theorem dX10_undo_54 : decode cX10_undo 54 = .ok (.aload_n 0, 1) := by decide +kernel
theorem dX10_undo_55 : decode cX10_undo 55 = .ok (.getfield 165, 3) := by decide +kernel
theorem dX10_undo_58 : decode cX10_undo 58 = .ok (.ireturn, 1) := by decide +kernel
theorem dX10_save_0 : decode cX10_save 0 = .ok (.iconst 0, 1) := by decide +kernel
theorem dX10_save_1 : decode cX10_save 1 = .ok (.istore_n 1, 1) := by decide +kernel
theorem dX10_save_2 : decode cX10_save 2 = .ok (.iload_n 1, 1) := by decide +kernel
theorem dX10_save_3 : decode cX10_save 3 = .ok (.bipush 6, 2) := by decide +kernel
theorem dX10_save_5 : decode cX10_save 5 = .ok (.if_icmp .ge 21, 3) := by decide +kernel
theorem dX10_save_8 : decode cX10_save 8 = .ok (.aload_n 0, 1) := by decide +kernel
theorem dX10_save_9 : decode cX10_save 9 = .ok (.getfield 53, 3) := by decide +kernel
theorem dX10_save_12 : decode cX10_save 12 = .ok (.iload_n 1, 1) := by decide +kernel
theorem dX10_save_13 : decode cX10_save 13 = .ok (.aload_n 0, 1) := by decide +kernel
theorem dX10_save_14 : decode cX10_save 14 = .ok (.getfield 22, 3) := by decide +kernel
theorem dX10_save_17 : decode cX10_save 17 = .ok (.iload_n 1, 1) := by decide +kernel
theorem dX10_save_18 : decode cX10_save 18 = .ok (.iaload, 1) := by decide +kernel
theorem dX10_save_19 : decode cX10_save 19 = .ok (.iastore, 1) := by decide +kernel
theorem dX10_save_20 : decode cX10_save 20 = .ok (.iinc 1 1, 3) := by decide +kernel
theorem dX10_save_23 : decode cX10_save 23 = .ok (.goto (-21), 3) := by decide +kernel
theorem dX10_save_26 : decode cX10_save 26 = .ok (.return_, 1) := by decide +kernel
theorem dX10_putBack_0 : decode cX10_putBack 0 = .ok (.iconst 0, 1) := by decide +kernel
theorem dX10_putBack_1 : decode cX10_putBack 1 = .ok (.istore_n 1, 1) := by decide +kernel
theorem dX10_putBack_2 : decode cX10_putBack 2 = .ok (.iload_n 1, 1) := by decide +kernel
theorem dX10_putBack_3 : decode cX10_putBack 3 = .ok (.bipush 6, 2) := by decide +kernel
theorem dX10_putBack_5 : decode cX10_putBack 5 = .ok (.if_icmp .ge 21, 3) := by decide +kernel
theorem dX10_putBack_8 : decode cX10_putBack 8 = .ok (.aload_n 0, 1) := by decide +kernel
theorem dX10_putBack_9 : decode cX10_putBack 9 = .ok (.getfield 22, 3) := by decide +kernel
theorem dX10_putBack_12 : decode cX10_putBack 12 = .ok (.iload_n 1, 1) := by decide +kernel
theorem dX10_putBack_13 : decode cX10_putBack 13 = .ok (.aload_n 0, 1) := by decide +kernel
theorem dX10_putBack_14 : decode cX10_putBack 14 = .ok (.getfield 53, 3) := by decide +kernel
theorem dX10_putBack_17 : decode cX10_putBack 17 = .ok (.iload_n 1, 1) := by decide +kernel
theorem dX10_putBack_18 : decode cX10_putBack 18 = .ok (.iaload, 1) := by decide +kernel
theorem dX10_putBack_19 : decode cX10_putBack 19 = .ok (.iastore, 1) := by decide +kernel
theorem dX10_putBack_20 : decode cX10_putBack 20 = .ok (.iinc 1 1, 3) := by decide +kernel
theorem dX10_putBack_23 : decode cX10_putBack 23 = .ok (.goto (-21), 3) := by decide +kernel
theorem dX10_putBack_26 : decode cX10_putBack 26 = .ok (.return_, 1) := by decide +kernel
theorem dX10_behindRow_0 : decode cX10_behindRow 0 = .ok (.iconst 0, 1) := by decide +kernel
theorem dX10_behindRow_1 : decode cX10_behindRow 1 = .ok (.istore_n 1, 1) := by decide +kernel
theorem dX10_behindRow_2 : decode cX10_behindRow 2 = .ok (.iconst 0, 1) := by decide +kernel
theorem dX10_behindRow_3 : decode cX10_behindRow 3 = .ok (.istore_n 2, 1) := by decide +kernel
theorem dX10_behindRow_4 : decode cX10_behindRow 4 = .ok (.iload_n 2, 1) := by decide +kernel
theorem dX10_behindRow_5 : decode cX10_behindRow 5 = .ok (.aload_n 0, 1) := by decide +kernel
theorem dX10_behindRow_6 : decode cX10_behindRow 6 = .ok (.getfield 81, 3) := by decide +kernel
theorem dX10_behindRow_9 : decode cX10_behindRow 9 = .ok (.if_icmp .ge 25, 3) := by decide +kernel
theorem dX10_behindRow_12 : decode cX10_behindRow 12 = .ok (.iload_n 1, 1) := by decide +kernel
theorem dX10_behindRow_13 : decode cX10_behindRow 13 = .ok (.aload_n 0, 1) := by decide +kernel
theorem dX10_behindRow_14 : decode cX10_behindRow 14 = .ok (.iconst 1, 1) := by decide +kernel
theorem dX10_behindRow_15 : decode cX10_behindRow 15 = .ok (.aload_n 0, 1) := by decide +kernel
theorem dX10_behindRow_16 : decode cX10_behindRow 16 = .ok (.getfield 56, 3) := by decide +kernel
theorem dX10_behindRow_19 : decode cX10_behindRow 19 = .ok (.iload_n 2, 1) := by decide +kernel
theorem dX10_behindRow_20 : decode cX10_behindRow 20 = .ok (.iaload, 1) := by decide +kernel
theorem dX10_behindRow_21 : decode cX10_behindRow 21 = .ok (.ishl, 1) := by decide +kernel
theorem dX10_behindRow_22 : decode cX10_behindRow 22 = .ok (.iconst 0, 1) := by decide +kernel
theorem dX10_behindRow_23 : decode cX10_behindRow 23 = .ok (.invokevirtual 186, 3) := by decide +kernel
theorem dX10_behindRow_26 : decode cX10_behindRow 26 = .ok (.ior, 1) := by decide +kernel
theorem dX10_behindRow_27 : decode cX10_behindRow 27 = .ok (.istore_n 1, 1) := by decide +kernel
theorem dX10_behindRow_28 : decode cX10_behindRow 28 = .ok (.iinc 2 1, 3) := by decide +kernel
theorem dX10_behindRow_31 : decode cX10_behindRow 31 = .ok (.goto (-27), 3) := by decide +kernel
theorem dX10_behindRow_34 : decode cX10_behindRow 34 = .ok (.iconst 0, 1) := by decide +kernel
theorem dX10_behindRow_35 : decode cX10_behindRow 35 = .ok (.istore_n 2, 1) := by decide +kernel
theorem dX10_behindRow_36 : decode cX10_behindRow 36 = .ok (.iconst 0, 1) := by decide +kernel
theorem dX10_behindRow_37 : decode cX10_behindRow 37 = .ok (.istore_n 3, 1) := by decide +kernel
theorem dX10_behindRow_38 : decode cX10_behindRow 38 = .ok (.iload_n 3, 1) := by decide +kernel
theorem dX10_behindRow_39 : decode cX10_behindRow 39 = .ok (.aload_n 0, 1) := by decide +kernel
theorem dX10_behindRow_40 : decode cX10_behindRow 40 = .ok (.getfield 84, 3) := by decide +kernel
theorem dX10_behindRow_43 : decode cX10_behindRow 43 = .ok (.if_icmp .ge 20, 3) := by decide +kernel
theorem dX10_behindRow_46 : decode cX10_behindRow 46 = .ok (.iload_n 2, 1) := by decide +kernel
theorem dX10_behindRow_47 : decode cX10_behindRow 47 = .ok (.aload_n 0, 1) := by decide +kernel
theorem dX10_behindRow_48 : decode cX10_behindRow 48 = .ok (.getfield 22, 3) := by decide +kernel
theorem dX10_behindRow_51 : decode cX10_behindRow 51 = .ok (.iload_n 3, 1) := by decide +kernel
theorem dX10_behindRow_52 : decode cX10_behindRow 52 = .ok (.iaload, 1) := by decide +kernel
theorem dX10_behindRow_53 : decode cX10_behindRow 53 = .ok (.invokestatic 180, 3) := by decide +kernel
theorem dX10_behindRow_56 : decode cX10_behindRow 56 = .ok (.istore_n 2, 1) := by decide +kernel
theorem dX10_behindRow_57 : decode cX10_behindRow 57 = .ok (.iinc 3 1, 3) := by decide +kernel
theorem dX10_behindRow_60 : decode cX10_behindRow 60 = .ok (.goto (-22), 3) := by decide +kernel
theorem dX10_behindRow_63 : decode cX10_behindRow 63 = .ok (.aload_n 0, 1) := by decide +kernel
theorem dX10_behindRow_64 : decode cX10_behindRow 64 = .ok (.invokevirtual 232, 3) := by decide +kernel
theorem dX10_behindRow_67 : decode cX10_behindRow 67 = .ok (.iload_n 1, 1) := by decide +kernel
theorem dX10_behindRow_68 : decode cX10_behindRow 68 = .ok (.ifCond .ne 7, 3) := by decide +kernel
theorem dX10_behindRow_71 : decode cX10_behindRow 71 = .ok (.iload_n 2, 1) := by decide +kernel
theorem dX10_behindRow_72 : decode cX10_behindRow 72 = .ok (.goto 4, 3) := by decide +kernel
theorem dX10_behindRow_75 : decode cX10_behindRow 75 = .ok (.iconst (-1), 1) := by decide +kernel
theorem dX10_behindRow_76 : decode cX10_behindRow 76 = .ok (.ireturn, 1) := by decide +kernel
theorem dX10_nextRow_0 : decode cX10_nextRow 0 = .ok (.aload_n 0, 1) := by decide +kernel
theorem dX10_nextRow_1 : decode cX10_nextRow 1 = .ok (.getfield 81, 3) := by decide +kernel
theorem dX10_nextRow_4 : decode cX10_nextRow 4 = .ok (.iconst 1, 1) := by decide +kernel
theorem dX10_nextRow_5 : decode cX10_nextRow 5 = .ok (.isub, 1) := by decide +kernel
theorem dX10_nextRow_6 : decode cX10_nextRow 6 = .ok (.istore_n 1, 1) := by decide +kernel
theorem dX10_nextRow_7 : decode cX10_nextRow 7 = .ok (.iload_n 1, 1) := by decide +kernel
theorem dX10_nextRow_8 : decode cX10_nextRow 8 = .ok (.ifCond .lt 31, 3) := by decide +kernel
theorem dX10_nextRow_11 : decode cX10_nextRow 11 = .ok (.aload_n 0, 1) := by decide +kernel
theorem dX10_nextRow_12 : decode cX10_nextRow 12 = .ok (.getfield 56, 3) := by decide +kernel
theorem dX10_nextRow_15 : decode cX10_nextRow 15 = .ok (.iload_n 1, 1) := by decide +kernel
theorem dX10_nextRow_16 : decode cX10_nextRow 16 = .ok (.iaload, 1) := by decide +kernel
theorem dX10_nextRow_17 : decode cX10_nextRow 17 = .ok (.aload_n 0, 1) := by decide +kernel
theorem dX10_nextRow_18 : decode cX10_nextRow 18 = .ok (.getfield 84, 3) := by decide +kernel
theorem dX10_nextRow_21 : decode cX10_nextRow 21 = .ok (.iconst 1, 1) := by decide +kernel
theorem dX10_nextRow_22 : decode cX10_nextRow 22 = .ok (.isub, 1) := by decide +kernel
theorem dX10_nextRow_23 : decode cX10_nextRow 23 = .ok (.if_icmp .ne 16, 3) := by decide +kernel
theorem dX10_nextRow_26 : decode cX10_nextRow 26 = .ok (.aload_n 0, 1) := by decide +kernel
theorem dX10_nextRow_27 : decode cX10_nextRow 27 = .ok (.getfield 56, 3) := by decide +kernel
theorem dX10_nextRow_30 : decode cX10_nextRow 30 = .ok (.iload_n 1, 1) := by decide +kernel
theorem dX10_nextRow_31 : decode cX10_nextRow 31 = .ok (.iconst 0, 1) := by decide +kernel
theorem dX10_nextRow_32 : decode cX10_nextRow 32 = .ok (.iastore, 1) := by decide +kernel
theorem dX10_nextRow_33 : decode cX10_nextRow 33 = .ok (.iinc 1 (-1), 3) := by decide +kernel
theorem dX10_nextRow_36 : decode cX10_nextRow 36 = .ok (.goto (-29), 3) := by decide +kernel
theorem dX10_nextRow_39 : decode cX10_nextRow 39 = .ok (.iload_n 1, 1) := by decide +kernel
theorem dX10_nextRow_40 : decode cX10_nextRow 40 = .ok (.ifCond .lt 13, 3) := by decide +kernel
theorem dX10_nextRow_43 : decode cX10_nextRow 43 = .ok (.aload_n 0, 1) := by decide +kernel
theorem dX10_nextRow_44 : decode cX10_nextRow 44 = .ok (.getfield 56, 3) := by decide +kernel
theorem dX10_nextRow_47 : decode cX10_nextRow 47 = .ok (.iload_n 1, 1) := by decide +kernel
theorem dX10_nextRow_48 : decode cX10_nextRow 48 = .ok (.dup2, 1) := by decide +kernel
theorem dX10_nextRow_49 : decode cX10_nextRow 49 = .ok (.iaload, 1) := by decide +kernel
theorem dX10_nextRow_50 : decode cX10_nextRow 50 = .ok (.iconst 1, 1) := by decide +kernel
theorem dX10_nextRow_51 : decode cX10_nextRow 51 = .ok (.iadd, 1) := by decide +kernel
theorem dX10_nextRow_52 : decode cX10_nextRow 52 = .ok (.iastore, 1) := by decide +kernel
theorem dX10_nextRow_53 : decode cX10_nextRow 53 = .ok (.iload_n 1, 1) := by decide +kernel
theorem dX10_nextRow_54 : decode cX10_nextRow 54 = .ok (.ifCond .lt 7, 3) := by decide +kernel
theorem dX10_nextRow_57 : decode cX10_nextRow 57 = .ok (.iconst 1, 1) := by decide +kernel
theorem dX10_nextRow_58 : decode cX10_nextRow 58 = .ok (.goto 4, 3) := by decide +kernel
theorem dX10_nextRow_61 : decode cX10_nextRow 61 = .ok (.iconst 0, 1) := by decide +kernel
theorem dX10_nextRow_62 : decode cX10_nextRow 62 = .ok (.ireturn, 1) := by decide +kernel
theorem dX10_findWatches_0 : decode cX10_findWatches 0 = .ok (.aload_n 0, 1) := by decide +kernel
theorem dX10_findWatches_1 : decode cX10_findWatches 1 = .ok (.invokevirtual 235, 3) := by decide +kernel
theorem dX10_findWatches_4 : decode cX10_findWatches 4 = .ok (.aload_n 0, 1) := by decide +kernel
theorem dX10_findWatches_5 : decode cX10_findWatches 5 = .ok (.iconst (-1), 1) := by decide +kernel
theorem dX10_findWatches_6 : decode cX10_findWatches 6 = .ok (.putfield 238, 3) := by decide +kernel
theorem dX10_findWatches_9 : decode cX10_findWatches 9 = .ok (.iconst 0, 1) := by decide +kernel
theorem dX10_findWatches_10 : decode cX10_findWatches 10 = .ok (.istore_n 1, 1) := by decide +kernel
theorem dX10_findWatches_11 : decode cX10_findWatches 11 = .ok (.iload_n 1, 1) := by decide +kernel
theorem dX10_findWatches_12 : decode cX10_findWatches 12 = .ok (.bipush 6, 2) := by decide +kernel
theorem dX10_findWatches_14 : decode cX10_findWatches 14 = .ok (.if_icmp .ge 16, 3) := by decide +kernel
theorem dX10_findWatches_17 : decode cX10_findWatches 17 = .ok (.aload_n 0, 1) := by decide +kernel
theorem dX10_findWatches_18 : decode cX10_findWatches 18 = .ok (.getfield 56, 3) := by decide +kernel
theorem dX10_findWatches_21 : decode cX10_findWatches 21 = .ok (.iload_n 1, 1) := by decide +kernel
theorem dX10_findWatches_22 : decode cX10_findWatches 22 = .ok (.iconst 0, 1) := by decide +kernel
theorem dX10_findWatches_23 : decode cX10_findWatches 23 = .ok (.iastore, 1) := by decide +kernel
theorem dX10_findWatches_24 : decode cX10_findWatches 24 = .ok (.iinc 1 1, 3) := by decide +kernel
theorem dX10_findWatches_27 : decode cX10_findWatches 27 = .ok (.goto (-16), 3) := by decide +kernel
theorem dX10_findWatches_30 : decode cX10_findWatches 30 = .ok (.aload_n 0, 1) := by decide +kernel
theorem dX10_findWatches_31 : decode cX10_findWatches 31 = .ok (.getfield 84, 3) := by decide +kernel
theorem dX10_findWatches_34 : decode cX10_findWatches 34 = .ok (.ifCond .le 7, 3) := by decide +kernel
theorem dX10_findWatches_37 : decode cX10_findWatches 37 = .ok (.iconst 1, 1) := by decide +kernel
theorem dX10_findWatches_38 : decode cX10_findWatches 38 = .ok (.goto 4, 3) := by decide +kernel
theorem dX10_findWatches_41 : decode cX10_findWatches 41 = .ok (.iconst 0, 1) := by decide +kernel
theorem dX10_findWatches_42 : decode cX10_findWatches 42 = .ok (.istore_n 1, 1) := by decide +kernel
theorem dX10_findWatches_43 : decode cX10_findWatches 43 = .ok (.iload_n 1, 1) := by decide +kernel
theorem dX10_findWatches_44 : decode cX10_findWatches 44 = .ok (.ifCond .eq 68, 3) := by decide +kernel
theorem dX10_findWatches_47 : decode cX10_findWatches 47 = .ok (.aload_n 0, 1) := by decide +kernel
theorem dX10_findWatches_48 : decode cX10_findWatches 48 = .ok (.invokevirtual 241, 3) := by decide +kernel
theorem dX10_findWatches_51 : decode cX10_findWatches 51 = .ok (.istore_n 2, 1) := by decide +kernel
theorem dX10_findWatches_52 : decode cX10_findWatches 52 = .ok (.iload_n 2, 1) := by decide +kernel
theorem dX10_findWatches_53 : decode cX10_findWatches 53 = .ok (.ifCond .lt 51, 3) := by decide +kernel
theorem dX10_findWatches_56 : decode cX10_findWatches 56 = .ok (.aload_n 0, 1) := by decide +kernel
theorem dX10_findWatches_57 : decode cX10_findWatches 57 = .ok (.getfield 238, 3) := by decide +kernel
theorem dX10_findWatches_60 : decode cX10_findWatches 60 = .ok (.ifCond .lt 11, 3) := by decide +kernel
theorem dX10_findWatches_63 : decode cX10_findWatches 63 = .ok (.iload_n 2, 1) := by decide +kernel
theorem dX10_findWatches_64 : decode cX10_findWatches 64 = .ok (.aload_n 0, 1) := by decide +kernel
theorem dX10_findWatches_65 : decode cX10_findWatches 65 = .ok (.getfield 238, 3) := by decide +kernel
theorem dX10_findWatches_68 : decode cX10_findWatches 68 = .ok (.if_icmp .ge 36, 3) := by decide +kernel
theorem dX10_findWatches_71 : decode cX10_findWatches 71 = .ok (.aload_n 0, 1) := by decide +kernel
theorem dX10_findWatches_72 : decode cX10_findWatches 72 = .ok (.iload_n 2, 1) := by decide +kernel
theorem dX10_findWatches_73 : decode cX10_findWatches 73 = .ok (.putfield 238, 3) := by decide +kernel
theorem dX10_findWatches_76 : decode cX10_findWatches 76 = .ok (.iconst 0, 1) := by decide +kernel
theorem dX10_findWatches_77 : decode cX10_findWatches 77 = .ok (.istore_n 3, 1) := by decide +kernel
theorem dX10_findWatches_78 : decode cX10_findWatches 78 = .ok (.iload_n 3, 1) := by decide +kernel
theorem dX10_findWatches_79 : decode cX10_findWatches 79 = .ok (.aload_n 0, 1) := by decide +kernel
theorem dX10_findWatches_80 : decode cX10_findWatches 80 = .ok (.getfield 81, 3) := by decide +kernel
theorem dX10_findWatches_83 : decode cX10_findWatches 83 = .ok (.if_icmp .ge 21, 3) := by decide +kernel
theorem dX10_findWatches_86 : decode cX10_findWatches 86 = .ok (.aload_n 0, 1) := by decide +kernel
theorem dX10_findWatches_87 : decode cX10_findWatches 87 = .ok (.getfield 59, 3) := by decide +kernel
theorem dX10_findWatches_90 : decode cX10_findWatches 90 = .ok (.iload_n 3, 1) := by decide +kernel
theorem dX10_findWatches_91 : decode cX10_findWatches 91 = .ok (.aload_n 0, 1) := by decide +kernel
theorem dX10_findWatches_92 : decode cX10_findWatches 92 = .ok (.getfield 56, 3) := by decide +kernel
theorem dX10_findWatches_95 : decode cX10_findWatches 95 = .ok (.iload_n 3, 1) := by decide +kernel
theorem dX10_findWatches_96 : decode cX10_findWatches 96 = .ok (.iaload, 1) := by decide +kernel
theorem dX10_findWatches_97 : decode cX10_findWatches 97 = .ok (.iastore, 1) := by decide +kernel
theorem dX10_findWatches_98 : decode cX10_findWatches 98 = .ok (.iinc 3 1, 3) := by decide +kernel
theorem dX10_findWatches_101 : decode cX10_findWatches 101 = .ok (.goto (-23), 3) := by decide +kernel
theorem dX10_findWatches_104 : decode cX10_findWatches 104 = .ok (.aload_n 0, 1) := by decide +kernel
theorem dX10_findWatches_105 : decode cX10_findWatches 105 = .ok (.invokevirtual 244, 3) := by decide +kernel
theorem dX10_findWatches_108 : decode cX10_findWatches 108 = .ok (.istore_n 1, 1) := by decide +kernel
theorem dX10_findWatches_109 : decode cX10_findWatches 109 = .ok (.goto (-66), 3) := by decide +kernel
theorem dX10_findWatches_112 : decode cX10_findWatches 112 = .ok (.return_, 1) := by decide +kernel
theorem dX10_watches_0 : decode cX10_watches 0 = .ok (.aload_n 0, 1) := by decide +kernel
theorem dX10_watches_1 : decode cX10_watches 1 = .ok (.getfield 81, 3) := by decide +kernel
theorem dX10_watches_4 : decode cX10_watches 4 = .ok (.ifCond .ne 6, 3) := by decide +kernel
theorem dX10_watches_7 : decode cX10_watches 7 = .ok (.ldc 205, 2) := by decide +kernel
theorem dX10_watches_9 : decode cX10_watches 9 = .ok (.ireturn, 1) := by decide +kernel
theorem dX10_watches_10 : decode cX10_watches 10 = .ok (.aload_n 0, 1) := by decide +kernel
theorem dX10_watches_11 : decode cX10_watches 11 = .ok (.invokevirtual 248, 3) := by decide +kernel
theorem dX10_watches_14 : decode cX10_watches 14 = .ok (.aload_n 0, 1) := by decide +kernel
theorem dX10_watches_15 : decode cX10_watches 15 = .ok (.getfield 238, 3) := by decide +kernel
theorem dX10_watches_18 : decode cX10_watches 18 = .ok (.ifCond .lt 8, 3) := by decide +kernel
theorem dX10_watches_21 : decode cX10_watches 21 = .ok (.iload_n 1, 1) := by decide +kernel
theorem dX10_watches_22 : decode cX10_watches 22 = .ok (.iconst (-1), 1) := by decide +kernel
theorem dX10_watches_23 : decode cX10_watches 23 = .ok (.if_icmp .ne 10, 3) := by decide +kernel
theorem dX10_watches_26 : decode cX10_watches 26 = .ok (.aload_n 0, 1) := by decide +kernel
theorem dX10_watches_27 : decode cX10_watches 27 = .ok (.getfield 238, 3) := by decide +kernel
theorem dX10_watches_30 : decode cX10_watches 30 = .ok (.goto 29, 3) := by decide +kernel
theorem dX10_watches_33 : decode cX10_watches 33 = .ok (.iload_n 1, 1) := by decide +kernel
theorem dX10_watches_34 : decode cX10_watches 34 = .ok (.i2l, 1) := by decide +kernel
theorem dX10_watches_35 : decode cX10_watches 35 = .ok (.lconst 0, 1) := by decide +kernel
theorem dX10_watches_36 : decode cX10_watches 36 = .ok (.aload_n 0, 1) := by decide +kernel
theorem dX10_watches_37 : decode cX10_watches 37 = .ok (.getfield 81, 3) := by decide +kernel
theorem dX10_watches_40 : decode cX10_watches 40 = .ok (.iconst 1, 1) := by decide +kernel
theorem dX10_watches_41 : decode cX10_watches 41 = .ok (.isub, 1) := by decide +kernel
theorem dX10_watches_42 : decode cX10_watches 42 = .ok (.i2l, 1) := by decide +kernel
theorem dX10_watches_43 : decode cX10_watches 43 = .ok (.invokestatic 87, 3) := by decide +kernel
theorem dX10_watches_46 : decode cX10_watches 46 = .ok (.ifCond .eq 12, 3) := by decide +kernel
theorem dX10_watches_49 : decode cX10_watches 49 = .ok (.aload_n 0, 1) := by decide +kernel
theorem dX10_watches_50 : decode cX10_watches 50 = .ok (.getfield 59, 3) := by decide +kernel
theorem dX10_watches_53 : decode cX10_watches 53 = .ok (.iload_n 1, 1) := by decide +kernel
theorem dX10_watches_54 : decode cX10_watches 54 = .ok (.iaload, 1) := by decide +kernel
theorem dX10_watches_55 : decode cX10_watches 55 = .ok (.goto 4, 3) := by decide +kernel
theorem dX10_watches_58 : decode cX10_watches 58 = .ok (.iconst (-1), 1) := by decide +kernel
theorem dX10_watches_59 : decode cX10_watches 59 = .ok (.ireturn, 1) := by decide +kernel
theorem dX10_nodsOfAll_0 : decode cX10_nodsOfAll 0 = .ok (.iconst 0, 1) := by decide +kernel
theorem dX10_nodsOfAll_1 : decode cX10_nodsOfAll 1 = .ok (.istore_n 2, 1) := by decide +kernel
theorem dX10_nodsOfAll_2 : decode cX10_nodsOfAll 2 = .ok (.iconst 0, 1) := by decide +kernel
theorem dX10_nodsOfAll_3 : decode cX10_nodsOfAll 3 = .ok (.istore_n 3, 1) := by decide +kernel
theorem dX10_nodsOfAll_4 : decode cX10_nodsOfAll 4 = .ok (.iload_n 3, 1) := by decide +kernel
theorem dX10_nodsOfAll_5 : decode cX10_nodsOfAll 5 = .ok (.aload_n 0, 1) := by decide +kernel
theorem dX10_nodsOfAll_6 : decode cX10_nodsOfAll 6 = .ok (.getfield 81, 3) := by decide +kernel
theorem dX10_nodsOfAll_9 : decode cX10_nodsOfAll 9 = .ok (.if_icmp .ge 37, 3) := by decide +kernel
theorem dX10_nodsOfAll_12 : decode cX10_nodsOfAll 12 = .ok (.iload_n 2, 1) := by decide +kernel
theorem dX10_nodsOfAll_13 : decode cX10_nodsOfAll 13 = .ok (.aload_n 0, 1) := by decide +kernel
theorem dX10_nodsOfAll_14 : decode cX10_nodsOfAll 14 = .ok (.iconst 1, 1) := by decide +kernel
theorem dX10_nodsOfAll_15 : decode cX10_nodsOfAll 15 = .ok (.aload_n 0, 1) := by decide +kernel
theorem dX10_nodsOfAll_16 : decode cX10_nodsOfAll 16 = .ok (.getfield 84, 3) := by decide +kernel
theorem dX10_nodsOfAll_19 : decode cX10_nodsOfAll 19 = .ok (.ishl, 1) := by decide +kernel
theorem dX10_nodsOfAll_20 : decode cX10_nodsOfAll 20 = .ok (.iconst 1, 1) := by decide +kernel
theorem dX10_nodsOfAll_21 : decode cX10_nodsOfAll 21 = .ok (.isub, 1) := by decide +kernel
theorem dX10_nodsOfAll_22 : decode cX10_nodsOfAll 22 = .ok (.iload_n 3, 1) := by decide +kernel
theorem dX10_nodsOfAll_23 : decode cX10_nodsOfAll 23 = .ok (.iload_n 1, 1) := by decide +kernel
theorem dX10_nodsOfAll_24 : decode cX10_nodsOfAll 24 = .ok (.if_icmp .ne 7, 3) := by decide +kernel
theorem dX10_nodsOfAll_27 : decode cX10_nodsOfAll 27 = .ok (.iconst 1, 1) := by decide +kernel
theorem dX10_nodsOfAll_28 : decode cX10_nodsOfAll 28 = .ok (.goto 4, 3) := by decide +kernel
theorem dX10_nodsOfAll_31 : decode cX10_nodsOfAll 31 = .ok (.iconst 0, 1) := by decide +kernel
theorem dX10_nodsOfAll_32 : decode cX10_nodsOfAll 32 = .ok (.invokevirtual 186, 3) := by decide +kernel
theorem dX10_nodsOfAll_35 : decode cX10_nodsOfAll 35 = .ok (.invokestatic 195, 3) := by decide +kernel
theorem dX10_nodsOfAll_38 : decode cX10_nodsOfAll 38 = .ok (.iadd, 1) := by decide +kernel
theorem dX10_nodsOfAll_39 : decode cX10_nodsOfAll 39 = .ok (.istore_n 2, 1) := by decide +kernel
theorem dX10_nodsOfAll_40 : decode cX10_nodsOfAll 40 = .ok (.iinc 3 1, 3) := by decide +kernel
theorem dX10_nodsOfAll_43 : decode cX10_nodsOfAll 43 = .ok (.goto (-39), 3) := by decide +kernel
theorem dX10_nodsOfAll_46 : decode cX10_nodsOfAll 46 = .ok (.aload_n 0, 1) := by decide +kernel
theorem dX10_nodsOfAll_47 : decode cX10_nodsOfAll 47 = .ok (.invokevirtual 232, 3) := by decide +kernel
theorem dX10_nodsOfAll_50 : decode cX10_nodsOfAll 50 = .ok (.iload_n 2, 1) := by decide +kernel
theorem dX10_nodsOfAll_51 : decode cX10_nodsOfAll 51 = .ok (.ireturn, 1) := by decide +kernel
theorem dX10_bellHour_0 : decode cX10_bellHour 0 = .ok (.iload_n 1, 1) := by decide +kernel
theorem dX10_bellHour_1 : decode cX10_bellHour 1 = .ok (.i2l, 1) := by decide +kernel
theorem dX10_bellHour_2 : decode cX10_bellHour 2 = .ok (.lconst 0, 1) := by decide +kernel
theorem dX10_bellHour_3 : decode cX10_bellHour 3 = .ok (.lconst 1, 1) := by decide +kernel
theorem dX10_bellHour_4 : decode cX10_bellHour 4 = .ok (.invokestatic 87, 3) := by decide +kernel
theorem dX10_bellHour_7 : decode cX10_bellHour 7 = .ok (.ifCond .ne 6, 3) := by decide +kernel
theorem dX10_bellHour_10 : decode cX10_bellHour 10 = .ok (.ldc 96, 2) := by decide +kernel
theorem dX10_bellHour_12 : decode cX10_bellHour 12 = .ok (.ireturn, 1) := by decide +kernel
theorem dX10_bellHour_13 : decode cX10_bellHour 13 = .ok (.aload_n 0, 1) := by decide +kernel
theorem dX10_bellHour_14 : decode cX10_bellHour 14 = .ok (.getfield 81, 3) := by decide +kernel
theorem dX10_bellHour_17 : decode cX10_bellHour 17 = .ok (.ifCond .ne 6, 3) := by decide +kernel
theorem dX10_bellHour_20 : decode cX10_bellHour 20 = .ok (.ldc 205, 2) := by decide +kernel
theorem dX10_bellHour_22 : decode cX10_bellHour 22 = .ok (.ireturn, 1) := by decide +kernel
theorem dX10_bellHour_23 : decode cX10_bellHour 23 = .ok (.aload_n 0, 1) := by decide +kernel
theorem dX10_bellHour_24 : decode cX10_bellHour 24 = .ok (.invokevirtual 235, 3) := by decide +kernel
theorem dX10_bellHour_27 : decode cX10_bellHour 27 = .ok (.iconst 0, 1) := by decide +kernel
theorem dX10_bellHour_28 : decode cX10_bellHour 28 = .ok (.istore_n 2, 1) := by decide +kernel
theorem dX10_bellHour_29 : decode cX10_bellHour 29 = .ok (.ldc 251, 2) := by decide +kernel
theorem dX10_bellHour_31 : decode cX10_bellHour 31 = .ok (.istore_n 3, 1) := by decide +kernel
theorem dX10_bellHour_32 : decode cX10_bellHour 32 = .ok (.iconst 0, 1) := by decide +kernel
theorem dX10_bellHour_33 : decode cX10_bellHour 33 = .ok (.istore 4, 2) := by decide +kernel
theorem dX10_bellHour_35 : decode cX10_bellHour 35 = .ok (.iload 4, 2) := by decide +kernel
theorem dX10_bellHour_37 : decode cX10_bellHour 37 = .ok (.aload_n 0, 1) := by decide +kernel
theorem dX10_bellHour_38 : decode cX10_bellHour 38 = .ok (.getfield 81, 3) := by decide +kernel
theorem dX10_bellHour_41 : decode cX10_bellHour 41 = .ok (.if_icmp .ge 43, 3) := by decide +kernel
theorem dX10_bellHour_44 : decode cX10_bellHour 44 = .ok (.aload_n 0, 1) := by decide +kernel
theorem dX10_bellHour_45 : decode cX10_bellHour 45 = .ok (.iload 4, 2) := by decide +kernel
theorem dX10_bellHour_47 : decode cX10_bellHour 47 = .ok (.invokevirtual 252, 3) := by decide +kernel
theorem dX10_bellHour_50 : decode cX10_bellHour 50 = .ok (.istore 5, 2) := by decide +kernel
theorem dX10_bellHour_52 : decode cX10_bellHour 52 = .ok (.iload 5, 2) := by decide +kernel
theorem dX10_bellHour_54 : decode cX10_bellHour 54 = .ok (.iload_n 3, 1) := by decide +kernel
theorem dX10_bellHour_55 : decode cX10_bellHour 55 = .ok (.if_icmp .ge 8, 3) := by decide +kernel
theorem dX10_bellHour_58 : decode cX10_bellHour 58 = .ok (.iload 4, 2) := by decide +kernel
theorem dX10_bellHour_60 : decode cX10_bellHour 60 = .ok (.goto 4, 3) := by decide +kernel
theorem dX10_bellHour_63 : decode cX10_bellHour 63 = .ok (.iload_n 2, 1) := by decide +kernel
theorem dX10_bellHour_64 : decode cX10_bellHour 64 = .ok (.istore_n 2, 1) := by decide +kernel
theorem dX10_bellHour_65 : decode cX10_bellHour 65 = .ok (.iload 5, 2) := by decide +kernel
theorem dX10_bellHour_67 : decode cX10_bellHour 67 = .ok (.iload_n 3, 1) := by decide +kernel
theorem dX10_bellHour_68 : decode cX10_bellHour 68 = .ok (.if_icmp .ge 8, 3) := by decide +kernel
theorem dX10_bellHour_71 : decode cX10_bellHour 71 = .ok (.iload 5, 2) := by decide +kernel
theorem dX10_bellHour_73 : decode cX10_bellHour 73 = .ok (.goto 4, 3) := by decide +kernel
theorem dX10_bellHour_76 : decode cX10_bellHour 76 = .ok (.iload_n 3, 1) := by decide +kernel
theorem dX10_bellHour_77 : decode cX10_bellHour 77 = .ok (.istore_n 3, 1) := by decide +kernel
theorem dX10_bellHour_78 : decode cX10_bellHour 78 = .ok (.iinc 4 1, 3) := by decide +kernel
theorem dX10_bellHour_81 : decode cX10_bellHour 81 = .ok (.goto (-46), 3) := by decide +kernel
theorem dX10_bellHour_84 : decode cX10_bellHour 84 = .ok (.iload_n 1, 1) := by decide +kernel
theorem dX10_bellHour_85 : decode cX10_bellHour 85 = .ok (.ifCond .ne 7, 3) := by decide +kernel
theorem dX10_bellHour_88 : decode cX10_bellHour 88 = .ok (.iload_n 2, 1) := by decide +kernel
theorem dX10_bellHour_89 : decode cX10_bellHour 89 = .ok (.goto 4, 3) := by decide +kernel
theorem dX10_bellHour_92 : decode cX10_bellHour 92 = .ok (.iload_n 3, 1) := by decide +kernel
theorem dX10_bellHour_93 : decode cX10_bellHour 93 = .ok (.ireturn, 1) := by decide +kernel
theorem dX10_coffeeFor_0 : decode cX10_coffeeFor 0 = .ok (.aload_n 0, 1) := by decide +kernel
theorem dX10_coffeeFor_1 : decode cX10_coffeeFor 1 = .ok (.getfield 81, 3) := by decide +kernel
theorem dX10_coffeeFor_4 : decode cX10_coffeeFor 4 = .ok (.ifCond .ne 6, 3) := by decide +kernel
theorem dX10_coffeeFor_7 : decode cX10_coffeeFor 7 = .ok (.ldc 205, 2) := by decide +kernel
theorem dX10_coffeeFor_9 : decode cX10_coffeeFor 9 = .ok (.ireturn, 1) := by decide +kernel
theorem dX10_coffeeFor_10 : decode cX10_coffeeFor 10 = .ok (.aload_n 0, 1) := by decide +kernel
theorem dX10_coffeeFor_11 : decode cX10_coffeeFor 11 = .ok (.invokevirtual 235, 3) := by decide +kernel
theorem dX10_coffeeFor_14 : decode cX10_coffeeFor 14 = .ok (.iconst (-1), 1) := by decide +kernel
theorem dX10_coffeeFor_15 : decode cX10_coffeeFor 15 = .ok (.istore_n 1, 1) := by decide +kernel
theorem dX10_coffeeFor_16 : decode cX10_coffeeFor 16 = .ok (.ldc 251, 2) := by decide +kernel
theorem dX10_coffeeFor_18 : decode cX10_coffeeFor 18 = .ok (.istore_n 2, 1) := by decide +kernel
theorem dX10_coffeeFor_19 : decode cX10_coffeeFor 19 = .ok (.iconst 0, 1) := by decide +kernel
theorem dX10_coffeeFor_20 : decode cX10_coffeeFor 20 = .ok (.istore_n 3, 1) := by decide +kernel
theorem dX10_coffeeFor_21 : decode cX10_coffeeFor 21 = .ok (.iload_n 3, 1) := by decide +kernel
theorem dX10_coffeeFor_22 : decode cX10_coffeeFor 22 = .ok (.aload_n 0, 1) := by decide +kernel
theorem dX10_coffeeFor_23 : decode cX10_coffeeFor 23 = .ok (.getfield 84, 3) := by decide +kernel
theorem dX10_coffeeFor_26 : decode cX10_coffeeFor 26 = .ok (.if_icmp .ge 60, 3) := by decide +kernel
theorem dX10_coffeeFor_29 : decode cX10_coffeeFor 29 = .ok (.aload_n 0, 1) := by decide +kernel
theorem dX10_coffeeFor_30 : decode cX10_coffeeFor 30 = .ok (.getfield 22, 3) := by decide +kernel
theorem dX10_coffeeFor_33 : decode cX10_coffeeFor 33 = .ok (.iload_n 3, 1) := by decide +kernel
theorem dX10_coffeeFor_34 : decode cX10_coffeeFor 34 = .ok (.aload_n 0, 1) := by decide +kernel
theorem dX10_coffeeFor_35 : decode cX10_coffeeFor 35 = .ok (.getfield 22, 3) := by decide +kernel
theorem dX10_coffeeFor_38 : decode cX10_coffeeFor 38 = .ok (.iload_n 3, 1) := by decide +kernel
theorem dX10_coffeeFor_39 : decode cX10_coffeeFor 39 = .ok (.iaload, 1) := by decide +kernel
theorem dX10_coffeeFor_40 : decode cX10_coffeeFor 40 = .ok (.bipush 30, 2) := by decide +kernel
theorem dX10_coffeeFor_42 : decode cX10_coffeeFor 42 = .ok (.isub, 1) := by decide +kernel
theorem dX10_coffeeFor_43 : decode cX10_coffeeFor 43 = .ok (.iconst 0, 1) := by decide +kernel
theorem dX10_coffeeFor_44 : decode cX10_coffeeFor 44 = .ok (.invokestatic 180, 3) := by decide +kernel
theorem dX10_coffeeFor_47 : decode cX10_coffeeFor 47 = .ok (.iastore, 1) := by decide +kernel
theorem dX10_coffeeFor_48 : decode cX10_coffeeFor 48 = .ok (.aload_n 0, 1) := by decide +kernel
theorem dX10_coffeeFor_49 : decode cX10_coffeeFor 49 = .ok (.iconst (-1), 1) := by decide +kernel
theorem dX10_coffeeFor_50 : decode cX10_coffeeFor 50 = .ok (.invokevirtual 252, 3) := by decide +kernel
theorem dX10_coffeeFor_53 : decode cX10_coffeeFor 53 = .ok (.istore 4, 2) := by decide +kernel
theorem dX10_coffeeFor_55 : decode cX10_coffeeFor 55 = .ok (.iload 4, 2) := by decide +kernel
theorem dX10_coffeeFor_57 : decode cX10_coffeeFor 57 = .ok (.iload_n 2, 1) := by decide +kernel
theorem dX10_coffeeFor_58 : decode cX10_coffeeFor 58 = .ok (.if_icmp .ge 7, 3) := by decide +kernel
theorem dX10_coffeeFor_61 : decode cX10_coffeeFor 61 = .ok (.iload_n 3, 1) := by decide +kernel
theorem dX10_coffeeFor_62 : decode cX10_coffeeFor 62 = .ok (.goto 4, 3) := by decide +kernel
theorem dX10_coffeeFor_65 : decode cX10_coffeeFor 65 = .ok (.iload_n 1, 1) := by decide +kernel
theorem dX10_coffeeFor_66 : decode cX10_coffeeFor 66 = .ok (.istore_n 1, 1) := by decide +kernel
theorem dX10_coffeeFor_67 : decode cX10_coffeeFor 67 = .ok (.iload 4, 2) := by decide +kernel
theorem dX10_coffeeFor_69 : decode cX10_coffeeFor 69 = .ok (.iload_n 2, 1) := by decide +kernel
theorem dX10_coffeeFor_70 : decode cX10_coffeeFor 70 = .ok (.if_icmp .ge 8, 3) := by decide +kernel
theorem dX10_coffeeFor_73 : decode cX10_coffeeFor 73 = .ok (.iload 4, 2) := by decide +kernel
theorem dX10_coffeeFor_75 : decode cX10_coffeeFor 75 = .ok (.goto 4, 3) := by decide +kernel
theorem dX10_coffeeFor_78 : decode cX10_coffeeFor 78 = .ok (.iload_n 2, 1) := by decide +kernel
theorem dX10_coffeeFor_79 : decode cX10_coffeeFor 79 = .ok (.istore_n 2, 1) := by decide +kernel
theorem dX10_coffeeFor_80 : decode cX10_coffeeFor 80 = .ok (.iinc 3 1, 3) := by decide +kernel
theorem dX10_coffeeFor_83 : decode cX10_coffeeFor 83 = .ok (.goto (-62), 3) := by decide +kernel
theorem dX10_coffeeFor_86 : decode cX10_coffeeFor 86 = .ok (.iload_n 1, 1) := by decide +kernel
theorem dX10_coffeeFor_87 : decode cX10_coffeeFor 87 = .ok (.ireturn, 1) := by decide +kernel
theorem dX10_nights_0 : decode cX10_nights 0 = .ok (.aload_n 0, 1) := by decide +kernel
theorem dX10_nights_1 : decode cX10_nights 1 = .ok (.iload_n 1, 1) := by decide +kernel
theorem dX10_nights_2 : decode cX10_nights 2 = .ok (.invokevirtual 168, 3) := by decide +kernel
theorem dX10_nights_5 : decode cX10_nights 5 = .ok (.ifCond .ne 6, 3) := by decide +kernel
theorem dX10_nights_8 : decode cX10_nights 8 = .ok (.ldc 172, 2) := by decide +kernel
theorem dX10_nights_10 : decode cX10_nights 10 = .ok (.ireturn, 1) := by decide +kernel
theorem dX10_nights_11 : decode cX10_nights 11 = .ok (.aload_n 0, 1) := by decide +kernel
theorem dX10_nights_12 : decode cX10_nights 12 = .ok (.getfield 22, 3) := by decide +kernel
theorem dX10_nights_15 : decode cX10_nights 15 = .ok (.iload_n 1, 1) := by decide +kernel
theorem dX10_nights_16 : decode cX10_nights 16 = .ok (.iaload, 1) := by decide +kernel
theorem dX10_nights_17 : decode cX10_nights 17 = .ok (.istore_n 2, 1) := by decide +kernel
theorem dX10_nights_18 : decode cX10_nights 18 = .ok (.iconst 0, 1) := by decide +kernel
theorem dX10_nights_19 : decode cX10_nights 19 = .ok (.istore_n 3, 1) := by decide +kernel
theorem dX10_nights_20 : decode cX10_nights 20 = .ok (.iload_n 3, 1) := by decide +kernel
theorem dX10_nights_21 : decode cX10_nights 21 = .ok (.bipush 100, 2) := by decide +kernel
theorem dX10_nights_23 : decode cX10_nights 23 = .ok (.aload_n 0, 1) := by decide +kernel
theorem dX10_nights_24 : decode cX10_nights 24 = .ok (.getfield 81, 3) := by decide +kernel
theorem dX10_nights_27 : decode cX10_nights 27 = .ok (.imul, 1) := by decide +kernel
theorem dX10_nights_28 : decode cX10_nights 28 = .ok (.if_icmp .ge 41, 3) := by decide +kernel
theorem dX10_nights_31 : decode cX10_nights 31 = .ok (.iload_n 2, 1) := by decide +kernel
theorem dX10_nights_32 : decode cX10_nights 32 = .ok (.aload_n 0, 1) := by decide +kernel
theorem dX10_nights_33 : decode cX10_nights 33 = .ok (.getfield 7, 3) := by decide +kernel
theorem dX10_nights_36 : decode cX10_nights 36 = .ok (.iload_n 1, 1) := by decide +kernel
theorem dX10_nights_37 : decode cX10_nights 37 = .ok (.iaload, 1) := by decide +kernel
theorem dX10_nights_38 : decode cX10_nights 38 = .ok (.iadd, 1) := by decide +kernel
theorem dX10_nights_39 : decode cX10_nights 39 = .ok (.sipush 199, 3) := by decide +kernel
theorem dX10_nights_42 : decode cX10_nights 42 = .ok (.invokestatic 183, 3) := by decide +kernel
theorem dX10_nights_45 : decode cX10_nights 45 = .ok (.istore_n 2, 1) := by decide +kernel
theorem dX10_nights_46 : decode cX10_nights 46 = .ok (.iload_n 2, 1) := by decide +kernel
theorem dX10_nights_47 : decode cX10_nights 47 = .ok (.aload_n 0, 1) := by decide +kernel
theorem dX10_nights_48 : decode cX10_nights 48 = .ok (.getfield 16, 3) := by decide +kernel
theorem dX10_nights_51 : decode cX10_nights 51 = .ok (.iload_n 1, 1) := by decide +kernel
theorem dX10_nights_52 : decode cX10_nights 52 = .ok (.iaload, 1) := by decide +kernel
theorem dX10_nights_53 : decode cX10_nights 53 = .ok (.if_icmp .le 10, 3) := by decide +kernel
theorem dX10_nights_56 : decode cX10_nights 56 = .ok (.iload_n 3, 1) := by decide +kernel
theorem dX10_nights_57 : decode cX10_nights 57 = .ok (.aload_n 0, 1) := by decide +kernel
theorem dX10_nights_58 : decode cX10_nights 58 = .ok (.getfield 81, 3) := by decide +kernel
theorem dX10_nights_61 : decode cX10_nights 61 = .ok (.idiv, 1) := by decide +kernel
theorem dX10_nights_62 : decode cX10_nights 62 = .ok (.ireturn, 1) := by decide +kernel
theorem dX10_nights_63 : decode cX10_nights 63 = .ok (.iinc 3 1, 3) := by decide +kernel
theorem dX10_nights_66 : decode cX10_nights 66 = .ok (.goto (-46), 3) := by decide +kernel
theorem dX10_nights_69 : decode cX10_nights 69 = .ok (.iconst (-1), 1) := by decide +kernel
theorem dX10_nights_70 : decode cX10_nights 70 = .ok (.ireturn, 1) := by decide +kernel
theorem dX10_holds_0 : decode cX10_holds 0 = .ok (.iconst 1, 1) := by decide +kernel
theorem dX10_holds_1 : decode cX10_holds 1 = .ok (.istore_n 2, 1) := by decide +kernel
theorem dX10_holds_2 : decode cX10_holds 2 = .ok (.iconst 0, 1) := by decide +kernel
theorem dX10_holds_3 : decode cX10_holds 3 = .ok (.istore_n 3, 1) := by decide +kernel
theorem dX10_holds_4 : decode cX10_holds 4 = .ok (.iload_n 3, 1) := by decide +kernel
theorem dX10_holds_5 : decode cX10_holds 5 = .ok (.aload_n 0, 1) := by decide +kernel
theorem dX10_holds_6 : decode cX10_holds 6 = .ok (.getfield 81, 3) := by decide +kernel
theorem dX10_holds_9 : decode cX10_holds 9 = .ok (.if_icmp .ge 32, 3) := by decide +kernel
theorem dX10_holds_12 : decode cX10_holds 12 = .ok (.iload_n 1, 1) := by decide +kernel
theorem dX10_holds_13 : decode cX10_holds 13 = .ok (.aload_n 0, 1) := by decide +kernel
theorem dX10_holds_14 : decode cX10_holds 14 = .ok (.iload_n 1, 1) := by decide +kernel
theorem dX10_holds_15 : decode cX10_holds 15 = .ok (.iconst 0, 1) := by decide +kernel
theorem dX10_holds_16 : decode cX10_holds 16 = .ok (.invokevirtual 186, 3) := by decide +kernel
theorem dX10_holds_19 : decode cX10_holds 19 = .ok (.iconst (-1), 1) := by decide +kernel
theorem dX10_holds_20 : decode cX10_holds 20 = .ok (.ixor, 1) := by decide +kernel
theorem dX10_holds_21 : decode cX10_holds 21 = .ok (.iand, 1) := by decide +kernel
theorem dX10_holds_22 : decode cX10_holds 22 = .ok (.ifCond .eq 11, 3) := by decide +kernel
theorem dX10_holds_25 : decode cX10_holds 25 = .ok (.iload_n 2, 1) := by decide +kernel
theorem dX10_holds_26 : decode cX10_holds 26 = .ok (.ifCond .eq 7, 3) := by decide +kernel
theorem dX10_holds_29 : decode cX10_holds 29 = .ok (.iconst 1, 1) := by decide +kernel
theorem dX10_holds_30 : decode cX10_holds 30 = .ok (.goto 4, 3) := by decide +kernel
theorem dX10_holds_33 : decode cX10_holds 33 = .ok (.iconst 0, 1) := by decide +kernel
theorem dX10_holds_34 : decode cX10_holds 34 = .ok (.istore_n 2, 1) := by decide +kernel
theorem dX10_holds_35 : decode cX10_holds 35 = .ok (.iinc 3 1, 3) := by decide +kernel
theorem dX10_holds_38 : decode cX10_holds 38 = .ok (.goto (-34), 3) := by decide +kernel
theorem dX10_holds_41 : decode cX10_holds 41 = .ok (.aload_n 0, 1) := by decide +kernel
theorem dX10_holds_42 : decode cX10_holds 42 = .ok (.invokevirtual 232, 3) := by decide +kernel
theorem dX10_holds_45 : decode cX10_holds 45 = .ok (.iload_n 2, 1) := by decide +kernel
theorem dX10_holds_46 : decode cX10_holds 46 = .ok (.ireturn, 1) := by decide +kernel
theorem dX10_hold_0 : decode cX10_hold 0 = .ok (.aload_n 0, 1) := by decide +kernel
theorem dX10_hold_1 : decode cX10_hold 1 = .ok (.getfield 81, 3) := by decide +kernel
theorem dX10_hold_4 : decode cX10_hold 4 = .ok (.ifCond .ne 6, 3) := by decide +kernel
theorem dX10_hold_7 : decode cX10_hold 7 = .ok (.ldc 205, 2) := by decide +kernel
theorem dX10_hold_9 : decode cX10_hold 9 = .ok (.ireturn, 1) := by decide +kernel
theorem dX10_hold_10 : decode cX10_hold 10 = .ok (.aload_n 0, 1) := by decide +kernel
theorem dX10_hold_11 : decode cX10_hold 11 = .ok (.invokevirtual 235, 3) := by decide +kernel
theorem dX10_hold_14 : decode cX10_hold 14 = .ok (.iconst (-1), 1) := by decide +kernel
theorem dX10_hold_15 : decode cX10_hold 15 = .ok (.istore_n 1, 1) := by decide +kernel
theorem dX10_hold_16 : decode cX10_hold 16 = .ok (.iconst 1, 1) := by decide +kernel
theorem dX10_hold_17 : decode cX10_hold 17 = .ok (.istore_n 2, 1) := by decide +kernel
theorem dX10_hold_18 : decode cX10_hold 18 = .ok (.iload_n 2, 1) := by decide +kernel
theorem dX10_hold_19 : decode cX10_hold 19 = .ok (.iconst 1, 1) := by decide +kernel
theorem dX10_hold_20 : decode cX10_hold 20 = .ok (.aload_n 0, 1) := by decide +kernel
theorem dX10_hold_21 : decode cX10_hold 21 = .ok (.getfield 84, 3) := by decide +kernel
theorem dX10_hold_24 : decode cX10_hold 24 = .ok (.ishl, 1) := by decide +kernel
theorem dX10_hold_25 : decode cX10_hold 25 = .ok (.if_icmp .ge 48, 3) := by decide +kernel
theorem dX10_hold_28 : decode cX10_hold 28 = .ok (.iload_n 1, 1) := by decide +kernel
theorem dX10_hold_29 : decode cX10_hold 29 = .ok (.ifCond .lt 14, 3) := by decide +kernel
theorem dX10_hold_32 : decode cX10_hold 32 = .ok (.iload_n 2, 1) := by decide +kernel
theorem dX10_hold_33 : decode cX10_hold 33 = .ok (.invokestatic 195, 3) := by decide +kernel
theorem dX10_hold_36 : decode cX10_hold 36 = .ok (.iload_n 1, 1) := by decide +kernel
theorem dX10_hold_37 : decode cX10_hold 37 = .ok (.invokestatic 195, 3) := by decide +kernel
theorem dX10_hold_40 : decode cX10_hold 40 = .ok (.if_icmp .ge 7, 3) := by decide +kernel
theorem dX10_hold_43 : decode cX10_hold 43 = .ok (.iconst 1, 1) := by decide +kernel
theorem dX10_hold_44 : decode cX10_hold 44 = .ok (.goto 4, 3) := by decide +kernel
theorem dX10_hold_47 : decode cX10_hold 47 = .ok (.iconst 0, 1) := by decide +kernel
theorem dX10_hold_48 : decode cX10_hold 48 = .ok (.istore_n 3, 1) := by decide +kernel
theorem dX10_hold_49 : decode cX10_hold 49 = .ok (.iload_n 3, 1) := by decide +kernel
theorem dX10_hold_50 : decode cX10_hold 50 = .ok (.ifCond .eq 15, 3) := by decide +kernel
theorem dX10_hold_53 : decode cX10_hold 53 = .ok (.aload_n 0, 1) := by decide +kernel
theorem dX10_hold_54 : decode cX10_hold 54 = .ok (.iload_n 2, 1) := by decide +kernel
theorem dX10_hold_55 : decode cX10_hold 55 = .ok (.invokevirtual 255, 3) := by decide +kernel
theorem dX10_hold_58 : decode cX10_hold 58 = .ok (.ifCond .eq 7, 3) := by decide +kernel
theorem dX10_hold_61 : decode cX10_hold 61 = .ok (.iload_n 2, 1) := by decide +kernel
theorem dX10_hold_62 : decode cX10_hold 62 = .ok (.goto 4, 3) := by decide +kernel
theorem dX10_hold_65 : decode cX10_hold 65 = .ok (.iload_n 1, 1) := by decide +kernel
theorem dX10_hold_66 : decode cX10_hold 66 = .ok (.istore_n 1, 1) := by decide +kernel
theorem dX10_hold_67 : decode cX10_hold 67 = .ok (.iinc 2 1, 3) := by decide +kernel
theorem dX10_hold_70 : decode cX10_hold 70 = .ok (.goto (-52), 3) := by decide +kernel
theorem dX10_hold_73 : decode cX10_hold 73 = .ok (.iload_n 1, 1) := by decide +kernel
theorem dX10_hold_74 : decode cX10_hold 74 = .ok (.ireturn, 1) := by decide +kernel
theorem dX10_allHours_0 : decode cX10_allHours 0 = .ok (.iconst 0, 1) := by decide +kernel
theorem dX10_allHours_1 : decode cX10_allHours 1 = .ok (.istore_n 1, 1) := by decide +kernel
theorem dX10_allHours_2 : decode cX10_allHours 2 = .ok (.iconst 0, 1) := by decide +kernel
theorem dX10_allHours_3 : decode cX10_allHours 3 = .ok (.istore_n 2, 1) := by decide +kernel
theorem dX10_allHours_4 : decode cX10_allHours 4 = .ok (.iload_n 2, 1) := by decide +kernel
theorem dX10_allHours_5 : decode cX10_allHours 5 = .ok (.aload_n 0, 1) := by decide +kernel
theorem dX10_allHours_6 : decode cX10_allHours 6 = .ok (.getfield 84, 3) := by decide +kernel
theorem dX10_allHours_9 : decode cX10_allHours 9 = .ok (.if_icmp .ge 21, 3) := by decide +kernel
theorem dX10_allHours_12 : decode cX10_allHours 12 = .ok (.iload_n 1, 1) := by decide +kernel
theorem dX10_allHours_13 : decode cX10_allHours 13 = .ok (.aload_n 0, 1) := by decide +kernel
theorem dX10_allHours_14 : decode cX10_allHours 14 = .ok (.getfield 22, 3) := by decide +kernel
theorem dX10_allHours_17 : decode cX10_allHours 17 = .ok (.bipush 6, 2) := by decide +kernel
theorem dX10_allHours_19 : decode cX10_allHours 19 = .ok (.iload_n 2, 1) := by decide +kernel
theorem dX10_allHours_20 : decode cX10_allHours 20 = .ok (.iadd, 1) := by decide +kernel
theorem dX10_allHours_21 : decode cX10_allHours 21 = .ok (.iaload, 1) := by decide +kernel
theorem dX10_allHours_22 : decode cX10_allHours 22 = .ok (.iadd, 1) := by decide +kernel
theorem dX10_allHours_23 : decode cX10_allHours 23 = .ok (.istore_n 1, 1) := by decide +kernel
theorem dX10_allHours_24 : decode cX10_allHours 24 = .ok (.iinc 2 1, 3) := by decide +kernel
theorem dX10_allHours_27 : decode cX10_allHours 27 = .ok (.goto (-23), 3) := by decide +kernel
theorem dX10_allHours_30 : decode cX10_allHours 30 = .ok (.iload_n 1, 1) := by decide +kernel
theorem dX10_allHours_31 : decode cX10_allHours 31 = .ok (.ireturn, 1) := by decide +kernel
theorem dX10_share_0 : decode cX10_share 0 = .ok (.aload_n 0, 1) := by decide +kernel
theorem dX10_share_1 : decode cX10_share 1 = .ok (.iload_n 1, 1) := by decide +kernel
theorem dX10_share_2 : decode cX10_share 2 = .ok (.invokevirtual 168, 3) := by decide +kernel
theorem dX10_share_5 : decode cX10_share 5 = .ok (.ifCond .ne 6, 3) := by decide +kernel
theorem dX10_share_8 : decode cX10_share 8 = .ok (.ldc 172, 2) := by decide +kernel
theorem dX10_share_10 : decode cX10_share 10 = .ok (.ireturn, 1) := by decide +kernel
theorem dX10_share_11 : decode cX10_share 11 = .ok (.aload_n 0, 1) := by decide +kernel
theorem dX10_share_12 : decode cX10_share 12 = .ok (.invokevirtual 258, 3) := by decide +kernel
theorem dX10_share_15 : decode cX10_share 15 = .ok (.istore_n 2, 1) := by decide +kernel
theorem dX10_share_16 : decode cX10_share 16 = .ok (.iload_n 2, 1) := by decide +kernel
theorem dX10_share_17 : decode cX10_share 17 = .ok (.ifCond .ne 7, 3) := by decide +kernel
theorem dX10_share_20 : decode cX10_share 20 = .ok (.iconst 0, 1) := by decide +kernel
theorem dX10_share_21 : decode cX10_share 21 = .ok (.goto 21, 3) := by decide +kernel
theorem dX10_share_24 : decode cX10_share 24 = .ok (.aload_n 0, 1) := by decide +kernel
theorem dX10_share_25 : decode cX10_share 25 = .ok (.getfield 22, 3) := by decide +kernel
theorem dX10_share_28 : decode cX10_share 28 = .ok (.bipush 6, 2) := by decide +kernel
theorem dX10_share_30 : decode cX10_share 30 = .ok (.iload_n 1, 1) := by decide +kernel
theorem dX10_share_31 : decode cX10_share 31 = .ok (.iadd, 1) := by decide +kernel
theorem dX10_share_32 : decode cX10_share 32 = .ok (.iaload, 1) := by decide +kernel
theorem dX10_share_33 : decode cX10_share 33 = .ok (.i2l, 1) := by decide +kernel
theorem dX10_share_34 : decode cX10_share 34 = .ok (.ldc2_w 261, 3) := by decide +kernel
theorem dX10_share_37 : decode cX10_share 37 = .ok (.lmul, 1) := by decide +kernel
theorem dX10_share_38 : decode cX10_share 38 = .ok (.iload_n 2, 1) := by decide +kernel
theorem dX10_share_39 : decode cX10_share 39 = .ok (.i2l, 1) := by decide +kernel
theorem dX10_share_40 : decode cX10_share 40 = .ok (.ldiv, 1) := by decide +kernel
theorem dX10_share_41 : decode cX10_share 41 = .ok (.l2i, 1) := by decide +kernel
theorem dX10_share_42 : decode cX10_share 42 = .ok (.ireturn, 1) := by decide +kernel
theorem dX10_paid_0 : decode cX10_paid 0 = .ok (.aload_n 0, 1) := by decide +kernel
theorem dX10_paid_1 : decode cX10_paid 1 = .ok (.iload_n 1, 1) := by decide +kernel
theorem dX10_paid_2 : decode cX10_paid 2 = .ok (.invokevirtual 168, 3) := by decide +kernel
theorem dX10_paid_5 : decode cX10_paid 5 = .ok (.ifCond .ne 6, 3) := by decide +kernel
theorem dX10_paid_8 : decode cX10_paid 8 = .ok (.ldc 172, 2) := by decide +kernel
theorem dX10_paid_10 : decode cX10_paid 10 = .ok (.ireturn, 1) := by decide +kernel
theorem dX10_paid_11 : decode cX10_paid 11 = .ok (.aload_n 0, 1) := by decide +kernel
theorem dX10_paid_12 : decode cX10_paid 12 = .ok (.invokevirtual 258, 3) := by decide +kernel
theorem dX10_paid_15 : decode cX10_paid 15 = .ok (.istore_n 2, 1) := by decide +kernel
theorem dX10_paid_16 : decode cX10_paid 16 = .ok (.aload_n 0, 1) := by decide +kernel
theorem dX10_paid_17 : decode cX10_paid 17 = .ok (.getfield 22, 3) := by decide +kernel
theorem dX10_paid_20 : decode cX10_paid 20 = .ok (.bipush 13, 2) := by decide +kernel
theorem dX10_paid_22 : decode cX10_paid 22 = .ok (.iaload, 1) := by decide +kernel
theorem dX10_paid_23 : decode cX10_paid 23 = .ok (.aload_n 0, 1) := by decide +kernel
theorem dX10_paid_24 : decode cX10_paid 24 = .ok (.getfield 22, 3) := by decide +kernel
theorem dX10_paid_27 : decode cX10_paid 27 = .ok (.bipush 14, 2) := by decide +kernel
theorem dX10_paid_29 : decode cX10_paid 29 = .ok (.iaload, 1) := by decide +kernel
theorem dX10_paid_30 : decode cX10_paid 30 = .ok (.isub, 1) := by decide +kernel
theorem dX10_paid_31 : decode cX10_paid 31 = .ok (.iconst 0, 1) := by decide +kernel
theorem dX10_paid_32 : decode cX10_paid 32 = .ok (.invokestatic 180, 3) := by decide +kernel
theorem dX10_paid_35 : decode cX10_paid 35 = .ok (.i2l, 1) := by decide +kernel
theorem dX10_paid_36 : decode cX10_paid 36 = .ok (.lstore_n 3, 1) := by decide +kernel
theorem dX10_paid_37 : decode cX10_paid 37 = .ok (.iload_n 2, 1) := by decide +kernel
theorem dX10_paid_38 : decode cX10_paid 38 = .ok (.ifCond .ne 7, 3) := by decide +kernel
theorem dX10_paid_41 : decode cX10_paid 41 = .ok (.iconst 0, 1) := by decide +kernel
theorem dX10_paid_42 : decode cX10_paid 42 = .ok (.goto 19, 3) := by decide +kernel
theorem dX10_paid_45 : decode cX10_paid 45 = .ok (.lload_n 3, 1) := by decide +kernel
theorem dX10_paid_46 : decode cX10_paid 46 = .ok (.aload_n 0, 1) := by decide +kernel
theorem dX10_paid_47 : decode cX10_paid 47 = .ok (.getfield 22, 3) := by decide +kernel
theorem dX10_paid_50 : decode cX10_paid 50 = .ok (.bipush 6, 2) := by decide +kernel
theorem dX10_paid_52 : decode cX10_paid 52 = .ok (.iload_n 1, 1) := by decide +kernel
theorem dX10_paid_53 : decode cX10_paid 53 = .ok (.iadd, 1) := by decide +kernel
theorem dX10_paid_54 : decode cX10_paid 54 = .ok (.iaload, 1) := by decide +kernel
theorem dX10_paid_55 : decode cX10_paid 55 = .ok (.i2l, 1) := by decide +kernel
theorem dX10_paid_56 : decode cX10_paid 56 = .ok (.lmul, 1) := by decide +kernel
theorem dX10_paid_57 : decode cX10_paid 57 = .ok (.iload_n 2, 1) := by decide +kernel
theorem dX10_paid_58 : decode cX10_paid 58 = .ok (.i2l, 1) := by decide +kernel
theorem dX10_paid_59 : decode cX10_paid 59 = .ok (.ldiv, 1) := by decide +kernel
theorem dX10_paid_60 : decode cX10_paid 60 = .ok (.l2i, 1) := by decide +kernel
theorem dX10_paid_61 : decode cX10_paid 61 = .ok (.ireturn, 1) := by decide +kernel
theorem dX10_blink_0 : decode cX10_blink 0 = .ok (.aload_n 0, 1) := by decide +kernel
theorem dX10_blink_1 : decode cX10_blink 1 = .ok (.iload_n 1, 1) := by decide +kernel
theorem dX10_blink_2 : decode cX10_blink 2 = .ok (.invokevirtual 168, 3) := by decide +kernel
theorem dX10_blink_5 : decode cX10_blink 5 = .ok (.ifCond .ne 6, 3) := by decide +kernel
theorem dX10_blink_8 : decode cX10_blink 8 = .ok (.ldc 172, 2) := by decide +kernel
theorem dX10_blink_10 : decode cX10_blink 10 = .ok (.ireturn, 1) := by decide +kernel
theorem dX10_blink_11 : decode cX10_blink 11 = .ok (.iload_n 2, 1) := by decide +kernel
theorem dX10_blink_12 : decode cX10_blink 12 = .ok (.i2l, 1) := by decide +kernel
theorem dX10_blink_13 : decode cX10_blink 13 = .ok (.lconst 0, 1) := by decide +kernel
theorem dX10_blink_14 : decode cX10_blink 14 = .ok (.ldc2_w 214, 3) := by decide +kernel
theorem dX10_blink_17 : decode cX10_blink 17 = .ok (.invokestatic 87, 3) := by decide +kernel
theorem dX10_blink_20 : decode cX10_blink 20 = .ok (.ifCond .eq 15, 3) := by decide +kernel
theorem dX10_blink_23 : decode cX10_blink 23 = .ok (.iload_n 3, 1) := by decide +kernel
theorem dX10_blink_24 : decode cX10_blink 24 = .ok (.i2l, 1) := by decide +kernel
theorem dX10_blink_25 : decode cX10_blink 25 = .ok (.lconst 0, 1) := by decide +kernel
theorem dX10_blink_26 : decode cX10_blink 26 = .ok (.ldc2_w 263, 3) := by decide +kernel
theorem dX10_blink_29 : decode cX10_blink 29 = .ok (.invokestatic 87, 3) := by decide +kernel
theorem dX10_blink_32 : decode cX10_blink 32 = .ok (.ifCond .ne 6, 3) := by decide +kernel
theorem dX10_blink_35 : decode cX10_blink 35 = .ok (.ldc 96, 2) := by decide +kernel
theorem dX10_blink_37 : decode cX10_blink 37 = .ok (.ireturn, 1) := by decide +kernel
theorem dX10_blink_38 : decode cX10_blink 38 = .ok (.iload_n 3, 1) := by decide +kernel
theorem dX10_blink_39 : decode cX10_blink 39 = .ok (.aload_n 0, 1) := by decide +kernel
theorem dX10_blink_40 : decode cX10_blink 40 = .ok (.getfield 22, 3) := by decide +kernel
theorem dX10_blink_43 : decode cX10_blink 43 = .ok (.iload_n 1, 1) := by decide +kernel
theorem dX10_blink_44 : decode cX10_blink 44 = .ok (.iaload, 1) := by decide +kernel
theorem dX10_blink_45 : decode cX10_blink 45 = .ok (.bipush 10, 2) := by decide +kernel
theorem dX10_blink_47 : decode cX10_blink 47 = .ok (.idiv, 1) := by decide +kernel
theorem dX10_blink_48 : decode cX10_blink 48 = .ok (.iadd, 1) := by decide +kernel
theorem dX10_blink_49 : decode cX10_blink 49 = .ok (.bipush 100, 2) := by decide +kernel
theorem dX10_blink_51 : decode cX10_blink 51 = .ok (.invokestatic 183, 3) := by decide +kernel
theorem dX10_blink_54 : decode cX10_blink 54 = .ok (.istore 4, 2) := by decide +kernel
theorem dX10_blink_56 : decode cX10_blink 56 = .ok (.ldc2_w 265, 3) := by decide +kernel
theorem dX10_blink_59 : decode cX10_blink 59 = .ok (.lstore 5, 2) := by decide +kernel
theorem dX10_blink_61 : decode cX10_blink 61 = .ok (.iconst 0, 1) := by decide +kernel
theorem dX10_blink_62 : decode cX10_blink 62 = .ok (.istore 7, 2) := by decide +kernel
theorem dX10_blink_64 : decode cX10_blink 64 = .ok (.iload 7, 2) := by decide +kernel
theorem dX10_blink_66 : decode cX10_blink 66 = .ok (.iload_n 2, 1) := by decide +kernel
theorem dX10_blink_67 : decode cX10_blink 67 = .ok (.if_icmp .ge 24, 3) := by decide +kernel
theorem dX10_blink_70 : decode cX10_blink 70 = .ok (.lload 5, 2) := by decide +kernel
theorem dX10_blink_72 : decode cX10_blink 72 = .ok (.bipush 100, 2) := by decide +kernel
theorem dX10_blink_74 : decode cX10_blink 74 = .ok (.iload 4, 2) := by decide +kernel
theorem dX10_blink_76 : decode cX10_blink 76 = .ok (.isub, 1) := by decide +kernel
theorem dX10_blink_77 : decode cX10_blink 77 = .ok (.i2l, 1) := by decide +kernel
theorem dX10_blink_78 : decode cX10_blink 78 = .ok (.lmul, 1) := by decide +kernel
theorem dX10_blink_79 : decode cX10_blink 79 = .ok (.ldc2_w 263, 3) := by decide +kernel
theorem dX10_blink_82 : decode cX10_blink 82 = .ok (.ldiv, 1) := by decide +kernel
theorem dX10_blink_83 : decode cX10_blink 83 = .ok (.lstore 5, 2) := by decide +kernel
theorem dX10_blink_85 : decode cX10_blink 85 = .ok (.iinc 7 1, 3) := by decide +kernel
theorem dX10_blink_88 : decode cX10_blink 88 = .ok (.goto (-24), 3) := by decide +kernel
theorem dX10_blink_91 : decode cX10_blink 91 = .ok (.lload 5, 2) := by decide +kernel
theorem dX10_blink_93 : decode cX10_blink 93 = .ok (.l2i, 1) := by decide +kernel
theorem dX10_blink_94 : decode cX10_blink 94 = .ok (.ireturn, 1) := by decide +kernel
theorem dX10_see_0 : decode cX10_see 0 = .ok (.aload_n 0, 1) := by decide +kernel
theorem dX10_see_1 : decode cX10_see 1 = .ok (.iload_n 1, 1) := by decide +kernel
theorem dX10_see_2 : decode cX10_see 2 = .ok (.invokevirtual 173, 3) := by decide +kernel
theorem dX10_see_5 : decode cX10_see 5 = .ok (.ifCond .ne 6, 3) := by decide +kernel
theorem dX10_see_8 : decode cX10_see 8 = .ok (.ldc 172, 2) := by decide +kernel
theorem dX10_see_10 : decode cX10_see 10 = .ok (.ireturn, 1) := by decide +kernel
theorem dX10_see_11 : decode cX10_see 11 = .ok (.aload_n 0, 1) := by decide +kernel
theorem dX10_see_12 : decode cX10_see 12 = .ok (.getfield 159, 3) := by decide +kernel
theorem dX10_see_15 : decode cX10_see 15 = .ok (.bipush 8, 2) := by decide +kernel
theorem dX10_see_17 : decode cX10_see 17 = .ok (.if_icmp .ne 6, 3) := by decide +kernel
theorem dX10_see_20 : decode cX10_see 20 = .ok (.ldc 100, 2) := by decide +kernel
theorem dX10_see_22 : decode cX10_see 22 = .ok (.ireturn, 1) := by decide +kernel
theorem dX10_see_23 : decode cX10_see 23 = .ok (.aload_n 0, 1) := by decide +kernel
theorem dX10_see_24 : decode cX10_see 24 = .ok (.getfield 62, 3) := by decide +kernel
theorem dX10_see_27 : decode cX10_see 27 = .ok (.aload_n 0, 1) := by decide +kernel
theorem dX10_see_28 : decode cX10_see 28 = .ok (.getfield 159, 3) := by decide +kernel
theorem dX10_see_31 : decode cX10_see 31 = .ok (.iload_n 1, 1) := by decide +kernel
theorem dX10_see_32 : decode cX10_see 32 = .ok (.iastore, 1) := by decide +kernel
theorem dX10_see_33 : decode cX10_see 33 = .ok (.aload_n 0, 1) := by decide +kernel
theorem dX10_see_34 : decode cX10_see 34 = .ok (.getfield 65, 3) := by decide +kernel
theorem dX10_see_37 : decode cX10_see 37 = .ok (.aload_n 0, 1) := by decide +kernel
theorem dX10_see_38 : decode cX10_see 38 = .ok (.getfield 159, 3) := by decide +kernel
theorem dX10_see_41 : decode cX10_see 41 = .ok (.iload_n 2, 1) := by decide +kernel
theorem dX10_see_42 : decode cX10_see 42 = .ok (.bastore, 1) := by decide +kernel
theorem dX10_see_43 : decode cX10_see 43 = .ok (.aload_n 0, 1) := by decide +kernel
theorem dX10_see_44 : decode cX10_see 44 = .ok (.dup, 1) := by decide +kernel
theorem dX10_see_45 : decode cX10_see 45 = .ok (.getfield 159, 3) := by decide +kernel
theorem dX10_see_48 : decode cX10_see 48 = .ok (.iconst 1, 1) := by decide +kernel
theorem dX10_see_49 : decode cX10_see 49 = .ok (.iadd, 1) := by decide +kernel
theorem dX10_see_50 : decode cX10_see 50 = .ok (.putfield 159, 3) := by decide +kernel
theorem dX10_see_53 : decode cX10_see 53 = .ok (.aload_n 0, 1) := by decide +kernel
theorem dX10_see_54 : decode cX10_see 54 = .ok (.getfield 159, 3) := by decide +kernel
theorem dX10_see_57 : decode cX10_see 57 = .ok (.ireturn, 1) := by decide +kernel
theorem dX10_couldNod_0 : decode cX10_couldNod 0 = .ok (.iload_n 2, 1) := by decide +kernel
theorem dX10_couldNod_1 : decode cX10_couldNod 1 = .ok (.iload_n 1, 1) := by decide +kernel
theorem dX10_couldNod_2 : decode cX10_couldNod 2 = .ok (.iconst (-1), 1) := by decide +kernel
theorem dX10_couldNod_3 : decode cX10_couldNod 3 = .ok (.ixor, 1) := by decide +kernel
theorem dX10_couldNod_4 : decode cX10_couldNod 4 = .ok (.iand, 1) := by decide +kernel
theorem dX10_couldNod_5 : decode cX10_couldNod 5 = .ok (.ifCond .ne 7, 3) := by decide +kernel
theorem dX10_couldNod_8 : decode cX10_couldNod 8 = .ok (.iconst 1, 1) := by decide +kernel
theorem dX10_couldNod_9 : decode cX10_couldNod 9 = .ok (.goto 4, 3) := by decide +kernel
theorem dX10_couldNod_12 : decode cX10_couldNod 12 = .ok (.iconst 0, 1) := by decide +kernel
theorem dX10_couldNod_13 : decode cX10_couldNod 13 = .ok (.istore_n 3, 1) := by decide +kernel
theorem dX10_couldNod_14 : decode cX10_couldNod 14 = .ok (.iconst 0, 1) := by decide +kernel
theorem dX10_couldNod_15 : decode cX10_couldNod 15 = .ok (.istore 4, 2) := by decide +kernel
theorem dX10_couldNod_17 : decode cX10_couldNod 17 = .ok (.iload 4, 2) := by decide +kernel
theorem dX10_couldNod_19 : decode cX10_couldNod 19 = .ok (.aload_n 0, 1) := by decide +kernel
theorem dX10_couldNod_20 : decode cX10_couldNod 20 = .ok (.getfield 159, 3) := by decide +kernel
theorem dX10_couldNod_23 : decode cX10_couldNod 23 = .ok (.if_icmp .ge 46, 3) := by decide +kernel
theorem dX10_couldNod_26 : decode cX10_couldNod 26 = .ok (.iload_n 3, 1) := by decide +kernel
theorem dX10_couldNod_27 : decode cX10_couldNod 27 = .ok (.ifCond .eq 34, 3) := by decide +kernel
theorem dX10_couldNod_30 : decode cX10_couldNod 30 = .ok (.aload_n 0, 1) := by decide +kernel
theorem dX10_couldNod_31 : decode cX10_couldNod 31 = .ok (.getfield 19, 3) := by decide +kernel
theorem dX10_couldNod_34 : decode cX10_couldNod 34 = .ok (.aload_n 0, 1) := by decide +kernel
theorem dX10_couldNod_35 : decode cX10_couldNod 35 = .ok (.getfield 62, 3) := by decide +kernel
theorem dX10_couldNod_38 : decode cX10_couldNod 38 = .ok (.iload 4, 2) := by decide +kernel
theorem dX10_couldNod_40 : decode cX10_couldNod 40 = .ok (.iaload, 1) := by decide +kernel
theorem dX10_couldNod_41 : decode cX10_couldNod 41 = .ok (.iaload, 1) := by decide +kernel
theorem dX10_couldNod_42 : decode cX10_couldNod 42 = .ok (.iload_n 1, 1) := by decide +kernel
theorem dX10_couldNod_43 : decode cX10_couldNod 43 = .ok (.iload_n 2, 1) := by decide +kernel
theorem dX10_couldNod_44 : decode cX10_couldNod 44 = .ok (.invokestatic 190, 3) := by decide +kernel
theorem dX10_couldNod_47 : decode cX10_couldNod 47 = .ok (.aload_n 0, 1) := by decide +kernel
theorem dX10_couldNod_48 : decode cX10_couldNod 48 = .ok (.getfield 65, 3) := by decide +kernel
theorem dX10_couldNod_51 : decode cX10_couldNod 51 = .ok (.iload 4, 2) := by decide +kernel
theorem dX10_couldNod_53 : decode cX10_couldNod 53 = .ok (.baload, 1) := by decide +kernel
theorem dX10_couldNod_54 : decode cX10_couldNod 54 = .ok (.if_icmp .ne 7, 3) := by decide +kernel
theorem dX10_couldNod_57 : decode cX10_couldNod 57 = .ok (.iconst 1, 1) := by decide +kernel
theorem dX10_couldNod_58 : decode cX10_couldNod 58 = .ok (.goto 4, 3) := by decide +kernel
theorem dX10_couldNod_61 : decode cX10_couldNod 61 = .ok (.iconst 0, 1) := by decide +kernel
theorem dX10_couldNod_62 : decode cX10_couldNod 62 = .ok (.istore_n 3, 1) := by decide +kernel
theorem dX10_couldNod_63 : decode cX10_couldNod 63 = .ok (.iinc 4 1, 3) := by decide +kernel
theorem dX10_couldNod_66 : decode cX10_couldNod 66 = .ok (.goto (-49), 3) := by decide +kernel
theorem dX10_couldNod_69 : decode cX10_couldNod 69 = .ok (.iload_n 3, 1) := by decide +kernel
theorem dX10_couldNod_70 : decode cX10_couldNod 70 = .ok (.ireturn, 1) := by decide +kernel
theorem dX10_sureOf_0 : decode cX10_sureOf 0 = .ok (.iload_n 1, 1) := by decide +kernel
theorem dX10_sureOf_1 : decode cX10_sureOf 1 = .ok (.istore_n 2, 1) := by decide +kernel
theorem dX10_sureOf_2 : decode cX10_sureOf 2 = .ok (.iconst 0, 1) := by decide +kernel
theorem dX10_sureOf_3 : decode cX10_sureOf 3 = .ok (.istore_n 3, 1) := by decide +kernel
theorem dX10_sureOf_4 : decode cX10_sureOf 4 = .ok (.iconst 0, 1) := by decide +kernel
theorem dX10_sureOf_5 : decode cX10_sureOf 5 = .ok (.istore 4, 2) := by decide +kernel
theorem dX10_sureOf_7 : decode cX10_sureOf 7 = .ok (.iload 4, 2) := by decide +kernel
theorem dX10_sureOf_9 : decode cX10_sureOf 9 = .ok (.iconst 1, 1) := by decide +kernel
theorem dX10_sureOf_10 : decode cX10_sureOf 10 = .ok (.aload_n 0, 1) := by decide +kernel
theorem dX10_sureOf_11 : decode cX10_sureOf 11 = .ok (.getfield 84, 3) := by decide +kernel
theorem dX10_sureOf_14 : decode cX10_sureOf 14 = .ok (.ishl, 1) := by decide +kernel
theorem dX10_sureOf_15 : decode cX10_sureOf 15 = .ok (.if_icmp .ge 26, 3) := by decide +kernel
theorem dX10_sureOf_18 : decode cX10_sureOf 18 = .ok (.aload_n 0, 1) := by decide +kernel
theorem dX10_sureOf_19 : decode cX10_sureOf 19 = .ok (.iload_n 1, 1) := by decide +kernel
theorem dX10_sureOf_20 : decode cX10_sureOf 20 = .ok (.iload 4, 2) := by decide +kernel
theorem dX10_sureOf_22 : decode cX10_sureOf 22 = .ok (.invokevirtual 267, 3) := by decide +kernel
theorem dX10_sureOf_25 : decode cX10_sureOf 25 = .ok (.ifCond .eq 10, 3) := by decide +kernel
theorem dX10_sureOf_28 : decode cX10_sureOf 28 = .ok (.iload_n 2, 1) := by decide +kernel
theorem dX10_sureOf_29 : decode cX10_sureOf 29 = .ok (.iload 4, 2) := by decide +kernel
theorem dX10_sureOf_31 : decode cX10_sureOf 31 = .ok (.iand, 1) := by decide +kernel
theorem dX10_sureOf_32 : decode cX10_sureOf 32 = .ok (.istore_n 2, 1) := by decide +kernel
theorem dX10_sureOf_33 : decode cX10_sureOf 33 = .ok (.iconst 1, 1) := by decide +kernel
theorem dX10_sureOf_34 : decode cX10_sureOf 34 = .ok (.istore_n 3, 1) := by decide +kernel
theorem dX10_sureOf_35 : decode cX10_sureOf 35 = .ok (.iinc 4 1, 3) := by decide +kernel
theorem dX10_sureOf_38 : decode cX10_sureOf 38 = .ok (.goto (-31), 3) := by decide +kernel
theorem dX10_sureOf_41 : decode cX10_sureOf 41 = .ok (.iload_n 3, 1) := by decide +kernel
theorem dX10_sureOf_42 : decode cX10_sureOf 42 = .ok (.ifCond .eq 7, 3) := by decide +kernel
theorem dX10_sureOf_45 : decode cX10_sureOf 45 = .ok (.iload_n 2, 1) := by decide +kernel
theorem dX10_sureOf_46 : decode cX10_sureOf 46 = .ok (.goto 4, 3) := by decide +kernel
theorem dX10_sureOf_49 : decode cX10_sureOf 49 = .ok (.iconst 0, 1) := by decide +kernel
theorem dX10_sureOf_50 : decode cX10_sureOf 50 = .ok (.ireturn, 1) := by decide +kernel
theorem dX10_nodded_0 : decode cX10_nodded 0 = .ok (.aload_n 0, 1) := by decide +kernel
theorem dX10_nodded_1 : decode cX10_nodded 1 = .ok (.iload_n 1, 1) := by decide +kernel
theorem dX10_nodded_2 : decode cX10_nodded 2 = .ok (.invokevirtual 202, 3) := by decide +kernel
theorem dX10_nodded_5 : decode cX10_nodded 5 = .ok (.ifCond .ne 6, 3) := by decide +kernel
theorem dX10_nodded_8 : decode cX10_nodded 8 = .ok (.ldc 172, 2) := by decide +kernel
theorem dX10_nodded_10 : decode cX10_nodded 10 = .ok (.ireturn, 1) := by decide +kernel
theorem dX10_nodded_11 : decode cX10_nodded 11 = .ok (.iload_n 2, 1) := by decide +kernel
theorem dX10_nodded_12 : decode cX10_nodded 12 = .ok (.bipush (-2), 2) := by decide +kernel
theorem dX10_nodded_14 : decode cX10_nodded 14 = .ok (.if_icmp .ne 9, 3) := by decide +kernel
theorem dX10_nodded_17 : decode cX10_nodded 17 = .ok (.aload_n 0, 1) := by decide +kernel
theorem dX10_nodded_18 : decode cX10_nodded 18 = .ok (.iload_n 1, 1) := by decide +kernel
theorem dX10_nodded_19 : decode cX10_nodded 19 = .ok (.invokevirtual 270, 3) := by decide +kernel
theorem dX10_nodded_22 : decode cX10_nodded 22 = .ok (.ireturn, 1) := by decide +kernel
theorem dX10_nodded_23 : decode cX10_nodded 23 = .ok (.iconst 0, 1) := by decide +kernel
theorem dX10_nodded_24 : decode cX10_nodded 24 = .ok (.istore_n 3, 1) := by decide +kernel
theorem dX10_nodded_25 : decode cX10_nodded 25 = .ok (.iconst 0, 1) := by decide +kernel
theorem dX10_nodded_26 : decode cX10_nodded 26 = .ok (.istore 4, 2) := by decide +kernel
theorem dX10_nodded_28 : decode cX10_nodded 28 = .ok (.iload 4, 2) := by decide +kernel
theorem dX10_nodded_30 : decode cX10_nodded 30 = .ok (.aload_n 0, 1) := by decide +kernel
theorem dX10_nodded_31 : decode cX10_nodded 31 = .ok (.getfield 84, 3) := by decide +kernel
theorem dX10_nodded_34 : decode cX10_nodded 34 = .ok (.if_icmp .gt 60, 3) := by decide +kernel
theorem dX10_nodded_37 : decode cX10_nodded 37 = .ok (.iconst 0, 1) := by decide +kernel
theorem dX10_nodded_38 : decode cX10_nodded 38 = .ok (.istore 5, 2) := by decide +kernel
theorem dX10_nodded_40 : decode cX10_nodded 40 = .ok (.iload 5, 2) := by decide +kernel
theorem dX10_nodded_42 : decode cX10_nodded 42 = .ok (.iconst 1, 1) := by decide +kernel
theorem dX10_nodded_43 : decode cX10_nodded 43 = .ok (.aload_n 0, 1) := by decide +kernel
theorem dX10_nodded_44 : decode cX10_nodded 44 = .ok (.getfield 84, 3) := by decide +kernel
theorem dX10_nodded_47 : decode cX10_nodded 47 = .ok (.ishl, 1) := by decide +kernel
theorem dX10_nodded_48 : decode cX10_nodded 48 = .ok (.if_icmp .ge 40, 3) := by decide +kernel
theorem dX10_nodded_51 : decode cX10_nodded 51 = .ok (.iload 5, 2) := by decide +kernel
theorem dX10_nodded_53 : decode cX10_nodded 53 = .ok (.invokestatic 195, 3) := by decide +kernel
theorem dX10_nodded_56 : decode cX10_nodded 56 = .ok (.iload 4, 2) := by decide +kernel
theorem dX10_nodded_58 : decode cX10_nodded 58 = .ok (.if_icmp .ne 24, 3) := by decide +kernel
theorem dX10_nodded_61 : decode cX10_nodded 61 = .ok (.aload_n 0, 1) := by decide +kernel
theorem dX10_nodded_62 : decode cX10_nodded 62 = .ok (.iload_n 1, 1) := by decide +kernel
theorem dX10_nodded_63 : decode cX10_nodded 63 = .ok (.iload 5, 2) := by decide +kernel
theorem dX10_nodded_65 : decode cX10_nodded 65 = .ok (.invokevirtual 267, 3) := by decide +kernel
theorem dX10_nodded_68 : decode cX10_nodded 68 = .ok (.ifCond .eq 14, 3) := by decide +kernel
theorem dX10_nodded_71 : decode cX10_nodded 71 = .ok (.iload_n 3, 1) := by decide +kernel
theorem dX10_nodded_72 : decode cX10_nodded 72 = .ok (.iload_n 2, 1) := by decide +kernel
theorem dX10_nodded_73 : decode cX10_nodded 73 = .ok (.if_icmp .ne 6, 3) := by decide +kernel
theorem dX10_nodded_76 : decode cX10_nodded 76 = .ok (.iload 5, 2) := by decide +kernel
theorem dX10_nodded_78 : decode cX10_nodded 78 = .ok (.ireturn, 1) := by decide +kernel
theorem dX10_nodded_79 : decode cX10_nodded 79 = .ok (.iinc 3 1, 3) := by decide +kernel
theorem dX10_nodded_82 : decode cX10_nodded 82 = .ok (.iinc 5 1, 3) := by decide +kernel
theorem dX10_nodded_85 : decode cX10_nodded 85 = .ok (.goto (-45), 3) := by decide +kernel
theorem dX10_nodded_88 : decode cX10_nodded 88 = .ok (.iinc 4 1, 3) := by decide +kernel
theorem dX10_nodded_91 : decode cX10_nodded 91 = .ok (.goto (-63), 3) := by decide +kernel
theorem dX10_nodded_94 : decode cX10_nodded 94 = .ok (.iload_n 2, 1) := by decide +kernel
theorem dX10_nodded_95 : decode cX10_nodded 95 = .ok (.iconst (-1), 1) := by decide +kernel
theorem dX10_nodded_96 : decode cX10_nodded 96 = .ok (.if_icmp .ne 7, 3) := by decide +kernel
theorem dX10_nodded_99 : decode cX10_nodded 99 = .ok (.iload_n 3, 1) := by decide +kernel
theorem dX10_nodded_100 : decode cX10_nodded 100 = .ok (.goto 4, 3) := by decide +kernel
theorem dX10_nodded_103 : decode cX10_nodded 103 = .ok (.iconst (-1), 1) := by decide +kernel
theorem dX10_nodded_104 : decode cX10_nodded 104 = .ok (.ireturn, 1) := by decide +kernel
theorem dX10_askNext_0 : decode cX10_askNext 0 = .ok (.aload_n 0, 1) := by decide +kernel
theorem dX10_askNext_1 : decode cX10_askNext 1 = .ok (.iload_n 1, 1) := by decide +kernel
theorem dX10_askNext_2 : decode cX10_askNext 2 = .ok (.invokevirtual 202, 3) := by decide +kernel
theorem dX10_askNext_5 : decode cX10_askNext 5 = .ok (.ifCond .ne 6, 3) := by decide +kernel
theorem dX10_askNext_8 : decode cX10_askNext 8 = .ok (.ldc 172, 2) := by decide +kernel
theorem dX10_askNext_10 : decode cX10_askNext 10 = .ok (.ireturn, 1) := by decide +kernel
theorem dX10_askNext_11 : decode cX10_askNext 11 = .ok (.iconst 0, 1) := by decide +kernel
theorem dX10_askNext_12 : decode cX10_askNext 12 = .ok (.istore_n 2, 1) := by decide +kernel
theorem dX10_askNext_13 : decode cX10_askNext 13 = .ok (.iconst 0, 1) := by decide +kernel
theorem dX10_askNext_14 : decode cX10_askNext 14 = .ok (.istore_n 3, 1) := by decide +kernel
theorem dX10_askNext_15 : decode cX10_askNext 15 = .ok (.iload_n 3, 1) := by decide +kernel
theorem dX10_askNext_16 : decode cX10_askNext 16 = .ok (.iconst 1, 1) := by decide +kernel
theorem dX10_askNext_17 : decode cX10_askNext 17 = .ok (.aload_n 0, 1) := by decide +kernel
theorem dX10_askNext_18 : decode cX10_askNext 18 = .ok (.getfield 84, 3) := by decide +kernel
theorem dX10_askNext_21 : decode cX10_askNext 21 = .ok (.ishl, 1) := by decide +kernel
theorem dX10_askNext_22 : decode cX10_askNext 22 = .ok (.if_icmp .ge 26, 3) := by decide +kernel
theorem dX10_askNext_25 : decode cX10_askNext 25 = .ok (.iload_n 2, 1) := by decide +kernel
theorem dX10_askNext_26 : decode cX10_askNext 26 = .ok (.aload_n 0, 1) := by decide +kernel
theorem dX10_askNext_27 : decode cX10_askNext 27 = .ok (.iload_n 1, 1) := by decide +kernel
theorem dX10_askNext_28 : decode cX10_askNext 28 = .ok (.iload_n 3, 1) := by decide +kernel
theorem dX10_askNext_29 : decode cX10_askNext 29 = .ok (.invokevirtual 267, 3) := by decide +kernel
theorem dX10_askNext_32 : decode cX10_askNext 32 = .ok (.ifCond .eq 7, 3) := by decide +kernel
theorem dX10_askNext_35 : decode cX10_askNext 35 = .ok (.iconst 1, 1) := by decide +kernel
theorem dX10_askNext_36 : decode cX10_askNext 36 = .ok (.goto 4, 3) := by decide +kernel
theorem dX10_askNext_39 : decode cX10_askNext 39 = .ok (.iconst 0, 1) := by decide +kernel
theorem dX10_askNext_40 : decode cX10_askNext 40 = .ok (.iadd, 1) := by decide +kernel
theorem dX10_askNext_41 : decode cX10_askNext 41 = .ok (.istore_n 2, 1) := by decide +kernel
theorem dX10_askNext_42 : decode cX10_askNext 42 = .ok (.iinc 3 1, 3) := by decide +kernel
theorem dX10_askNext_45 : decode cX10_askNext 45 = .ok (.goto (-30), 3) := by decide +kernel
theorem dX10_askNext_48 : decode cX10_askNext 48 = .ok (.iconst (-1), 1) := by decide +kernel
theorem dX10_askNext_49 : decode cX10_askNext 49 = .ok (.istore_n 3, 1) := by decide +kernel
theorem dX10_askNext_50 : decode cX10_askNext 50 = .ok (.iload_n 2, 1) := by decide +kernel
theorem dX10_askNext_51 : decode cX10_askNext 51 = .ok (.istore 4, 2) := by decide +kernel
theorem dX10_askNext_53 : decode cX10_askNext 53 = .ok (.iconst 0, 1) := by decide +kernel
theorem dX10_askNext_54 : decode cX10_askNext 54 = .ok (.istore 5, 2) := by decide +kernel
theorem dX10_askNext_56 : decode cX10_askNext 56 = .ok (.iload 5, 2) := by decide +kernel
theorem dX10_askNext_58 : decode cX10_askNext 58 = .ok (.aload_n 0, 1) := by decide +kernel
theorem dX10_askNext_59 : decode cX10_askNext 59 = .ok (.getfield 91, 3) := by decide +kernel
theorem dX10_askNext_62 : decode cX10_askNext 62 = .ok (.if_icmp .ge 102, 3) := by decide +kernel
theorem dX10_askNext_65 : decode cX10_askNext 65 = .ok (.iconst 0, 1) := by decide +kernel
theorem dX10_askNext_66 : decode cX10_askNext 66 = .ok (.istore 6, 2) := by decide +kernel
theorem dX10_askNext_68 : decode cX10_askNext 68 = .ok (.iconst 0, 1) := by decide +kernel
theorem dX10_askNext_69 : decode cX10_askNext 69 = .ok (.istore 7, 2) := by decide +kernel
theorem dX10_askNext_71 : decode cX10_askNext 71 = .ok (.iload 7, 2) := by decide +kernel
theorem dX10_askNext_73 : decode cX10_askNext 73 = .ok (.iconst 1, 1) := by decide +kernel
theorem dX10_askNext_74 : decode cX10_askNext 74 = .ok (.aload_n 0, 1) := by decide +kernel
theorem dX10_askNext_75 : decode cX10_askNext 75 = .ok (.getfield 84, 3) := by decide +kernel
theorem dX10_askNext_78 : decode cX10_askNext 78 = .ok (.ishl, 1) := by decide +kernel
theorem dX10_askNext_79 : decode cX10_askNext 79 = .ok (.if_icmp .ge 45, 3) := by decide +kernel
theorem dX10_askNext_82 : decode cX10_askNext 82 = .ok (.iload 6, 2) := by decide +kernel
theorem dX10_askNext_84 : decode cX10_askNext 84 = .ok (.aload_n 0, 1) := by decide +kernel
theorem dX10_askNext_85 : decode cX10_askNext 85 = .ok (.iload_n 1, 1) := by decide +kernel
theorem dX10_askNext_86 : decode cX10_askNext 86 = .ok (.iload 7, 2) := by decide +kernel
theorem dX10_askNext_88 : decode cX10_askNext 88 = .ok (.invokevirtual 267, 3) := by decide +kernel
theorem dX10_askNext_91 : decode cX10_askNext 91 = .ok (.ifCond .eq 23, 3) := by decide +kernel
theorem dX10_askNext_94 : decode cX10_askNext 94 = .ok (.aload_n 0, 1) := by decide +kernel
theorem dX10_askNext_95 : decode cX10_askNext 95 = .ok (.getfield 19, 3) := by decide +kernel
theorem dX10_askNext_98 : decode cX10_askNext 98 = .ok (.iload 5, 2) := by decide +kernel
theorem dX10_askNext_100 : decode cX10_askNext 100 = .ok (.iaload, 1) := by decide +kernel
theorem dX10_askNext_101 : decode cX10_askNext 101 = .ok (.iload_n 1, 1) := by decide +kernel
theorem dX10_askNext_102 : decode cX10_askNext 102 = .ok (.iload 7, 2) := by decide +kernel
theorem dX10_askNext_104 : decode cX10_askNext 104 = .ok (.invokestatic 190, 3) := by decide +kernel
theorem dX10_askNext_107 : decode cX10_askNext 107 = .ok (.ifCond .eq 7, 3) := by decide +kernel
theorem dX10_askNext_110 : decode cX10_askNext 110 = .ok (.iconst 1, 1) := by decide +kernel
theorem dX10_askNext_111 : decode cX10_askNext 111 = .ok (.goto 4, 3) := by decide +kernel
theorem dX10_askNext_114 : decode cX10_askNext 114 = .ok (.iconst 0, 1) := by decide +kernel
theorem dX10_askNext_115 : decode cX10_askNext 115 = .ok (.iadd, 1) := by decide +kernel
theorem dX10_askNext_116 : decode cX10_askNext 116 = .ok (.istore 6, 2) := by decide +kernel
theorem dX10_askNext_118 : decode cX10_askNext 118 = .ok (.iinc 7 1, 3) := by decide +kernel
theorem dX10_askNext_121 : decode cX10_askNext 121 = .ok (.goto (-50), 3) := by decide +kernel
theorem dX10_askNext_124 : decode cX10_askNext 124 = .ok (.iload 6, 2) := by decide +kernel
theorem dX10_askNext_126 : decode cX10_askNext 126 = .ok (.iload_n 2, 1) := by decide +kernel
theorem dX10_askNext_127 : decode cX10_askNext 127 = .ok (.iload 6, 2) := by decide +kernel
theorem dX10_askNext_129 : decode cX10_askNext 129 = .ok (.isub, 1) := by decide +kernel
theorem dX10_askNext_130 : decode cX10_askNext 130 = .ok (.invokestatic 180, 3) := by decide +kernel
theorem dX10_askNext_133 : decode cX10_askNext 133 = .ok (.istore 7, 2) := by decide +kernel
theorem dX10_askNext_135 : decode cX10_askNext 135 = .ok (.iload 7, 2) := by decide +kernel
theorem dX10_askNext_137 : decode cX10_askNext 137 = .ok (.iload 4, 2) := by decide +kernel
theorem dX10_askNext_139 : decode cX10_askNext 139 = .ok (.if_icmp .ge 8, 3) := by decide +kernel
theorem dX10_askNext_142 : decode cX10_askNext 142 = .ok (.iload 5, 2) := by decide +kernel
theorem dX10_askNext_144 : decode cX10_askNext 144 = .ok (.goto 4, 3) := by decide +kernel
theorem dX10_askNext_147 : decode cX10_askNext 147 = .ok (.iload_n 3, 1) := by decide +kernel
theorem dX10_askNext_148 : decode cX10_askNext 148 = .ok (.istore_n 3, 1) := by decide +kernel
theorem dX10_askNext_149 : decode cX10_askNext 149 = .ok (.iload 7, 2) := by decide +kernel
theorem dX10_askNext_151 : decode cX10_askNext 151 = .ok (.iload 4, 2) := by decide +kernel
theorem dX10_askNext_153 : decode cX10_askNext 153 = .ok (.invokestatic 183, 3) := by decide +kernel
theorem dX10_askNext_156 : decode cX10_askNext 156 = .ok (.istore 4, 2) := by decide +kernel
theorem dX10_askNext_158 : decode cX10_askNext 158 = .ok (.iinc 5 1, 3) := by decide +kernel
theorem dX10_askNext_161 : decode cX10_askNext 161 = .ok (.goto (-105), 3) := by decide +kernel
theorem dX10_askNext_164 : decode cX10_askNext 164 = .ok (.iload_n 3, 1) := by decide +kernel
theorem dX10_askNext_165 : decode cX10_askNext 165 = .ok (.ireturn, 1) := by decide +kernel
theorem dX10_write_0 : decode cX10_write 0 = .ok (.aload_n 0, 1) := by decide +kernel
theorem dX10_write_1 : decode cX10_write 1 = .ok (.iload_n 1, 1) := by decide +kernel
theorem dX10_write_2 : decode cX10_write 2 = .ok (.invokevirtual 168, 3) := by decide +kernel
theorem dX10_write_5 : decode cX10_write 5 = .ok (.ifCond .ne 6, 3) := by decide +kernel
theorem dX10_write_8 : decode cX10_write 8 = .ok (.ldc 172, 2) := by decide +kernel
theorem dX10_write_10 : decode cX10_write 10 = .ok (.ireturn, 1) := by decide +kernel
theorem dX10_write_11 : decode cX10_write 11 = .ok (.iload_n 2, 1) := by decide +kernel
theorem dX10_write_12 : decode cX10_write 12 = .ok (.i2l, 1) := by decide +kernel
theorem dX10_write_13 : decode cX10_write 13 = .ok (.lconst 0, 1) := by decide +kernel
theorem dX10_write_14 : decode cX10_write 14 = .ok (.ldc2_w 273, 3) := by decide +kernel
theorem dX10_write_17 : decode cX10_write 17 = .ok (.invokestatic 87, 3) := by decide +kernel
theorem dX10_write_20 : decode cX10_write 20 = .ok (.ifCond .ne 6, 3) := by decide +kernel
theorem dX10_write_23 : decode cX10_write 23 = .ok (.ldc 96, 2) := by decide +kernel
theorem dX10_write_25 : decode cX10_write 25 = .ok (.ireturn, 1) := by decide +kernel
theorem dX10_write_26 : decode cX10_write 26 = .ok (.aload_n 0, 1) := by decide +kernel
theorem dX10_write_27 : decode cX10_write 27 = .ok (.getfield 162, 3) := by decide +kernel
theorem dX10_write_30 : decode cX10_write 30 = .ok (.bipush 15, 2) := by decide +kernel
theorem dX10_write_32 : decode cX10_write 32 = .ok (.if_icmp .ne 6, 3) := by decide +kernel
theorem dX10_write_35 : decode cX10_write 35 = .ok (.ldc 100, 2) := by decide +kernel
theorem dX10_write_37 : decode cX10_write 37 = .ok (.ireturn, 1) := by decide +kernel
theorem dX10_write_38 : decode cX10_write 38 = .ok (.aload_n 0, 1) := by decide +kernel
theorem dX10_write_39 : decode cX10_write 39 = .ok (.getfield 69, 3) := by decide +kernel
theorem dX10_write_42 : decode cX10_write 42 = .ok (.aload_n 0, 1) := by decide +kernel
theorem dX10_write_43 : decode cX10_write 43 = .ok (.getfield 162, 3) := by decide +kernel
theorem dX10_write_46 : decode cX10_write 46 = .ok (.iload_n 1, 1) := by decide +kernel
theorem dX10_write_47 : decode cX10_write 47 = .ok (.iastore, 1) := by decide +kernel
theorem dX10_write_48 : decode cX10_write 48 = .ok (.aload_n 0, 1) := by decide +kernel
theorem dX10_write_49 : decode cX10_write 49 = .ok (.getfield 72, 3) := by decide +kernel
theorem dX10_write_52 : decode cX10_write 52 = .ok (.aload_n 0, 1) := by decide +kernel
theorem dX10_write_53 : decode cX10_write 53 = .ok (.getfield 162, 3) := by decide +kernel
theorem dX10_write_56 : decode cX10_write 56 = .ok (.iload_n 2, 1) := by decide +kernel
theorem dX10_write_57 : decode cX10_write 57 = .ok (.iastore, 1) := by decide +kernel
theorem dX10_write_58 : decode cX10_write 58 = .ok (.aload_n 0, 1) := by decide +kernel
theorem dX10_write_59 : decode cX10_write 59 = .ok (.dup, 1) := by decide +kernel
theorem dX10_write_60 : decode cX10_write 60 = .ok (.getfield 162, 3) := by decide +kernel
theorem dX10_write_63 : decode cX10_write 63 = .ok (.iconst 1, 1) := by decide +kernel
theorem dX10_write_64 : decode cX10_write 64 = .ok (.iadd, 1) := by decide +kernel
theorem dX10_write_65 : decode cX10_write 65 = .ok (.putfield 162, 3) := by decide +kernel
theorem dX10_write_68 : decode cX10_write 68 = .ok (.aload_n 0, 1) := by decide +kernel
theorem dX10_write_69 : decode cX10_write 69 = .ok (.getfield 162, 3) := by decide +kernel
theorem dX10_write_72 : decode cX10_write 72 = .ok (.ireturn, 1) := by decide +kernel
theorem dX10_tear_0 : decode cX10_tear 0 = .ok (.aload_n 0, 1) := by decide +kernel
theorem dX10_tear_1 : decode cX10_tear 1 = .ok (.getfield 159, 3) := by decide +kernel
theorem dX10_tear_4 : decode cX10_tear 4 = .ok (.aload_n 0, 1) := by decide +kernel
theorem dX10_tear_5 : decode cX10_tear 5 = .ok (.getfield 162, 3) := by decide +kernel
theorem dX10_tear_8 : decode cX10_tear 8 = .ok (.iadd, 1) := by decide +kernel
theorem dX10_tear_9 : decode cX10_tear 9 = .ok (.istore_n 1, 1) := by decide +kernel
theorem dX10_tear_10 : decode cX10_tear 10 = .ok (.aload_n 0, 1) := by decide +kernel
theorem dX10_tear_11 : decode cX10_tear 11 = .ok (.iconst 0, 1) := by decide +kernel
theorem dX10_tear_12 : decode cX10_tear 12 = .ok (.putfield 159, 3) := by decide +kernel
theorem dX10_tear_15 : decode cX10_tear 15 = .ok (.aload_n 0, 1) := by decide +kernel
theorem dX10_tear_16 : decode cX10_tear 16 = .ok (.iconst 0, 1) := by decide +kernel
theorem dX10_tear_17 : decode cX10_tear 17 = .ok (.putfield 162, 3) := by decide +kernel
theorem dX10_tear_20 : decode cX10_tear 20 = .ok (.iload_n 1, 1) := by decide +kernel
theorem dX10_tear_21 : decode cX10_tear 21 = .ok (.ireturn, 1) := by decide +kernel
theorem dX10_judge_0 : decode cX10_judge 0 = .ok (.iconst 0, 1) := by decide +kernel
theorem dX10_judge_1 : decode cX10_judge 1 = .ok (.istore_n 1, 1) := by decide +kernel
theorem dX10_judge_2 : decode cX10_judge 2 = .ok (.iload_n 1, 1) := by decide +kernel
theorem dX10_judge_3 : decode cX10_judge 3 = .ok (.aload_n 0, 1) := by decide +kernel
theorem dX10_judge_4 : decode cX10_judge 4 = .ok (.getfield 162, 3) := by decide +kernel
theorem dX10_judge_7 : decode cX10_judge 7 = .ok (.if_icmp .ge 31, 3) := by decide +kernel
theorem dX10_judge_10 : decode cX10_judge 10 = .ok (.aload_n 0, 1) := by decide +kernel
theorem dX10_judge_11 : decode cX10_judge 11 = .ok (.getfield 22, 3) := by decide +kernel
theorem dX10_judge_14 : decode cX10_judge 14 = .ok (.aload_n 0, 1) := by decide +kernel
theorem dX10_judge_15 : decode cX10_judge 15 = .ok (.getfield 69, 3) := by decide +kernel
theorem dX10_judge_18 : decode cX10_judge 18 = .ok (.iload_n 1, 1) := by decide +kernel
theorem dX10_judge_19 : decode cX10_judge 19 = .ok (.iaload, 1) := by decide +kernel
theorem dX10_judge_20 : decode cX10_judge 20 = .ok (.iaload, 1) := by decide +kernel
theorem dX10_judge_21 : decode cX10_judge 21 = .ok (.aload_n 0, 1) := by decide +kernel
theorem dX10_judge_22 : decode cX10_judge 22 = .ok (.getfield 72, 3) := by decide +kernel
theorem dX10_judge_25 : decode cX10_judge 25 = .ok (.iload_n 1, 1) := by decide +kernel
theorem dX10_judge_26 : decode cX10_judge 26 = .ok (.iaload, 1) := by decide +kernel
theorem dX10_judge_27 : decode cX10_judge 27 = .ok (.if_icmp .eq 5, 3) := by decide +kernel
theorem dX10_judge_30 : decode cX10_judge 30 = .ok (.iload_n 1, 1) := by decide +kernel
theorem dX10_judge_31 : decode cX10_judge 31 = .ok (.ireturn, 1) := by decide +kernel
theorem dX10_judge_32 : decode cX10_judge 32 = .ok (.iinc 1 1, 3) := by decide +kernel
theorem dX10_judge_35 : decode cX10_judge 35 = .ok (.goto (-33), 3) := by decide +kernel
theorem dX10_judge_38 : decode cX10_judge 38 = .ok (.iconst (-1), 1) := by decide +kernel
theorem dX10_judge_39 : decode cX10_judge 39 = .ok (.ireturn, 1) := by decide +kernel
theorem dX10_seed_0 : decode cX10_seed 0 = .ok (.iload_n 1, 1) := by decide +kernel
theorem dX10_seed_1 : decode cX10_seed 1 = .ok (.ifCond .ge 6, 3) := by decide +kernel
theorem dX10_seed_4 : decode cX10_seed 4 = .ok (.ldc 96, 2) := by decide +kernel
theorem dX10_seed_6 : decode cX10_seed 6 = .ok (.ireturn, 1) := by decide +kernel
theorem dX10_seed_7 : decode cX10_seed 7 = .ok (.aload_n 0, 1) := by decide +kernel
theorem dX10_seed_8 : decode cX10_seed 8 = .ok (.getfield 219, 3) := by decide +kernel
theorem dX10_seed_11 : decode cX10_seed 11 = .ok (.istore_n 2, 1) := by decide +kernel
theorem dX10_seed_12 : decode cX10_seed 12 = .ok (.aload_n 0, 1) := by decide +kernel
theorem dX10_seed_13 : decode cX10_seed 13 = .ok (.iload_n 1, 1) := by decide +kernel
theorem dX10_seed_14 : decode cX10_seed 14 = .ok (.putfield 219, 3) := by decide +kernel
theorem dX10_seed_17 : decode cX10_seed 17 = .ok (.iload_n 2, 1) := by decide +kernel
theorem dX10_seed_18 : decode cX10_seed 18 = .ok (.ireturn, 1) := by decide +kernel
theorem dX10_keep_0 : decode cX10_keep 0 = .ok (.iload_n 1, 1) := by decide +kernel
theorem dX10_keep_1 : decode cX10_keep 1 = .ok (.i2l, 1) := by decide +kernel
theorem dX10_keep_2 : decode cX10_keep 2 = .ok (.lconst 0, 1) := by decide +kernel
theorem dX10_keep_3 : decode cX10_keep 3 = .ok (.lconst 1, 1) := by decide +kernel
theorem dX10_keep_4 : decode cX10_keep 4 = .ok (.invokestatic 87, 3) := by decide +kernel
theorem dX10_keep_7 : decode cX10_keep 7 = .ok (.ifCond .ne 6, 3) := by decide +kernel
theorem dX10_keep_10 : decode cX10_keep 10 = .ok (.ldc 172, 2) := by decide +kernel
theorem dX10_keep_12 : decode cX10_keep 12 = .ok (.ireturn, 1) := by decide +kernel
theorem dX10_keep_13 : decode cX10_keep 13 = .ok (.iconst 0, 1) := by decide +kernel
theorem dX10_keep_14 : decode cX10_keep 14 = .ok (.istore_n 2, 1) := by decide +kernel
theorem dX10_keep_15 : decode cX10_keep 15 = .ok (.iload_n 2, 1) := by decide +kernel
theorem dX10_keep_16 : decode cX10_keep 16 = .ok (.bipush 19, 2) := by decide +kernel
theorem dX10_keep_18 : decode cX10_keep 18 = .ok (.if_icmp .ge 26, 3) := by decide +kernel
theorem dX10_keep_21 : decode cX10_keep 21 = .ok (.aload_n 0, 1) := by decide +kernel
theorem dX10_keep_22 : decode cX10_keep 22 = .ok (.getfield 75, 3) := by decide +kernel
theorem dX10_keep_25 : decode cX10_keep 25 = .ok (.bipush 20, 2) := by decide +kernel
theorem dX10_keep_27 : decode cX10_keep 27 = .ok (.iload_n 1, 1) := by decide +kernel
theorem dX10_keep_28 : decode cX10_keep 28 = .ok (.imul, 1) := by decide +kernel
theorem dX10_keep_29 : decode cX10_keep 29 = .ok (.iload_n 2, 1) := by decide +kernel
theorem dX10_keep_30 : decode cX10_keep 30 = .ok (.iadd, 1) := by decide +kernel
theorem dX10_keep_31 : decode cX10_keep 31 = .ok (.aload_n 0, 1) := by decide +kernel
theorem dX10_keep_32 : decode cX10_keep 32 = .ok (.getfield 22, 3) := by decide +kernel
theorem dX10_keep_35 : decode cX10_keep 35 = .ok (.iload_n 2, 1) := by decide +kernel
theorem dX10_keep_36 : decode cX10_keep 36 = .ok (.iaload, 1) := by decide +kernel
theorem dX10_keep_37 : decode cX10_keep 37 = .ok (.iastore, 1) := by decide +kernel
theorem dX10_keep_38 : decode cX10_keep 38 = .ok (.iinc 2 1, 3) := by decide +kernel
theorem dX10_keep_41 : decode cX10_keep 41 = .ok (.goto (-26), 3) := by decide +kernel
theorem dX10_keep_44 : decode cX10_keep 44 = .ok (.aload_n 0, 1) := by decide +kernel
theorem dX10_keep_45 : decode cX10_keep 45 = .ok (.getfield 75, 3) := by decide +kernel
theorem dX10_keep_48 : decode cX10_keep 48 = .ok (.bipush 20, 2) := by decide +kernel
theorem dX10_keep_50 : decode cX10_keep 50 = .ok (.iload_n 1, 1) := by decide +kernel
theorem dX10_keep_51 : decode cX10_keep 51 = .ok (.imul, 1) := by decide +kernel
theorem dX10_keep_52 : decode cX10_keep 52 = .ok (.bipush 19, 2) := by decide +kernel
theorem dX10_keep_54 : decode cX10_keep 54 = .ok (.iadd, 1) := by decide +kernel
theorem dX10_keep_55 : decode cX10_keep 55 = .ok (.aload_n 0, 1) := by decide +kernel
theorem dX10_keep_56 : decode cX10_keep 56 = .ok (.getfield 219, 3) := by decide +kernel
theorem dX10_keep_59 : decode cX10_keep 59 = .ok (.iastore, 1) := by decide +kernel
theorem dX10_keep_60 : decode cX10_keep 60 = .ok (.aload_n 0, 1) := by decide +kernel
theorem dX10_keep_61 : decode cX10_keep 61 = .ok (.getfield 78, 3) := by decide +kernel
theorem dX10_keep_64 : decode cX10_keep 64 = .ok (.iload_n 1, 1) := by decide +kernel
theorem dX10_keep_65 : decode cX10_keep 65 = .ok (.iconst 1, 1) := by decide +kernel
theorem dX10_keep_66 : decode cX10_keep 66 = .ok (.bastore, 1) := by decide +kernel
theorem dX10_keep_67 : decode cX10_keep 67 = .ok (.aload_n 0, 1) := by decide +kernel
theorem dX10_keep_68 : decode cX10_keep 68 = .ok (.iconst 0, 1) := by decide +kernel
theorem dX10_keep_69 : decode cX10_keep 69 = .ok (.putfield 165, 3) := by decide +kernel
theorem dX10_keep_72 : decode cX10_keep 72 = .ok (.iconst 1, 1) := by decide +kernel
theorem dX10_keep_73 : decode cX10_keep 73 = .ok (.ireturn, 1) := by decide +kernel
theorem dX10_goBack_0 : decode cX10_goBack 0 = .ok (.iload_n 1, 1) := by decide +kernel
theorem dX10_goBack_1 : decode cX10_goBack 1 = .ok (.i2l, 1) := by decide +kernel
theorem dX10_goBack_2 : decode cX10_goBack 2 = .ok (.lconst 0, 1) := by decide +kernel
theorem dX10_goBack_3 : decode cX10_goBack 3 = .ok (.lconst 1, 1) := by decide +kernel
theorem dX10_goBack_4 : decode cX10_goBack 4 = .ok (.invokestatic 87, 3) := by decide +kernel
theorem dX10_goBack_7 : decode cX10_goBack 7 = .ok (.ifCond .ne 6, 3) := by decide +kernel
theorem dX10_goBack_10 : decode cX10_goBack 10 = .ok (.ldc 172, 2) := by decide +kernel
theorem dX10_goBack_12 : decode cX10_goBack 12 = .ok (.ireturn, 1) := by decide +kernel
theorem dX10_goBack_13 : decode cX10_goBack 13 = .ok (.aload_n 0, 1) := by decide +kernel
theorem dX10_goBack_14 : decode cX10_goBack 14 = .ok (.getfield 78, 3) := by decide +kernel
theorem dX10_goBack_17 : decode cX10_goBack 17 = .ok (.iload_n 1, 1) := by decide +kernel
theorem dX10_goBack_18 : decode cX10_goBack 18 = .ok (.baload, 1) := by decide +kernel
theorem dX10_goBack_19 : decode cX10_goBack 19 = .ok (.ifCond .ne 6, 3) := by decide +kernel
theorem dX10_goBack_22 : decode cX10_goBack 22 = .ok (.ldc 205, 2) := by decide +kernel
theorem dX10_goBack_24 : decode cX10_goBack 24 = .ok (.ireturn, 1) := by decide +kernel
theorem dX10_goBack_25 : decode cX10_goBack 25 = .ok (.iconst 0, 1) := by decide +kernel
theorem dX10_goBack_26 : decode cX10_goBack 26 = .ok (.istore_n 2, 1) := by decide +kernel
theorem dX10_goBack_27 : decode cX10_goBack 27 = .ok (.iload_n 2, 1) := by decide +kernel
theorem dX10_goBack_28 : decode cX10_goBack 28 = .ok (.bipush 19, 2) := by decide +kernel
theorem dX10_goBack_30 : decode cX10_goBack 30 = .ok (.if_icmp .ge 26, 3) := by decide +kernel
theorem dX10_goBack_33 : decode cX10_goBack 33 = .ok (.aload_n 0, 1) := by decide +kernel
theorem dX10_goBack_34 : decode cX10_goBack 34 = .ok (.getfield 22, 3) := by decide +kernel
theorem dX10_goBack_37 : decode cX10_goBack 37 = .ok (.iload_n 2, 1) := by decide +kernel
theorem dX10_goBack_38 : decode cX10_goBack 38 = .ok (.aload_n 0, 1) := by decide +kernel
theorem dX10_goBack_39 : decode cX10_goBack 39 = .ok (.getfield 75, 3) := by decide +kernel
theorem dX10_goBack_42 : decode cX10_goBack 42 = .ok (.bipush 20, 2) := by decide +kernel
theorem dX10_goBack_44 : decode cX10_goBack 44 = .ok (.iload_n 1, 1) := by decide +kernel
theorem dX10_goBack_45 : decode cX10_goBack 45 = .ok (.imul, 1) := by decide +kernel
theorem dX10_goBack_46 : decode cX10_goBack 46 = .ok (.iload_n 2, 1) := by decide +kernel
theorem dX10_goBack_47 : decode cX10_goBack 47 = .ok (.iadd, 1) := by decide +kernel
theorem dX10_goBack_48 : decode cX10_goBack 48 = .ok (.iaload, 1) := by decide +kernel
theorem dX10_goBack_49 : decode cX10_goBack 49 = .ok (.iastore, 1) := by decide +kernel
theorem dX10_goBack_50 : decode cX10_goBack 50 = .ok (.iinc 2 1, 3) := by decide +kernel
theorem dX10_goBack_53 : decode cX10_goBack 53 = .ok (.goto (-26), 3) := by decide +kernel
theorem dX10_goBack_56 : decode cX10_goBack 56 = .ok (.aload_n 0, 1) := by decide +kernel
theorem dX10_goBack_57 : decode cX10_goBack 57 = .ok (.aload_n 0, 1) := by decide +kernel
theorem dX10_goBack_58 : decode cX10_goBack 58 = .ok (.getfield 75, 3) := by decide +kernel
theorem dX10_goBack_61 : decode cX10_goBack 61 = .ok (.bipush 20, 2) := by decide +kernel
theorem dX10_goBack_63 : decode cX10_goBack 63 = .ok (.iload_n 1, 1) := by decide +kernel
theorem dX10_goBack_64 : decode cX10_goBack 64 = .ok (.imul, 1) := by decide +kernel
theorem dX10_goBack_65 : decode cX10_goBack 65 = .ok (.bipush 19, 2) := by decide +kernel
theorem dX10_goBack_67 : decode cX10_goBack 67 = .ok (.iadd, 1) := by decide +kernel
theorem dX10_goBack_68 : decode cX10_goBack 68 = .ok (.iaload, 1) := by decide +kernel
theorem dX10_goBack_69 : decode cX10_goBack 69 = .ok (.putfield 219, 3) := by decide +kernel
theorem dX10_goBack_72 : decode cX10_goBack 72 = .ok (.aload_n 0, 1) := by decide +kernel
theorem dX10_goBack_73 : decode cX10_goBack 73 = .ok (.iconst 0, 1) := by decide +kernel
theorem dX10_goBack_74 : decode cX10_goBack 74 = .ok (.putfield 165, 3) := by decide +kernel
theorem dX10_goBack_77 : decode cX10_goBack 77 = .ok (.iconst 1, 1) := by decide +kernel
theorem dX10_goBack_78 : decode cX10_goBack 78 = .ok (.ireturn, 1) := by decide +kernel
