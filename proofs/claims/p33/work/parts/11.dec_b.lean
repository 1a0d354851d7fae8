theorem dX9_init_0 : decode cX9_init 0 = .ok (.aload_n 0, 1) := by decide +kernel
theorem dX9_init_1 : decode cX9_init 1 = .ok (.invokespecial 1, 3) := by decide +kernel
theorem dX9_init_4 : decode cX9_init 4 = .ok (.aload_n 0, 1) := by decide +kernel
theorem dX9_init_5 : decode cX9_init 5 = .ok (.new 7, 3) := by decide +kernel
theorem dX9_init_8 : decode cX9_init 8 = .ok (.dup, 1) := by decide +kernel
theorem dX9_init_9 : decode cX9_init 9 = .ok (.invokespecial 9, 3) := by decide +kernel
theorem dX9_init_12 : decode cX9_init 12 = .ok (.putfield 10, 3) := by decide +kernel
theorem dX9_init_15 : decode cX9_init 15 = .ok (.aload_n 0, 1) := by decide +kernel
theorem dX9_init_16 : decode cX9_init 16 = .ok (.new 16, 3) := by decide +kernel
theorem dX9_init_19 : decode cX9_init 19 = .ok (.dup, 1) := by decide +kernel
theorem dX9_init_20 : decode cX9_init 20 = .ok (.invokespecial 18, 3) := by decide +kernel
theorem dX9_init_23 : decode cX9_init 23 = .ok (.putfield 19, 3) := by decide +kernel
theorem dX9_init_26 : decode cX9_init 26 = .ok (.aload_n 0, 1) := by decide +kernel
theorem dX9_init_27 : decode cX9_init 27 = .ok (.new 23, 3) := by decide +kernel
theorem dX9_init_30 : decode cX9_init 30 = .ok (.dup, 1) := by decide +kernel
theorem dX9_init_31 : decode cX9_init 31 = .ok (.invokespecial 25, 3) := by decide +kernel
theorem dX9_init_34 : decode cX9_init 34 = .ok (.putfield 26, 3) := by decide +kernel
theorem dX9_init_37 : decode cX9_init 37 = .ok (.aload_n 0, 1) := by decide +kernel
theorem dX9_init_38 : decode cX9_init 38 = .ok (.new 30, 3) := by decide +kernel
theorem dX9_init_41 : decode cX9_init 41 = .ok (.dup, 1) := by decide +kernel
theorem dX9_init_42 : decode cX9_init 42 = .ok (.invokespecial 32, 3) := by decide +kernel
theorem dX9_init_45 : decode cX9_init 45 = .ok (.putfield 33, 3) := by decide +kernel
theorem dX9_init_48 : decode cX9_init 48 = .ok (.aload_n 0, 1) := by decide +kernel
theorem dX9_init_49 : decode cX9_init 49 = .ok (.new 37, 3) := by decide +kernel
theorem dX9_init_52 : decode cX9_init 52 = .ok (.dup, 1) := by decide +kernel
theorem dX9_init_53 : decode cX9_init 53 = .ok (.invokespecial 39, 3) := by decide +kernel
theorem dX9_init_56 : decode cX9_init 56 = .ok (.putfield 40, 3) := by decide +kernel
theorem dX9_init_59 : decode cX9_init 59 = .ok (.aload_n 0, 1) := by decide +kernel
theorem dX9_init_60 : decode cX9_init 60 = .ok (.new 44, 3) := by decide +kernel
theorem dX9_init_63 : decode cX9_init 63 = .ok (.dup, 1) := by decide +kernel
theorem dX9_init_64 : decode cX9_init 64 = .ok (.invokespecial 46, 3) := by decide +kernel
theorem dX9_init_67 : decode cX9_init 67 = .ok (.putfield 47, 3) := by decide +kernel
theorem dX9_init_70 : decode cX9_init 70 = .ok (.aload_n 0, 1) := by decide +kernel
theorem dX9_init_71 : decode cX9_init 71 = .ok (.new 51, 3) := by decide +kernel
theorem dX9_init_74 : decode cX9_init 74 = .ok (.dup, 1) := by decide +kernel
theorem dX9_init_75 : decode cX9_init 75 = .ok (.invokespecial 53, 3) := by decide +kernel
theorem dX9_init_78 : decode cX9_init 78 = .ok (.putfield 54, 3) := by decide +kernel
theorem dX9_init_81 : decode cX9_init 81 = .ok (.aload_n 0, 1) := by decide +kernel
theorem dX9_init_82 : decode cX9_init 82 = .ok (.new 58, 3) := by decide +kernel
theorem dX9_init_85 : decode cX9_init 85 = .ok (.dup, 1) := by decide +kernel
theorem dX9_init_86 : decode cX9_init 86 = .ok (.invokespecial 60, 3) := by decide +kernel
theorem dX9_init_89 : decode cX9_init 89 = .ok (.putfield 61, 3) := by decide +kernel
theorem dX9_init_92 : decode cX9_init 92 = .ok (.aload_n 0, 1) := by decide +kernel
theorem dX9_init_93 : decode cX9_init 93 = .ok (.iconst 0, 1) := by decide +kernel
theorem dX9_init_94 : decode cX9_init 94 = .ok (.putfield 65, 3) := by decide +kernel
theorem dX9_init_97 : decode cX9_init 97 = .ok (.aload_n 0, 1) := by decide +kernel
theorem dX9_init_98 : decode cX9_init 98 = .ok (.iconst 0, 1) := by decide +kernel
theorem dX9_init_99 : decode cX9_init 99 = .ok (.putfield 69, 3) := by decide +kernel
theorem dX9_init_102 : decode cX9_init 102 = .ok (.aload_n 0, 1) := by decide +kernel
theorem dX9_init_103 : decode cX9_init 103 = .ok (.iconst 0, 1) := by decide +kernel
theorem dX9_init_104 : decode cX9_init 104 = .ok (.putfield 72, 3) := by decide +kernel
theorem dX9_init_107 : decode cX9_init 107 = .ok (.aload_n 0, 1) := by decide +kernel
theorem dX9_init_108 : decode cX9_init 108 = .ok (.iconst 1, 1) := by decide +kernel
theorem dX9_init_109 : decode cX9_init 109 = .ok (.putfield 76, 3) := by decide +kernel
theorem dX9_init_112 : decode cX9_init 112 = .ok (.return_, 1) := by decide +kernel
theorem dX9_quota_0 : decode cX9_quota 0 = .ok (.iload_n 1, 1) := by decide +kernel
theorem dX9_quota_1 : decode cX9_quota 1 = .ok (.bipush 8, 2) := by decide +kernel
theorem dX9_quota_3 : decode cX9_quota 3 = .ok (.invokestatic 79, 3) := by decide +kernel
theorem dX9_quota_6 : decode cX9_quota 6 = .ok (.iload_n 2, 1) := by decide +kernel
theorem dX9_quota_7 : decode cX9_quota 7 = .ok (.iconst 4, 1) := by decide +kernel
theorem dX9_quota_8 : decode cX9_quota 8 = .ok (.invokestatic 79, 3) := by decide +kernel
theorem dX9_quota_11 : decode cX9_quota 11 = .ok (.iload_n 3, 1) := by decide +kernel
theorem dX9_quota_12 : decode cX9_quota 12 = .ok (.iconst 0, 1) := by decide +kernel
theorem dX9_quota_13 : decode cX9_quota 13 = .ok (.ldc 83, 2) := by decide +kernel
theorem dX9_quota_15 : decode cX9_quota 15 = .ok (.invokestatic 84, 3) := by decide +kernel
theorem dX9_quota_18 : decode cX9_quota 18 = .ok (.aload_n 0, 1) := by decide +kernel
theorem dX9_quota_19 : decode cX9_quota 19 = .ok (.getfield 10, 3) := by decide +kernel
theorem dX9_quota_22 : decode cX9_quota 22 = .ok (.getfield 88, 3) := by decide +kernel
theorem dX9_quota_25 : decode cX9_quota 25 = .ok (.iload_n 1, 1) := by decide +kernel
theorem dX9_quota_26 : decode cX9_quota 26 = .ok (.iload_n 2, 1) := by decide +kernel
theorem dX9_quota_27 : decode cX9_quota 27 = .ok (.invokestatic 92, 3) := by decide +kernel
theorem dX9_quota_30 : decode cX9_quota 30 = .ok (.iload_n 3, 1) := by decide +kernel
theorem dX9_quota_31 : decode cX9_quota 31 = .ok (.invokevirtual 96, 3) := by decide +kernel
theorem dX9_quota_34 : decode cX9_quota 34 = .ok (.ireturn, 1) := by decide +kernel
theorem dX9_aid_0 : decode cX9_aid 0 = .ok (.iload_n 1, 1) := by decide +kernel
theorem dX9_aid_1 : decode cX9_aid 1 = .ok (.bipush 8, 2) := by decide +kernel
theorem dX9_aid_3 : decode cX9_aid 3 = .ok (.invokestatic 79, 3) := by decide +kernel
theorem dX9_aid_6 : decode cX9_aid 6 = .ok (.iload_n 2, 1) := by decide +kernel
theorem dX9_aid_7 : decode cX9_aid 7 = .ok (.iconst 0, 1) := by decide +kernel
theorem dX9_aid_8 : decode cX9_aid 8 = .ok (.ldc 83, 2) := by decide +kernel
theorem dX9_aid_10 : decode cX9_aid 10 = .ok (.invokestatic 84, 3) := by decide +kernel
theorem dX9_aid_13 : decode cX9_aid 13 = .ok (.aload_n 0, 1) := by decide +kernel
theorem dX9_aid_14 : decode cX9_aid 14 = .ok (.getfield 10, 3) := by decide +kernel
theorem dX9_aid_17 : decode cX9_aid 17 = .ok (.getfield 101, 3) := by decide +kernel
theorem dX9_aid_20 : decode cX9_aid 20 = .ok (.iload_n 1, 1) := by decide +kernel
theorem dX9_aid_21 : decode cX9_aid 21 = .ok (.iload_n 3, 1) := by decide +kernel
theorem dX9_aid_22 : decode cX9_aid 22 = .ok (.ifCond .eq 7, 3) := by decide +kernel
theorem dX9_aid_25 : decode cX9_aid 25 = .ok (.iconst 1, 1) := by decide +kernel
theorem dX9_aid_26 : decode cX9_aid 26 = .ok (.goto 4, 3) := by decide +kernel
theorem dX9_aid_29 : decode cX9_aid 29 = .ok (.iconst 0, 1) := by decide +kernel
theorem dX9_aid_30 : decode cX9_aid 30 = .ok (.invokevirtual 104, 3) := by decide +kernel
theorem dX9_aid_33 : decode cX9_aid 33 = .ok (.aload_n 0, 1) := by decide +kernel
theorem dX9_aid_34 : decode cX9_aid 34 = .ok (.getfield 10, 3) := by decide +kernel
theorem dX9_aid_37 : decode cX9_aid 37 = .ok (.getfield 107, 3) := by decide +kernel
theorem dX9_aid_40 : decode cX9_aid 40 = .ok (.iload_n 1, 1) := by decide +kernel
theorem dX9_aid_41 : decode cX9_aid 41 = .ok (.iload_n 2, 1) := by decide +kernel
theorem dX9_aid_42 : decode cX9_aid 42 = .ok (.invokevirtual 96, 3) := by decide +kernel
theorem dX9_aid_45 : decode cX9_aid 45 = .ok (.ireturn, 1) := by decide +kernel
theorem dX9_kind_0 : decode cX9_kind 0 = .ok (.iload_n 1, 1) := by decide +kernel
theorem dX9_kind_1 : decode cX9_kind 1 = .ok (.iconst 4, 1) := by decide +kernel
theorem dX9_kind_2 : decode cX9_kind 2 = .ok (.invokestatic 79, 3) := by decide +kernel
theorem dX9_kind_5 : decode cX9_kind 5 = .ok (.iload 4, 2) := by decide +kernel
theorem dX9_kind_7 : decode cX9_kind 7 = .ok (.iconst 3, 1) := by decide +kernel
theorem dX9_kind_8 : decode cX9_kind 8 = .ok (.invokestatic 79, 3) := by decide +kernel
theorem dX9_kind_11 : decode cX9_kind 11 = .ok (.iload_n 2, 1) := by decide +kernel
theorem dX9_kind_12 : decode cX9_kind 12 = .ok (.iconst 1, 1) := by decide +kernel
theorem dX9_kind_13 : decode cX9_kind 13 = .ok (.sipush 10000, 3) := by decide +kernel
theorem dX9_kind_16 : decode cX9_kind 16 = .ok (.invokestatic 84, 3) := by decide +kernel
theorem dX9_kind_19 : decode cX9_kind 19 = .ok (.iload_n 3, 1) := by decide +kernel
theorem dX9_kind_20 : decode cX9_kind 20 = .ok (.iconst 1, 1) := by decide +kernel
theorem dX9_kind_21 : decode cX9_kind 21 = .ok (.sipush 10000, 3) := by decide +kernel
theorem dX9_kind_24 : decode cX9_kind 24 = .ok (.invokestatic 84, 3) := by decide +kernel
theorem dX9_kind_27 : decode cX9_kind 27 = .ok (.aload_n 0, 1) := by decide +kernel
theorem dX9_kind_28 : decode cX9_kind 28 = .ok (.getfield 19, 3) := by decide +kernel
theorem dX9_kind_31 : decode cX9_kind 31 = .ok (.getfield 110, 3) := by decide +kernel
theorem dX9_kind_34 : decode cX9_kind 34 = .ok (.iload_n 1, 1) := by decide +kernel
theorem dX9_kind_35 : decode cX9_kind 35 = .ok (.iload_n 2, 1) := by decide +kernel
theorem dX9_kind_36 : decode cX9_kind 36 = .ok (.invokevirtual 104, 3) := by decide +kernel
theorem dX9_kind_39 : decode cX9_kind 39 = .ok (.aload_n 0, 1) := by decide +kernel
theorem dX9_kind_40 : decode cX9_kind 40 = .ok (.getfield 19, 3) := by decide +kernel
theorem dX9_kind_43 : decode cX9_kind 43 = .ok (.getfield 113, 3) := by decide +kernel
theorem dX9_kind_46 : decode cX9_kind 46 = .ok (.iload_n 1, 1) := by decide +kernel
theorem dX9_kind_47 : decode cX9_kind 47 = .ok (.iload_n 3, 1) := by decide +kernel
theorem dX9_kind_48 : decode cX9_kind 48 = .ok (.invokevirtual 104, 3) := by decide +kernel
theorem dX9_kind_51 : decode cX9_kind 51 = .ok (.aload_n 0, 1) := by decide +kernel
theorem dX9_kind_52 : decode cX9_kind 52 = .ok (.getfield 19, 3) := by decide +kernel
theorem dX9_kind_55 : decode cX9_kind 55 = .ok (.getfield 116, 3) := by decide +kernel
theorem dX9_kind_58 : decode cX9_kind 58 = .ok (.iload_n 1, 1) := by decide +kernel
theorem dX9_kind_59 : decode cX9_kind 59 = .ok (.iload 4, 2) := by decide +kernel
theorem dX9_kind_61 : decode cX9_kind 61 = .ok (.invokevirtual 104, 3) := by decide +kernel
theorem dX9_kind_64 : decode cX9_kind 64 = .ok (.return_, 1) := by decide +kernel
theorem dX9_step_0 : decode cX9_step 0 = .ok (.iload_n 1, 1) := by decide +kernel
theorem dX9_step_1 : decode cX9_step 1 = .ok (.iconst 3, 1) := by decide +kernel
theorem dX9_step_2 : decode cX9_step 2 = .ok (.invokestatic 79, 3) := by decide +kernel
theorem dX9_step_5 : decode cX9_step 5 = .ok (.iload_n 2, 1) := by decide +kernel
theorem dX9_step_6 : decode cX9_step 6 = .ok (.iconst 1, 1) := by decide +kernel
theorem dX9_step_7 : decode cX9_step 7 = .ok (.sipush 500, 3) := by decide +kernel
theorem dX9_step_10 : decode cX9_step 10 = .ok (.invokestatic 84, 3) := by decide +kernel
theorem dX9_step_13 : decode cX9_step 13 = .ok (.aload_n 0, 1) := by decide +kernel
theorem dX9_step_14 : decode cX9_step 14 = .ok (.getfield 47, 3) := by decide +kernel
theorem dX9_step_17 : decode cX9_step 17 = .ok (.getfield 119, 3) := by decide +kernel
theorem dX9_step_20 : decode cX9_step 20 = .ok (.iload_n 1, 1) := by decide +kernel
theorem dX9_step_21 : decode cX9_step 21 = .ok (.iload_n 2, 1) := by decide +kernel
theorem dX9_step_22 : decode cX9_step 22 = .ok (.invokevirtual 96, 3) := by decide +kernel
theorem dX9_step_25 : decode cX9_step 25 = .ok (.ireturn, 1) := by decide +kernel
theorem dX9_buyer_0 : decode cX9_buyer 0 = .ok (.iload_n 1, 1) := by decide +kernel
theorem dX9_buyer_1 : decode cX9_buyer 1 = .ok (.bipush 8, 2) := by decide +kernel
theorem dX9_buyer_3 : decode cX9_buyer 3 = .ok (.invokestatic 79, 3) := by decide +kernel
theorem dX9_buyer_6 : decode cX9_buyer 6 = .ok (.iload_n 2, 1) := by decide +kernel
theorem dX9_buyer_7 : decode cX9_buyer 7 = .ok (.iconst 0, 1) := by decide +kernel
theorem dX9_buyer_8 : decode cX9_buyer 8 = .ok (.ldc 122, 2) := by decide +kernel
theorem dX9_buyer_10 : decode cX9_buyer 10 = .ok (.invokestatic 84, 3) := by decide +kernel
theorem dX9_buyer_13 : decode cX9_buyer 13 = .ok (.iload_n 3, 1) := by decide +kernel
theorem dX9_buyer_14 : decode cX9_buyer 14 = .ok (.iconst 1, 1) := by decide +kernel
theorem dX9_buyer_15 : decode cX9_buyer 15 = .ok (.bipush 9, 2) := by decide +kernel
theorem dX9_buyer_17 : decode cX9_buyer 17 = .ok (.invokestatic 84, 3) := by decide +kernel
theorem dX9_buyer_20 : decode cX9_buyer 20 = .ok (.aload_n 0, 1) := by decide +kernel
theorem dX9_buyer_21 : decode cX9_buyer 21 = .ok (.getfield 26, 3) := by decide +kernel
theorem dX9_buyer_24 : decode cX9_buyer 24 = .ok (.getfield 123, 3) := by decide +kernel
theorem dX9_buyer_27 : decode cX9_buyer 27 = .ok (.iload_n 1, 1) := by decide +kernel
theorem dX9_buyer_28 : decode cX9_buyer 28 = .ok (.iload_n 3, 1) := by decide +kernel
theorem dX9_buyer_29 : decode cX9_buyer 29 = .ok (.invokevirtual 104, 3) := by decide +kernel
theorem dX9_buyer_32 : decode cX9_buyer 32 = .ok (.aload_n 0, 1) := by decide +kernel
theorem dX9_buyer_33 : decode cX9_buyer 33 = .ok (.getfield 26, 3) := by decide +kernel
theorem dX9_buyer_36 : decode cX9_buyer 36 = .ok (.getfield 126, 3) := by decide +kernel
theorem dX9_buyer_39 : decode cX9_buyer 39 = .ok (.iload_n 1, 1) := by decide +kernel
theorem dX9_buyer_40 : decode cX9_buyer 40 = .ok (.iload_n 2, 1) := by decide +kernel
theorem dX9_buyer_41 : decode cX9_buyer 41 = .ok (.invokevirtual 96, 3) := by decide +kernel
theorem dX9_buyer_44 : decode cX9_buyer 44 = .ok (.ireturn, 1) := by decide +kernel
theorem dX9_draw_0 : decode cX9_draw 0 = .ok (.aload_n 0, 1) := by decide +kernel
theorem dX9_draw_1 : decode cX9_draw 1 = .ok (.getfield 76, 3) := by decide +kernel
theorem dX9_draw_4 : decode cX9_draw 4 = .ok (.istore_n 2, 1) := by decide +kernel
theorem dX9_draw_5 : decode cX9_draw 5 = .ok (.aload_n 0, 1) := by decide +kernel
theorem dX9_draw_6 : decode cX9_draw 6 = .ok (.iload_n 1, 1) := by decide +kernel
theorem dX9_draw_7 : decode cX9_draw 7 = .ok (.putfield 76, 3) := by decide +kernel
theorem dX9_draw_10 : decode cX9_draw 10 = .ok (.iload_n 2, 1) := by decide +kernel
theorem dX9_draw_11 : decode cX9_draw 11 = .ok (.ireturn, 1) := by decide +kernel
theorem dX9_power_0 : decode cX9_power 0 = .ok (.iload_n 1, 1) := by decide +kernel
theorem dX9_power_1 : decode cX9_power 1 = .ok (.iconst 3, 1) := by decide +kernel
theorem dX9_power_2 : decode cX9_power 2 = .ok (.invokestatic 79, 3) := by decide +kernel
theorem dX9_power_5 : decode cX9_power 5 = .ok (.aload_n 0, 1) := by decide +kernel
theorem dX9_power_6 : decode cX9_power 6 = .ok (.getfield 47, 3) := by decide +kernel
theorem dX9_power_9 : decode cX9_power 9 = .ok (.getfield 129, 3) := by decide +kernel
theorem dX9_power_12 : decode cX9_power 12 = .ok (.iload_n 1, 1) := by decide +kernel
theorem dX9_power_13 : decode cX9_power 13 = .ok (.iload_n 2, 1) := by decide +kernel
theorem dX9_power_14 : decode cX9_power 14 = .ok (.ifCond .eq 7, 3) := by decide +kernel
theorem dX9_power_17 : decode cX9_power 17 = .ok (.iconst 1, 1) := by decide +kernel
theorem dX9_power_18 : decode cX9_power 18 = .ok (.goto 4, 3) := by decide +kernel
theorem dX9_power_21 : decode cX9_power 21 = .ok (.iconst 0, 1) := by decide +kernel
theorem dX9_power_22 : decode cX9_power 22 = .ok (.invokevirtual 96, 3) := by decide +kernel
theorem dX9_power_25 : decode cX9_power 25 = .ok (.iconst 1, 1) := by decide +kernel
theorem dX9_power_26 : decode cX9_power 26 = .ok (.if_icmp .ne 7, 3) := by decide +kernel
theorem dX9_power_29 : decode cX9_power 29 = .ok (.iconst 1, 1) := by decide +kernel
theorem dX9_power_30 : decode cX9_power 30 = .ok (.goto 4, 3) := by decide +kernel
theorem dX9_power_33 : decode cX9_power 33 = .ok (.iconst 0, 1) := by decide +kernel
theorem dX9_power_34 : decode cX9_power 34 = .ok (.ireturn, 1) := by decide +kernel
theorem dX9_line_0 : decode cX9_line 0 = .ok (.iload_n 1, 1) := by decide +kernel
theorem dX9_line_1 : decode cX9_line 1 = .ok (.bipush 8, 2) := by decide +kernel
theorem dX9_line_3 : decode cX9_line 3 = .ok (.invokestatic 79, 3) := by decide +kernel
theorem dX9_line_6 : decode cX9_line 6 = .ok (.aload_n 0, 1) := by decide +kernel
theorem dX9_line_7 : decode cX9_line 7 = .ok (.getfield 26, 3) := by decide +kernel
theorem dX9_line_10 : decode cX9_line 10 = .ok (.getfield 132, 3) := by decide +kernel
theorem dX9_line_13 : decode cX9_line 13 = .ok (.iload_n 1, 1) := by decide +kernel
theorem dX9_line_14 : decode cX9_line 14 = .ok (.iload_n 2, 1) := by decide +kernel
theorem dX9_line_15 : decode cX9_line 15 = .ok (.ifCond .eq 7, 3) := by decide +kernel
theorem dX9_line_18 : decode cX9_line 18 = .ok (.iconst 1, 1) := by decide +kernel
theorem dX9_line_19 : decode cX9_line 19 = .ok (.goto 4, 3) := by decide +kernel
theorem dX9_line_22 : decode cX9_line 22 = .ok (.iconst 0, 1) := by decide +kernel
theorem dX9_line_23 : decode cX9_line 23 = .ok (.invokevirtual 96, 3) := by decide +kernel
theorem dX9_line_26 : decode cX9_line 26 = .ok (.iconst 1, 1) := by decide +kernel
theorem dX9_line_27 : decode cX9_line 27 = .ok (.if_icmp .ne 7, 3) := by decide +kernel
theorem dX9_line_30 : decode cX9_line 30 = .ok (.iconst 1, 1) := by decide +kernel
theorem dX9_line_31 : decode cX9_line 31 = .ok (.goto 4, 3) := by decide +kernel
theorem dX9_line_34 : decode cX9_line 34 = .ok (.iconst 0, 1) := by decide +kernel
theorem dX9_line_35 : decode cX9_line 35 = .ok (.ireturn, 1) := by decide +kernel
theorem dX9_land_0 : decode cX9_land 0 = .ok (.iload_n 1, 1) := by decide +kernel
theorem dX9_land_1 : decode cX9_land 1 = .ok (.bipush 8, 2) := by decide +kernel
theorem dX9_land_3 : decode cX9_land 3 = .ok (.invokestatic 79, 3) := by decide +kernel
theorem dX9_land_6 : decode cX9_land 6 = .ok (.iload_n 2, 1) := by decide +kernel
theorem dX9_land_7 : decode cX9_land 7 = .ok (.iconst 4, 1) := by decide +kernel
theorem dX9_land_8 : decode cX9_land 8 = .ok (.invokestatic 79, 3) := by decide +kernel
theorem dX9_land_11 : decode cX9_land 11 = .ok (.iload_n 3, 1) := by decide +kernel
theorem dX9_land_12 : decode cX9_land 12 = .ok (.iconst 0, 1) := by decide +kernel
theorem dX9_land_13 : decode cX9_land 13 = .ok (.iconst 2, 1) := by decide +kernel
theorem dX9_land_14 : decode cX9_land 14 = .ok (.invokestatic 84, 3) := by decide +kernel
theorem dX9_land_17 : decode cX9_land 17 = .ok (.iload 4, 2) := by decide +kernel
theorem dX9_land_19 : decode cX9_land 19 = .ok (.iconst 1, 1) := by decide +kernel
theorem dX9_land_20 : decode cX9_land 20 = .ok (.bipush 9, 2) := by decide +kernel
theorem dX9_land_22 : decode cX9_land 22 = .ok (.invokestatic 84, 3) := by decide +kernel
theorem dX9_land_25 : decode cX9_land 25 = .ok (.iload 5, 2) := by decide +kernel
theorem dX9_land_27 : decode cX9_land 27 = .ok (.iconst 1, 1) := by decide +kernel
theorem dX9_land_28 : decode cX9_land 28 = .ok (.bipush 100, 2) := by decide +kernel
theorem dX9_land_30 : decode cX9_land 30 = .ok (.invokestatic 84, 3) := by decide +kernel
theorem dX9_land_33 : decode cX9_land 33 = .ok (.iload 6, 2) := by decide +kernel
theorem dX9_land_35 : decode cX9_land 35 = .ok (.iconst 1, 1) := by decide +kernel
theorem dX9_land_36 : decode cX9_land 36 = .ok (.bipush 100, 2) := by decide +kernel
theorem dX9_land_38 : decode cX9_land 38 = .ok (.invokestatic 84, 3) := by decide +kernel
theorem dX9_land_41 : decode cX9_land 41 = .ok (.aload_n 0, 1) := by decide +kernel
theorem dX9_land_42 : decode cX9_land 42 = .ok (.getfield 33, 3) := by decide +kernel
theorem dX9_land_45 : decode cX9_land 45 = .ok (.getfield 135, 3) := by decide +kernel
theorem dX9_land_48 : decode cX9_land 48 = .ok (.sipush 150, 3) := by decide +kernel
theorem dX9_land_51 : decode cX9_land 51 = .ok (.if_icmp .ge 7, 3) := by decide +kernel
theorem dX9_land_54 : decode cX9_land 54 = .ok (.iconst 1, 1) := by decide +kernel
theorem dX9_land_55 : decode cX9_land 55 = .ok (.goto 4, 3) := by decide +kernel
theorem dX9_land_58 : decode cX9_land 58 = .ok (.iconst 0, 1) := by decide +kernel
theorem dX9_land_59 : decode cX9_land 59 = .ok (.invokestatic 138, 3) := by decide +kernel
theorem dX9_land_62 : decode cX9_land 62 = .ok (.aload_n 0, 1) := by decide +kernel
theorem dX9_land_63 : decode cX9_land 63 = .ok (.getfield 10, 3) := by decide +kernel
theorem dX9_land_66 : decode cX9_land 66 = .ok (.iload_n 1, 1) := by decide +kernel
theorem dX9_land_67 : decode cX9_land 67 = .ok (.iload_n 2, 1) := by decide +kernel
theorem dX9_land_68 : decode cX9_land 68 = .ok (.iload 5, 2) := by decide +kernel
theorem dX9_land_70 : decode cX9_land 70 = .ok (.invokevirtual 142, 3) := by decide +kernel
theorem dX9_land_73 : decode cX9_land 73 = .ok (.aload_n 0, 1) := by decide +kernel
theorem dX9_land_74 : decode cX9_land 74 = .ok (.getfield 10, 3) := by decide +kernel
theorem dX9_land_77 : decode cX9_land 77 = .ok (.iload_n 1, 1) := by decide +kernel
theorem dX9_land_78 : decode cX9_land 78 = .ok (.iload_n 2, 1) := by decide +kernel
theorem dX9_land_79 : decode cX9_land 79 = .ok (.invokevirtual 145, 3) := by decide +kernel
theorem dX9_land_82 : decode cX9_land 82 = .ok (.ifCond .eq 7, 3) := by decide +kernel
theorem dX9_land_85 : decode cX9_land 85 = .ok (.iconst 1, 1) := by decide +kernel
theorem dX9_land_86 : decode cX9_land 86 = .ok (.goto 4, 3) := by decide +kernel
theorem dX9_land_89 : decode cX9_land 89 = .ok (.iconst 0, 1) := by decide +kernel
theorem dX9_land_90 : decode cX9_land 90 = .ok (.istore 7, 2) := by decide +kernel
theorem dX9_land_92 : decode cX9_land 92 = .ok (.aload_n 0, 1) := by decide +kernel
theorem dX9_land_93 : decode cX9_land 93 = .ok (.getfield 33, 3) := by decide +kernel
theorem dX9_land_96 : decode cX9_land 96 = .ok (.iload_n 1, 1) := by decide +kernel
theorem dX9_land_97 : decode cX9_land 97 = .ok (.iload_n 2, 1) := by decide +kernel
theorem dX9_land_98 : decode cX9_land 98 = .ok (.iload_n 3, 1) := by decide +kernel
theorem dX9_land_99 : decode cX9_land 99 = .ok (.iload 4, 2) := by decide +kernel
theorem dX9_land_101 : decode cX9_land 101 = .ok (.invokestatic 149, 3) := by decide +kernel
theorem dX9_land_104 : decode cX9_land 104 = .ok (.iload 5, 2) := by decide +kernel
theorem dX9_land_106 : decode cX9_land 106 = .ok (.iload 6, 2) := by decide +kernel
theorem dX9_land_108 : decode cX9_land 108 = .ok (.iload 7, 2) := by decide +kernel
theorem dX9_land_110 : decode cX9_land 110 = .ok (.invokevirtual 153, 3) := by decide +kernel
theorem dX9_land_113 : decode cX9_land 113 = .ok (.ireturn, 1) := by decide +kernel
theorem dX9_open_0 : decode cX9_open 0 = .ok (.aload_n 0, 1) := by decide +kernel
theorem dX9_open_1 : decode cX9_open 1 = .ok (.getfield 72, 3) := by decide +kernel
theorem dX9_open_4 : decode cX9_open 4 = .ok (.ifCond .ne 17, 3) := by decide +kernel
theorem dX9_open_7 : decode cX9_open 7 = .ok (.aload_n 0, 1) := by decide +kernel
theorem dX9_open_8 : decode cX9_open 8 = .ok (.getfield 33, 3) := by decide +kernel
theorem dX9_open_11 : decode cX9_open 11 = .ok (.invokevirtual 157, 3) := by decide +kernel
theorem dX9_open_14 : decode cX9_open 14 = .ok (.ifCond .le 7, 3) := by decide +kernel
theorem dX9_open_17 : decode cX9_open 17 = .ok (.iconst 1, 1) := by decide +kernel
theorem dX9_open_18 : decode cX9_open 18 = .ok (.goto 4, 3) := by decide +kernel
theorem dX9_open_21 : decode cX9_open 21 = .ok (.iconst 0, 1) := by decide +kernel
theorem dX9_open_22 : decode cX9_open 22 = .ok (.invokestatic 138, 3) := by decide +kernel
theorem dX9_open_25 : decode cX9_open 25 = .ok (.aload_n 0, 1) := by decide +kernel
theorem dX9_open_26 : decode cX9_open 26 = .ok (.iconst 1, 1) := by decide +kernel
theorem dX9_open_27 : decode cX9_open 27 = .ok (.putfield 72, 3) := by decide +kernel
theorem dX9_open_30 : decode cX9_open 30 = .ok (.aload_n 0, 1) := by decide +kernel
theorem dX9_open_31 : decode cX9_open 31 = .ok (.invokevirtual 161, 3) := by decide +kernel
theorem dX9_open_34 : decode cX9_open 34 = .ok (.aload_n 0, 1) := by decide +kernel
theorem dX9_open_35 : decode cX9_open 35 = .ok (.iconst 1, 1) := by decide +kernel
theorem dX9_open_36 : decode cX9_open 36 = .ok (.invokevirtual 164, 3) := by decide +kernel
theorem dX9_open_39 : decode cX9_open 39 = .ok (.aload_n 0, 1) := by decide +kernel
theorem dX9_open_40 : decode cX9_open 40 = .ok (.iconst 0, 1) := by decide +kernel
theorem dX9_open_41 : decode cX9_open 41 = .ok (.invokevirtual 164, 3) := by decide +kernel
theorem dX9_open_44 : decode cX9_open 44 = .ok (.iconst 0, 1) := by decide +kernel
theorem dX9_open_45 : decode cX9_open 45 = .ok (.istore_n 1, 1) := by decide +kernel
theorem dX9_open_46 : decode cX9_open 46 = .ok (.iload_n 1, 1) := by decide +kernel
theorem dX9_open_47 : decode cX9_open 47 = .ok (.iconst 3, 1) := by decide +kernel
theorem dX9_open_48 : decode cX9_open 48 = .ok (.if_icmp .ge 47, 3) := by decide +kernel
theorem dX9_open_51 : decode cX9_open 51 = .ok (.aload_n 0, 1) := by decide +kernel
theorem dX9_open_52 : decode cX9_open 52 = .ok (.getfield 47, 3) := by decide +kernel
theorem dX9_open_55 : decode cX9_open 55 = .ok (.getfield 167, 3) := by decide +kernel
theorem dX9_open_58 : decode cX9_open 58 = .ok (.iload_n 1, 1) := by decide +kernel
theorem dX9_open_59 : decode cX9_open 59 = .ok (.aload_n 0, 1) := by decide +kernel
theorem dX9_open_60 : decode cX9_open 60 = .ok (.getfield 40, 3) := by decide +kernel
theorem dX9_open_63 : decode cX9_open 63 = .ok (.iload_n 1, 1) := by decide +kernel
theorem dX9_open_64 : decode cX9_open 64 = .ok (.invokevirtual 170, 3) := by decide +kernel
theorem dX9_open_67 : decode cX9_open 67 = .ok (.invokevirtual 104, 3) := by decide +kernel
theorem dX9_open_70 : decode cX9_open 70 = .ok (.aload_n 0, 1) := by decide +kernel
theorem dX9_open_71 : decode cX9_open 71 = .ok (.iload_n 1, 1) := by decide +kernel
theorem dX9_open_72 : decode cX9_open 72 = .ok (.aload_n 0, 1) := by decide +kernel
theorem dX9_open_73 : decode cX9_open 73 = .ok (.getfield 40, 3) := by decide +kernel
theorem dX9_open_76 : decode cX9_open 76 = .ok (.iload_n 1, 1) := by decide +kernel
theorem dX9_open_77 : decode cX9_open 77 = .ok (.iconst (-1), 1) := by decide +kernel
theorem dX9_open_78 : decode cX9_open 78 = .ok (.invokevirtual 174, 3) := by decide +kernel
theorem dX9_open_81 : decode cX9_open 81 = .ok (.invokevirtual 177, 3) := by decide +kernel
theorem dX9_open_84 : decode cX9_open 84 = .ok (.aload_n 0, 1) := by decide +kernel
theorem dX9_open_85 : decode cX9_open 85 = .ok (.iload_n 1, 1) := by decide +kernel
theorem dX9_open_86 : decode cX9_open 86 = .ok (.invokevirtual 180, 3) := by decide +kernel
theorem dX9_open_89 : decode cX9_open 89 = .ok (.iinc 1 1, 3) := by decide +kernel
theorem dX9_open_92 : decode cX9_open 92 = .ok (.goto (-46), 3) := by decide +kernel
theorem dX9_open_95 : decode cX9_open 95 = .ok (.aload_n 0, 1) := by decide +kernel
theorem dX9_open_96 : decode cX9_open 96 = .ok (.getfield 40, 3) := by decide +kernel
theorem dX9_open_99 : decode cX9_open 99 = .ok (.getfield 184, 3) := by decide +kernel
theorem dX9_open_102 : decode cX9_open 102 = .ok (.ireturn, 1) := by decide +kernel
theorem dX9_end_0 : decode cX9_end 0 = .ok (.aload_n 0, 1) := by decide +kernel
theorem dX9_end_1 : decode cX9_end 1 = .ok (.getfield 72, 3) := by decide +kernel
theorem dX9_end_4 : decode cX9_end 4 = .ok (.invokestatic 138, 3) := by decide +kernel
theorem dX9_end_7 : decode cX9_end 7 = .ok (.iconst 0, 1) := by decide +kernel
theorem dX9_end_8 : decode cX9_end 8 = .ok (.istore_n 1, 1) := by decide +kernel
theorem dX9_end_9 : decode cX9_end 9 = .ok (.iconst 0, 1) := by decide +kernel
theorem dX9_end_10 : decode cX9_end 10 = .ok (.istore_n 2, 1) := by decide +kernel
theorem dX9_end_11 : decode cX9_end 11 = .ok (.iload_n 2, 1) := by decide +kernel
theorem dX9_end_12 : decode cX9_end 12 = .ok (.aload_n 0, 1) := by decide +kernel
theorem dX9_end_13 : decode cX9_end 13 = .ok (.getfield 40, 3) := by decide +kernel
theorem dX9_end_16 : decode cX9_end 16 = .ok (.getfield 184, 3) := by decide +kernel
theorem dX9_end_19 : decode cX9_end 19 = .ok (.if_icmp .ge 17, 3) := by decide +kernel
theorem dX9_end_22 : decode cX9_end 22 = .ok (.iload_n 1, 1) := by decide +kernel
theorem dX9_end_23 : decode cX9_end 23 = .ok (.aload_n 0, 1) := by decide +kernel
theorem dX9_end_24 : decode cX9_end 24 = .ok (.iload_n 2, 1) := by decide +kernel
theorem dX9_end_25 : decode cX9_end 25 = .ok (.invokevirtual 185, 3) := by decide +kernel
theorem dX9_end_28 : decode cX9_end 28 = .ok (.iadd, 1) := by decide +kernel
theorem dX9_end_29 : decode cX9_end 29 = .ok (.istore_n 1, 1) := by decide +kernel
theorem dX9_end_30 : decode cX9_end 30 = .ok (.iinc 2 1, 3) := by decide +kernel
theorem dX9_end_33 : decode cX9_end 33 = .ok (.goto (-22), 3) := by decide +kernel
theorem dX9_end_36 : decode cX9_end 36 = .ok (.iconst 0, 1) := by decide +kernel
theorem dX9_end_37 : decode cX9_end 37 = .ok (.istore_n 2, 1) := by decide +kernel
theorem dX9_end_38 : decode cX9_end 38 = .ok (.iload_n 2, 1) := by decide +kernel
theorem dX9_end_39 : decode cX9_end 39 = .ok (.iconst 3, 1) := by decide +kernel
theorem dX9_end_40 : decode cX9_end 40 = .ok (.if_icmp .ge 32, 3) := by decide +kernel
theorem dX9_end_43 : decode cX9_end 43 = .ok (.aload_n 0, 1) := by decide +kernel
theorem dX9_end_44 : decode cX9_end 44 = .ok (.getfield 47, 3) := by decide +kernel
theorem dX9_end_47 : decode cX9_end 47 = .ok (.getfield 167, 3) := by decide +kernel
theorem dX9_end_50 : decode cX9_end 50 = .ok (.iload_n 2, 1) := by decide +kernel
theorem dX9_end_51 : decode cX9_end 51 = .ok (.iconst 0, 1) := by decide +kernel
theorem dX9_end_52 : decode cX9_end 52 = .ok (.invokevirtual 104, 3) := by decide +kernel
theorem dX9_end_55 : decode cX9_end 55 = .ok (.aload_n 0, 1) := by decide +kernel
theorem dX9_end_56 : decode cX9_end 56 = .ok (.iload_n 2, 1) := by decide +kernel
theorem dX9_end_57 : decode cX9_end 57 = .ok (.iconst (-1), 1) := by decide +kernel
theorem dX9_end_58 : decode cX9_end 58 = .ok (.invokevirtual 177, 3) := by decide +kernel
theorem dX9_end_61 : decode cX9_end 61 = .ok (.aload_n 0, 1) := by decide +kernel
theorem dX9_end_62 : decode cX9_end 62 = .ok (.iload_n 2, 1) := by decide +kernel
theorem dX9_end_63 : decode cX9_end 63 = .ok (.invokevirtual 180, 3) := by decide +kernel
theorem dX9_end_66 : decode cX9_end 66 = .ok (.iinc 2 1, 3) := by decide +kernel
theorem dX9_end_69 : decode cX9_end 69 = .ok (.goto (-31), 3) := by decide +kernel
theorem dX9_end_72 : decode cX9_end 72 = .ok (.aload_n 0, 1) := by decide +kernel
theorem dX9_end_73 : decode cX9_end 73 = .ok (.getfield 40, 3) := by decide +kernel
theorem dX9_end_76 : decode cX9_end 76 = .ok (.invokevirtual 188, 3) := by decide +kernel
theorem dX9_end_79 : decode cX9_end 79 = .ok (.aload_n 0, 1) := by decide +kernel
theorem dX9_end_80 : decode cX9_end 80 = .ok (.getfield 33, 3) := by decide +kernel
theorem dX9_end_83 : decode cX9_end 83 = .ok (.getfield 191, 3) := by decide +kernel
theorem dX9_end_86 : decode cX9_end 86 = .ok (.iconst (-1), 1) := by decide +kernel
theorem dX9_end_87 : decode cX9_end 87 = .ok (.invokevirtual 194, 3) := by decide +kernel
theorem dX9_end_90 : decode cX9_end 90 = .ok (.aload_n 0, 1) := by decide +kernel
theorem dX9_end_91 : decode cX9_end 91 = .ok (.iconst 0, 1) := by decide +kernel
theorem dX9_end_92 : decode cX9_end 92 = .ok (.putfield 72, 3) := by decide +kernel
theorem dX9_end_95 : decode cX9_end 95 = .ok (.aload_n 0, 1) := by decide +kernel
theorem dX9_end_96 : decode cX9_end 96 = .ok (.dup, 1) := by decide +kernel
theorem dX9_end_97 : decode cX9_end 97 = .ok (.getfield 69, 3) := by decide +kernel
theorem dX9_end_100 : decode cX9_end 100 = .ok (.iconst 1, 1) := by decide +kernel
theorem dX9_end_101 : decode cX9_end 101 = .ok (.iadd, 1) := by decide +kernel
theorem dX9_end_102 : decode cX9_end 102 = .ok (.putfield 69, 3) := by decide +kernel
theorem dX9_end_105 : decode cX9_end 105 = .ok (.iload_n 1, 1) := by decide +kernel
theorem dX9_end_106 : decode cX9_end 106 = .ok (.ireturn, 1) := by decide +kernel
theorem dX9_press_0 : decode cX9_press 0 = .ok (.iload_n 1, 1) := by decide +kernel
theorem dX9_press_1 : decode cX9_press 1 = .ok (.bipush 8, 2) := by decide +kernel
theorem dX9_press_3 : decode cX9_press 3 = .ok (.invokestatic 79, 3) := by decide +kernel
theorem dX9_press_6 : decode cX9_press 6 = .ok (.iload_n 2, 1) := by decide +kernel
theorem dX9_press_7 : decode cX9_press 7 = .ok (.iconst 3, 1) := by decide +kernel
theorem dX9_press_8 : decode cX9_press 8 = .ok (.invokestatic 79, 3) := by decide +kernel
theorem dX9_press_11 : decode cX9_press 11 = .ok (.aload_n 0, 1) := by decide +kernel
theorem dX9_press_12 : decode cX9_press 12 = .ok (.getfield 47, 3) := by decide +kernel
theorem dX9_press_15 : decode cX9_press 15 = .ok (.getfield 197, 3) := by decide +kernel
theorem dX9_press_18 : decode cX9_press 18 = .ok (.iload_n 2, 1) := by decide +kernel
theorem dX9_press_19 : decode cX9_press 19 = .ok (.invokevirtual 200, 3) := by decide +kernel
theorem dX9_press_22 : decode cX9_press 22 = .ok (.iconst 1, 1) := by decide +kernel
theorem dX9_press_23 : decode cX9_press 23 = .ok (.if_icmp .ne 22, 3) := by decide +kernel
theorem dX9_press_26 : decode cX9_press 26 = .ok (.aload_n 0, 1) := by decide +kernel
theorem dX9_press_27 : decode cX9_press 27 = .ok (.getfield 47, 3) := by decide +kernel
theorem dX9_press_30 : decode cX9_press 30 = .ok (.getfield 129, 3) := by decide +kernel
theorem dX9_press_33 : decode cX9_press 33 = .ok (.iload_n 2, 1) := by decide +kernel
theorem dX9_press_34 : decode cX9_press 34 = .ok (.invokevirtual 200, 3) := by decide +kernel
theorem dX9_press_37 : decode cX9_press 37 = .ok (.iconst 1, 1) := by decide +kernel
theorem dX9_press_38 : decode cX9_press 38 = .ok (.if_icmp .ne 7, 3) := by decide +kernel
theorem dX9_press_41 : decode cX9_press 41 = .ok (.iconst 1, 1) := by decide +kernel
theorem dX9_press_42 : decode cX9_press 42 = .ok (.goto 4, 3) := by decide +kernel
theorem dX9_press_45 : decode cX9_press 45 = .ok (.iconst 0, 1) := by decide +kernel
theorem dX9_press_46 : decode cX9_press 46 = .ok (.invokestatic 138, 3) := by decide +kernel
theorem dX9_press_49 : decode cX9_press 49 = .ok (.aload_n 0, 1) := by decide +kernel
theorem dX9_press_50 : decode cX9_press 50 = .ok (.getfield 26, 3) := by decide +kernel
theorem dX9_press_53 : decode cX9_press 53 = .ok (.getfield 132, 3) := by decide +kernel
theorem dX9_press_56 : decode cX9_press 56 = .ok (.iload_n 1, 1) := by decide +kernel
theorem dX9_press_57 : decode cX9_press 57 = .ok (.invokevirtual 200, 3) := by decide +kernel
theorem dX9_press_60 : decode cX9_press 60 = .ok (.iconst 1, 1) := by decide +kernel
theorem dX9_press_61 : decode cX9_press 61 = .ok (.if_icmp .ne 19, 3) := by decide +kernel
theorem dX9_press_64 : decode cX9_press 64 = .ok (.aload_n 0, 1) := by decide +kernel
theorem dX9_press_65 : decode cX9_press 65 = .ok (.getfield 54, 3) := by decide +kernel
theorem dX9_press_68 : decode cX9_press 68 = .ok (.iload_n 2, 1) := by decide +kernel
theorem dX9_press_69 : decode cX9_press 69 = .ok (.iload_n 1, 1) := by decide +kernel
theorem dX9_press_70 : decode cX9_press 70 = .ok (.invokevirtual 203, 3) := by decide +kernel
theorem dX9_press_73 : decode cX9_press 73 = .ok (.ifCond .ne 7, 3) := by decide +kernel
theorem dX9_press_76 : decode cX9_press 76 = .ok (.iconst 1, 1) := by decide +kernel
theorem dX9_press_77 : decode cX9_press 77 = .ok (.goto 4, 3) := by decide +kernel
theorem dX9_press_80 : decode cX9_press 80 = .ok (.iconst 0, 1) := by decide +kernel
theorem dX9_press_81 : decode cX9_press 81 = .ok (.invokestatic 138, 3) := by decide +kernel
theorem dX9_press_84 : decode cX9_press 84 = .ok (.aload_n 0, 1) := by decide +kernel
theorem dX9_press_85 : decode cX9_press 85 = .ok (.getfield 47, 3) := by decide +kernel
theorem dX9_press_88 : decode cX9_press 88 = .ok (.getfield 206, 3) := by decide +kernel
theorem dX9_press_91 : decode cX9_press 91 = .ok (.iload_n 2, 1) := by decide +kernel
theorem dX9_press_92 : decode cX9_press 92 = .ok (.invokevirtual 200, 3) := by decide +kernel
theorem dX9_press_95 : decode cX9_press 95 = .ok (.istore_n 3, 1) := by decide +kernel
theorem dX9_press_96 : decode cX9_press 96 = .ok (.aload_n 0, 1) := by decide +kernel
theorem dX9_press_97 : decode cX9_press 97 = .ok (.getfield 54, 3) := by decide +kernel
theorem dX9_press_100 : decode cX9_press 100 = .ok (.iload_n 2, 1) := by decide +kernel
theorem dX9_press_101 : decode cX9_press 101 = .ok (.iload_n 1, 1) := by decide +kernel
theorem dX9_press_102 : decode cX9_press 102 = .ok (.iload_n 3, 1) := by decide +kernel
theorem dX9_press_103 : decode cX9_press 103 = .ok (.aload_n 0, 1) := by decide +kernel
theorem dX9_press_104 : decode cX9_press 104 = .ok (.getfield 65, 3) := by decide +kernel
theorem dX9_press_107 : decode cX9_press 107 = .ok (.aload_n 0, 1) := by decide +kernel
theorem dX9_press_108 : decode cX9_press 108 = .ok (.getfield 65, 3) := by decide +kernel
theorem dX9_press_111 : decode cX9_press 111 = .ok (.aload_n 0, 1) := by decide +kernel
theorem dX9_press_112 : decode cX9_press 112 = .ok (.getfield 26, 3) := by decide +kernel
theorem dX9_press_115 : decode cX9_press 115 = .ok (.getfield 123, 3) := by decide +kernel
theorem dX9_press_118 : decode cX9_press 118 = .ok (.iload_n 1, 1) := by decide +kernel
theorem dX9_press_119 : decode cX9_press 119 = .ok (.invokevirtual 200, 3) := by decide +kernel
theorem dX9_press_122 : decode cX9_press 122 = .ok (.iadd, 1) := by decide +kernel
theorem dX9_press_123 : decode cX9_press 123 = .ok (.invokevirtual 209, 3) := by decide +kernel
theorem dX9_press_126 : decode cX9_press 126 = .ok (.iload_n 3, 1) := by decide +kernel
theorem dX9_press_127 : decode cX9_press 127 = .ok (.ireturn, 1) := by decide +kernel
theorem dX9_take_0 : decode cX9_take 0 = .ok (.iload_n 1, 1) := by decide +kernel
theorem dX9_take_1 : decode cX9_take 1 = .ok (.bipush 8, 2) := by decide +kernel
theorem dX9_take_3 : decode cX9_take 3 = .ok (.invokestatic 79, 3) := by decide +kernel
theorem dX9_take_6 : decode cX9_take 6 = .ok (.iload_n 2, 1) := by decide +kernel
theorem dX9_take_7 : decode cX9_take 7 = .ok (.iconst 3, 1) := by decide +kernel
theorem dX9_take_8 : decode cX9_take 8 = .ok (.invokestatic 79, 3) := by decide +kernel
theorem dX9_take_11 : decode cX9_take 11 = .ok (.aload_n 0, 1) := by decide +kernel
theorem dX9_take_12 : decode cX9_take 12 = .ok (.getfield 47, 3) := by decide +kernel
theorem dX9_take_15 : decode cX9_take 15 = .ok (.getfield 197, 3) := by decide +kernel
theorem dX9_take_18 : decode cX9_take 18 = .ok (.iload_n 2, 1) := by decide +kernel
theorem dX9_take_19 : decode cX9_take 19 = .ok (.invokevirtual 200, 3) := by decide +kernel
theorem dX9_take_22 : decode cX9_take 22 = .ok (.iconst 3, 1) := by decide +kernel
theorem dX9_take_23 : decode cX9_take 23 = .ok (.if_icmp .ne 22, 3) := by decide +kernel
theorem dX9_take_26 : decode cX9_take 26 = .ok (.aload_n 0, 1) := by decide +kernel
theorem dX9_take_27 : decode cX9_take 27 = .ok (.getfield 47, 3) := by decide +kernel
theorem dX9_take_30 : decode cX9_take 30 = .ok (.getfield 129, 3) := by decide +kernel
theorem dX9_take_33 : decode cX9_take 33 = .ok (.iload_n 2, 1) := by decide +kernel
theorem dX9_take_34 : decode cX9_take 34 = .ok (.invokevirtual 200, 3) := by decide +kernel
theorem dX9_take_37 : decode cX9_take 37 = .ok (.iconst 1, 1) := by decide +kernel
theorem dX9_take_38 : decode cX9_take 38 = .ok (.if_icmp .ne 7, 3) := by decide +kernel
theorem dX9_take_41 : decode cX9_take 41 = .ok (.iconst 1, 1) := by decide +kernel
theorem dX9_take_42 : decode cX9_take 42 = .ok (.goto 4, 3) := by decide +kernel
theorem dX9_take_45 : decode cX9_take 45 = .ok (.iconst 0, 1) := by decide +kernel
theorem dX9_take_46 : decode cX9_take 46 = .ok (.invokestatic 138, 3) := by decide +kernel
theorem dX9_take_49 : decode cX9_take 49 = .ok (.aload_n 0, 1) := by decide +kernel
theorem dX9_take_50 : decode cX9_take 50 = .ok (.getfield 47, 3) := by decide +kernel
theorem dX9_take_53 : decode cX9_take 53 = .ok (.getfield 213, 3) := by decide +kernel
theorem dX9_take_56 : decode cX9_take 56 = .ok (.iload_n 2, 1) := by decide +kernel
theorem dX9_take_57 : decode cX9_take 57 = .ok (.invokevirtual 200, 3) := by decide +kernel
theorem dX9_take_60 : decode cX9_take 60 = .ok (.iload_n 1, 1) := by decide +kernel
theorem dX9_take_61 : decode cX9_take 61 = .ok (.if_icmp .ne 7, 3) := by decide +kernel
theorem dX9_take_64 : decode cX9_take 64 = .ok (.iconst 1, 1) := by decide +kernel
theorem dX9_take_65 : decode cX9_take 65 = .ok (.goto 4, 3) := by decide +kernel
theorem dX9_take_68 : decode cX9_take 68 = .ok (.iconst 0, 1) := by decide +kernel
theorem dX9_take_69 : decode cX9_take 69 = .ok (.invokestatic 138, 3) := by decide +kernel
theorem dX9_take_72 : decode cX9_take 72 = .ok (.iload_n 3, 1) := by decide +kernel
theorem dX9_take_73 : decode cX9_take 73 = .ok (.iconst 1, 1) := by decide +kernel
theorem dX9_take_74 : decode cX9_take 74 = .ok (.if_icmp .lt 29, 3) := by decide +kernel
theorem dX9_take_77 : decode cX9_take 77 = .ok (.iload_n 3, 1) := by decide +kernel
theorem dX9_take_78 : decode cX9_take 78 = .ok (.aload_n 0, 1) := by decide +kernel
theorem dX9_take_79 : decode cX9_take 79 = .ok (.getfield 40, 3) := by decide +kernel
theorem dX9_take_82 : decode cX9_take 82 = .ok (.aload_n 0, 1) := by decide +kernel
theorem dX9_take_83 : decode cX9_take 83 = .ok (.getfield 47, 3) := by decide +kernel
theorem dX9_take_86 : decode cX9_take 86 = .ok (.getfield 216, 3) := by decide +kernel
theorem dX9_take_89 : decode cX9_take 89 = .ok (.iload_n 2, 1) := by decide +kernel
theorem dX9_take_90 : decode cX9_take 90 = .ok (.invokevirtual 200, 3) := by decide +kernel
theorem dX9_take_93 : decode cX9_take 93 = .ok (.invokevirtual 217, 3) := by decide +kernel
theorem dX9_take_96 : decode cX9_take 96 = .ok (.if_icmp .gt 7, 3) := by decide +kernel
theorem dX9_take_99 : decode cX9_take 99 = .ok (.iconst 1, 1) := by decide +kernel
theorem dX9_take_100 : decode cX9_take 100 = .ok (.goto 4, 3) := by decide +kernel
theorem dX9_take_103 : decode cX9_take 103 = .ok (.iconst 0, 1) := by decide +kernel
theorem dX9_take_104 : decode cX9_take 104 = .ok (.invokestatic 138, 3) := by decide +kernel
theorem dX9_take_107 : decode cX9_take 107 = .ok (.aload_n 0, 1) := by decide +kernel
theorem dX9_take_108 : decode cX9_take 108 = .ok (.iload_n 2, 1) := by decide +kernel
theorem dX9_take_109 : decode cX9_take 109 = .ok (.iload_n 3, 1) := by decide +kernel
theorem dX9_take_110 : decode cX9_take 110 = .ok (.invokevirtual 220, 3) := by decide +kernel
theorem dX9_take_113 : decode cX9_take 113 = .ok (.istore 4, 2) := by decide +kernel
theorem dX9_take_115 : decode cX9_take 115 = .ok (.iload 4, 2) := by decide +kernel
theorem dX9_take_117 : decode cX9_take 117 = .ok (.aload_n 0, 1) := by decide +kernel
theorem dX9_take_118 : decode cX9_take 118 = .ok (.getfield 26, 3) := by decide +kernel
theorem dX9_take_121 : decode cX9_take 121 = .ok (.iload_n 1, 1) := by decide +kernel
theorem dX9_take_122 : decode cX9_take 122 = .ok (.invokevirtual 223, 3) := by decide +kernel
theorem dX9_take_125 : decode cX9_take 125 = .ok (.if_icmp .gt 7, 3) := by decide +kernel
theorem dX9_take_128 : decode cX9_take 128 = .ok (.iconst 1, 1) := by decide +kernel
theorem dX9_take_129 : decode cX9_take 129 = .ok (.goto 4, 3) := by decide +kernel
theorem dX9_take_132 : decode cX9_take 132 = .ok (.iconst 0, 1) := by decide +kernel
theorem dX9_take_133 : decode cX9_take 133 = .ok (.invokestatic 138, 3) := by decide +kernel
theorem dX9_take_136 : decode cX9_take 136 = .ok (.aload_n 0, 1) := by decide +kernel
theorem dX9_take_137 : decode cX9_take 137 = .ok (.iload_n 2, 1) := by decide +kernel
theorem dX9_take_138 : decode cX9_take 138 = .ok (.iload_n 3, 1) := by decide +kernel
theorem dX9_take_139 : decode cX9_take 139 = .ok (.invokevirtual 226, 3) := by decide +kernel
theorem dX9_take_142 : decode cX9_take 142 = .ok (.aload_n 0, 1) := by decide +kernel
theorem dX9_take_143 : decode cX9_take 143 = .ok (.iload_n 2, 1) := by decide +kernel
theorem dX9_take_144 : decode cX9_take 144 = .ok (.invokevirtual 229, 3) := by decide +kernel
theorem dX9_take_147 : decode cX9_take 147 = .ok (.iload 4, 2) := by decide +kernel
theorem dX9_take_149 : decode cX9_take 149 = .ok (.ireturn, 1) := by decide +kernel
theorem dX9_pass_0 : decode cX9_pass 0 = .ok (.iload_n 1, 1) := by decide +kernel
theorem dX9_pass_1 : decode cX9_pass 1 = .ok (.iconst 1, 1) := by decide +kernel
theorem dX9_pass_2 : decode cX9_pass 2 = .ok (.sipush 500, 3) := by decide +kernel
theorem dX9_pass_5 : decode cX9_pass 5 = .ok (.invokestatic 84, 3) := by decide +kernel
theorem dX9_pass_8 : decode cX9_pass 8 = .ok (.aload_n 0, 1) := by decide +kernel
theorem dX9_pass_9 : decode cX9_pass 9 = .ok (.getfield 65, 3) := by decide +kernel
theorem dX9_pass_12 : decode cX9_pass 12 = .ok (.iload_n 1, 1) := by decide +kernel
theorem dX9_pass_13 : decode cX9_pass 13 = .ok (.iadd, 1) := by decide +kernel
theorem dX9_pass_14 : decode cX9_pass 14 = .ok (.ldc 83, 2) := by decide +kernel
theorem dX9_pass_16 : decode cX9_pass 16 = .ok (.if_icmp .gt 7, 3) := by decide +kernel
theorem dX9_pass_19 : decode cX9_pass 19 = .ok (.iconst 1, 1) := by decide +kernel
theorem dX9_pass_20 : decode cX9_pass 20 = .ok (.goto 4, 3) := by decide +kernel
theorem dX9_pass_23 : decode cX9_pass 23 = .ok (.iconst 0, 1) := by decide +kernel
theorem dX9_pass_24 : decode cX9_pass 24 = .ok (.invokestatic 138, 3) := by decide +kernel
theorem dX9_pass_27 : decode cX9_pass 27 = .ok (.iconst 0, 1) := by decide +kernel
theorem dX9_pass_28 : decode cX9_pass 28 = .ok (.istore_n 2, 1) := by decide +kernel
theorem dX9_pass_29 : decode cX9_pass 29 = .ok (.iload_n 2, 1) := by decide +kernel
theorem dX9_pass_30 : decode cX9_pass 30 = .ok (.iload_n 1, 1) := by decide +kernel
theorem dX9_pass_31 : decode cX9_pass 31 = .ok (.if_icmp .ge 27, 3) := by decide +kernel
theorem dX9_pass_34 : decode cX9_pass 34 = .ok (.aload_n 0, 1) := by decide +kernel
theorem dX9_pass_35 : decode cX9_pass 35 = .ok (.dup, 1) := by decide +kernel
theorem dX9_pass_36 : decode cX9_pass 36 = .ok (.getfield 65, 3) := by decide +kernel
theorem dX9_pass_39 : decode cX9_pass 39 = .ok (.iconst 1, 1) := by decide +kernel
theorem dX9_pass_40 : decode cX9_pass 40 = .ok (.iadd, 1) := by decide +kernel
theorem dX9_pass_41 : decode cX9_pass 41 = .ok (.putfield 65, 3) := by decide +kernel
theorem dX9_pass_44 : decode cX9_pass 44 = .ok (.aload_n 0, 1) := by decide +kernel
theorem dX9_pass_45 : decode cX9_pass 45 = .ok (.invokevirtual 232, 3) := by decide +kernel
theorem dX9_pass_48 : decode cX9_pass 48 = .ok (.aload_n 0, 1) := by decide +kernel
theorem dX9_pass_49 : decode cX9_pass 49 = .ok (.invokevirtual 235, 3) := by decide +kernel
theorem dX9_pass_52 : decode cX9_pass 52 = .ok (.iinc 2 1, 3) := by decide +kernel
theorem dX9_pass_55 : decode cX9_pass 55 = .ok (.goto (-26), 3) := by decide +kernel
theorem dX9_pass_58 : decode cX9_pass 58 = .ok (.aload_n 0, 1) := by decide +kernel
theorem dX9_pass_59 : decode cX9_pass 59 = .ok (.getfield 65, 3) := by decide +kernel
theorem dX9_pass_62 : decode cX9_pass 62 = .ok (.ireturn, 1) := by decide +kernel
theorem dX9_lorry_0 : decode cX9_lorry 0 = .ok (.iload_n 1, 1) := by decide +kernel
theorem dX9_lorry_1 : decode cX9_lorry 1 = .ok (.bipush 8, 2) := by decide +kernel
theorem dX9_lorry_3 : decode cX9_lorry 3 = .ok (.invokestatic 79, 3) := by decide +kernel
theorem dX9_lorry_6 : decode cX9_lorry 6 = .ok (.iload_n 2, 1) := by decide +kernel
theorem dX9_lorry_7 : decode cX9_lorry 7 = .ok (.aload_n 0, 1) := by decide +kernel
theorem dX9_lorry_8 : decode cX9_lorry 8 = .ok (.getfield 65, 3) := by decide +kernel
theorem dX9_lorry_11 : decode cX9_lorry 11 = .ok (.iconst 1, 1) := by decide +kernel
theorem dX9_lorry_12 : decode cX9_lorry 12 = .ok (.iadd, 1) := by decide +kernel
theorem dX9_lorry_13 : decode cX9_lorry 13 = .ok (.ldc 83, 2) := by decide +kernel
theorem dX9_lorry_15 : decode cX9_lorry 15 = .ok (.invokestatic 84, 3) := by decide +kernel
theorem dX9_lorry_18 : decode cX9_lorry 18 = .ok (.iload_n 3, 1) := by decide +kernel
theorem dX9_lorry_19 : decode cX9_lorry 19 = .ok (.iconst 1, 1) := by decide +kernel
theorem dX9_lorry_20 : decode cX9_lorry 20 = .ok (.bipush 50, 2) := by decide +kernel
theorem dX9_lorry_22 : decode cX9_lorry 22 = .ok (.invokestatic 84, 3) := by decide +kernel
theorem dX9_lorry_25 : decode cX9_lorry 25 = .ok (.aload_n 0, 1) := by decide +kernel
theorem dX9_lorry_26 : decode cX9_lorry 26 = .ok (.getfield 61, 3) := by decide +kernel
theorem dX9_lorry_29 : decode cX9_lorry 29 = .ok (.getfield 238, 3) := by decide +kernel
theorem dX9_lorry_32 : decode cX9_lorry 32 = .ok (.bipush 20, 2) := by decide +kernel
theorem dX9_lorry_34 : decode cX9_lorry 34 = .ok (.if_icmp .ge 7, 3) := by decide +kernel
theorem dX9_lorry_37 : decode cX9_lorry 37 = .ok (.iconst 1, 1) := by decide +kernel
theorem dX9_lorry_38 : decode cX9_lorry 38 = .ok (.goto 4, 3) := by decide +kernel
theorem dX9_lorry_41 : decode cX9_lorry 41 = .ok (.iconst 0, 1) := by decide +kernel
theorem dX9_lorry_42 : decode cX9_lorry 42 = .ok (.invokestatic 138, 3) := by decide +kernel
theorem dX9_lorry_45 : decode cX9_lorry 45 = .ok (.aload_n 0, 1) := by decide +kernel
theorem dX9_lorry_46 : decode cX9_lorry 46 = .ok (.getfield 61, 3) := by decide +kernel
theorem dX9_lorry_49 : decode cX9_lorry 49 = .ok (.iload_n 1, 1) := by decide +kernel
theorem dX9_lorry_50 : decode cX9_lorry 50 = .ok (.iload_n 2, 1) := by decide +kernel
theorem dX9_lorry_51 : decode cX9_lorry 51 = .ok (.iload_n 3, 1) := by decide +kernel
theorem dX9_lorry_52 : decode cX9_lorry 52 = .ok (.invokevirtual 239, 3) := by decide +kernel
theorem dX9_lorry_55 : decode cX9_lorry 55 = .ok (.ireturn, 1) := by decide +kernel
theorem dX9_pay_0 : decode cX9_pay 0 = .ok (.iload_n 1, 1) := by decide +kernel
theorem dX9_pay_1 : decode cX9_pay 1 = .ok (.bipush 8, 2) := by decide +kernel
theorem dX9_pay_3 : decode cX9_pay 3 = .ok (.invokestatic 79, 3) := by decide +kernel
theorem dX9_pay_6 : decode cX9_pay 6 = .ok (.iload_n 2, 1) := by decide +kernel
theorem dX9_pay_7 : decode cX9_pay 7 = .ok (.iconst 1, 1) := by decide +kernel
theorem dX9_pay_8 : decode cX9_pay 8 = .ok (.ldc 122, 2) := by decide +kernel
theorem dX9_pay_10 : decode cX9_pay 10 = .ok (.invokestatic 84, 3) := by decide +kernel
theorem dX9_pay_13 : decode cX9_pay 13 = .ok (.iconst 0, 1) := by decide +kernel
theorem dX9_pay_14 : decode cX9_pay 14 = .ok (.iload_n 2, 1) := by decide +kernel
theorem dX9_pay_15 : decode cX9_pay 15 = .ok (.aload_n 0, 1) := by decide +kernel
theorem dX9_pay_16 : decode cX9_pay 16 = .ok (.getfield 26, 3) := by decide +kernel
theorem dX9_pay_19 : decode cX9_pay 19 = .ok (.getfield 241, 3) := by decide +kernel
theorem dX9_pay_22 : decode cX9_pay 22 = .ok (.iload_n 1, 1) := by decide +kernel
theorem dX9_pay_23 : decode cX9_pay 23 = .ok (.invokevirtual 200, 3) := by decide +kernel
theorem dX9_pay_26 : decode cX9_pay 26 = .ok (.invokestatic 244, 3) := by decide +kernel
theorem dX9_pay_29 : decode cX9_pay 29 = .ok (.invokestatic 249, 3) := by decide +kernel
theorem dX9_pay_32 : decode cX9_pay 32 = .ok (.istore_n 3, 1) := by decide +kernel
theorem dX9_pay_33 : decode cX9_pay 33 = .ok (.aload_n 0, 1) := by decide +kernel
theorem dX9_pay_34 : decode cX9_pay 34 = .ok (.getfield 26, 3) := by decide +kernel
theorem dX9_pay_37 : decode cX9_pay 37 = .ok (.getfield 241, 3) := by decide +kernel
theorem dX9_pay_40 : decode cX9_pay 40 = .ok (.iload_n 1, 1) := by decide +kernel
theorem dX9_pay_41 : decode cX9_pay 41 = .ok (.iload_n 3, 1) := by decide +kernel
theorem dX9_pay_42 : decode cX9_pay 42 = .ok (.ineg, 1) := by decide +kernel
theorem dX9_pay_43 : decode cX9_pay 43 = .ok (.invokevirtual 252, 3) := by decide +kernel
theorem dX9_pay_46 : decode cX9_pay 46 = .ok (.iload_n 3, 1) := by decide +kernel
theorem dX9_pay_47 : decode cX9_pay 47 = .ok (.ireturn, 1) := by decide +kernel
theorem dX9_claim_0 : decode cX9_claim 0 = .ok (.iload_n 1, 1) := by decide +kernel
theorem dX9_claim_1 : decode cX9_claim 1 = .ok (.bipush 8, 2) := by decide +kernel
theorem dX9_claim_3 : decode cX9_claim 3 = .ok (.invokestatic 79, 3) := by decide +kernel
theorem dX9_claim_6 : decode cX9_claim 6 = .ok (.iload_n 2, 1) := by decide +kernel
theorem dX9_claim_7 : decode cX9_claim 7 = .ok (.aload_n 0, 1) := by decide +kernel
theorem dX9_claim_8 : decode cX9_claim 8 = .ok (.getfield 33, 3) := by decide +kernel
theorem dX9_claim_11 : decode cX9_claim 11 = .ok (.getfield 135, 3) := by decide +kernel
theorem dX9_claim_14 : decode cX9_claim 14 = .ok (.invokestatic 79, 3) := by decide +kernel
theorem dX9_claim_17 : decode cX9_claim 17 = .ok (.aload_n 0, 1) := by decide +kernel
theorem dX9_claim_18 : decode cX9_claim 18 = .ok (.getfield 33, 3) := by decide +kernel
theorem dX9_claim_21 : decode cX9_claim 21 = .ok (.getfield 254, 3) := by decide +kernel
theorem dX9_claim_24 : decode cX9_claim 24 = .ok (.iload_n 2, 1) := by decide +kernel
theorem dX9_claim_25 : decode cX9_claim 25 = .ok (.invokevirtual 200, 3) := by decide +kernel
theorem dX9_claim_28 : decode cX9_claim 28 = .ok (.iload_n 1, 1) := by decide +kernel
theorem dX9_claim_29 : decode cX9_claim 29 = .ok (.if_icmp .ne 21, 3) := by decide +kernel
theorem dX9_claim_32 : decode cX9_claim 32 = .ok (.aload_n 0, 1) := by decide +kernel
theorem dX9_claim_33 : decode cX9_claim 33 = .ok (.getfield 33, 3) := by decide +kernel
theorem dX9_claim_36 : decode cX9_claim 36 = .ok (.getfield 257, 3) := by decide +kernel
theorem dX9_claim_39 : decode cX9_claim 39 = .ok (.iload_n 2, 1) := by decide +kernel
theorem dX9_claim_40 : decode cX9_claim 40 = .ok (.invokevirtual 200, 3) := by decide +kernel
theorem dX9_claim_43 : decode cX9_claim 43 = .ok (.ifCond .ne 7, 3) := by decide +kernel
theorem dX9_claim_46 : decode cX9_claim 46 = .ok (.iconst 1, 1) := by decide +kernel
theorem dX9_claim_47 : decode cX9_claim 47 = .ok (.goto 4, 3) := by decide +kernel
theorem dX9_claim_50 : decode cX9_claim 50 = .ok (.iconst 0, 1) := by decide +kernel
theorem dX9_claim_51 : decode cX9_claim 51 = .ok (.invokestatic 138, 3) := by decide +kernel
theorem dX9_claim_54 : decode cX9_claim 54 = .ok (.aload_n 0, 1) := by decide +kernel
theorem dX9_claim_55 : decode cX9_claim 55 = .ok (.getfield 65, 3) := by decide +kernel
theorem dX9_claim_58 : decode cX9_claim 58 = .ok (.aload_n 0, 1) := by decide +kernel
theorem dX9_claim_59 : decode cX9_claim 59 = .ok (.getfield 33, 3) := by decide +kernel
theorem dX9_claim_62 : decode cX9_claim 62 = .ok (.getfield 260, 3) := by decide +kernel
theorem dX9_claim_65 : decode cX9_claim 65 = .ok (.iload_n 2, 1) := by decide +kernel
theorem dX9_claim_66 : decode cX9_claim 66 = .ok (.invokevirtual 200, 3) := by decide +kernel
theorem dX9_claim_69 : decode cX9_claim 69 = .ok (.isub, 1) := by decide +kernel
theorem dX9_claim_70 : decode cX9_claim 70 = .ok (.sipush 240, 3) := by decide +kernel
theorem dX9_claim_73 : decode cX9_claim 73 = .ok (.if_icmp .gt 7, 3) := by decide +kernel
theorem dX9_claim_76 : decode cX9_claim 76 = .ok (.iconst 1, 1) := by decide +kernel
theorem dX9_claim_77 : decode cX9_claim 77 = .ok (.goto 4, 3) := by decide +kernel
theorem dX9_claim_80 : decode cX9_claim 80 = .ok (.iconst 0, 1) := by decide +kernel
theorem dX9_claim_81 : decode cX9_claim 81 = .ok (.invokestatic 138, 3) := by decide +kernel
theorem dX9_claim_84 : decode cX9_claim 84 = .ok (.aload_n 0, 1) := by decide +kernel
theorem dX9_claim_85 : decode cX9_claim 85 = .ok (.getfield 33, 3) := by decide +kernel
theorem dX9_claim_88 : decode cX9_claim 88 = .ok (.iload_n 2, 1) := by decide +kernel
theorem dX9_claim_89 : decode cX9_claim 89 = .ok (.invokevirtual 263, 3) := by decide +kernel
theorem dX9_claim_92 : decode cX9_claim 92 = .ok (.istore_n 3, 1) := by decide +kernel
theorem dX9_claim_93 : decode cX9_claim 93 = .ok (.aload_n 0, 1) := by decide +kernel
theorem dX9_claim_94 : decode cX9_claim 94 = .ok (.getfield 33, 3) := by decide +kernel
theorem dX9_claim_97 : decode cX9_claim 97 = .ok (.getfield 257, 3) := by decide +kernel
theorem dX9_claim_100 : decode cX9_claim 100 = .ok (.iload_n 2, 1) := by decide +kernel
theorem dX9_claim_101 : decode cX9_claim 101 = .ok (.iconst 1, 1) := by decide +kernel
theorem dX9_claim_102 : decode cX9_claim 102 = .ok (.invokevirtual 104, 3) := by decide +kernel
theorem dX9_claim_105 : decode cX9_claim 105 = .ok (.aload_n 0, 1) := by decide +kernel
theorem dX9_claim_106 : decode cX9_claim 106 = .ok (.getfield 26, 3) := by decide +kernel
theorem dX9_claim_109 : decode cX9_claim 109 = .ok (.getfield 241, 3) := by decide +kernel
theorem dX9_claim_112 : decode cX9_claim 112 = .ok (.iload_n 1, 1) := by decide +kernel
theorem dX9_claim_113 : decode cX9_claim 113 = .ok (.iload_n 3, 1) := by decide +kernel
theorem dX9_claim_114 : decode cX9_claim 114 = .ok (.ineg, 1) := by decide +kernel
theorem dX9_claim_115 : decode cX9_claim 115 = .ok (.invokevirtual 252, 3) := by decide +kernel
theorem dX9_claim_118 : decode cX9_claim 118 = .ok (.aload_n 0, 1) := by decide +kernel
theorem dX9_claim_119 : decode cX9_claim 119 = .ok (.getfield 10, 3) := by decide +kernel
theorem dX9_claim_122 : decode cX9_claim 122 = .ok (.getfield 266, 3) := by decide +kernel
theorem dX9_claim_125 : decode cX9_claim 125 = .ok (.aload_n 0, 1) := by decide +kernel
theorem dX9_claim_126 : decode cX9_claim 126 = .ok (.getfield 33, 3) := by decide +kernel
theorem dX9_claim_129 : decode cX9_claim 129 = .ok (.getfield 269, 3) := by decide +kernel
theorem dX9_claim_132 : decode cX9_claim 132 = .ok (.iload_n 2, 1) := by decide +kernel
theorem dX9_claim_133 : decode cX9_claim 133 = .ok (.invokevirtual 200, 3) := by decide +kernel
theorem dX9_claim_136 : decode cX9_claim 136 = .ok (.iload_n 3, 1) := by decide +kernel
theorem dX9_claim_137 : decode cX9_claim 137 = .ok (.ineg, 1) := by decide +kernel
theorem dX9_claim_138 : decode cX9_claim 138 = .ok (.invokevirtual 252, 3) := by decide +kernel
theorem dX9_claim_141 : decode cX9_claim 141 = .ok (.iload_n 3, 1) := by decide +kernel
theorem dX9_claim_142 : decode cX9_claim 142 = .ok (.ireturn, 1) := by decide +kernel
theorem dX9_settle_0 : decode cX9_settle 0 = .ok (.iload_n 1, 1) := by decide +kernel
theorem dX9_settle_1 : decode cX9_settle 1 = .ok (.bipush 8, 2) := by decide +kernel
theorem dX9_settle_3 : decode cX9_settle 3 = .ok (.invokestatic 79, 3) := by decide +kernel
theorem dX9_settle_6 : decode cX9_settle 6 = .ok (.iload_n 2, 1) := by decide +kernel
theorem dX9_settle_7 : decode cX9_settle 7 = .ok (.iconst 0, 1) := by decide +kernel
theorem dX9_settle_8 : decode cX9_settle 8 = .ok (.ldc_w 272, 3) := by decide +kernel
theorem dX9_settle_11 : decode cX9_settle 11 = .ok (.invokestatic 84, 3) := by decide +kernel
theorem dX9_settle_14 : decode cX9_settle 14 = .ok (.iload_n 3, 1) := by decide +kernel
theorem dX9_settle_15 : decode cX9_settle 15 = .ok (.iconst 0, 1) := by decide +kernel
theorem dX9_settle_16 : decode cX9_settle 16 = .ok (.bipush 100, 2) := by decide +kernel
theorem dX9_settle_18 : decode cX9_settle 18 = .ok (.invokestatic 84, 3) := by decide +kernel
theorem dX9_settle_21 : decode cX9_settle 21 = .ok (.aload_n 0, 1) := by decide +kernel
theorem dX9_settle_22 : decode cX9_settle 22 = .ok (.getfield 10, 3) := by decide +kernel
theorem dX9_settle_25 : decode cX9_settle 25 = .ok (.getfield 266, 3) := by decide +kernel
theorem dX9_settle_28 : decode cX9_settle 28 = .ok (.iload_n 1, 1) := by decide +kernel
theorem dX9_settle_29 : decode cX9_settle 29 = .ok (.iconst 0, 1) := by decide +kernel
theorem dX9_settle_30 : decode cX9_settle 30 = .ok (.invokevirtual 96, 3) := by decide +kernel
theorem dX9_settle_33 : decode cX9_settle 33 = .ok (.istore 4, 2) := by decide +kernel
theorem dX9_settle_35 : decode cX9_settle 35 = .ok (.iconst 0, 1) := by decide +kernel
theorem dX9_settle_36 : decode cX9_settle 36 = .ok (.iload 4, 2) := by decide +kernel
theorem dX9_settle_38 : decode cX9_settle 38 = .ok (.invokestatic 249, 3) := by decide +kernel
theorem dX9_settle_41 : decode cX9_settle 41 = .ok (.iconst 3, 1) := by decide +kernel
theorem dX9_settle_42 : decode cX9_settle 42 = .ok (.imul, 1) := by decide +kernel
theorem dX9_settle_43 : decode cX9_settle 43 = .ok (.bipush 100, 2) := by decide +kernel
theorem dX9_settle_45 : decode cX9_settle 45 = .ok (.idiv, 1) := by decide +kernel
theorem dX9_settle_46 : decode cX9_settle 46 = .ok (.istore 5, 2) := by decide +kernel
theorem dX9_settle_48 : decode cX9_settle 48 = .ok (.iload 4, 2) := by decide +kernel
theorem dX9_settle_50 : decode cX9_settle 50 = .ok (.iload 5, 2) := by decide +kernel
theorem dX9_settle_52 : decode cX9_settle 52 = .ok (.isub, 1) := by decide +kernel
theorem dX9_settle_53 : decode cX9_settle 53 = .ok (.iload_n 2, 1) := by decide +kernel
theorem dX9_settle_54 : decode cX9_settle 54 = .ok (.isub, 1) := by decide +kernel
theorem dX9_settle_55 : decode cX9_settle 55 = .ok (.i2l, 1) := by decide +kernel
theorem dX9_settle_56 : decode cX9_settle 56 = .ok (.lstore 6, 2) := by decide +kernel
theorem dX9_settle_58 : decode cX9_settle 58 = .ok (.lconst 0, 1) := by decide +kernel
theorem dX9_settle_59 : decode cX9_settle 59 = .ok (.lload 6, 2) := by decide +kernel
theorem dX9_settle_61 : decode cX9_settle 61 = .ok (.invokestatic 273, 3) := by decide +kernel
theorem dX9_settle_64 : decode cX9_settle 64 = .ok (.iload_n 3, 1) := by decide +kernel
theorem dX9_settle_65 : decode cX9_settle 65 = .ok (.i2l, 1) := by decide +kernel
theorem dX9_settle_66 : decode cX9_settle 66 = .ok (.lmul, 1) := by decide +kernel
theorem dX9_settle_67 : decode cX9_settle 67 = .ok (.ldc2_w 276, 3) := by decide +kernel
theorem dX9_settle_70 : decode cX9_settle 70 = .ok (.ldiv, 1) := by decide +kernel
theorem dX9_settle_71 : decode cX9_settle 71 = .ok (.l2i, 1) := by decide +kernel
theorem dX9_settle_72 : decode cX9_settle 72 = .ok (.ireturn, 1) := by decide +kernel
theorem dX9_now_0 : decode cX9_now 0 = .ok (.aload_n 0, 1) := by decide +kernel
theorem dX9_now_1 : decode cX9_now 1 = .ok (.getfield 65, 3) := by decide +kernel
theorem dX9_now_4 : decode cX9_now 4 = .ok (.ireturn, 1) := by decide +kernel
theorem dX9_day_0 : decode cX9_day 0 = .ok (.aload_n 0, 1) := by decide +kernel
theorem dX9_day_1 : decode cX9_day 1 = .ok (.getfield 69, 3) := by decide +kernel
theorem dX9_day_4 : decode cX9_day 4 = .ok (.ireturn, 1) := by decide +kernel
theorem dX9_isOpen_0 : decode cX9_isOpen 0 = .ok (.aload_n 0, 1) := by decide +kernel
theorem dX9_isOpen_1 : decode cX9_isOpen 1 = .ok (.getfield 72, 3) := by decide +kernel
theorem dX9_isOpen_4 : decode cX9_isOpen 4 = .ok (.ireturn, 1) := by decide +kernel
theorem dX9_told_0 : decode cX9_told 0 = .ok (.iload_n 1, 1) := by decide +kernel
theorem dX9_told_1 : decode cX9_told 1 = .ok (.aload_n 0, 1) := by decide +kernel
theorem dX9_told_2 : decode cX9_told 2 = .ok (.getfield 33, 3) := by decide +kernel
theorem dX9_told_5 : decode cX9_told 5 = .ok (.getfield 135, 3) := by decide +kernel
theorem dX9_told_8 : decode cX9_told 8 = .ok (.invokestatic 79, 3) := by decide +kernel
theorem dX9_told_11 : decode cX9_told 11 = .ok (.iload_n 2, 1) := by decide +kernel
theorem dX9_told_12 : decode cX9_told 12 = .ok (.iconst 0, 1) := by decide +kernel
theorem dX9_told_13 : decode cX9_told 13 = .ok (.iconst 4, 1) := by decide +kernel
theorem dX9_told_14 : decode cX9_told 14 = .ok (.invokestatic 84, 3) := by decide +kernel
theorem dX9_told_17 : decode cX9_told 17 = .ok (.iload_n 2, 1) := by decide +kernel
theorem dX9_told_18 : decode cX9_told 18 = .ok (.tableswitch 81 0 3 #[30, 42, 57, 69], 30) := by decide +kernel
theorem dX9_told_48 : decode cX9_told 48 = .ok (.aload_n 0, 1) := by decide +kernel
theorem dX9_told_49 : decode cX9_told 49 = .ok (.getfield 33, 3) := by decide +kernel
theorem dX9_told_52 : decode cX9_told 52 = .ok (.getfield 278, 3) := by decide +kernel
theorem dX9_told_55 : decode cX9_told 55 = .ok (.iload_n 1, 1) := by decide +kernel
theorem dX9_told_56 : decode cX9_told 56 = .ok (.invokevirtual 200, 3) := by decide +kernel
theorem dX9_told_59 : decode cX9_told 59 = .ok (.ireturn, 1) := by decide +kernel
theorem dX9_told_60 : decode cX9_told 60 = .ok (.aload_n 0, 1) := by decide +kernel
theorem dX9_told_61 : decode cX9_told 61 = .ok (.getfield 33, 3) := by decide +kernel
theorem dX9_told_64 : decode cX9_told 64 = .ok (.getfield 279, 3) := by decide +kernel
theorem dX9_told_67 : decode cX9_told 67 = .ok (.iload_n 1, 1) := by decide +kernel
theorem dX9_told_68 : decode cX9_told 68 = .ok (.invokevirtual 200, 3) := by decide +kernel
theorem dX9_told_71 : decode cX9_told 71 = .ok (.invokestatic 282, 3) := by decide +kernel
theorem dX9_told_74 : decode cX9_told 74 = .ok (.ireturn, 1) := by decide +kernel
theorem dX9_told_75 : decode cX9_told 75 = .ok (.aload_n 0, 1) := by decide +kernel
theorem dX9_told_76 : decode cX9_told 76 = .ok (.getfield 33, 3) := by decide +kernel
theorem dX9_told_79 : decode cX9_told 79 = .ok (.getfield 254, 3) := by decide +kernel
theorem dX9_told_82 : decode cX9_told 82 = .ok (.iload_n 1, 1) := by decide +kernel
theorem dX9_told_83 : decode cX9_told 83 = .ok (.invokevirtual 200, 3) := by decide +kernel
theorem dX9_told_86 : decode cX9_told 86 = .ok (.ireturn, 1) := by decide +kernel
theorem dX9_told_87 : decode cX9_told 87 = .ok (.aload_n 0, 1) := by decide +kernel
theorem dX9_told_88 : decode cX9_told 88 = .ok (.getfield 33, 3) := by decide +kernel
theorem dX9_told_91 : decode cX9_told 91 = .ok (.getfield 285, 3) := by decide +kernel
theorem dX9_told_94 : decode cX9_told 94 = .ok (.iload_n 1, 1) := by decide +kernel
theorem dX9_told_95 : decode cX9_told 95 = .ok (.invokevirtual 200, 3) := by decide +kernel
theorem dX9_told_98 : decode cX9_told 98 = .ok (.ireturn, 1) := by decide +kernel
theorem dX9_told_99 : decode cX9_told 99 = .ok (.aload_n 0, 1) := by decide +kernel
theorem dX9_told_100 : decode cX9_told 100 = .ok (.getfield 33, 3) := by decide +kernel
theorem dX9_told_103 : decode cX9_told 103 = .ok (.getfield 191, 3) := by decide +kernel
theorem dX9_told_106 : decode cX9_told 106 = .ok (.iload_n 1, 1) := by decide +kernel
theorem dX9_told_107 : decode cX9_told 107 = .ok (.invokevirtual 200, 3) := by decide +kernel
theorem dX9_told_110 : decode cX9_told 110 = .ok (.ireturn, 1) := by decide +kernel
theorem dX9_lot_0 : decode cX9_lot 0 = .ok (.iload_n 1, 1) := by decide +kernel
theorem dX9_lot_1 : decode cX9_lot 1 = .ok (.aload_n 0, 1) := by decide +kernel
theorem dX9_lot_2 : decode cX9_lot 2 = .ok (.getfield 40, 3) := by decide +kernel
theorem dX9_lot_5 : decode cX9_lot 5 = .ok (.getfield 184, 3) := by decide +kernel
theorem dX9_lot_8 : decode cX9_lot 8 = .ok (.invokestatic 79, 3) := by decide +kernel
theorem dX9_lot_11 : decode cX9_lot 11 = .ok (.iload_n 2, 1) := by decide +kernel
theorem dX9_lot_12 : decode cX9_lot 12 = .ok (.iconst 0, 1) := by decide +kernel
theorem dX9_lot_13 : decode cX9_lot 13 = .ok (.iconst 5, 1) := by decide +kernel
theorem dX9_lot_14 : decode cX9_lot 14 = .ok (.invokestatic 84, 3) := by decide +kernel
theorem dX9_lot_17 : decode cX9_lot 17 = .ok (.iload_n 2, 1) := by decide +kernel
theorem dX9_lot_18 : decode cX9_lot 18 = .ok (.tableswitch 103 0 4 #[34, 46, 61, 76, 91], 34) := by decide +kernel
theorem dX9_lot_52 : decode cX9_lot 52 = .ok (.aload_n 0, 1) := by decide +kernel
theorem dX9_lot_53 : decode cX9_lot 53 = .ok (.getfield 40, 3) := by decide +kernel
theorem dX9_lot_56 : decode cX9_lot 56 = .ok (.getfield 286, 3) := by decide +kernel
theorem dX9_lot_59 : decode cX9_lot 59 = .ok (.iload_n 1, 1) := by decide +kernel
theorem dX9_lot_60 : decode cX9_lot 60 = .ok (.invokevirtual 200, 3) := by decide +kernel
theorem dX9_lot_63 : decode cX9_lot 63 = .ok (.ireturn, 1) := by decide +kernel
theorem dX9_lot_64 : decode cX9_lot 64 = .ok (.aload_n 0, 1) := by decide +kernel
theorem dX9_lot_65 : decode cX9_lot 65 = .ok (.getfield 40, 3) := by decide +kernel
theorem dX9_lot_68 : decode cX9_lot 68 = .ok (.getfield 287, 3) := by decide +kernel
theorem dX9_lot_71 : decode cX9_lot 71 = .ok (.iload_n 1, 1) := by decide +kernel
theorem dX9_lot_72 : decode cX9_lot 72 = .ok (.invokevirtual 200, 3) := by decide +kernel
theorem dX9_lot_75 : decode cX9_lot 75 = .ok (.invokestatic 288, 3) := by decide +kernel
theorem dX9_lot_78 : decode cX9_lot 78 = .ok (.ireturn, 1) := by decide +kernel
theorem dX9_lot_79 : decode cX9_lot 79 = .ok (.aload_n 0, 1) := by decide +kernel
theorem dX9_lot_80 : decode cX9_lot 80 = .ok (.getfield 40, 3) := by decide +kernel
theorem dX9_lot_83 : decode cX9_lot 83 = .ok (.getfield 287, 3) := by decide +kernel
theorem dX9_lot_86 : decode cX9_lot 86 = .ok (.iload_n 1, 1) := by decide +kernel
theorem dX9_lot_87 : decode cX9_lot 87 = .ok (.invokevirtual 200, 3) := by decide +kernel
theorem dX9_lot_90 : decode cX9_lot 90 = .ok (.invokestatic 291, 3) := by decide +kernel
theorem dX9_lot_93 : decode cX9_lot 93 = .ok (.ireturn, 1) := by decide +kernel
theorem dX9_lot_94 : decode cX9_lot 94 = .ok (.aload_n 0, 1) := by decide +kernel
theorem dX9_lot_95 : decode cX9_lot 95 = .ok (.getfield 40, 3) := by decide +kernel
theorem dX9_lot_98 : decode cX9_lot 98 = .ok (.getfield 287, 3) := by decide +kernel
theorem dX9_lot_101 : decode cX9_lot 101 = .ok (.iload_n 1, 1) := by decide +kernel
theorem dX9_lot_102 : decode cX9_lot 102 = .ok (.invokevirtual 200, 3) := by decide +kernel
theorem dX9_lot_105 : decode cX9_lot 105 = .ok (.invokestatic 282, 3) := by decide +kernel
theorem dX9_lot_108 : decode cX9_lot 108 = .ok (.ireturn, 1) := by decide +kernel
theorem dX9_lot_109 : decode cX9_lot 109 = .ok (.aload_n 0, 1) := by decide +kernel
theorem dX9_lot_110 : decode cX9_lot 110 = .ok (.getfield 40, 3) := by decide +kernel
theorem dX9_lot_113 : decode cX9_lot 113 = .ok (.getfield 294, 3) := by decide +kernel
theorem dX9_lot_116 : decode cX9_lot 116 = .ok (.iload_n 1, 1) := by decide +kernel
theorem dX9_lot_117 : decode cX9_lot 117 = .ok (.invokevirtual 200, 3) := by decide +kernel
theorem dX9_lot_120 : decode cX9_lot 120 = .ok (.ireturn, 1) := by decide +kernel
theorem dX9_lot_121 : decode cX9_lot 121 = .ok (.aload_n 0, 1) := by decide +kernel
theorem dX9_lot_122 : decode cX9_lot 122 = .ok (.getfield 40, 3) := by decide +kernel
theorem dX9_lot_125 : decode cX9_lot 125 = .ok (.iload_n 1, 1) := by decide +kernel
theorem dX9_lot_126 : decode cX9_lot 126 = .ok (.invokevirtual 217, 3) := by decide +kernel
theorem dX9_lot_129 : decode cX9_lot 129 = .ok (.ireturn, 1) := by decide +kernel
theorem dX9_hall_0 : decode cX9_hall 0 = .ok (.iload_n 1, 1) := by decide +kernel
theorem dX9_hall_1 : decode cX9_hall 1 = .ok (.iconst 3, 1) := by decide +kernel
theorem dX9_hall_2 : decode cX9_hall 2 = .ok (.invokestatic 79, 3) := by decide +kernel
theorem dX9_hall_5 : decode cX9_hall 5 = .ok (.iload_n 2, 1) := by decide +kernel
theorem dX9_hall_6 : decode cX9_hall 6 = .ok (.iconst 0, 1) := by decide +kernel
theorem dX9_hall_7 : decode cX9_hall 7 = .ok (.iconst 4, 1) := by decide +kernel
theorem dX9_hall_8 : decode cX9_hall 8 = .ok (.invokestatic 84, 3) := by decide +kernel
theorem dX9_hall_11 : decode cX9_hall 11 = .ok (.iload_n 2, 1) := by decide +kernel
theorem dX9_hall_12 : decode cX9_hall 12 = .ok (.tableswitch 80 0 3 #[32, 44, 56, 68], 32) := by decide +kernel
theorem dX9_hall_44 : decode cX9_hall 44 = .ok (.aload_n 0, 1) := by decide +kernel
theorem dX9_hall_45 : decode cX9_hall 45 = .ok (.getfield 47, 3) := by decide +kernel
theorem dX9_hall_48 : decode cX9_hall 48 = .ok (.getfield 197, 3) := by decide +kernel
theorem dX9_hall_51 : decode cX9_hall 51 = .ok (.iload_n 1, 1) := by decide +kernel
theorem dX9_hall_52 : decode cX9_hall 52 = .ok (.invokevirtual 200, 3) := by decide +kernel
theorem dX9_hall_55 : decode cX9_hall 55 = .ok (.ireturn, 1) := by decide +kernel
theorem dX9_hall_56 : decode cX9_hall 56 = .ok (.aload_n 0, 1) := by decide +kernel
theorem dX9_hall_57 : decode cX9_hall 57 = .ok (.getfield 47, 3) := by decide +kernel
theorem dX9_hall_60 : decode cX9_hall 60 = .ok (.getfield 216, 3) := by decide +kernel
theorem dX9_hall_63 : decode cX9_hall 63 = .ok (.iload_n 1, 1) := by decide +kernel
theorem dX9_hall_64 : decode cX9_hall 64 = .ok (.invokevirtual 200, 3) := by decide +kernel
theorem dX9_hall_67 : decode cX9_hall 67 = .ok (.ireturn, 1) := by decide +kernel
theorem dX9_hall_68 : decode cX9_hall 68 = .ok (.aload_n 0, 1) := by decide +kernel
theorem dX9_hall_69 : decode cX9_hall 69 = .ok (.getfield 47, 3) := by decide +kernel
theorem dX9_hall_72 : decode cX9_hall 72 = .ok (.getfield 206, 3) := by decide +kernel
theorem dX9_hall_75 : decode cX9_hall 75 = .ok (.iload_n 1, 1) := by decide +kernel
theorem dX9_hall_76 : decode cX9_hall 76 = .ok (.invokevirtual 200, 3) := by decide +kernel
theorem dX9_hall_79 : decode cX9_hall 79 = .ok (.ireturn, 1) := by decide +kernel
theorem dX9_hall_80 : decode cX9_hall 80 = .ok (.aload_n 0, 1) := by decide +kernel
theorem dX9_hall_81 : decode cX9_hall 81 = .ok (.getfield 47, 3) := by decide +kernel
theorem dX9_hall_84 : decode cX9_hall 84 = .ok (.getfield 213, 3) := by decide +kernel
theorem dX9_hall_87 : decode cX9_hall 87 = .ok (.iload_n 1, 1) := by decide +kernel
theorem dX9_hall_88 : decode cX9_hall 88 = .ok (.invokevirtual 200, 3) := by decide +kernel
theorem dX9_hall_91 : decode cX9_hall 91 = .ok (.ireturn, 1) := by decide +kernel
theorem dX9_hall_92 : decode cX9_hall 92 = .ok (.aload_n 0, 1) := by decide +kernel
theorem dX9_hall_93 : decode cX9_hall 93 = .ok (.getfield 47, 3) := by decide +kernel
theorem dX9_hall_96 : decode cX9_hall 96 = .ok (.getfield 167, 3) := by decide +kernel
theorem dX9_hall_99 : decode cX9_hall 99 = .ok (.iload_n 1, 1) := by decide +kernel
theorem dX9_hall_100 : decode cX9_hall 100 = .ok (.invokevirtual 200, 3) := by decide +kernel
theorem dX9_hall_103 : decode cX9_hall 103 = .ok (.ireturn, 1) := by decide +kernel
theorem dX9_account_0 : decode cX9_account 0 = .ok (.iload_n 1, 1) := by decide +kernel
theorem dX9_account_1 : decode cX9_account 1 = .ok (.bipush 8, 2) := by decide +kernel
theorem dX9_account_3 : decode cX9_account 3 = .ok (.invokestatic 79, 3) := by decide +kernel
theorem dX9_account_6 : decode cX9_account 6 = .ok (.iload_n 2, 1) := by decide +kernel
theorem dX9_account_7 : decode cX9_account 7 = .ok (.iconst 0, 1) := by decide +kernel
theorem dX9_account_8 : decode cX9_account 8 = .ok (.iconst 2, 1) := by decide +kernel
theorem dX9_account_9 : decode cX9_account 9 = .ok (.invokestatic 84, 3) := by decide +kernel
theorem dX9_account_12 : decode cX9_account 12 = .ok (.iload_n 2, 1) := by decide +kernel
theorem dX9_account_13 : decode cX9_account 13 = .ok (.lookupswitch 51 #[(0, 27), (1, 39)], 27) := by decide +kernel
theorem dX9_account_40 : decode cX9_account 40 = .ok (.aload_n 0, 1) := by decide +kernel
theorem dX9_account_41 : decode cX9_account 41 = .ok (.getfield 26, 3) := by decide +kernel
theorem dX9_account_44 : decode cX9_account 44 = .ok (.getfield 126, 3) := by decide +kernel
theorem dX9_account_47 : decode cX9_account 47 = .ok (.iload_n 1, 1) := by decide +kernel
theorem dX9_account_48 : decode cX9_account 48 = .ok (.invokevirtual 200, 3) := by decide +kernel
theorem dX9_account_51 : decode cX9_account 51 = .ok (.ireturn, 1) := by decide +kernel
theorem dX9_account_52 : decode cX9_account 52 = .ok (.aload_n 0, 1) := by decide +kernel
theorem dX9_account_53 : decode cX9_account 53 = .ok (.getfield 26, 3) := by decide +kernel
theorem dX9_account_56 : decode cX9_account 56 = .ok (.getfield 241, 3) := by decide +kernel
theorem dX9_account_59 : decode cX9_account 59 = .ok (.iload_n 1, 1) := by decide +kernel
theorem dX9_account_60 : decode cX9_account 60 = .ok (.invokevirtual 200, 3) := by decide +kernel
theorem dX9_account_63 : decode cX9_account 63 = .ok (.ireturn, 1) := by decide +kernel
theorem dX9_account_64 : decode cX9_account 64 = .ok (.aload_n 0, 1) := by decide +kernel
theorem dX9_account_65 : decode cX9_account 65 = .ok (.getfield 26, 3) := by decide +kernel
theorem dX9_account_68 : decode cX9_account 68 = .ok (.getfield 295, 3) := by decide +kernel
theorem dX9_account_71 : decode cX9_account 71 = .ok (.iload_n 1, 1) := by decide +kernel
theorem dX9_account_72 : decode cX9_account 72 = .ok (.invokevirtual 200, 3) := by decide +kernel
theorem dX9_account_75 : decode cX9_account 75 = .ok (.ireturn, 1) := by decide +kernel
theorem dX9_ship_0 : decode cX9_ship 0 = .ok (.iload_n 1, 1) := by decide +kernel
theorem dX9_ship_1 : decode cX9_ship 1 = .ok (.bipush 8, 2) := by decide +kernel
theorem dX9_ship_3 : decode cX9_ship 3 = .ok (.invokestatic 79, 3) := by decide +kernel
theorem dX9_ship_6 : decode cX9_ship 6 = .ok (.iload_n 2, 1) := by decide +kernel
theorem dX9_ship_7 : decode cX9_ship 7 = .ok (.iconst 0, 1) := by decide +kernel
theorem dX9_ship_8 : decode cX9_ship 8 = .ok (.iconst 2, 1) := by decide +kernel
theorem dX9_ship_9 : decode cX9_ship 9 = .ok (.invokestatic 84, 3) := by decide +kernel
theorem dX9_ship_12 : decode cX9_ship 12 = .ok (.iload_n 2, 1) := by decide +kernel
theorem dX9_ship_13 : decode cX9_ship 13 = .ok (.lookupswitch 51 #[(0, 27), (1, 39)], 27) := by decide +kernel
theorem dX9_ship_40 : decode cX9_ship 40 = .ok (.aload_n 0, 1) := by decide +kernel
theorem dX9_ship_41 : decode cX9_ship 41 = .ok (.getfield 10, 3) := by decide +kernel
theorem dX9_ship_44 : decode cX9_ship 44 = .ok (.getfield 266, 3) := by decide +kernel
theorem dX9_ship_47 : decode cX9_ship 47 = .ok (.iload_n 1, 1) := by decide +kernel
theorem dX9_ship_48 : decode cX9_ship 48 = .ok (.invokevirtual 200, 3) := by decide +kernel
theorem dX9_ship_51 : decode cX9_ship 51 = .ok (.ireturn, 1) := by decide +kernel
theorem dX9_ship_52 : decode cX9_ship 52 = .ok (.aload_n 0, 1) := by decide +kernel
theorem dX9_ship_53 : decode cX9_ship 53 = .ok (.getfield 10, 3) := by decide +kernel
theorem dX9_ship_56 : decode cX9_ship 56 = .ok (.getfield 107, 3) := by decide +kernel
theorem dX9_ship_59 : decode cX9_ship 59 = .ok (.iload_n 1, 1) := by decide +kernel
theorem dX9_ship_60 : decode cX9_ship 60 = .ok (.invokevirtual 200, 3) := by decide +kernel
theorem dX9_ship_63 : decode cX9_ship 63 = .ok (.ireturn, 1) := by decide +kernel
theorem dX9_ship_64 : decode cX9_ship 64 = .ok (.aload_n 0, 1) := by decide +kernel
theorem dX9_ship_65 : decode cX9_ship 65 = .ok (.getfield 10, 3) := by decide +kernel
theorem dX9_ship_68 : decode cX9_ship 68 = .ok (.getfield 298, 3) := by decide +kernel
theorem dX9_ship_71 : decode cX9_ship 71 = .ok (.iload_n 1, 1) := by decide +kernel
theorem dX9_ship_72 : decode cX9_ship 72 = .ok (.invokevirtual 200, 3) := by decide +kernel
theorem dX9_ship_75 : decode cX9_ship 75 = .ok (.ireturn, 1) := by decide +kernel
theorem dX9_kilos_0 : decode cX9_kilos 0 = .ok (.iload_n 1, 1) := by decide +kernel
theorem dX9_kilos_1 : decode cX9_kilos 1 = .ok (.iconst 0, 1) := by decide +kernel
theorem dX9_kilos_2 : decode cX9_kilos 2 = .ok (.iconst 5, 1) := by decide +kernel
theorem dX9_kilos_3 : decode cX9_kilos 3 = .ok (.invokestatic 84, 3) := by decide +kernel
theorem dX9_kilos_6 : decode cX9_kilos 6 = .ok (.aload_n 0, 1) := by decide +kernel
theorem dX9_kilos_7 : decode cX9_kilos 7 = .ok (.getfield 33, 3) := by decide +kernel
theorem dX9_kilos_10 : decode cX9_kilos 10 = .ok (.getfield 301, 3) := by decide +kernel
theorem dX9_kilos_13 : decode cX9_kilos 13 = .ok (.iload_n 1, 1) := by decide +kernel
theorem dX9_kilos_14 : decode cX9_kilos 14 = .ok (.invokevirtual 200, 3) := by decide +kernel
theorem dX9_kilos_17 : decode cX9_kilos 17 = .ok (.ireturn, 1) := by decide +kernel
theorem dX9_kilosAnew_0 : decode cX9_kilosAnew 0 = .ok (.iload_n 1, 1) := by decide +kernel
theorem dX9_kilosAnew_1 : decode cX9_kilosAnew 1 = .ok (.iconst 0, 1) := by decide +kernel
theorem dX9_kilosAnew_2 : decode cX9_kilosAnew 2 = .ok (.iconst 5, 1) := by decide +kernel
theorem dX9_kilosAnew_3 : decode cX9_kilosAnew 3 = .ok (.invokestatic 84, 3) := by decide +kernel
theorem dX9_kilosAnew_6 : decode cX9_kilosAnew 6 = .ok (.iconst 0, 1) := by decide +kernel
theorem dX9_kilosAnew_7 : decode cX9_kilosAnew 7 = .ok (.istore_n 2, 1) := by decide +kernel
theorem dX9_kilosAnew_8 : decode cX9_kilosAnew 8 = .ok (.iconst 0, 1) := by decide +kernel
theorem dX9_kilosAnew_9 : decode cX9_kilosAnew 9 = .ok (.istore_n 3, 1) := by decide +kernel
theorem dX9_kilosAnew_10 : decode cX9_kilosAnew 10 = .ok (.iload_n 3, 1) := by decide +kernel
theorem dX9_kilosAnew_11 : decode cX9_kilosAnew 11 = .ok (.aload_n 0, 1) := by decide +kernel
theorem dX9_kilosAnew_12 : decode cX9_kilosAnew 12 = .ok (.getfield 33, 3) := by decide +kernel
theorem dX9_kilosAnew_15 : decode cX9_kilosAnew 15 = .ok (.getfield 135, 3) := by decide +kernel
theorem dX9_kilosAnew_18 : decode cX9_kilosAnew 18 = .ok (.if_icmp .ge 45, 3) := by decide +kernel
theorem dX9_kilosAnew_21 : decode cX9_kilosAnew 21 = .ok (.iload_n 1, 1) := by decide +kernel
theorem dX9_kilosAnew_22 : decode cX9_kilosAnew 22 = .ok (.ifCond .eq 21, 3) := by decide +kernel
theorem dX9_kilosAnew_25 : decode cX9_kilosAnew 25 = .ok (.aload_n 0, 1) := by decide +kernel
theorem dX9_kilosAnew_26 : decode cX9_kilosAnew 26 = .ok (.getfield 33, 3) := by decide +kernel
theorem dX9_kilosAnew_29 : decode cX9_kilosAnew 29 = .ok (.getfield 278, 3) := by decide +kernel
theorem dX9_kilosAnew_32 : decode cX9_kilosAnew 32 = .ok (.iload_n 3, 1) := by decide +kernel
theorem dX9_kilosAnew_33 : decode cX9_kilosAnew 33 = .ok (.invokevirtual 200, 3) := by decide +kernel
theorem dX9_kilosAnew_36 : decode cX9_kilosAnew 36 = .ok (.invokestatic 304, 3) := by decide +kernel
theorem dX9_kilosAnew_39 : decode cX9_kilosAnew 39 = .ok (.iload_n 1, 1) := by decide +kernel
theorem dX9_kilosAnew_40 : decode cX9_kilosAnew 40 = .ok (.if_icmp .ne 17, 3) := by decide +kernel
theorem dX9_kilosAnew_43 : decode cX9_kilosAnew 43 = .ok (.iload_n 2, 1) := by decide +kernel
theorem dX9_kilosAnew_44 : decode cX9_kilosAnew 44 = .ok (.aload_n 0, 1) := by decide +kernel
theorem dX9_kilosAnew_45 : decode cX9_kilosAnew 45 = .ok (.getfield 33, 3) := by decide +kernel
theorem dX9_kilosAnew_48 : decode cX9_kilosAnew 48 = .ok (.getfield 307, 3) := by decide +kernel
theorem dX9_kilosAnew_51 : decode cX9_kilosAnew 51 = .ok (.iload_n 3, 1) := by decide +kernel
theorem dX9_kilosAnew_52 : decode cX9_kilosAnew 52 = .ok (.invokevirtual 200, 3) := by decide +kernel
theorem dX9_kilosAnew_55 : decode cX9_kilosAnew 55 = .ok (.iadd, 1) := by decide +kernel
theorem dX9_kilosAnew_56 : decode cX9_kilosAnew 56 = .ok (.istore_n 2, 1) := by decide +kernel
theorem dX9_kilosAnew_57 : decode cX9_kilosAnew 57 = .ok (.iinc 3 1, 3) := by decide +kernel
theorem dX9_kilosAnew_60 : decode cX9_kilosAnew 60 = .ok (.goto (-50), 3) := by decide +kernel
theorem dX9_kilosAnew_63 : decode cX9_kilosAnew 63 = .ok (.iload_n 2, 1) := by decide +kernel
theorem dX9_kilosAnew_64 : decode cX9_kilosAnew 64 = .ok (.ireturn, 1) := by decide +kernel
theorem dX9_average_0 : decode cX9_average 0 = .ok (.iload_n 1, 1) := by decide +kernel
theorem dX9_average_1 : decode cX9_average 1 = .ok (.iconst 4, 1) := by decide +kernel
theorem dX9_average_2 : decode cX9_average 2 = .ok (.invokestatic 79, 3) := by decide +kernel
theorem dX9_average_5 : decode cX9_average 5 = .ok (.iload_n 2, 1) := by decide +kernel
theorem dX9_average_6 : decode cX9_average 6 = .ok (.iconst 0, 1) := by decide +kernel
theorem dX9_average_7 : decode cX9_average 7 = .ok (.aload_n 0, 1) := by decide +kernel
theorem dX9_average_8 : decode cX9_average 8 = .ok (.getfield 69, 3) := by decide +kernel
theorem dX9_average_11 : decode cX9_average 11 = .ok (.invokestatic 84, 3) := by decide +kernel
theorem dX9_average_14 : decode cX9_average 14 = .ok (.iconst 0, 1) := by decide +kernel
theorem dX9_average_15 : decode cX9_average 15 = .ok (.istore_n 3, 1) := by decide +kernel
theorem dX9_average_16 : decode cX9_average 16 = .ok (.iconst 0, 1) := by decide +kernel
theorem dX9_average_17 : decode cX9_average 17 = .ok (.istore 4, 2) := by decide +kernel
theorem dX9_average_19 : decode cX9_average 19 = .ok (.iconst 0, 1) := by decide +kernel
theorem dX9_average_20 : decode cX9_average 20 = .ok (.istore 5, 2) := by decide +kernel
theorem dX9_average_22 : decode cX9_average 22 = .ok (.iload 5, 2) := by decide +kernel
theorem dX9_average_24 : decode cX9_average 24 = .ok (.aload_n 0, 1) := by decide +kernel
theorem dX9_average_25 : decode cX9_average 25 = .ok (.getfield 33, 3) := by decide +kernel
theorem dX9_average_28 : decode cX9_average 28 = .ok (.getfield 135, 3) := by decide +kernel
theorem dX9_average_31 : decode cX9_average 31 = .ok (.if_icmp .ge 89, 3) := by decide +kernel
theorem dX9_average_34 : decode cX9_average 34 = .ok (.aload_n 0, 1) := by decide +kernel
theorem dX9_average_35 : decode cX9_average 35 = .ok (.getfield 33, 3) := by decide +kernel
theorem dX9_average_38 : decode cX9_average 38 = .ok (.getfield 310, 3) := by decide +kernel
theorem dX9_average_41 : decode cX9_average 41 = .ok (.iload 5, 2) := by decide +kernel
theorem dX9_average_43 : decode cX9_average 43 = .ok (.invokevirtual 200, 3) := by decide +kernel
theorem dX9_average_46 : decode cX9_average 46 = .ok (.iload_n 2, 1) := by decide +kernel
theorem dX9_average_47 : decode cX9_average 47 = .ok (.if_icmp .ne 67, 3) := by decide +kernel
theorem dX9_average_50 : decode cX9_average 50 = .ok (.aload_n 0, 1) := by decide +kernel
theorem dX9_average_51 : decode cX9_average 51 = .ok (.getfield 33, 3) := by decide +kernel
theorem dX9_average_54 : decode cX9_average 54 = .ok (.getfield 279, 3) := by decide +kernel
theorem dX9_average_57 : decode cX9_average 57 = .ok (.iload 5, 2) := by decide +kernel
theorem dX9_average_59 : decode cX9_average 59 = .ok (.invokevirtual 200, 3) := by decide +kernel
theorem dX9_average_62 : decode cX9_average 62 = .ok (.invokestatic 288, 3) := by decide +kernel
theorem dX9_average_65 : decode cX9_average 65 = .ok (.iload_n 1, 1) := by decide +kernel
theorem dX9_average_66 : decode cX9_average 66 = .ok (.if_icmp .ne 48, 3) := by decide +kernel
theorem dX9_average_69 : decode cX9_average 69 = .ok (.iload_n 3, 1) := by decide +kernel
theorem dX9_average_70 : decode cX9_average 70 = .ok (.aload_n 0, 1) := by decide +kernel
theorem dX9_average_71 : decode cX9_average 71 = .ok (.getfield 33, 3) := by decide +kernel
theorem dX9_average_74 : decode cX9_average 74 = .ok (.getfield 307, 3) := by decide +kernel
theorem dX9_average_77 : decode cX9_average 77 = .ok (.iload 5, 2) := by decide +kernel
theorem dX9_average_79 : decode cX9_average 79 = .ok (.invokevirtual 200, 3) := by decide +kernel
theorem dX9_average_82 : decode cX9_average 82 = .ok (.aload_n 0, 1) := by decide +kernel
theorem dX9_average_83 : decode cX9_average 83 = .ok (.getfield 33, 3) := by decide +kernel
theorem dX9_average_86 : decode cX9_average 86 = .ok (.getfield 285, 3) := by decide +kernel
theorem dX9_average_89 : decode cX9_average 89 = .ok (.iload 5, 2) := by decide +kernel
theorem dX9_average_91 : decode cX9_average 91 = .ok (.invokevirtual 200, 3) := by decide +kernel
theorem dX9_average_94 : decode cX9_average 94 = .ok (.imul, 1) := by decide +kernel
theorem dX9_average_95 : decode cX9_average 95 = .ok (.iadd, 1) := by decide +kernel
theorem dX9_average_96 : decode cX9_average 96 = .ok (.istore_n 3, 1) := by decide +kernel
theorem dX9_average_97 : decode cX9_average 97 = .ok (.iload 4, 2) := by decide +kernel
theorem dX9_average_99 : decode cX9_average 99 = .ok (.aload_n 0, 1) := by decide +kernel
theorem dX9_average_100 : decode cX9_average 100 = .ok (.getfield 33, 3) := by decide +kernel
theorem dX9_average_103 : decode cX9_average 103 = .ok (.getfield 307, 3) := by decide +kernel
theorem dX9_average_106 : decode cX9_average 106 = .ok (.iload 5, 2) := by decide +kernel
theorem dX9_average_108 : decode cX9_average 108 = .ok (.invokevirtual 200, 3) := by decide +kernel
theorem dX9_average_111 : decode cX9_average 111 = .ok (.iadd, 1) := by decide +kernel
theorem dX9_average_112 : decode cX9_average 112 = .ok (.istore 4, 2) := by decide +kernel
theorem dX9_average_114 : decode cX9_average 114 = .ok (.iinc 5 1, 3) := by decide +kernel
theorem dX9_average_117 : decode cX9_average 117 = .ok (.goto (-95), 3) := by decide +kernel
theorem dX9_average_120 : decode cX9_average 120 = .ok (.iload 4, 2) := by decide +kernel
theorem dX9_average_122 : decode cX9_average 122 = .ok (.ifCond .le 10, 3) := by decide +kernel
theorem dX9_average_125 : decode cX9_average 125 = .ok (.iload_n 3, 1) := by decide +kernel
theorem dX9_average_126 : decode cX9_average 126 = .ok (.iload 4, 2) := by decide +kernel
theorem dX9_average_128 : decode cX9_average 128 = .ok (.idiv, 1) := by decide +kernel
theorem dX9_average_129 : decode cX9_average 129 = .ok (.goto 4, 3) := by decide +kernel
theorem dX9_average_132 : decode cX9_average 132 = .ok (.iconst (-1), 1) := by decide +kernel
theorem dX9_average_133 : decode cX9_average 133 = .ok (.ireturn, 1) := by decide +kernel
theorem dX9_loaded_0 : decode cX9_loaded 0 = .ok (.iload_n 1, 1) := by decide +kernel
theorem dX9_loaded_1 : decode cX9_loaded 1 = .ok (.aload_n 0, 1) := by decide +kernel
theorem dX9_loaded_2 : decode cX9_loaded 2 = .ok (.getfield 61, 3) := by decide +kernel
theorem dX9_loaded_5 : decode cX9_loaded 5 = .ok (.getfield 238, 3) := by decide +kernel
theorem dX9_loaded_8 : decode cX9_loaded 8 = .ok (.invokestatic 79, 3) := by decide +kernel
theorem dX9_loaded_11 : decode cX9_loaded 11 = .ok (.aload_n 0, 1) := by decide +kernel
theorem dX9_loaded_12 : decode cX9_loaded 12 = .ok (.getfield 61, 3) := by decide +kernel
theorem dX9_loaded_15 : decode cX9_loaded 15 = .ok (.getfield 313, 3) := by decide +kernel
theorem dX9_loaded_18 : decode cX9_loaded 18 = .ok (.iload_n 1, 1) := by decide +kernel
theorem dX9_loaded_19 : decode cX9_loaded 19 = .ok (.invokevirtual 200, 3) := by decide +kernel
theorem dX9_loaded_22 : decode cX9_loaded 22 = .ok (.ireturn, 1) := by decide +kernel
theorem dX9_mustExist_0 : decode cX9_mustExist 0 = .ok (.iload_n 0, 1) := by decide +kernel
theorem dX9_mustExist_1 : decode cX9_mustExist 1 = .ok (.ifCond .lt 8, 3) := by decide +kernel
theorem dX9_mustExist_4 : decode cX9_mustExist 4 = .ok (.iload_n 0, 1) := by decide +kernel
theorem dX9_mustExist_5 : decode cX9_mustExist 5 = .ok (.iload_n 1, 1) := by decide +kernel
theorem dX9_mustExist_6 : decode cX9_mustExist 6 = .ok (.if_icmp .lt 14, 3) := by decide +kernel
theorem dX9_mustExist_9 : decode cX9_mustExist 9 = .ok (.new 316, 3) := by decide +kernel
theorem dX9_mustExist_12 : decode cX9_mustExist 12 = .ok (.dup, 1) := by decide +kernel
theorem dX9_mustExist_13 : decode cX9_mustExist 13 = .ok (.ldc_w 318, 3) := by decide +kernel
theorem dX9_mustExist_16 : decode cX9_mustExist 16 = .ok (.invokespecial 320, 3) := by decide +kernel
theorem dX9_mustExist_19 : decode cX9_mustExist 19 = .ok (.athrow, 1) := by decide +kernel
theorem dX9_mustExist_20 : decode cX9_mustExist 20 = .ok (.return_, 1) := by decide +kernel
theorem dX9_mustBeIn_0 : decode cX9_mustBeIn 0 = .ok (.iload_n 0, 1) := by decide +kernel
theorem dX9_mustBeIn_1 : decode cX9_mustBeIn 1 = .ok (.iload_n 1, 1) := by decide +kernel
theorem dX9_mustBeIn_2 : decode cX9_mustBeIn 2 = .ok (.if_icmp .lt 8, 3) := by decide +kernel
theorem dX9_mustBeIn_5 : decode cX9_mustBeIn 5 = .ok (.iload_n 0, 1) := by decide +kernel
theorem dX9_mustBeIn_6 : decode cX9_mustBeIn 6 = .ok (.iload_n 2, 1) := by decide +kernel
theorem dX9_mustBeIn_7 : decode cX9_mustBeIn 7 = .ok (.if_icmp .le 14, 3) := by decide +kernel
theorem dX9_mustBeIn_10 : decode cX9_mustBeIn 10 = .ok (.new 323, 3) := by decide +kernel
theorem dX9_mustBeIn_13 : decode cX9_mustBeIn 13 = .ok (.dup, 1) := by decide +kernel
theorem dX9_mustBeIn_14 : decode cX9_mustBeIn 14 = .ok (.ldc_w 325, 3) := by decide +kernel
theorem dX9_mustBeIn_17 : decode cX9_mustBeIn 17 = .ok (.invokespecial 327, 3) := by decide +kernel
theorem dX9_mustBeIn_20 : decode cX9_mustBeIn 20 = .ok (.athrow, 1) := by decide +kernel
theorem dX9_mustBeIn_21 : decode cX9_mustBeIn 21 = .ok (.return_, 1) := by decide +kernel
theorem dX9_mustHold_0 : decode cX9_mustHold 0 = .ok (.iload_n 0, 1) := by decide +kernel
theorem dX9_mustHold_1 : decode cX9_mustHold 1 = .ok (.ifCond .ne 14, 3) := by decide +kernel
theorem dX9_mustHold_4 : decode cX9_mustHold 4 = .ok (.new 328, 3) := by decide +kernel
theorem dX9_mustHold_7 : decode cX9_mustHold 7 = .ok (.dup, 1) := by decide +kernel
theorem dX9_mustHold_8 : decode cX9_mustHold 8 = .ok (.ldc_w 330, 3) := by decide +kernel
theorem dX9_mustHold_11 : decode cX9_mustHold 11 = .ok (.invokespecial 332, 3) := by decide +kernel
theorem dX9_mustHold_14 : decode cX9_mustHold 14 = .ok (.athrow, 1) := by decide +kernel
theorem dX9_mustHold_15 : decode cX9_mustHold 15 = .ok (.return_, 1) := by decide +kernel
theorem dX9_countWaitingBoxes_0 : decode cX9_countWaitingBoxes 0 = .ok (.iconst 0, 1) := by decide +kernel
theorem dX9_countWaitingBoxes_1 : decode cX9_countWaitingBoxes 1 = .ok (.istore_n 1, 1) := by decide +kernel
theorem dX9_countWaitingBoxes_2 : decode cX9_countWaitingBoxes 2 = .ok (.iload_n 1, 1) := by decide +kernel
theorem dX9_countWaitingBoxes_3 : decode cX9_countWaitingBoxes 3 = .ok (.aload_n 0, 1) := by decide +kernel
theorem dX9_countWaitingBoxes_4 : decode cX9_countWaitingBoxes 4 = .ok (.getfield 33, 3) := by decide +kernel
theorem dX9_countWaitingBoxes_7 : decode cX9_countWaitingBoxes 7 = .ok (.getfield 135, 3) := by decide +kernel
theorem dX9_countWaitingBoxes_10 : decode cX9_countWaitingBoxes 10 = .ok (.if_icmp .ge 42, 3) := by decide +kernel
theorem dX9_countWaitingBoxes_13 : decode cX9_countWaitingBoxes 13 = .ok (.aload_n 0, 1) := by decide +kernel
theorem dX9_countWaitingBoxes_14 : decode cX9_countWaitingBoxes 14 = .ok (.getfield 33, 3) := by decide +kernel
theorem dX9_countWaitingBoxes_17 : decode cX9_countWaitingBoxes 17 = .ok (.iload_n 1, 1) := by decide +kernel
theorem dX9_countWaitingBoxes_18 : decode cX9_countWaitingBoxes 18 = .ok (.invokevirtual 333, 3) := by decide +kernel
theorem dX9_countWaitingBoxes_21 : decode cX9_countWaitingBoxes 21 = .ok (.ifCond .eq 25, 3) := by decide +kernel
theorem dX9_countWaitingBoxes_24 : decode cX9_countWaitingBoxes 24 = .ok (.aload_n 0, 1) := by decide +kernel
theorem dX9_countWaitingBoxes_25 : decode cX9_countWaitingBoxes 25 = .ok (.getfield 10, 3) := by decide +kernel
theorem dX9_countWaitingBoxes_28 : decode cX9_countWaitingBoxes 28 = .ok (.getfield 337, 3) := by decide +kernel
theorem dX9_countWaitingBoxes_31 : decode cX9_countWaitingBoxes 31 = .ok (.aload_n 0, 1) := by decide +kernel
theorem dX9_countWaitingBoxes_32 : decode cX9_countWaitingBoxes 32 = .ok (.getfield 33, 3) := by decide +kernel
theorem dX9_countWaitingBoxes_35 : decode cX9_countWaitingBoxes 35 = .ok (.getfield 269, 3) := by decide +kernel
theorem dX9_countWaitingBoxes_38 : decode cX9_countWaitingBoxes 38 = .ok (.iload_n 1, 1) := by decide +kernel
theorem dX9_countWaitingBoxes_39 : decode cX9_countWaitingBoxes 39 = .ok (.invokevirtual 200, 3) := by decide +kernel
theorem dX9_countWaitingBoxes_42 : decode cX9_countWaitingBoxes 42 = .ok (.iconst 1, 1) := by decide +kernel
theorem dX9_countWaitingBoxes_43 : decode cX9_countWaitingBoxes 43 = .ok (.invokevirtual 252, 3) := by decide +kernel
theorem dX9_countWaitingBoxes_46 : decode cX9_countWaitingBoxes 46 = .ok (.iinc 1 1, 3) := by decide +kernel
theorem dX9_countWaitingBoxes_49 : decode cX9_countWaitingBoxes 49 = .ok (.goto (-47), 3) := by decide +kernel
theorem dX9_countWaitingBoxes_52 : decode cX9_countWaitingBoxes 52 = .ok (.return_, 1) := by decide +kernel
theorem dX9_offerBoats_0 : decode cX9_offerBoats 0 = .ok (.aload_n 0, 1) := by decide +kernel
theorem dX9_offerBoats_1 : decode cX9_offerBoats 1 = .ok (.getfield 10, 3) := by decide +kernel
theorem dX9_offerBoats_4 : decode cX9_offerBoats 4 = .ok (.iload_n 1, 1) := by decide +kernel
theorem dX9_offerBoats_5 : decode cX9_offerBoats 5 = .ok (.invokevirtual 340, 3) := by decide +kernel
theorem dX9_offerBoats_8 : decode cX9_offerBoats 8 = .ok (.istore_n 2, 1) := by decide +kernel
theorem dX9_offerBoats_9 : decode cX9_offerBoats 9 = .ok (.iload_n 2, 1) := by decide +kernel
theorem dX9_offerBoats_10 : decode cX9_offerBoats 10 = .ok (.ifCond .le 46, 3) := by decide +kernel
theorem dX9_offerBoats_13 : decode cX9_offerBoats 13 = .ok (.aload_n 0, 1) := by decide +kernel
theorem dX9_offerBoats_14 : decode cX9_offerBoats 14 = .ok (.aload_n 0, 1) := by decide +kernel
theorem dX9_offerBoats_15 : decode cX9_offerBoats 15 = .ok (.getfield 76, 3) := by decide +kernel
theorem dX9_offerBoats_18 : decode cX9_offerBoats 18 = .ok (.ldc_w 343, 3) := by decide +kernel
theorem dX9_offerBoats_21 : decode cX9_offerBoats 21 = .ok (.imul, 1) := by decide +kernel
theorem dX9_offerBoats_22 : decode cX9_offerBoats 22 = .ok (.sipush 12345, 3) := by decide +kernel
theorem dX9_offerBoats_25 : decode cX9_offerBoats 25 = .ok (.iadd, 1) := by decide +kernel
theorem dX9_offerBoats_26 : decode cX9_offerBoats 26 = .ok (.putfield 76, 3) := by decide +kernel
theorem dX9_offerBoats_29 : decode cX9_offerBoats 29 = .ok (.aload_n 0, 1) := by decide +kernel
theorem dX9_offerBoats_30 : decode cX9_offerBoats 30 = .ok (.aload_n 0, 1) := by decide +kernel
theorem dX9_offerBoats_31 : decode cX9_offerBoats 31 = .ok (.getfield 10, 3) := by decide +kernel
theorem dX9_offerBoats_34 : decode cX9_offerBoats 34 = .ok (.iload_n 1, 1) := by decide +kernel
theorem dX9_offerBoats_35 : decode cX9_offerBoats 35 = .ok (.aload_n 0, 1) := by decide +kernel
theorem dX9_offerBoats_36 : decode cX9_offerBoats 36 = .ok (.getfield 76, 3) := by decide +kernel
theorem dX9_offerBoats_39 : decode cX9_offerBoats 39 = .ok (.bipush 16, 2) := by decide +kernel
theorem dX9_offerBoats_41 : decode cX9_offerBoats 41 = .ok (.iushr, 1) := by decide +kernel
theorem dX9_offerBoats_42 : decode cX9_offerBoats 42 = .ok (.iload_n 2, 1) := by decide +kernel
theorem dX9_offerBoats_43 : decode cX9_offerBoats 43 = .ok (.irem, 1) := by decide +kernel
theorem dX9_offerBoats_44 : decode cX9_offerBoats 44 = .ok (.invokevirtual 344, 3) := by decide +kernel
theorem dX9_offerBoats_47 : decode cX9_offerBoats 47 = .ok (.invokevirtual 348, 3) := by decide +kernel
theorem dX9_offerBoats_50 : decode cX9_offerBoats 50 = .ok (.iinc 2 (-1), 3) := by decide +kernel
theorem dX9_offerBoats_53 : decode cX9_offerBoats 53 = .ok (.goto (-44), 3) := by decide +kernel
theorem dX9_offerBoats_56 : decode cX9_offerBoats 56 = .ok (.return_, 1) := by decide +kernel
theorem dX9_offerBoat_0 : decode cX9_offerBoat 0 = .ok (.aload_n 0, 1) := by decide +kernel
theorem dX9_offerBoat_1 : decode cX9_offerBoat 1 = .ok (.getfield 10, 3) := by decide +kernel
theorem dX9_offerBoat_4 : decode cX9_offerBoat 4 = .ok (.getfield 337, 3) := by decide +kernel
theorem dX9_offerBoat_7 : decode cX9_offerBoat 7 = .ok (.iload_n 1, 1) := by decide +kernel
theorem dX9_offerBoat_8 : decode cX9_offerBoat 8 = .ok (.iconst 0, 1) := by decide +kernel
theorem dX9_offerBoat_9 : decode cX9_offerBoat 9 = .ok (.invokevirtual 104, 3) := by decide +kernel
theorem dX9_offerBoat_12 : decode cX9_offerBoat 12 = .ok (.aload_n 0, 1) := by decide +kernel
theorem dX9_offerBoat_13 : decode cX9_offerBoat 13 = .ok (.getfield 40, 3) := by decide +kernel
theorem dX9_offerBoat_16 : decode cX9_offerBoat 16 = .ok (.getfield 351, 3) := by decide +kernel
theorem dX9_offerBoat_19 : decode cX9_offerBoat 19 = .ok (.iconst 0, 1) := by decide +kernel
theorem dX9_offerBoat_20 : decode cX9_offerBoat 20 = .ok (.invokevirtual 194, 3) := by decide +kernel
theorem dX9_offerBoat_23 : decode cX9_offerBoat 23 = .ok (.iconst 0, 1) := by decide +kernel
theorem dX9_offerBoat_24 : decode cX9_offerBoat 24 = .ok (.istore_n 2, 1) := by decide +kernel
theorem dX9_offerBoat_25 : decode cX9_offerBoat 25 = .ok (.iload_n 2, 1) := by decide +kernel
theorem dX9_offerBoat_26 : decode cX9_offerBoat 26 = .ok (.aload_n 0, 1) := by decide +kernel
theorem dX9_offerBoat_27 : decode cX9_offerBoat 27 = .ok (.getfield 33, 3) := by decide +kernel
theorem dX9_offerBoat_30 : decode cX9_offerBoat 30 = .ok (.getfield 135, 3) := by decide +kernel
theorem dX9_offerBoat_33 : decode cX9_offerBoat 33 = .ok (.if_icmp .ge 57, 3) := by decide +kernel
theorem dX9_offerBoat_36 : decode cX9_offerBoat 36 = .ok (.aload_n 0, 1) := by decide +kernel
theorem dX9_offerBoat_37 : decode cX9_offerBoat 37 = .ok (.getfield 33, 3) := by decide +kernel
theorem dX9_offerBoat_40 : decode cX9_offerBoat 40 = .ok (.getfield 269, 3) := by decide +kernel
theorem dX9_offerBoat_43 : decode cX9_offerBoat 43 = .ok (.iload_n 2, 1) := by decide +kernel
theorem dX9_offerBoat_44 : decode cX9_offerBoat 44 = .ok (.invokevirtual 200, 3) := by decide +kernel
theorem dX9_offerBoat_47 : decode cX9_offerBoat 47 = .ok (.iload_n 1, 1) := by decide +kernel
theorem dX9_offerBoat_48 : decode cX9_offerBoat 48 = .ok (.if_icmp .ne 36, 3) := by decide +kernel
theorem dX9_offerBoat_51 : decode cX9_offerBoat 51 = .ok (.aload_n 0, 1) := by decide +kernel
theorem dX9_offerBoat_52 : decode cX9_offerBoat 52 = .ok (.getfield 33, 3) := by decide +kernel
theorem dX9_offerBoat_55 : decode cX9_offerBoat 55 = .ok (.iload_n 2, 1) := by decide +kernel
theorem dX9_offerBoat_56 : decode cX9_offerBoat 56 = .ok (.invokevirtual 333, 3) := by decide +kernel
theorem dX9_offerBoat_59 : decode cX9_offerBoat 59 = .ok (.ifCond .eq 25, 3) := by decide +kernel
theorem dX9_offerBoat_62 : decode cX9_offerBoat 62 = .ok (.aload_n 0, 1) := by decide +kernel
theorem dX9_offerBoat_63 : decode cX9_offerBoat 63 = .ok (.getfield 40, 3) := by decide +kernel
theorem dX9_offerBoat_66 : decode cX9_offerBoat 66 = .ok (.getfield 351, 3) := by decide +kernel
theorem dX9_offerBoat_69 : decode cX9_offerBoat 69 = .ok (.aload_n 0, 1) := by decide +kernel
theorem dX9_offerBoat_70 : decode cX9_offerBoat 70 = .ok (.getfield 33, 3) := by decide +kernel
theorem dX9_offerBoat_73 : decode cX9_offerBoat 73 = .ok (.getfield 279, 3) := by decide +kernel
theorem dX9_offerBoat_76 : decode cX9_offerBoat 76 = .ok (.iload_n 2, 1) := by decide +kernel
theorem dX9_offerBoat_77 : decode cX9_offerBoat 77 = .ok (.invokevirtual 200, 3) := by decide +kernel
theorem dX9_offerBoat_80 : decode cX9_offerBoat 80 = .ok (.iconst 1, 1) := by decide +kernel
theorem dX9_offerBoat_81 : decode cX9_offerBoat 81 = .ok (.invokevirtual 252, 3) := by decide +kernel
theorem dX9_offerBoat_84 : decode cX9_offerBoat 84 = .ok (.iinc 2 1, 3) := by decide +kernel
theorem dX9_offerBoat_87 : decode cX9_offerBoat 87 = .ok (.goto (-62), 3) := by decide +kernel
theorem dX9_offerBoat_90 : decode cX9_offerBoat 90 = .ok (.iconst 0, 1) := by decide +kernel
theorem dX9_offerBoat_91 : decode cX9_offerBoat 91 = .ok (.istore_n 2, 1) := by decide +kernel
theorem dX9_offerBoat_92 : decode cX9_offerBoat 92 = .ok (.iload_n 2, 1) := by decide +kernel
theorem dX9_offerBoat_93 : decode cX9_offerBoat 93 = .ok (.bipush 108, 2) := by decide +kernel
theorem dX9_offerBoat_95 : decode cX9_offerBoat 95 = .ok (.if_icmp .ge 46, 3) := by decide +kernel
theorem dX9_offerBoat_98 : decode cX9_offerBoat 98 = .ok (.aload_n 0, 1) := by decide +kernel
theorem dX9_offerBoat_99 : decode cX9_offerBoat 99 = .ok (.getfield 40, 3) := by decide +kernel
theorem dX9_offerBoat_102 : decode cX9_offerBoat 102 = .ok (.getfield 351, 3) := by decide +kernel
theorem dX9_offerBoat_105 : decode cX9_offerBoat 105 = .ok (.iload_n 2, 1) := by decide +kernel
theorem dX9_offerBoat_106 : decode cX9_offerBoat 106 = .ok (.invokevirtual 200, 3) := by decide +kernel
theorem dX9_offerBoat_109 : decode cX9_offerBoat 109 = .ok (.ifCond .le 26, 3) := by decide +kernel
theorem dX9_offerBoat_112 : decode cX9_offerBoat 112 = .ok (.aload_n 0, 1) := by decide +kernel
theorem dX9_offerBoat_113 : decode cX9_offerBoat 113 = .ok (.getfield 40, 3) := by decide +kernel
theorem dX9_offerBoat_116 : decode cX9_offerBoat 116 = .ok (.iload_n 1, 1) := by decide +kernel
theorem dX9_offerBoat_117 : decode cX9_offerBoat 117 = .ok (.iload_n 2, 1) := by decide +kernel
theorem dX9_offerBoat_118 : decode cX9_offerBoat 118 = .ok (.aload_n 0, 1) := by decide +kernel
theorem dX9_offerBoat_119 : decode cX9_offerBoat 119 = .ok (.getfield 19, 3) := by decide +kernel
theorem dX9_offerBoat_122 : decode cX9_offerBoat 122 = .ok (.getfield 116, 3) := by decide +kernel
theorem dX9_offerBoat_125 : decode cX9_offerBoat 125 = .ok (.iload_n 2, 1) := by decide +kernel
theorem dX9_offerBoat_126 : decode cX9_offerBoat 126 = .ok (.invokestatic 288, 3) := by decide +kernel
theorem dX9_offerBoat_129 : decode cX9_offerBoat 129 = .ok (.invokevirtual 200, 3) := by decide +kernel
theorem dX9_offerBoat_132 : decode cX9_offerBoat 132 = .ok (.invokevirtual 354, 3) := by decide +kernel
theorem dX9_offerBoat_135 : decode cX9_offerBoat 135 = .ok (.iinc 2 1, 3) := by decide +kernel
theorem dX9_offerBoat_138 : decode cX9_offerBoat 138 = .ok (.goto (-46), 3) := by decide +kernel
theorem dX9_offerBoat_141 : decode cX9_offerBoat 141 = .ok (.iconst 0, 1) := by decide +kernel
theorem dX9_offerBoat_142 : decode cX9_offerBoat 142 = .ok (.istore_n 2, 1) := by decide +kernel
theorem dX9_offerBoat_143 : decode cX9_offerBoat 143 = .ok (.iload_n 2, 1) := by decide +kernel
theorem dX9_offerBoat_144 : decode cX9_offerBoat 144 = .ok (.aload_n 0, 1) := by decide +kernel
theorem dX9_offerBoat_145 : decode cX9_offerBoat 145 = .ok (.getfield 33, 3) := by decide +kernel
theorem dX9_offerBoat_148 : decode cX9_offerBoat 148 = .ok (.getfield 135, 3) := by decide +kernel
theorem dX9_offerBoat_151 : decode cX9_offerBoat 151 = .ok (.if_icmp .ge 74, 3) := by decide +kernel
theorem dX9_offerBoat_154 : decode cX9_offerBoat 154 = .ok (.aload_n 0, 1) := by decide +kernel
theorem dX9_offerBoat_155 : decode cX9_offerBoat 155 = .ok (.getfield 33, 3) := by decide +kernel
theorem dX9_offerBoat_158 : decode cX9_offerBoat 158 = .ok (.getfield 269, 3) := by decide +kernel
theorem dX9_offerBoat_161 : decode cX9_offerBoat 161 = .ok (.iload_n 2, 1) := by decide +kernel
theorem dX9_offerBoat_162 : decode cX9_offerBoat 162 = .ok (.invokevirtual 200, 3) := by decide +kernel
theorem dX9_offerBoat_165 : decode cX9_offerBoat 165 = .ok (.iload_n 1, 1) := by decide +kernel
theorem dX9_offerBoat_166 : decode cX9_offerBoat 166 = .ok (.if_icmp .ne 53, 3) := by decide +kernel
theorem dX9_offerBoat_169 : decode cX9_offerBoat 169 = .ok (.aload_n 0, 1) := by decide +kernel
theorem dX9_offerBoat_170 : decode cX9_offerBoat 170 = .ok (.getfield 33, 3) := by decide +kernel
theorem dX9_offerBoat_173 : decode cX9_offerBoat 173 = .ok (.iload_n 2, 1) := by decide +kernel
theorem dX9_offerBoat_174 : decode cX9_offerBoat 174 = .ok (.invokevirtual 333, 3) := by decide +kernel
theorem dX9_offerBoat_177 : decode cX9_offerBoat 177 = .ok (.ifCond .eq 42, 3) := by decide +kernel
theorem dX9_offerBoat_180 : decode cX9_offerBoat 180 = .ok (.aload_n 0, 1) := by decide +kernel
theorem dX9_offerBoat_181 : decode cX9_offerBoat 181 = .ok (.getfield 33, 3) := by decide +kernel
theorem dX9_offerBoat_184 : decode cX9_offerBoat 184 = .ok (.getfield 191, 3) := by decide +kernel
theorem dX9_offerBoat_187 : decode cX9_offerBoat 187 = .ok (.iload_n 2, 1) := by decide +kernel
theorem dX9_offerBoat_188 : decode cX9_offerBoat 188 = .ok (.aload_n 0, 1) := by decide +kernel
theorem dX9_offerBoat_189 : decode cX9_offerBoat 189 = .ok (.getfield 40, 3) := by decide +kernel
theorem dX9_offerBoat_192 : decode cX9_offerBoat 192 = .ok (.aload_n 0, 1) := by decide +kernel
theorem dX9_offerBoat_193 : decode cX9_offerBoat 193 = .ok (.getfield 33, 3) := by decide +kernel
theorem dX9_offerBoat_196 : decode cX9_offerBoat 196 = .ok (.getfield 279, 3) := by decide +kernel
theorem dX9_offerBoat_199 : decode cX9_offerBoat 199 = .ok (.iload_n 2, 1) := by decide +kernel
theorem dX9_offerBoat_200 : decode cX9_offerBoat 200 = .ok (.invokevirtual 200, 3) := by decide +kernel
theorem dX9_offerBoat_203 : decode cX9_offerBoat 203 = .ok (.iload_n 2, 1) := by decide +kernel
theorem dX9_offerBoat_204 : decode cX9_offerBoat 204 = .ok (.invokevirtual 356, 3) := by decide +kernel
theorem dX9_offerBoat_207 : decode cX9_offerBoat 207 = .ok (.invokevirtual 104, 3) := by decide +kernel
theorem dX9_offerBoat_210 : decode cX9_offerBoat 210 = .ok (.aload_n 0, 1) := by decide +kernel
theorem dX9_offerBoat_211 : decode cX9_offerBoat 211 = .ok (.getfield 33, 3) := by decide +kernel
theorem dX9_offerBoat_214 : decode cX9_offerBoat 214 = .ok (.iload_n 2, 1) := by decide +kernel
theorem dX9_offerBoat_215 : decode cX9_offerBoat 215 = .ok (.iconst 2, 1) := by decide +kernel
theorem dX9_offerBoat_216 : decode cX9_offerBoat 216 = .ok (.invokevirtual 359, 3) := by decide +kernel
theorem dX9_offerBoat_219 : decode cX9_offerBoat 219 = .ok (.iinc 2 1, 3) := by decide +kernel
theorem dX9_offerBoat_222 : decode cX9_offerBoat 222 = .ok (.goto (-79), 3) := by decide +kernel
theorem dX9_offerBoat_225 : decode cX9_offerBoat 225 = .ok (.return_, 1) := by decide +kernel
theorem dX9_tickHalls_0 : decode cX9_tickHalls 0 = .ok (.iconst 0, 1) := by decide +kernel
theorem dX9_tickHalls_1 : decode cX9_tickHalls 1 = .ok (.istore_n 1, 1) := by decide +kernel
theorem dX9_tickHalls_2 : decode cX9_tickHalls 2 = .ok (.iload_n 1, 1) := by decide +kernel
theorem dX9_tickHalls_3 : decode cX9_tickHalls 3 = .ok (.iconst 3, 1) := by decide +kernel
theorem dX9_tickHalls_4 : decode cX9_tickHalls 4 = .ok (.if_icmp .ge 86, 3) := by decide +kernel
theorem dX9_tickHalls_7 : decode cX9_tickHalls 7 = .ok (.aload_n 0, 1) := by decide +kernel
theorem dX9_tickHalls_8 : decode cX9_tickHalls 8 = .ok (.getfield 47, 3) := by decide +kernel
theorem dX9_tickHalls_11 : decode cX9_tickHalls 11 = .ok (.getfield 129, 3) := by decide +kernel
theorem dX9_tickHalls_14 : decode cX9_tickHalls 14 = .ok (.iload_n 1, 1) := by decide +kernel
theorem dX9_tickHalls_15 : decode cX9_tickHalls 15 = .ok (.invokevirtual 200, 3) := by decide +kernel
theorem dX9_tickHalls_18 : decode cX9_tickHalls 18 = .ok (.ifCond .ne 6, 3) := by decide +kernel
theorem dX9_tickHalls_21 : decode cX9_tickHalls 21 = .ok (.goto 63, 3) := by decide +kernel
theorem dX9_tickHalls_24 : decode cX9_tickHalls 24 = .ok (.aload_n 0, 1) := by decide +kernel
theorem dX9_tickHalls_25 : decode cX9_tickHalls 25 = .ok (.getfield 47, 3) := by decide +kernel
theorem dX9_tickHalls_28 : decode cX9_tickHalls 28 = .ok (.getfield 197, 3) := by decide +kernel
theorem dX9_tickHalls_31 : decode cX9_tickHalls 31 = .ok (.iload_n 1, 1) := by decide +kernel
theorem dX9_tickHalls_32 : decode cX9_tickHalls 32 = .ok (.invokevirtual 200, 3) := by decide +kernel
theorem dX9_tickHalls_35 : decode cX9_tickHalls 35 = .ok (.tableswitch 49 1 3 #[25, 33, 41], 25) := by decide +kernel
theorem dX9_tickHalls_60 : decode cX9_tickHalls 60 = .ok (.aload_n 0, 1) := by decide +kernel
theorem dX9_tickHalls_61 : decode cX9_tickHalls 61 = .ok (.iload_n 1, 1) := by decide +kernel
theorem dX9_tickHalls_62 : decode cX9_tickHalls 62 = .ok (.invokevirtual 362, 3) := by decide +kernel
theorem dX9_tickHalls_65 : decode cX9_tickHalls 65 = .ok (.goto 19, 3) := by decide +kernel
theorem dX9_tickHalls_68 : decode cX9_tickHalls 68 = .ok (.aload_n 0, 1) := by decide +kernel
theorem dX9_tickHalls_69 : decode cX9_tickHalls 69 = .ok (.iload_n 1, 1) := by decide +kernel
theorem dX9_tickHalls_70 : decode cX9_tickHalls 70 = .ok (.invokevirtual 365, 3) := by decide +kernel
theorem dX9_tickHalls_73 : decode cX9_tickHalls 73 = .ok (.goto 11, 3) := by decide +kernel
theorem dX9_tickHalls_76 : decode cX9_tickHalls 76 = .ok (.aload_n 0, 1) := by decide +kernel
theorem dX9_tickHalls_77 : decode cX9_tickHalls 77 = .ok (.iload_n 1, 1) := by decide +kernel
theorem dX9_tickHalls_78 : decode cX9_tickHalls 78 = .ok (.invokevirtual 368, 3) := by decide +kernel
theorem dX9_tickHalls_81 : decode cX9_tickHalls 81 = .ok (.goto 3, 3) := by decide +kernel
theorem dX9_tickHalls_84 : decode cX9_tickHalls 84 = .ok (.iinc 1 1, 3) := by decide +kernel
theorem dX9_tickHalls_87 : decode cX9_tickHalls 87 = .ok (.goto (-85), 3) := by decide +kernel
theorem dX9_tickHalls_90 : decode cX9_tickHalls 90 = .ok (.return_, 1) := by decide +kernel
theorem dX9_tickFalling_0 : decode cX9_tickFalling 0 = .ok (.aload_n 0, 1) := by decide +kernel
theorem dX9_tickFalling_1 : decode cX9_tickFalling 1 = .ok (.getfield 54, 3) := by decide +kernel
theorem dX9_tickFalling_4 : decode cX9_tickFalling 4 = .ok (.iload_n 1, 1) := by decide +kernel
theorem dX9_tickFalling_5 : decode cX9_tickFalling 5 = .ok (.aload_n 0, 1) := by decide +kernel
theorem dX9_tickFalling_6 : decode cX9_tickFalling 6 = .ok (.getfield 65, 3) := by decide +kernel
theorem dX9_tickFalling_9 : decode cX9_tickFalling 9 = .ok (.invokevirtual 371, 3) := by decide +kernel
theorem dX9_tickFalling_12 : decode cX9_tickFalling 12 = .ok (.ifCond .eq 39, 3) := by decide +kernel
theorem dX9_tickFalling_15 : decode cX9_tickFalling 15 = .ok (.aload_n 0, 1) := by decide +kernel
theorem dX9_tickFalling_16 : decode cX9_tickFalling 16 = .ok (.getfield 47, 3) := by decide +kernel
theorem dX9_tickFalling_19 : decode cX9_tickFalling 19 = .ok (.getfield 197, 3) := by decide +kernel
theorem dX9_tickFalling_22 : decode cX9_tickFalling 22 = .ok (.iload_n 1, 1) := by decide +kernel
theorem dX9_tickFalling_23 : decode cX9_tickFalling 23 = .ok (.iconst 2, 1) := by decide +kernel
theorem dX9_tickFalling_24 : decode cX9_tickFalling 24 = .ok (.invokevirtual 104, 3) := by decide +kernel
theorem dX9_tickFalling_27 : decode cX9_tickFalling 27 = .ok (.aload_n 0, 1) := by decide +kernel
theorem dX9_tickFalling_28 : decode cX9_tickFalling 28 = .ok (.getfield 47, 3) := by decide +kernel
theorem dX9_tickFalling_31 : decode cX9_tickFalling 31 = .ok (.getfield 374, 3) := by decide +kernel
theorem dX9_tickFalling_34 : decode cX9_tickFalling 34 = .ok (.iload_n 1, 1) := by decide +kernel
theorem dX9_tickFalling_35 : decode cX9_tickFalling 35 = .ok (.aload_n 0, 1) := by decide +kernel
theorem dX9_tickFalling_36 : decode cX9_tickFalling 36 = .ok (.getfield 65, 3) := by decide +kernel
theorem dX9_tickFalling_39 : decode cX9_tickFalling 39 = .ok (.aload_n 0, 1) := by decide +kernel
theorem dX9_tickFalling_40 : decode cX9_tickFalling 40 = .ok (.getfield 26, 3) := by decide +kernel
theorem dX9_tickFalling_43 : decode cX9_tickFalling 43 = .ok (.invokevirtual 377, 3) := by decide +kernel
theorem dX9_tickFalling_46 : decode cX9_tickFalling 46 = .ok (.iadd, 1) := by decide +kernel
theorem dX9_tickFalling_47 : decode cX9_tickFalling 47 = .ok (.invokevirtual 104, 3) := by decide +kernel
theorem dX9_tickFalling_50 : decode cX9_tickFalling 50 = .ok (.return_, 1) := by decide +kernel
theorem dX9_tickFalling_51 : decode cX9_tickFalling 51 = .ok (.aload_n 0, 1) := by decide +kernel
theorem dX9_tickFalling_52 : decode cX9_tickFalling 52 = .ok (.getfield 47, 3) := by decide +kernel
theorem dX9_tickFalling_55 : decode cX9_tickFalling 55 = .ok (.getfield 206, 3) := by decide +kernel
theorem dX9_tickFalling_58 : decode cX9_tickFalling 58 = .ok (.iload_n 1, 1) := by decide +kernel
theorem dX9_tickFalling_59 : decode cX9_tickFalling 59 = .ok (.aload_n 0, 1) := by decide +kernel
theorem dX9_tickFalling_60 : decode cX9_tickFalling 60 = .ok (.getfield 47, 3) := by decide +kernel
theorem dX9_tickFalling_63 : decode cX9_tickFalling 63 = .ok (.getfield 119, 3) := by decide +kernel
theorem dX9_tickFalling_66 : decode cX9_tickFalling 66 = .ok (.iload_n 1, 1) := by decide +kernel
theorem dX9_tickFalling_67 : decode cX9_tickFalling 67 = .ok (.invokevirtual 200, 3) := by decide +kernel
theorem dX9_tickFalling_70 : decode cX9_tickFalling 70 = .ok (.ineg, 1) := by decide +kernel
theorem dX9_tickFalling_71 : decode cX9_tickFalling 71 = .ok (.invokevirtual 252, 3) := by decide +kernel
theorem dX9_tickFalling_74 : decode cX9_tickFalling 74 = .ok (.aload_n 0, 1) := by decide +kernel
theorem dX9_tickFalling_75 : decode cX9_tickFalling 75 = .ok (.getfield 47, 3) := by decide +kernel
theorem dX9_tickFalling_78 : decode cX9_tickFalling 78 = .ok (.getfield 216, 3) := by decide +kernel
theorem dX9_tickFalling_81 : decode cX9_tickFalling 81 = .ok (.iload_n 1, 1) := by decide +kernel
theorem dX9_tickFalling_82 : decode cX9_tickFalling 82 = .ok (.invokevirtual 200, 3) := by decide +kernel
theorem dX9_tickFalling_85 : decode cX9_tickFalling 85 = .ok (.istore_n 2, 1) := by decide +kernel
theorem dX9_tickFalling_86 : decode cX9_tickFalling 86 = .ok (.aload_n 0, 1) := by decide +kernel
theorem dX9_tickFalling_87 : decode cX9_tickFalling 87 = .ok (.getfield 47, 3) := by decide +kernel
theorem dX9_tickFalling_90 : decode cX9_tickFalling 90 = .ok (.getfield 206, 3) := by decide +kernel
theorem dX9_tickFalling_93 : decode cX9_tickFalling 93 = .ok (.iload_n 1, 1) := by decide +kernel
theorem dX9_tickFalling_94 : decode cX9_tickFalling 94 = .ok (.invokevirtual 200, 3) := by decide +kernel
theorem dX9_tickFalling_97 : decode cX9_tickFalling 97 = .ok (.aload_n 0, 1) := by decide +kernel
theorem dX9_tickFalling_98 : decode cX9_tickFalling 98 = .ok (.getfield 19, 3) := by decide +kernel
theorem dX9_tickFalling_101 : decode cX9_tickFalling 101 = .ok (.aload_n 0, 1) := by decide +kernel
theorem dX9_tickFalling_102 : decode cX9_tickFalling 102 = .ok (.getfield 40, 3) := by decide +kernel
theorem dX9_tickFalling_105 : decode cX9_tickFalling 105 = .ok (.getfield 287, 3) := by decide +kernel
theorem dX9_tickFalling_108 : decode cX9_tickFalling 108 = .ok (.iload_n 2, 1) := by decide +kernel
theorem dX9_tickFalling_109 : decode cX9_tickFalling 109 = .ok (.invokevirtual 200, 3) := by decide +kernel
theorem dX9_tickFalling_112 : decode cX9_tickFalling 112 = .ok (.invokevirtual 380, 3) := by decide +kernel
theorem dX9_tickFalling_115 : decode cX9_tickFalling 115 = .ok (.if_icmp .ge 14, 3) := by decide +kernel
theorem dX9_tickFalling_118 : decode cX9_tickFalling 118 = .ok (.aload_n 0, 1) := by decide +kernel
theorem dX9_tickFalling_119 : decode cX9_tickFalling 119 = .ok (.iload_n 2, 1) := by decide +kernel
theorem dX9_tickFalling_120 : decode cX9_tickFalling 120 = .ok (.invokevirtual 185, 3) := by decide +kernel
theorem dX9_tickFalling_123 : decode cX9_tickFalling 123 = .ok (.pop, 1) := by decide +kernel
theorem dX9_tickFalling_124 : decode cX9_tickFalling 124 = .ok (.aload_n 0, 1) := by decide +kernel
theorem dX9_tickFalling_125 : decode cX9_tickFalling 125 = .ok (.iload_n 1, 1) := by decide +kernel
theorem dX9_tickFalling_126 : decode cX9_tickFalling 126 = .ok (.invokevirtual 229, 3) := by decide +kernel
theorem dX9_tickFalling_129 : decode cX9_tickFalling 129 = .ok (.return_, 1) := by decide +kernel
theorem dX9_tickStanding_0 : decode cX9_tickStanding 0 = .ok (.aload_n 0, 1) := by decide +kernel
theorem dX9_tickStanding_1 : decode cX9_tickStanding 1 = .ok (.getfield 65, 3) := by decide +kernel
theorem dX9_tickStanding_4 : decode cX9_tickStanding 4 = .ok (.aload_n 0, 1) := by decide +kernel
theorem dX9_tickStanding_5 : decode cX9_tickStanding 5 = .ok (.getfield 47, 3) := by decide +kernel
theorem dX9_tickStanding_8 : decode cX9_tickStanding 8 = .ok (.getfield 374, 3) := by decide +kernel
theorem dX9_tickStanding_11 : decode cX9_tickStanding 11 = .ok (.iload_n 1, 1) := by decide +kernel
theorem dX9_tickStanding_12 : decode cX9_tickStanding 12 = .ok (.invokevirtual 200, 3) := by decide +kernel
theorem dX9_tickStanding_15 : decode cX9_tickStanding 15 = .ok (.if_icmp .ge 4, 3) := by decide +kernel
theorem dX9_tickStanding_18 : decode cX9_tickStanding 18 = .ok (.return_, 1) := by decide +kernel
theorem dX9_tickStanding_19 : decode cX9_tickStanding 19 = .ok (.aload_n 0, 1) := by decide +kernel
theorem dX9_tickStanding_20 : decode cX9_tickStanding 20 = .ok (.iload_n 1, 1) := by decide +kernel
theorem dX9_tickStanding_21 : decode cX9_tickStanding 21 = .ok (.invokevirtual 383, 3) := by decide +kernel
theorem dX9_tickStanding_24 : decode cX9_tickStanding 24 = .ok (.istore_n 2, 1) := by decide +kernel
theorem dX9_tickStanding_25 : decode cX9_tickStanding 25 = .ok (.iload_n 2, 1) := by decide +kernel
theorem dX9_tickStanding_26 : decode cX9_tickStanding 26 = .ok (.iconst (-1), 1) := by decide +kernel
theorem dX9_tickStanding_27 : decode cX9_tickStanding 27 = .ok (.if_icmp .ne 9, 3) := by decide +kernel
theorem dX9_tickStanding_30 : decode cX9_tickStanding 30 = .ok (.aload_n 0, 1) := by decide +kernel
theorem dX9_tickStanding_31 : decode cX9_tickStanding 31 = .ok (.iload_n 1, 1) := by decide +kernel
theorem dX9_tickStanding_32 : decode cX9_tickStanding 32 = .ok (.invokevirtual 180, 3) := by decide +kernel
theorem dX9_tickStanding_35 : decode cX9_tickStanding 35 = .ok (.return_, 1) := by decide +kernel
theorem dX9_tickStanding_36 : decode cX9_tickStanding 36 = .ok (.aload_n 0, 1) := by decide +kernel
theorem dX9_tickStanding_37 : decode cX9_tickStanding 37 = .ok (.getfield 47, 3) := by decide +kernel
theorem dX9_tickStanding_40 : decode cX9_tickStanding 40 = .ok (.getfield 197, 3) := by decide +kernel
theorem dX9_tickStanding_43 : decode cX9_tickStanding 43 = .ok (.iload_n 1, 1) := by decide +kernel
theorem dX9_tickStanding_44 : decode cX9_tickStanding 44 = .ok (.iconst 3, 1) := by decide +kernel
theorem dX9_tickStanding_45 : decode cX9_tickStanding 45 = .ok (.invokevirtual 104, 3) := by decide +kernel
theorem dX9_tickStanding_48 : decode cX9_tickStanding 48 = .ok (.aload_n 0, 1) := by decide +kernel
theorem dX9_tickStanding_49 : decode cX9_tickStanding 49 = .ok (.getfield 47, 3) := by decide +kernel
theorem dX9_tickStanding_52 : decode cX9_tickStanding 52 = .ok (.getfield 213, 3) := by decide +kernel
theorem dX9_tickStanding_55 : decode cX9_tickStanding 55 = .ok (.iload_n 1, 1) := by decide +kernel
theorem dX9_tickStanding_56 : decode cX9_tickStanding 56 = .ok (.iload_n 2, 1) := by decide +kernel
theorem dX9_tickStanding_57 : decode cX9_tickStanding 57 = .ok (.invokevirtual 104, 3) := by decide +kernel
theorem dX9_tickStanding_60 : decode cX9_tickStanding 60 = .ok (.aload_n 0, 1) := by decide +kernel
theorem dX9_tickStanding_61 : decode cX9_tickStanding 61 = .ok (.getfield 47, 3) := by decide +kernel
theorem dX9_tickStanding_64 : decode cX9_tickStanding 64 = .ok (.getfield 206, 3) := by decide +kernel
theorem dX9_tickStanding_67 : decode cX9_tickStanding 67 = .ok (.iload_n 1, 1) := by decide +kernel
theorem dX9_tickStanding_68 : decode cX9_tickStanding 68 = .ok (.aload_n 0, 1) := by decide +kernel
theorem dX9_tickStanding_69 : decode cX9_tickStanding 69 = .ok (.getfield 54, 3) := by decide +kernel
theorem dX9_tickStanding_72 : decode cX9_tickStanding 72 = .ok (.iload_n 1, 1) := by decide +kernel
theorem dX9_tickStanding_73 : decode cX9_tickStanding 73 = .ok (.iload_n 2, 1) := by decide +kernel
theorem dX9_tickStanding_74 : decode cX9_tickStanding 74 = .ok (.invokevirtual 386, 3) := by decide +kernel
theorem dX9_tickStanding_77 : decode cX9_tickStanding 77 = .ok (.invokevirtual 104, 3) := by decide +kernel
theorem dX9_tickStanding_80 : decode cX9_tickStanding 80 = .ok (.aload_n 0, 1) := by decide +kernel
theorem dX9_tickStanding_81 : decode cX9_tickStanding 81 = .ok (.getfield 47, 3) := by decide +kernel
theorem dX9_tickStanding_84 : decode cX9_tickStanding 84 = .ok (.getfield 374, 3) := by decide +kernel
theorem dX9_tickStanding_87 : decode cX9_tickStanding 87 = .ok (.iload_n 1, 1) := by decide +kernel
theorem dX9_tickStanding_88 : decode cX9_tickStanding 88 = .ok (.aload_n 0, 1) := by decide +kernel
theorem dX9_tickStanding_89 : decode cX9_tickStanding 89 = .ok (.getfield 65, 3) := by decide +kernel
theorem dX9_tickStanding_92 : decode cX9_tickStanding 92 = .ok (.iconst 3, 1) := by decide +kernel
theorem dX9_tickStanding_93 : decode cX9_tickStanding 93 = .ok (.iadd, 1) := by decide +kernel
theorem dX9_tickStanding_94 : decode cX9_tickStanding 94 = .ok (.invokevirtual 104, 3) := by decide +kernel
theorem dX9_tickStanding_97 : decode cX9_tickStanding 97 = .ok (.return_, 1) := by decide +kernel
theorem dX9_tickTaking_0 : decode cX9_tickTaking 0 = .ok (.aload_n 0, 1) := by decide +kernel
theorem dX9_tickTaking_1 : decode cX9_tickTaking 1 = .ok (.getfield 65, 3) := by decide +kernel
theorem dX9_tickTaking_4 : decode cX9_tickTaking 4 = .ok (.aload_n 0, 1) := by decide +kernel
theorem dX9_tickTaking_5 : decode cX9_tickTaking 5 = .ok (.getfield 47, 3) := by decide +kernel
theorem dX9_tickTaking_8 : decode cX9_tickTaking 8 = .ok (.getfield 374, 3) := by decide +kernel
theorem dX9_tickTaking_11 : decode cX9_tickTaking 11 = .ok (.iload_n 1, 1) := by decide +kernel
theorem dX9_tickTaking_12 : decode cX9_tickTaking 12 = .ok (.invokevirtual 200, 3) := by decide +kernel
theorem dX9_tickTaking_15 : decode cX9_tickTaking 15 = .ok (.if_icmp .ge 4, 3) := by decide +kernel
theorem dX9_tickTaking_18 : decode cX9_tickTaking 18 = .ok (.return_, 1) := by decide +kernel
theorem dX9_tickTaking_19 : decode cX9_tickTaking 19 = .ok (.aload_n 0, 1) := by decide +kernel
theorem dX9_tickTaking_20 : decode cX9_tickTaking 20 = .ok (.iload_n 1, 1) := by decide +kernel
theorem dX9_tickTaking_21 : decode cX9_tickTaking 21 = .ok (.iconst 1, 1) := by decide +kernel
theorem dX9_tickTaking_22 : decode cX9_tickTaking 22 = .ok (.invokevirtual 220, 3) := by decide +kernel
theorem dX9_tickTaking_25 : decode cX9_tickTaking 25 = .ok (.aload_n 0, 1) := by decide +kernel
theorem dX9_tickTaking_26 : decode cX9_tickTaking 26 = .ok (.getfield 26, 3) := by decide +kernel
theorem dX9_tickTaking_29 : decode cX9_tickTaking 29 = .ok (.aload_n 0, 1) := by decide +kernel
theorem dX9_tickTaking_30 : decode cX9_tickTaking 30 = .ok (.getfield 47, 3) := by decide +kernel
theorem dX9_tickTaking_33 : decode cX9_tickTaking 33 = .ok (.getfield 213, 3) := by decide +kernel
theorem dX9_tickTaking_36 : decode cX9_tickTaking 36 = .ok (.iload_n 1, 1) := by decide +kernel
theorem dX9_tickTaking_37 : decode cX9_tickTaking 37 = .ok (.invokevirtual 200, 3) := by decide +kernel
theorem dX9_tickTaking_40 : decode cX9_tickTaking 40 = .ok (.invokevirtual 223, 3) := by decide +kernel
theorem dX9_tickTaking_43 : decode cX9_tickTaking 43 = .ok (.if_icmp .gt 9, 3) := by decide +kernel
theorem dX9_tickTaking_46 : decode cX9_tickTaking 46 = .ok (.aload_n 0, 1) := by decide +kernel
theorem dX9_tickTaking_47 : decode cX9_tickTaking 47 = .ok (.iload_n 1, 1) := by decide +kernel
theorem dX9_tickTaking_48 : decode cX9_tickTaking 48 = .ok (.iconst 1, 1) := by decide +kernel
theorem dX9_tickTaking_49 : decode cX9_tickTaking 49 = .ok (.invokevirtual 226, 3) := by decide +kernel
theorem dX9_tickTaking_52 : decode cX9_tickTaking 52 = .ok (.aload_n 0, 1) := by decide +kernel
theorem dX9_tickTaking_53 : decode cX9_tickTaking 53 = .ok (.iload_n 1, 1) := by decide +kernel
theorem dX9_tickTaking_54 : decode cX9_tickTaking 54 = .ok (.invokevirtual 229, 3) := by decide +kernel
theorem dX9_tickTaking_57 : decode cX9_tickTaking 57 = .ok (.return_, 1) := by decide +kernel
theorem dX9_findWinner_0 : decode cX9_findWinner 0 = .ok (.aload_n 0, 1) := by decide +kernel
theorem dX9_findWinner_1 : decode cX9_findWinner 1 = .ok (.getfield 33, 3) := by decide +kernel
theorem dX9_findWinner_4 : decode cX9_findWinner 4 = .ok (.getfield 307, 3) := by decide +kernel
theorem dX9_findWinner_7 : decode cX9_findWinner 7 = .ok (.aload_n 0, 1) := by decide +kernel
theorem dX9_findWinner_8 : decode cX9_findWinner 8 = .ok (.getfield 40, 3) := by decide +kernel
theorem dX9_findWinner_11 : decode cX9_findWinner 11 = .ok (.aload_n 0, 1) := by decide +kernel
theorem dX9_findWinner_12 : decode cX9_findWinner 12 = .ok (.getfield 47, 3) := by decide +kernel
theorem dX9_findWinner_15 : decode cX9_findWinner 15 = .ok (.getfield 216, 3) := by decide +kernel
theorem dX9_findWinner_18 : decode cX9_findWinner 18 = .ok (.iload_n 1, 1) := by decide +kernel
theorem dX9_findWinner_19 : decode cX9_findWinner 19 = .ok (.invokevirtual 200, 3) := by decide +kernel
theorem dX9_findWinner_22 : decode cX9_findWinner 22 = .ok (.iconst 0, 1) := by decide +kernel
theorem dX9_findWinner_23 : decode cX9_findWinner 23 = .ok (.invokevirtual 389, 3) := by decide +kernel
theorem dX9_findWinner_26 : decode cX9_findWinner 26 = .ok (.invokevirtual 200, 3) := by decide +kernel
theorem dX9_findWinner_29 : decode cX9_findWinner 29 = .ok (.istore_n 2, 1) := by decide +kernel
theorem dX9_findWinner_30 : decode cX9_findWinner 30 = .ok (.iconst (-1), 1) := by decide +kernel
theorem dX9_findWinner_31 : decode cX9_findWinner 31 = .ok (.istore_n 3, 1) := by decide +kernel
theorem dX9_findWinner_32 : decode cX9_findWinner 32 = .ok (.iconst 0, 1) := by decide +kernel
theorem dX9_findWinner_33 : decode cX9_findWinner 33 = .ok (.istore 4, 2) := by decide +kernel
theorem dX9_findWinner_35 : decode cX9_findWinner 35 = .ok (.iload 4, 2) := by decide +kernel
theorem dX9_findWinner_37 : decode cX9_findWinner 37 = .ok (.bipush 8, 2) := by decide +kernel
theorem dX9_findWinner_39 : decode cX9_findWinner 39 = .ok (.if_icmp .ge 78, 3) := by decide +kernel
theorem dX9_findWinner_42 : decode cX9_findWinner 42 = .ok (.aload_n 0, 1) := by decide +kernel
theorem dX9_findWinner_43 : decode cX9_findWinner 43 = .ok (.getfield 54, 3) := by decide +kernel
theorem dX9_findWinner_46 : decode cX9_findWinner 46 = .ok (.iload_n 1, 1) := by decide +kernel
theorem dX9_findWinner_47 : decode cX9_findWinner 47 = .ok (.iload 4, 2) := by decide +kernel
theorem dX9_findWinner_49 : decode cX9_findWinner 49 = .ok (.aload_n 0, 1) := by decide +kernel
theorem dX9_findWinner_50 : decode cX9_findWinner 50 = .ok (.getfield 65, 3) := by decide +kernel
theorem dX9_findWinner_53 : decode cX9_findWinner 53 = .ok (.invokevirtual 392, 3) := by decide +kernel
theorem dX9_findWinner_56 : decode cX9_findWinner 56 = .ok (.ifCond .ne 6, 3) := by decide +kernel
theorem dX9_findWinner_59 : decode cX9_findWinner 59 = .ok (.goto 52, 3) := by decide +kernel
theorem dX9_findWinner_62 : decode cX9_findWinner 62 = .ok (.iload_n 2, 1) := by decide +kernel
theorem dX9_findWinner_63 : decode cX9_findWinner 63 = .ok (.aload_n 0, 1) := by decide +kernel
theorem dX9_findWinner_64 : decode cX9_findWinner 64 = .ok (.getfield 54, 3) := by decide +kernel
theorem dX9_findWinner_67 : decode cX9_findWinner 67 = .ok (.iload_n 1, 1) := by decide +kernel
theorem dX9_findWinner_68 : decode cX9_findWinner 68 = .ok (.iload 4, 2) := by decide +kernel
theorem dX9_findWinner_70 : decode cX9_findWinner 70 = .ok (.invokevirtual 386, 3) := by decide +kernel
theorem dX9_findWinner_73 : decode cX9_findWinner 73 = .ok (.imul, 1) := by decide +kernel
theorem dX9_findWinner_74 : decode cX9_findWinner 74 = .ok (.aload_n 0, 1) := by decide +kernel
theorem dX9_findWinner_75 : decode cX9_findWinner 75 = .ok (.getfield 26, 3) := by decide +kernel
theorem dX9_findWinner_78 : decode cX9_findWinner 78 = .ok (.iload 4, 2) := by decide +kernel
theorem dX9_findWinner_80 : decode cX9_findWinner 80 = .ok (.invokevirtual 223, 3) := by decide +kernel
theorem dX9_findWinner_83 : decode cX9_findWinner 83 = .ok (.if_icmp .le 6, 3) := by decide +kernel
theorem dX9_findWinner_86 : decode cX9_findWinner 86 = .ok (.goto 25, 3) := by decide +kernel
theorem dX9_findWinner_89 : decode cX9_findWinner 89 = .ok (.iload_n 3, 1) := by decide +kernel
theorem dX9_findWinner_90 : decode cX9_findWinner 90 = .ok (.iconst (-1), 1) := by decide +kernel
theorem dX9_findWinner_91 : decode cX9_findWinner 91 = .ok (.if_icmp .eq 17, 3) := by decide +kernel
theorem dX9_findWinner_94 : decode cX9_findWinner 94 = .ok (.aload_n 0, 1) := by decide +kernel
theorem dX9_findWinner_95 : decode cX9_findWinner 95 = .ok (.getfield 54, 3) := by decide +kernel
theorem dX9_findWinner_98 : decode cX9_findWinner 98 = .ok (.iload_n 1, 1) := by decide +kernel
theorem dX9_findWinner_99 : decode cX9_findWinner 99 = .ok (.iload 4, 2) := by decide +kernel
theorem dX9_findWinner_101 : decode cX9_findWinner 101 = .ok (.iload_n 3, 1) := by decide +kernel
theorem dX9_findWinner_102 : decode cX9_findWinner 102 = .ok (.invokevirtual 396, 3) := by decide +kernel
theorem dX9_findWinner_105 : decode cX9_findWinner 105 = .ok (.ifCond .eq 6, 3) := by decide +kernel
theorem dX9_findWinner_108 : decode cX9_findWinner 108 = .ok (.iload 4, 2) := by decide +kernel
theorem dX9_findWinner_110 : decode cX9_findWinner 110 = .ok (.istore_n 3, 1) := by decide +kernel
theorem dX9_findWinner_111 : decode cX9_findWinner 111 = .ok (.iinc 4 1, 3) := by decide +kernel
theorem dX9_findWinner_114 : decode cX9_findWinner 114 = .ok (.goto (-79), 3) := by decide +kernel
theorem dX9_findWinner_117 : decode cX9_findWinner 117 = .ok (.iload_n 3, 1) := by decide +kernel
theorem dX9_findWinner_118 : decode cX9_findWinner 118 = .ok (.ireturn, 1) := by decide +kernel
theorem dX9_bringToClock_0 : decode cX9_bringToClock 0 = .ok (.aload_n 0, 1) := by decide +kernel
theorem dX9_bringToClock_1 : decode cX9_bringToClock 1 = .ok (.getfield 47, 3) := by decide +kernel
theorem dX9_bringToClock_4 : decode cX9_bringToClock 4 = .ok (.getfield 216, 3) := by decide +kernel
theorem dX9_bringToClock_7 : decode cX9_bringToClock 7 = .ok (.iload_n 1, 1) := by decide +kernel
theorem dX9_bringToClock_8 : decode cX9_bringToClock 8 = .ok (.iload_n 2, 1) := by decide +kernel
theorem dX9_bringToClock_9 : decode cX9_bringToClock 9 = .ok (.invokevirtual 104, 3) := by decide +kernel
theorem dX9_bringToClock_12 : decode cX9_bringToClock 12 = .ok (.aload_n 0, 1) := by decide +kernel
theorem dX9_bringToClock_13 : decode cX9_bringToClock 13 = .ok (.getfield 47, 3) := by decide +kernel
theorem dX9_bringToClock_16 : decode cX9_bringToClock 16 = .ok (.getfield 206, 3) := by decide +kernel
theorem dX9_bringToClock_19 : decode cX9_bringToClock 19 = .ok (.iload_n 1, 1) := by decide +kernel
theorem dX9_bringToClock_20 : decode cX9_bringToClock 20 = .ok (.iload_n 2, 1) := by decide +kernel
theorem dX9_bringToClock_21 : decode cX9_bringToClock 21 = .ok (.iconst (-1), 1) := by decide +kernel
theorem dX9_bringToClock_22 : decode cX9_bringToClock 22 = .ok (.if_icmp .ne 7, 3) := by decide +kernel
theorem dX9_bringToClock_25 : decode cX9_bringToClock 25 = .ok (.iconst 0, 1) := by decide +kernel
theorem dX9_bringToClock_26 : decode cX9_bringToClock 26 = .ok (.goto 27, 3) := by decide +kernel
theorem dX9_bringToClock_29 : decode cX9_bringToClock 29 = .ok (.aload_n 0, 1) := by decide +kernel
theorem dX9_bringToClock_30 : decode cX9_bringToClock 30 = .ok (.getfield 19, 3) := by decide +kernel
theorem dX9_bringToClock_33 : decode cX9_bringToClock 33 = .ok (.getfield 110, 3) := by decide +kernel
theorem dX9_bringToClock_36 : decode cX9_bringToClock 36 = .ok (.aload_n 0, 1) := by decide +kernel
theorem dX9_bringToClock_37 : decode cX9_bringToClock 37 = .ok (.getfield 40, 3) := by decide +kernel
theorem dX9_bringToClock_40 : decode cX9_bringToClock 40 = .ok (.getfield 287, 3) := by decide +kernel
theorem dX9_bringToClock_43 : decode cX9_bringToClock 43 = .ok (.iload_n 2, 1) := by decide +kernel
theorem dX9_bringToClock_44 : decode cX9_bringToClock 44 = .ok (.invokevirtual 200, 3) := by decide +kernel
theorem dX9_bringToClock_47 : decode cX9_bringToClock 47 = .ok (.invokestatic 288, 3) := by decide +kernel
theorem dX9_bringToClock_50 : decode cX9_bringToClock 50 = .ok (.invokevirtual 200, 3) := by decide +kernel
theorem dX9_bringToClock_53 : decode cX9_bringToClock 53 = .ok (.invokevirtual 104, 3) := by decide +kernel
theorem dX9_bringToClock_56 : decode cX9_bringToClock 56 = .ok (.return_, 1) := by decide +kernel
theorem dX9_beginRound_0 : decode cX9_beginRound 0 = .ok (.aload_n 0, 1) := by decide +kernel
theorem dX9_beginRound_1 : decode cX9_beginRound 1 = .ok (.getfield 47, 3) := by decide +kernel
theorem dX9_beginRound_4 : decode cX9_beginRound 4 = .ok (.getfield 197, 3) := by decide +kernel
theorem dX9_beginRound_7 : decode cX9_beginRound 7 = .ok (.iload_n 1, 1) := by decide +kernel
theorem dX9_beginRound_8 : decode cX9_beginRound 8 = .ok (.aload_n 0, 1) := by decide +kernel
theorem dX9_beginRound_9 : decode cX9_beginRound 9 = .ok (.getfield 47, 3) := by decide +kernel
theorem dX9_beginRound_12 : decode cX9_beginRound 12 = .ok (.getfield 216, 3) := by decide +kernel
theorem dX9_beginRound_15 : decode cX9_beginRound 15 = .ok (.iload_n 1, 1) := by decide +kernel
theorem dX9_beginRound_16 : decode cX9_beginRound 16 = .ok (.invokevirtual 200, 3) := by decide +kernel
theorem dX9_beginRound_19 : decode cX9_beginRound 19 = .ok (.iconst (-1), 1) := by decide +kernel
theorem dX9_beginRound_20 : decode cX9_beginRound 20 = .ok (.if_icmp .ne 7, 3) := by decide +kernel
theorem dX9_beginRound_23 : decode cX9_beginRound 23 = .ok (.iconst 0, 1) := by decide +kernel
theorem dX9_beginRound_24 : decode cX9_beginRound 24 = .ok (.goto 4, 3) := by decide +kernel
theorem dX9_beginRound_27 : decode cX9_beginRound 27 = .ok (.iconst 1, 1) := by decide +kernel
theorem dX9_beginRound_28 : decode cX9_beginRound 28 = .ok (.invokevirtual 104, 3) := by decide +kernel
theorem dX9_beginRound_31 : decode cX9_beginRound 31 = .ok (.aload_n 0, 1) := by decide +kernel
theorem dX9_beginRound_32 : decode cX9_beginRound 32 = .ok (.getfield 47, 3) := by decide +kernel
theorem dX9_beginRound_35 : decode cX9_beginRound 35 = .ok (.getfield 213, 3) := by decide +kernel
theorem dX9_beginRound_38 : decode cX9_beginRound 38 = .ok (.iload_n 1, 1) := by decide +kernel
theorem dX9_beginRound_39 : decode cX9_beginRound 39 = .ok (.iconst (-1), 1) := by decide +kernel
theorem dX9_beginRound_40 : decode cX9_beginRound 40 = .ok (.invokevirtual 104, 3) := by decide +kernel
theorem dX9_beginRound_43 : decode cX9_beginRound 43 = .ok (.aload_n 0, 1) := by decide +kernel
theorem dX9_beginRound_44 : decode cX9_beginRound 44 = .ok (.getfield 54, 3) := by decide +kernel
theorem dX9_beginRound_47 : decode cX9_beginRound 47 = .ok (.iload_n 1, 1) := by decide +kernel
theorem dX9_beginRound_48 : decode cX9_beginRound 48 = .ok (.invokevirtual 399, 3) := by decide +kernel
theorem dX9_beginRound_51 : decode cX9_beginRound 51 = .ok (.return_, 1) := by decide +kernel
theorem dX9_goOn_0 : decode cX9_goOn 0 = .ok (.aload_n 0, 1) := by decide +kernel
theorem dX9_goOn_1 : decode cX9_goOn 1 = .ok (.getfield 47, 3) := by decide +kernel
theorem dX9_goOn_4 : decode cX9_goOn 4 = .ok (.getfield 216, 3) := by decide +kernel
theorem dX9_goOn_7 : decode cX9_goOn 7 = .ok (.iload_n 1, 1) := by decide +kernel
theorem dX9_goOn_8 : decode cX9_goOn 8 = .ok (.invokevirtual 200, 3) := by decide +kernel
theorem dX9_goOn_11 : decode cX9_goOn 11 = .ok (.istore_n 2, 1) := by decide +kernel
theorem dX9_goOn_12 : decode cX9_goOn 12 = .ok (.aload_n 0, 1) := by decide +kernel
theorem dX9_goOn_13 : decode cX9_goOn 13 = .ok (.getfield 40, 3) := by decide +kernel
theorem dX9_goOn_16 : decode cX9_goOn 16 = .ok (.iload_n 2, 1) := by decide +kernel
theorem dX9_goOn_17 : decode cX9_goOn 17 = .ok (.invokevirtual 217, 3) := by decide +kernel
theorem dX9_goOn_20 : decode cX9_goOn 20 = .ok (.ifCond .ne 29, 3) := by decide +kernel
theorem dX9_goOn_23 : decode cX9_goOn 23 = .ok (.aload_n 0, 1) := by decide +kernel
theorem dX9_goOn_24 : decode cX9_goOn 24 = .ok (.getfield 47, 3) := by decide +kernel
theorem dX9_goOn_27 : decode cX9_goOn 27 = .ok (.getfield 167, 3) := by decide +kernel
theorem dX9_goOn_30 : decode cX9_goOn 30 = .ok (.iload_n 1, 1) := by decide +kernel
theorem dX9_goOn_31 : decode cX9_goOn 31 = .ok (.iconst (-1), 1) := by decide +kernel
theorem dX9_goOn_32 : decode cX9_goOn 32 = .ok (.invokevirtual 252, 3) := by decide +kernel
theorem dX9_goOn_35 : decode cX9_goOn 35 = .ok (.aload_n 0, 1) := by decide +kernel
theorem dX9_goOn_36 : decode cX9_goOn 36 = .ok (.iload_n 1, 1) := by decide +kernel
theorem dX9_goOn_37 : decode cX9_goOn 37 = .ok (.aload_n 0, 1) := by decide +kernel
theorem dX9_goOn_38 : decode cX9_goOn 38 = .ok (.getfield 40, 3) := by decide +kernel
theorem dX9_goOn_41 : decode cX9_goOn 41 = .ok (.iload_n 1, 1) := by decide +kernel
theorem dX9_goOn_42 : decode cX9_goOn 42 = .ok (.iload_n 2, 1) := by decide +kernel
theorem dX9_goOn_43 : decode cX9_goOn 43 = .ok (.invokevirtual 174, 3) := by decide +kernel
theorem dX9_goOn_46 : decode cX9_goOn 46 = .ok (.invokevirtual 177, 3) := by decide +kernel
theorem dX9_goOn_49 : decode cX9_goOn 49 = .ok (.aload_n 0, 1) := by decide +kernel
theorem dX9_goOn_50 : decode cX9_goOn 50 = .ok (.iload_n 1, 1) := by decide +kernel
theorem dX9_goOn_51 : decode cX9_goOn 51 = .ok (.invokevirtual 180, 3) := by decide +kernel
theorem dX9_goOn_54 : decode cX9_goOn 54 = .ok (.return_, 1) := by decide +kernel
theorem dX9_costOfFirst_0 : decode cX9_costOfFirst 0 = .ok (.aload_n 0, 1) := by decide +kernel
theorem dX9_costOfFirst_1 : decode cX9_costOfFirst 1 = .ok (.getfield 47, 3) := by decide +kernel
theorem dX9_costOfFirst_4 : decode cX9_costOfFirst 4 = .ok (.getfield 216, 3) := by decide +kernel
theorem dX9_costOfFirst_7 : decode cX9_costOfFirst 7 = .ok (.iload_n 1, 1) := by decide +kernel
theorem dX9_costOfFirst_8 : decode cX9_costOfFirst 8 = .ok (.invokevirtual 200, 3) := by decide +kernel
theorem dX9_costOfFirst_11 : decode cX9_costOfFirst 11 = .ok (.istore_n 3, 1) := by decide +kernel
theorem dX9_costOfFirst_12 : decode cX9_costOfFirst 12 = .ok (.iconst 0, 1) := by decide +kernel
theorem dX9_costOfFirst_13 : decode cX9_costOfFirst 13 = .ok (.istore 4, 2) := by decide +kernel
theorem dX9_costOfFirst_15 : decode cX9_costOfFirst 15 = .ok (.iconst 0, 1) := by decide +kernel
theorem dX9_costOfFirst_16 : decode cX9_costOfFirst 16 = .ok (.istore 5, 2) := by decide +kernel
theorem dX9_costOfFirst_18 : decode cX9_costOfFirst 18 = .ok (.iload 5, 2) := by decide +kernel
theorem dX9_costOfFirst_20 : decode cX9_costOfFirst 20 = .ok (.iload_n 2, 1) := by decide +kernel
theorem dX9_costOfFirst_21 : decode cX9_costOfFirst 21 = .ok (.if_icmp .ge 34, 3) := by decide +kernel
theorem dX9_costOfFirst_24 : decode cX9_costOfFirst 24 = .ok (.iload 4, 2) := by decide +kernel
theorem dX9_costOfFirst_26 : decode cX9_costOfFirst 26 = .ok (.aload_n 0, 1) := by decide +kernel
theorem dX9_costOfFirst_27 : decode cX9_costOfFirst 27 = .ok (.getfield 33, 3) := by decide +kernel
theorem dX9_costOfFirst_30 : decode cX9_costOfFirst 30 = .ok (.getfield 307, 3) := by decide +kernel
theorem dX9_costOfFirst_33 : decode cX9_costOfFirst 33 = .ok (.aload_n 0, 1) := by decide +kernel
theorem dX9_costOfFirst_34 : decode cX9_costOfFirst 34 = .ok (.getfield 40, 3) := by decide +kernel
theorem dX9_costOfFirst_37 : decode cX9_costOfFirst 37 = .ok (.iload_n 3, 1) := by decide +kernel
theorem dX9_costOfFirst_38 : decode cX9_costOfFirst 38 = .ok (.iload 5, 2) := by decide +kernel
theorem dX9_costOfFirst_40 : decode cX9_costOfFirst 40 = .ok (.invokevirtual 389, 3) := by decide +kernel
theorem dX9_costOfFirst_43 : decode cX9_costOfFirst 43 = .ok (.invokevirtual 200, 3) := by decide +kernel
theorem dX9_costOfFirst_46 : decode cX9_costOfFirst 46 = .ok (.iadd, 1) := by decide +kernel
theorem dX9_costOfFirst_47 : decode cX9_costOfFirst 47 = .ok (.istore 4, 2) := by decide +kernel
theorem dX9_costOfFirst_49 : decode cX9_costOfFirst 49 = .ok (.iinc 5 1, 3) := by decide +kernel
theorem dX9_costOfFirst_52 : decode cX9_costOfFirst 52 = .ok (.goto (-34), 3) := by decide +kernel
theorem dX9_costOfFirst_55 : decode cX9_costOfFirst 55 = .ok (.iload 4, 2) := by decide +kernel
theorem dX9_costOfFirst_57 : decode cX9_costOfFirst 57 = .ok (.aload_n 0, 1) := by decide +kernel
theorem dX9_costOfFirst_58 : decode cX9_costOfFirst 58 = .ok (.getfield 47, 3) := by decide +kernel
theorem dX9_costOfFirst_61 : decode cX9_costOfFirst 61 = .ok (.getfield 206, 3) := by decide +kernel
theorem dX9_costOfFirst_64 : decode cX9_costOfFirst 64 = .ok (.iload_n 1, 1) := by decide +kernel
theorem dX9_costOfFirst_65 : decode cX9_costOfFirst 65 = .ok (.invokevirtual 200, 3) := by decide +kernel
theorem dX9_costOfFirst_68 : decode cX9_costOfFirst 68 = .ok (.imul, 1) := by decide +kernel
theorem dX9_costOfFirst_69 : decode cX9_costOfFirst 69 = .ok (.ireturn, 1) := by decide +kernel
theorem dX9_sellFirst_0 : decode cX9_sellFirst 0 = .ok (.aload_n 0, 1) := by decide +kernel
theorem dX9_sellFirst_1 : decode cX9_sellFirst 1 = .ok (.getfield 47, 3) := by decide +kernel
theorem dX9_sellFirst_4 : decode cX9_sellFirst 4 = .ok (.getfield 216, 3) := by decide +kernel
theorem dX9_sellFirst_7 : decode cX9_sellFirst 7 = .ok (.iload_n 1, 1) := by decide +kernel
theorem dX9_sellFirst_8 : decode cX9_sellFirst 8 = .ok (.invokevirtual 200, 3) := by decide +kernel
theorem dX9_sellFirst_11 : decode cX9_sellFirst 11 = .ok (.istore_n 3, 1) := by decide +kernel
theorem dX9_sellFirst_12 : decode cX9_sellFirst 12 = .ok (.aload_n 0, 1) := by decide +kernel
theorem dX9_sellFirst_13 : decode cX9_sellFirst 13 = .ok (.getfield 47, 3) := by decide +kernel
theorem dX9_sellFirst_16 : decode cX9_sellFirst 16 = .ok (.getfield 213, 3) := by decide +kernel
theorem dX9_sellFirst_19 : decode cX9_sellFirst 19 = .ok (.iload_n 1, 1) := by decide +kernel
theorem dX9_sellFirst_20 : decode cX9_sellFirst 20 = .ok (.invokevirtual 200, 3) := by decide +kernel
theorem dX9_sellFirst_23 : decode cX9_sellFirst 23 = .ok (.istore 4, 2) := by decide +kernel
theorem dX9_sellFirst_25 : decode cX9_sellFirst 25 = .ok (.aload_n 0, 1) := by decide +kernel
theorem dX9_sellFirst_26 : decode cX9_sellFirst 26 = .ok (.getfield 47, 3) := by decide +kernel
theorem dX9_sellFirst_29 : decode cX9_sellFirst 29 = .ok (.getfield 206, 3) := by decide +kernel
theorem dX9_sellFirst_32 : decode cX9_sellFirst 32 = .ok (.iload_n 1, 1) := by decide +kernel
theorem dX9_sellFirst_33 : decode cX9_sellFirst 33 = .ok (.invokevirtual 200, 3) := by decide +kernel
theorem dX9_sellFirst_36 : decode cX9_sellFirst 36 = .ok (.istore 5, 2) := by decide +kernel
theorem dX9_sellFirst_38 : decode cX9_sellFirst 38 = .ok (.iconst 0, 1) := by decide +kernel
theorem dX9_sellFirst_39 : decode cX9_sellFirst 39 = .ok (.istore 6, 2) := by decide +kernel
theorem dX9_sellFirst_41 : decode cX9_sellFirst 41 = .ok (.iload 6, 2) := by decide +kernel
theorem dX9_sellFirst_43 : decode cX9_sellFirst 43 = .ok (.iload_n 2, 1) := by decide +kernel
theorem dX9_sellFirst_44 : decode cX9_sellFirst 44 = .ok (.if_icmp .ge 134, 3) := by decide +kernel
theorem dX9_sellFirst_47 : decode cX9_sellFirst 47 = .ok (.aload_n 0, 1) := by decide +kernel
theorem dX9_sellFirst_48 : decode cX9_sellFirst 48 = .ok (.getfield 40, 3) := by decide +kernel
theorem dX9_sellFirst_51 : decode cX9_sellFirst 51 = .ok (.iload_n 3, 1) := by decide +kernel
theorem dX9_sellFirst_52 : decode cX9_sellFirst 52 = .ok (.iload 6, 2) := by decide +kernel
theorem dX9_sellFirst_54 : decode cX9_sellFirst 54 = .ok (.invokevirtual 389, 3) := by decide +kernel
theorem dX9_sellFirst_57 : decode cX9_sellFirst 57 = .ok (.istore 7, 2) := by decide +kernel
theorem dX9_sellFirst_59 : decode cX9_sellFirst 59 = .ok (.aload_n 0, 1) := by decide +kernel
theorem dX9_sellFirst_60 : decode cX9_sellFirst 60 = .ok (.getfield 33, 3) := by decide +kernel
theorem dX9_sellFirst_63 : decode cX9_sellFirst 63 = .ok (.getfield 307, 3) := by decide +kernel
theorem dX9_sellFirst_66 : decode cX9_sellFirst 66 = .ok (.iload 7, 2) := by decide +kernel
theorem dX9_sellFirst_68 : decode cX9_sellFirst 68 = .ok (.invokevirtual 200, 3) := by decide +kernel
theorem dX9_sellFirst_71 : decode cX9_sellFirst 71 = .ok (.iload 5, 2) := by decide +kernel
theorem dX9_sellFirst_73 : decode cX9_sellFirst 73 = .ok (.imul, 1) := by decide +kernel
theorem dX9_sellFirst_74 : decode cX9_sellFirst 74 = .ok (.istore 8, 2) := by decide +kernel
theorem dX9_sellFirst_76 : decode cX9_sellFirst 76 = .ok (.aload_n 0, 1) := by decide +kernel
theorem dX9_sellFirst_77 : decode cX9_sellFirst 77 = .ok (.getfield 33, 3) := by decide +kernel
theorem dX9_sellFirst_80 : decode cX9_sellFirst 80 = .ok (.iload 7, 2) := by decide +kernel
theorem dX9_sellFirst_82 : decode cX9_sellFirst 82 = .ok (.iload 4, 2) := by decide +kernel
theorem dX9_sellFirst_84 : decode cX9_sellFirst 84 = .ok (.iload 5, 2) := by decide +kernel
theorem dX9_sellFirst_86 : decode cX9_sellFirst 86 = .ok (.invokevirtual 402, 3) := by decide +kernel
theorem dX9_sellFirst_89 : decode cX9_sellFirst 89 = .ok (.aload_n 0, 1) := by decide +kernel
theorem dX9_sellFirst_90 : decode cX9_sellFirst 90 = .ok (.getfield 33, 3) := by decide +kernel
theorem dX9_sellFirst_93 : decode cX9_sellFirst 93 = .ok (.getfield 260, 3) := by decide +kernel
theorem dX9_sellFirst_96 : decode cX9_sellFirst 96 = .ok (.iload 7, 2) := by decide +kernel
theorem dX9_sellFirst_98 : decode cX9_sellFirst 98 = .ok (.aload_n 0, 1) := by decide +kernel
theorem dX9_sellFirst_99 : decode cX9_sellFirst 99 = .ok (.getfield 65, 3) := by decide +kernel
theorem dX9_sellFirst_102 : decode cX9_sellFirst 102 = .ok (.invokevirtual 104, 3) := by decide +kernel
theorem dX9_sellFirst_105 : decode cX9_sellFirst 105 = .ok (.aload_n 0, 1) := by decide +kernel
theorem dX9_sellFirst_106 : decode cX9_sellFirst 106 = .ok (.getfield 33, 3) := by decide +kernel
theorem dX9_sellFirst_109 : decode cX9_sellFirst 109 = .ok (.getfield 310, 3) := by decide +kernel
theorem dX9_sellFirst_112 : decode cX9_sellFirst 112 = .ok (.iload 7, 2) := by decide +kernel
theorem dX9_sellFirst_114 : decode cX9_sellFirst 114 = .ok (.aload_n 0, 1) := by decide +kernel
theorem dX9_sellFirst_115 : decode cX9_sellFirst 115 = .ok (.getfield 69, 3) := by decide +kernel
theorem dX9_sellFirst_118 : decode cX9_sellFirst 118 = .ok (.invokevirtual 104, 3) := by decide +kernel
theorem dX9_sellFirst_121 : decode cX9_sellFirst 121 = .ok (.aload_n 0, 1) := by decide +kernel
theorem dX9_sellFirst_122 : decode cX9_sellFirst 122 = .ok (.getfield 26, 3) := by decide +kernel
theorem dX9_sellFirst_125 : decode cX9_sellFirst 125 = .ok (.getfield 241, 3) := by decide +kernel
theorem dX9_sellFirst_128 : decode cX9_sellFirst 128 = .ok (.iload 4, 2) := by decide +kernel
theorem dX9_sellFirst_130 : decode cX9_sellFirst 130 = .ok (.iload 8, 2) := by decide +kernel
theorem dX9_sellFirst_132 : decode cX9_sellFirst 132 = .ok (.invokevirtual 252, 3) := by decide +kernel
theorem dX9_sellFirst_135 : decode cX9_sellFirst 135 = .ok (.aload_n 0, 1) := by decide +kernel
theorem dX9_sellFirst_136 : decode cX9_sellFirst 136 = .ok (.getfield 26, 3) := by decide +kernel
theorem dX9_sellFirst_139 : decode cX9_sellFirst 139 = .ok (.getfield 295, 3) := by decide +kernel
theorem dX9_sellFirst_142 : decode cX9_sellFirst 142 = .ok (.iload 4, 2) := by decide +kernel
theorem dX9_sellFirst_144 : decode cX9_sellFirst 144 = .ok (.iconst 1, 1) := by decide +kernel
theorem dX9_sellFirst_145 : decode cX9_sellFirst 145 = .ok (.invokevirtual 252, 3) := by decide +kernel
theorem dX9_sellFirst_148 : decode cX9_sellFirst 148 = .ok (.aload_n 0, 1) := by decide +kernel
theorem dX9_sellFirst_149 : decode cX9_sellFirst 149 = .ok (.getfield 10, 3) := by decide +kernel
theorem dX9_sellFirst_152 : decode cX9_sellFirst 152 = .ok (.getfield 266, 3) := by decide +kernel
theorem dX9_sellFirst_155 : decode cX9_sellFirst 155 = .ok (.aload_n 0, 1) := by decide +kernel
theorem dX9_sellFirst_156 : decode cX9_sellFirst 156 = .ok (.getfield 33, 3) := by decide +kernel
theorem dX9_sellFirst_159 : decode cX9_sellFirst 159 = .ok (.getfield 269, 3) := by decide +kernel
theorem dX9_sellFirst_162 : decode cX9_sellFirst 162 = .ok (.iload 7, 2) := by decide +kernel
theorem dX9_sellFirst_164 : decode cX9_sellFirst 164 = .ok (.invokevirtual 200, 3) := by decide +kernel
theorem dX9_sellFirst_167 : decode cX9_sellFirst 167 = .ok (.iload 8, 2) := by decide +kernel
theorem dX9_sellFirst_169 : decode cX9_sellFirst 169 = .ok (.invokevirtual 252, 3) := by decide +kernel
theorem dX9_sellFirst_172 : decode cX9_sellFirst 172 = .ok (.iinc 6 1, 3) := by decide +kernel
theorem dX9_sellFirst_175 : decode cX9_sellFirst 175 = .ok (.goto (-134), 3) := by decide +kernel
theorem dX9_sellFirst_178 : decode cX9_sellFirst 178 = .ok (.aload_n 0, 1) := by decide +kernel
theorem dX9_sellFirst_179 : decode cX9_sellFirst 179 = .ok (.getfield 40, 3) := by decide +kernel
theorem dX9_sellFirst_182 : decode cX9_sellFirst 182 = .ok (.getfield 405, 3) := by decide +kernel
theorem dX9_sellFirst_185 : decode cX9_sellFirst 185 = .ok (.iload_n 3, 1) := by decide +kernel
theorem dX9_sellFirst_186 : decode cX9_sellFirst 186 = .ok (.iload_n 2, 1) := by decide +kernel
theorem dX9_sellFirst_187 : decode cX9_sellFirst 187 = .ok (.invokevirtual 252, 3) := by decide +kernel
theorem dX9_sellFirst_190 : decode cX9_sellFirst 190 = .ok (.return_, 1) := by decide +kernel
theorem dX9_withdrawRest_0 : decode cX9_withdrawRest 0 = .ok (.aload_n 0, 1) := by decide +kernel
theorem dX9_withdrawRest_1 : decode cX9_withdrawRest 1 = .ok (.getfield 40, 3) := by decide +kernel
theorem dX9_withdrawRest_4 : decode cX9_withdrawRest 4 = .ok (.iload_n 1, 1) := by decide +kernel
theorem dX9_withdrawRest_5 : decode cX9_withdrawRest 5 = .ok (.invokevirtual 217, 3) := by decide +kernel
theorem dX9_withdrawRest_8 : decode cX9_withdrawRest 8 = .ok (.istore_n 2, 1) := by decide +kernel
theorem dX9_withdrawRest_9 : decode cX9_withdrawRest 9 = .ok (.iconst 0, 1) := by decide +kernel
theorem dX9_withdrawRest_10 : decode cX9_withdrawRest 10 = .ok (.istore_n 3, 1) := by decide +kernel
theorem dX9_withdrawRest_11 : decode cX9_withdrawRest 11 = .ok (.iload_n 3, 1) := by decide +kernel
theorem dX9_withdrawRest_12 : decode cX9_withdrawRest 12 = .ok (.iload_n 2, 1) := by decide +kernel
theorem dX9_withdrawRest_13 : decode cX9_withdrawRest 13 = .ok (.if_icmp .ge 22, 3) := by decide +kernel
theorem dX9_withdrawRest_16 : decode cX9_withdrawRest 16 = .ok (.aload_n 0, 1) := by decide +kernel
theorem dX9_withdrawRest_17 : decode cX9_withdrawRest 17 = .ok (.aload_n 0, 1) := by decide +kernel
theorem dX9_withdrawRest_18 : decode cX9_withdrawRest 18 = .ok (.getfield 40, 3) := by decide +kernel
theorem dX9_withdrawRest_21 : decode cX9_withdrawRest 21 = .ok (.iload_n 1, 1) := by decide +kernel
theorem dX9_withdrawRest_22 : decode cX9_withdrawRest 22 = .ok (.iload_n 3, 1) := by decide +kernel
theorem dX9_withdrawRest_23 : decode cX9_withdrawRest 23 = .ok (.invokevirtual 389, 3) := by decide +kernel
theorem dX9_withdrawRest_26 : decode cX9_withdrawRest 26 = .ok (.invokevirtual 408, 3) := by decide +kernel
theorem dX9_withdrawRest_29 : decode cX9_withdrawRest 29 = .ok (.iinc 3 1, 3) := by decide +kernel
theorem dX9_withdrawRest_32 : decode cX9_withdrawRest 32 = .ok (.goto (-21), 3) := by decide +kernel
theorem dX9_withdrawRest_35 : decode cX9_withdrawRest 35 = .ok (.aload_n 0, 1) := by decide +kernel
theorem dX9_withdrawRest_36 : decode cX9_withdrawRest 36 = .ok (.getfield 40, 3) := by decide +kernel
theorem dX9_withdrawRest_39 : decode cX9_withdrawRest 39 = .ok (.getfield 405, 3) := by decide +kernel
theorem dX9_withdrawRest_42 : decode cX9_withdrawRest 42 = .ok (.iload_n 1, 1) := by decide +kernel
theorem dX9_withdrawRest_43 : decode cX9_withdrawRest 43 = .ok (.iload_n 2, 1) := by decide +kernel
theorem dX9_withdrawRest_44 : decode cX9_withdrawRest 44 = .ok (.invokevirtual 252, 3) := by decide +kernel
theorem dX9_withdrawRest_47 : decode cX9_withdrawRest 47 = .ok (.iload_n 2, 1) := by decide +kernel
theorem dX9_withdrawRest_48 : decode cX9_withdrawRest 48 = .ok (.ireturn, 1) := by decide +kernel
theorem dX9_withdraw_0 : decode cX9_withdraw 0 = .ok (.aload_n 0, 1) := by decide +kernel
theorem dX9_withdraw_1 : decode cX9_withdraw 1 = .ok (.getfield 33, 3) := by decide +kernel
theorem dX9_withdraw_4 : decode cX9_withdraw 4 = .ok (.getfield 269, 3) := by decide +kernel
theorem dX9_withdraw_7 : decode cX9_withdraw 7 = .ok (.iload_n 1, 1) := by decide +kernel
theorem dX9_withdraw_8 : decode cX9_withdraw 8 = .ok (.invokevirtual 200, 3) := by decide +kernel
theorem dX9_withdraw_11 : decode cX9_withdraw 11 = .ok (.istore_n 2, 1) := by decide +kernel
theorem dX9_withdraw_12 : decode cX9_withdraw 12 = .ok (.aload_n 0, 1) := by decide +kernel
theorem dX9_withdraw_13 : decode cX9_withdraw 13 = .ok (.getfield 33, 3) := by decide +kernel
theorem dX9_withdraw_16 : decode cX9_withdraw 16 = .ok (.getfield 307, 3) := by decide +kernel
theorem dX9_withdraw_19 : decode cX9_withdraw 19 = .ok (.iload_n 1, 1) := by decide +kernel
theorem dX9_withdraw_20 : decode cX9_withdraw 20 = .ok (.invokevirtual 200, 3) := by decide +kernel
theorem dX9_withdraw_23 : decode cX9_withdraw 23 = .ok (.istore_n 3, 1) := by decide +kernel
theorem dX9_withdraw_24 : decode cX9_withdraw 24 = .ok (.aload_n 0, 1) := by decide +kernel
theorem dX9_withdraw_25 : decode cX9_withdraw 25 = .ok (.getfield 10, 3) := by decide +kernel
theorem dX9_withdraw_28 : decode cX9_withdraw 28 = .ok (.getfield 107, 3) := by decide +kernel
theorem dX9_withdraw_31 : decode cX9_withdraw 31 = .ok (.iload_n 2, 1) := by decide +kernel
theorem dX9_withdraw_32 : decode cX9_withdraw 32 = .ok (.invokevirtual 200, 3) := by decide +kernel
theorem dX9_withdraw_35 : decode cX9_withdraw 35 = .ok (.iload_n 3, 1) := by decide +kernel
theorem dX9_withdraw_36 : decode cX9_withdraw 36 = .ok (.if_icmp .lt 43, 3) := by decide +kernel
theorem dX9_withdraw_39 : decode cX9_withdraw 39 = .ok (.aload_n 0, 1) := by decide +kernel
theorem dX9_withdraw_40 : decode cX9_withdraw 40 = .ok (.getfield 10, 3) := by decide +kernel
theorem dX9_withdraw_43 : decode cX9_withdraw 43 = .ok (.getfield 107, 3) := by decide +kernel
theorem dX9_withdraw_46 : decode cX9_withdraw 46 = .ok (.iload_n 2, 1) := by decide +kernel
theorem dX9_withdraw_47 : decode cX9_withdraw 47 = .ok (.iload_n 3, 1) := by decide +kernel
theorem dX9_withdraw_48 : decode cX9_withdraw 48 = .ok (.ineg, 1) := by decide +kernel
theorem dX9_withdraw_49 : decode cX9_withdraw 49 = .ok (.invokevirtual 252, 3) := by decide +kernel
theorem dX9_withdraw_52 : decode cX9_withdraw 52 = .ok (.aload_n 0, 1) := by decide +kernel
theorem dX9_withdraw_53 : decode cX9_withdraw 53 = .ok (.getfield 10, 3) := by decide +kernel
theorem dX9_withdraw_56 : decode cX9_withdraw 56 = .ok (.getfield 266, 3) := by decide +kernel
theorem dX9_withdraw_59 : decode cX9_withdraw 59 = .ok (.iload_n 2, 1) := by decide +kernel
theorem dX9_withdraw_60 : decode cX9_withdraw 60 = .ok (.iload_n 3, 1) := by decide +kernel
theorem dX9_withdraw_61 : decode cX9_withdraw 61 = .ok (.bipush 20, 2) := by decide +kernel
theorem dX9_withdraw_63 : decode cX9_withdraw 63 = .ok (.imul, 1) := by decide +kernel
theorem dX9_withdraw_64 : decode cX9_withdraw 64 = .ok (.invokevirtual 252, 3) := by decide +kernel
theorem dX9_withdraw_67 : decode cX9_withdraw 67 = .ok (.aload_n 0, 1) := by decide +kernel
theorem dX9_withdraw_68 : decode cX9_withdraw 68 = .ok (.getfield 33, 3) := by decide +kernel
theorem dX9_withdraw_71 : decode cX9_withdraw 71 = .ok (.iload_n 1, 1) := by decide +kernel
theorem dX9_withdraw_72 : decode cX9_withdraw 72 = .ok (.iconst 5, 1) := by decide +kernel
theorem dX9_withdraw_73 : decode cX9_withdraw 73 = .ok (.invokevirtual 359, 3) := by decide +kernel
theorem dX9_withdraw_76 : decode cX9_withdraw 76 = .ok (.goto 45, 3) := by decide +kernel
theorem dX9_withdraw_79 : decode cX9_withdraw 79 = .ok (.aload_n 0, 1) := by decide +kernel
theorem dX9_withdraw_80 : decode cX9_withdraw 80 = .ok (.getfield 33, 3) := by decide +kernel
theorem dX9_withdraw_83 : decode cX9_withdraw 83 = .ok (.iload_n 1, 1) := by decide +kernel
theorem dX9_withdraw_84 : decode cX9_withdraw 84 = .ok (.invokevirtual 411, 3) := by decide +kernel
theorem dX9_withdraw_87 : decode cX9_withdraw 87 = .ok (.ifCond .eq 24, 3) := by decide +kernel
theorem dX9_withdraw_90 : decode cX9_withdraw 90 = .ok (.aload_n 0, 1) := by decide +kernel
theorem dX9_withdraw_91 : decode cX9_withdraw 91 = .ok (.getfield 33, 3) := by decide +kernel
theorem dX9_withdraw_94 : decode cX9_withdraw 94 = .ok (.iload_n 1, 1) := by decide +kernel
theorem dX9_withdraw_95 : decode cX9_withdraw 95 = .ok (.bipush 6, 2) := by decide +kernel
theorem dX9_withdraw_97 : decode cX9_withdraw 97 = .ok (.invokevirtual 359, 3) := by decide +kernel
theorem dX9_withdraw_100 : decode cX9_withdraw 100 = .ok (.aload_n 0, 1) := by decide +kernel
theorem dX9_withdraw_101 : decode cX9_withdraw 101 = .ok (.getfield 33, 3) := by decide +kernel
theorem dX9_withdraw_104 : decode cX9_withdraw 104 = .ok (.iload_n 1, 1) := by decide +kernel
theorem dX9_withdraw_105 : decode cX9_withdraw 105 = .ok (.invokevirtual 414, 3) := by decide +kernel
theorem dX9_withdraw_108 : decode cX9_withdraw 108 = .ok (.goto 13, 3) := by decide +kernel
theorem dX9_withdraw_111 : decode cX9_withdraw 111 = .ok (.aload_n 0, 1) := by decide +kernel
theorem dX9_withdraw_112 : decode cX9_withdraw 112 = .ok (.getfield 33, 3) := by decide +kernel
theorem dX9_withdraw_115 : decode cX9_withdraw 115 = .ok (.iload_n 1, 1) := by decide +kernel
theorem dX9_withdraw_116 : decode cX9_withdraw 116 = .ok (.bipush 7, 2) := by decide +kernel
theorem dX9_withdraw_118 : decode cX9_withdraw 118 = .ok (.invokevirtual 359, 3) := by decide +kernel
theorem dX9_withdraw_121 : decode cX9_withdraw 121 = .ok (.return_, 1) := by decide +kernel
theorem dX9_sendLorries_0 : decode cX9_sendLorries 0 = .ok (.iconst 0, 1) := by decide +kernel
theorem dX9_sendLorries_1 : decode cX9_sendLorries 1 = .ok (.istore_n 1, 1) := by decide +kernel
theorem dX9_sendLorries_2 : decode cX9_sendLorries 2 = .ok (.iload_n 1, 1) := by decide +kernel
theorem dX9_sendLorries_3 : decode cX9_sendLorries 3 = .ok (.aload_n 0, 1) := by decide +kernel
theorem dX9_sendLorries_4 : decode cX9_sendLorries 4 = .ok (.getfield 61, 3) := by decide +kernel
theorem dX9_sendLorries_7 : decode cX9_sendLorries 7 = .ok (.getfield 238, 3) := by decide +kernel
theorem dX9_sendLorries_10 : decode cX9_sendLorries 10 = .ok (.if_icmp .ge 32, 3) := by decide +kernel
theorem dX9_sendLorries_13 : decode cX9_sendLorries 13 = .ok (.aload_n 0, 1) := by decide +kernel
theorem dX9_sendLorries_14 : decode cX9_sendLorries 14 = .ok (.getfield 61, 3) := by decide +kernel
theorem dX9_sendLorries_17 : decode cX9_sendLorries 17 = .ok (.getfield 417, 3) := by decide +kernel
theorem dX9_sendLorries_20 : decode cX9_sendLorries 20 = .ok (.iload_n 1, 1) := by decide +kernel
theorem dX9_sendLorries_21 : decode cX9_sendLorries 21 = .ok (.invokevirtual 200, 3) := by decide +kernel
theorem dX9_sendLorries_24 : decode cX9_sendLorries 24 = .ok (.aload_n 0, 1) := by decide +kernel
theorem dX9_sendLorries_25 : decode cX9_sendLorries 25 = .ok (.getfield 65, 3) := by decide +kernel
theorem dX9_sendLorries_28 : decode cX9_sendLorries 28 = .ok (.if_icmp .ne 8, 3) := by decide +kernel
theorem dX9_sendLorries_31 : decode cX9_sendLorries 31 = .ok (.aload_n 0, 1) := by decide +kernel
theorem dX9_sendLorries_32 : decode cX9_sendLorries 32 = .ok (.iload_n 1, 1) := by decide +kernel
theorem dX9_sendLorries_33 : decode cX9_sendLorries 33 = .ok (.invokevirtual 420, 3) := by decide +kernel
theorem dX9_sendLorries_36 : decode cX9_sendLorries 36 = .ok (.iinc 1 1, 3) := by decide +kernel
theorem dX9_sendLorries_39 : decode cX9_sendLorries 39 = .ok (.goto (-37), 3) := by decide +kernel
theorem dX9_sendLorries_42 : decode cX9_sendLorries 42 = .ok (.return_, 1) := by decide +kernel
theorem dX9_fetch_0 : decode cX9_fetch 0 = .ok (.aload_n 0, 1) := by decide +kernel
theorem dX9_fetch_1 : decode cX9_fetch 1 = .ok (.getfield 61, 3) := by decide +kernel
theorem dX9_fetch_4 : decode cX9_fetch 4 = .ok (.getfield 423, 3) := by decide +kernel
theorem dX9_fetch_7 : decode cX9_fetch 7 = .ok (.iload_n 1, 1) := by decide +kernel
theorem dX9_fetch_8 : decode cX9_fetch 8 = .ok (.invokevirtual 200, 3) := by decide +kernel
theorem dX9_fetch_11 : decode cX9_fetch 11 = .ok (.istore_n 2, 1) := by decide +kernel
theorem dX9_fetch_12 : decode cX9_fetch 12 = .ok (.iconst 0, 1) := by decide +kernel
theorem dX9_fetch_13 : decode cX9_fetch 13 = .ok (.istore_n 3, 1) := by decide +kernel
theorem dX9_fetch_14 : decode cX9_fetch 14 = .ok (.iconst 0, 1) := by decide +kernel
theorem dX9_fetch_15 : decode cX9_fetch 15 = .ok (.istore 4, 2) := by decide +kernel
theorem dX9_fetch_17 : decode cX9_fetch 17 = .ok (.iload 4, 2) := by decide +kernel
theorem dX9_fetch_19 : decode cX9_fetch 19 = .ok (.aload_n 0, 1) := by decide +kernel
theorem dX9_fetch_20 : decode cX9_fetch 20 = .ok (.getfield 33, 3) := by decide +kernel
theorem dX9_fetch_23 : decode cX9_fetch 23 = .ok (.getfield 135, 3) := by decide +kernel
theorem dX9_fetch_26 : decode cX9_fetch 26 = .ok (.if_icmp .ge 69, 3) := by decide +kernel
theorem dX9_fetch_29 : decode cX9_fetch 29 = .ok (.iload_n 3, 1) := by decide +kernel
theorem dX9_fetch_30 : decode cX9_fetch 30 = .ok (.iload_n 2, 1) := by decide +kernel
theorem dX9_fetch_31 : decode cX9_fetch 31 = .ok (.if_icmp .ge 64, 3) := by decide +kernel
theorem dX9_fetch_34 : decode cX9_fetch 34 = .ok (.aload_n 0, 1) := by decide +kernel
theorem dX9_fetch_35 : decode cX9_fetch 35 = .ok (.getfield 33, 3) := by decide +kernel
theorem dX9_fetch_38 : decode cX9_fetch 38 = .ok (.getfield 278, 3) := by decide +kernel
theorem dX9_fetch_41 : decode cX9_fetch 41 = .ok (.iload 4, 2) := by decide +kernel
theorem dX9_fetch_43 : decode cX9_fetch 43 = .ok (.invokevirtual 200, 3) := by decide +kernel
theorem dX9_fetch_46 : decode cX9_fetch 46 = .ok (.iconst 3, 1) := by decide +kernel
theorem dX9_fetch_47 : decode cX9_fetch 47 = .ok (.if_icmp .ne 42, 3) := by decide +kernel
theorem dX9_fetch_50 : decode cX9_fetch 50 = .ok (.aload_n 0, 1) := by decide +kernel
theorem dX9_fetch_51 : decode cX9_fetch 51 = .ok (.getfield 33, 3) := by decide +kernel
theorem dX9_fetch_54 : decode cX9_fetch 54 = .ok (.getfield 254, 3) := by decide +kernel
theorem dX9_fetch_57 : decode cX9_fetch 57 = .ok (.iload 4, 2) := by decide +kernel
theorem dX9_fetch_59 : decode cX9_fetch 59 = .ok (.invokevirtual 200, 3) := by decide +kernel
theorem dX9_fetch_62 : decode cX9_fetch 62 = .ok (.aload_n 0, 1) := by decide +kernel
theorem dX9_fetch_63 : decode cX9_fetch 63 = .ok (.getfield 61, 3) := by decide +kernel
theorem dX9_fetch_66 : decode cX9_fetch 66 = .ok (.getfield 426, 3) := by decide +kernel
theorem dX9_fetch_69 : decode cX9_fetch 69 = .ok (.iload_n 1, 1) := by decide +kernel
theorem dX9_fetch_70 : decode cX9_fetch 70 = .ok (.invokevirtual 200, 3) := by decide +kernel
theorem dX9_fetch_73 : decode cX9_fetch 73 = .ok (.if_icmp .ne 16, 3) := by decide +kernel
theorem dX9_fetch_76 : decode cX9_fetch 76 = .ok (.aload_n 0, 1) := by decide +kernel
theorem dX9_fetch_77 : decode cX9_fetch 77 = .ok (.getfield 33, 3) := by decide +kernel
theorem dX9_fetch_80 : decode cX9_fetch 80 = .ok (.iload 4, 2) := by decide +kernel
theorem dX9_fetch_82 : decode cX9_fetch 82 = .ok (.iconst 4, 1) := by decide +kernel
theorem dX9_fetch_83 : decode cX9_fetch 83 = .ok (.invokevirtual 359, 3) := by decide +kernel
theorem dX9_fetch_86 : decode cX9_fetch 86 = .ok (.iinc 3 1, 3) := by decide +kernel
theorem dX9_fetch_89 : decode cX9_fetch 89 = .ok (.iinc 4 1, 3) := by decide +kernel
theorem dX9_fetch_92 : decode cX9_fetch 92 = .ok (.goto (-75), 3) := by decide +kernel
theorem dX9_fetch_95 : decode cX9_fetch 95 = .ok (.aload_n 0, 1) := by decide +kernel
theorem dX9_fetch_96 : decode cX9_fetch 96 = .ok (.getfield 61, 3) := by decide +kernel
theorem dX9_fetch_99 : decode cX9_fetch 99 = .ok (.getfield 313, 3) := by decide +kernel
theorem dX9_fetch_102 : decode cX9_fetch 102 = .ok (.iload_n 1, 1) := by decide +kernel
theorem dX9_fetch_103 : decode cX9_fetch 103 = .ok (.iload_n 3, 1) := by decide +kernel
theorem dX9_fetch_104 : decode cX9_fetch 104 = .ok (.invokevirtual 104, 3) := by decide +kernel
theorem dX9_fetch_107 : decode cX9_fetch 107 = .ok (.return_, 1) := by decide +kernel
