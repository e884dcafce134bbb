theorem dX0_init_0 : decode cX0_init 0 = .ok (.aload_n 0, 1) := by decide +kernel
theorem dX0_init_1 : decode cX0_init 1 = .ok (.invokespecial 3, 3) := by decide +kernel
theorem dX0_init_4 : decode cX0_init 4 = .ok (.aload_n 0, 1) := by decide +kernel
theorem dX0_init_5 : decode cX0_init 5 = .ok (.iconst (-1), 1) := by decide +kernel
theorem dX0_init_6 : decode cX0_init 6 = .ok (.putfield 9, 3) := by decide +kernel
theorem dX0_init_9 : decode cX0_init 9 = .ok (.return_, 1) := by decide +kernel
theorem dX0_changeBy_0 : decode cX0_changeBy 0 = .ok (.aload_n 0, 1) := by decide +kernel
theorem dX0_changeBy_1 : decode cX0_changeBy 1 = .ok (.dup, 1) := by decide +kernel
theorem dX0_changeBy_2 : decode cX0_changeBy 2 = .ok (.getfield 15, 3) := by decide +kernel
theorem dX0_changeBy_5 : decode cX0_changeBy 5 = .ok (.iload_n 1, 1) := by decide +kernel
theorem dX0_changeBy_6 : decode cX0_changeBy 6 = .ok (.iadd, 1) := by decide +kernel
theorem dX0_changeBy_7 : decode cX0_changeBy 7 = .ok (.putfield 15, 3) := by decide +kernel
theorem dX0_changeBy_10 : decode cX0_changeBy 10 = .ok (.iload_n 1, 1) := by decide +kernel
theorem dX0_changeBy_11 : decode cX0_changeBy 11 = .ok (.ifCond .le 17, 3) := by decide +kernel
theorem dX0_changeBy_14 : decode cX0_changeBy 14 = .ok (.aload_n 0, 1) := by decide +kernel
theorem dX0_changeBy_15 : decode cX0_changeBy 15 = .ok (.dup, 1) := by decide +kernel
theorem dX0_changeBy_16 : decode cX0_changeBy 16 = .ok (.getfield 18, 3) := by decide +kernel
theorem dX0_changeBy_19 : decode cX0_changeBy 19 = .ok (.iload_n 1, 1) := by decide +kernel
theorem dX0_changeBy_20 : decode cX0_changeBy 20 = .ok (.i2l, 1) := by decide +kernel
theorem dX0_changeBy_21 : decode cX0_changeBy 21 = .ok (.ladd, 1) := by decide +kernel
theorem dX0_changeBy_22 : decode cX0_changeBy 22 = .ok (.putfield 18, 3) := by decide +kernel
theorem dX0_changeBy_25 : decode cX0_changeBy 25 = .ok (.goto 14, 3) := by decide +kernel
theorem dX0_changeBy_28 : decode cX0_changeBy 28 = .ok (.aload_n 0, 1) := by decide +kernel
theorem dX0_changeBy_29 : decode cX0_changeBy 29 = .ok (.dup, 1) := by decide +kernel
theorem dX0_changeBy_30 : decode cX0_changeBy 30 = .ok (.getfield 22, 3) := by decide +kernel
theorem dX0_changeBy_33 : decode cX0_changeBy 33 = .ok (.iload_n 1, 1) := by decide +kernel
theorem dX0_changeBy_34 : decode cX0_changeBy 34 = .ok (.i2l, 1) := by decide +kernel
theorem dX0_changeBy_35 : decode cX0_changeBy 35 = .ok (.lsub, 1) := by decide +kernel
theorem dX0_changeBy_36 : decode cX0_changeBy 36 = .ok (.putfield 22, 3) := by decide +kernel
theorem dX0_changeBy_39 : decode cX0_changeBy 39 = .ok (.return_, 1) := by decide +kernel
theorem dX1_init_0 : decode cX1_init 0 = .ok (.aload_n 0, 1) := by decide +kernel
theorem dX1_init_1 : decode cX1_init 1 = .ok (.invokespecial 3, 3) := by decide +kernel
theorem dX1_init_4 : decode cX1_init 4 = .ok (.aload_n 0, 1) := by decide +kernel
theorem dX1_init_5 : decode cX1_init 5 = .ok (.bipush 12, 2) := by decide +kernel
theorem dX1_init_7 : decode cX1_init 7 = .ok (.newarray .int, 2) := by decide +kernel
theorem dX1_init_9 : decode cX1_init 9 = .ok (.putfield 9, 3) := by decide +kernel
theorem dX1_init_12 : decode cX1_init 12 = .ok (.aload_n 0, 1) := by decide +kernel
theorem dX1_init_13 : decode cX1_init 13 = .ok (.bipush 12, 2) := by decide +kernel
theorem dX1_init_15 : decode cX1_init 15 = .ok (.newarray .int, 2) := by decide +kernel
theorem dX1_init_17 : decode cX1_init 17 = .ok (.putfield 15, 3) := by decide +kernel
theorem dX1_init_20 : decode cX1_init 20 = .ok (.return_, 1) := by decide +kernel
theorem dX1_clear_0 : decode cX1_clear 0 = .ok (.iconst 0, 1) := by decide +kernel
theorem dX1_clear_1 : decode cX1_clear 1 = .ok (.istore_n 1, 1) := by decide +kernel
theorem dX1_clear_2 : decode cX1_clear 2 = .ok (.iload_n 1, 1) := by decide +kernel
theorem dX1_clear_3 : decode cX1_clear 3 = .ok (.bipush 12, 2) := by decide +kernel
theorem dX1_clear_5 : decode cX1_clear 5 = .ok (.if_icmp .ge 16, 3) := by decide +kernel
theorem dX1_clear_8 : decode cX1_clear 8 = .ok (.aload_n 0, 1) := by decide +kernel
theorem dX1_clear_9 : decode cX1_clear 9 = .ok (.getfield 9, 3) := by decide +kernel
theorem dX1_clear_12 : decode cX1_clear 12 = .ok (.iload_n 1, 1) := by decide +kernel
theorem dX1_clear_13 : decode cX1_clear 13 = .ok (.iconst 0, 1) := by decide +kernel
theorem dX1_clear_14 : decode cX1_clear 14 = .ok (.iastore, 1) := by decide +kernel
theorem dX1_clear_15 : decode cX1_clear 15 = .ok (.iinc 1 1, 3) := by decide +kernel
theorem dX1_clear_18 : decode cX1_clear 18 = .ok (.goto (-16), 3) := by decide +kernel
theorem dX1_clear_21 : decode cX1_clear 21 = .ok (.iconst 0, 1) := by decide +kernel
theorem dX1_clear_22 : decode cX1_clear 22 = .ok (.istore_n 1, 1) := by decide +kernel
theorem dX1_clear_23 : decode cX1_clear 23 = .ok (.iload_n 1, 1) := by decide +kernel
theorem dX1_clear_24 : decode cX1_clear 24 = .ok (.bipush 12, 2) := by decide +kernel
theorem dX1_clear_26 : decode cX1_clear 26 = .ok (.if_icmp .ge 16, 3) := by decide +kernel
theorem dX1_clear_29 : decode cX1_clear 29 = .ok (.aload_n 0, 1) := by decide +kernel
theorem dX1_clear_30 : decode cX1_clear 30 = .ok (.getfield 15, 3) := by decide +kernel
theorem dX1_clear_33 : decode cX1_clear 33 = .ok (.iload_n 1, 1) := by decide +kernel
theorem dX1_clear_34 : decode cX1_clear 34 = .ok (.iconst 0, 1) := by decide +kernel
theorem dX1_clear_35 : decode cX1_clear 35 = .ok (.iastore, 1) := by decide +kernel
theorem dX1_clear_36 : decode cX1_clear 36 = .ok (.iinc 1 1, 3) := by decide +kernel
theorem dX1_clear_39 : decode cX1_clear 39 = .ok (.goto (-16), 3) := by decide +kernel
theorem dX1_clear_42 : decode cX1_clear 42 = .ok (.aload_n 0, 1) := by decide +kernel
theorem dX1_clear_43 : decode cX1_clear 43 = .ok (.iconst 0, 1) := by decide +kernel
theorem dX1_clear_44 : decode cX1_clear 44 = .ok (.putfield 18, 3) := by decide +kernel
theorem dX1_clear_47 : decode cX1_clear 47 = .ok (.aload_n 0, 1) := by decide +kernel
theorem dX1_clear_48 : decode cX1_clear 48 = .ok (.iconst 0, 1) := by decide +kernel
theorem dX1_clear_49 : decode cX1_clear 49 = .ok (.putfield 22, 3) := by decide +kernel
theorem dX1_clear_52 : decode cX1_clear 52 = .ok (.aload_n 0, 1) := by decide +kernel
theorem dX1_clear_53 : decode cX1_clear 53 = .ok (.iconst 0, 1) := by decide +kernel
theorem dX1_clear_54 : decode cX1_clear 54 = .ok (.putfield 25, 3) := by decide +kernel
theorem dX1_clear_57 : decode cX1_clear 57 = .ok (.aload_n 0, 1) := by decide +kernel
theorem dX1_clear_58 : decode cX1_clear 58 = .ok (.iconst 0, 1) := by decide +kernel
theorem dX1_clear_59 : decode cX1_clear 59 = .ok (.putfield 28, 3) := by decide +kernel
theorem dX1_clear_62 : decode cX1_clear 62 = .ok (.aload_n 0, 1) := by decide +kernel
theorem dX1_clear_63 : decode cX1_clear 63 = .ok (.iconst 0, 1) := by decide +kernel
theorem dX1_clear_64 : decode cX1_clear 64 = .ok (.putfield 32, 3) := by decide +kernel
theorem dX1_clear_67 : decode cX1_clear 67 = .ok (.return_, 1) := by decide +kernel
theorem dX2_init_0 : decode cX2_init 0 = .ok (.aload_n 0, 1) := by decide +kernel
theorem dX2_init_1 : decode cX2_init 1 = .ok (.invokespecial 3, 3) := by decide +kernel
theorem dX2_init_4 : decode cX2_init 4 = .ok (.aload_n 0, 1) := by decide +kernel
theorem dX2_init_5 : decode cX2_init 5 = .ok (.bipush 50, 2) := by decide +kernel
theorem dX2_init_7 : decode cX2_init 7 = .ok (.newarray .int, 2) := by decide +kernel
theorem dX2_init_9 : decode cX2_init 9 = .ok (.putfield 9, 3) := by decide +kernel
theorem dX2_init_12 : decode cX2_init 12 = .ok (.return_, 1) := by decide +kernel
theorem dX2_readText_0 : decode cX2_readText 0 = .ok (.aload_n 0, 1) := by decide +kernel
theorem dX2_readText_1 : decode cX2_readText 1 = .ok (.iconst 0, 1) := by decide +kernel
theorem dX2_readText_2 : decode cX2_readText 2 = .ok (.putfield 15, 3) := by decide +kernel
theorem dX2_readText_5 : decode cX2_readText 5 = .ok (.aload_n 0, 1) := by decide +kernel
theorem dX2_readText_6 : decode cX2_readText 6 = .ok (.getfield 19, 3) := by decide +kernel
theorem dX2_readText_9 : decode cX2_readText 9 = .ok (.ifCond .ne 5, 3) := by decide +kernel
theorem dX2_readText_12 : decode cX2_readText 12 = .ok (.iconst 1, 1) := by decide +kernel
theorem dX2_readText_13 : decode cX2_readText 13 = .ok (.ireturn, 1) := by decide +kernel
theorem dX2_readText_14 : decode cX2_readText 14 = .ok (.iconst 0, 1) := by decide +kernel
theorem dX2_readText_15 : decode cX2_readText 15 = .ok (.istore_n 2, 1) := by decide +kernel
theorem dX2_readText_16 : decode cX2_readText 16 = .ok (.iload_n 2, 1) := by decide +kernel
theorem dX2_readText_17 : decode cX2_readText 17 = .ok (.bipush 10, 2) := by decide +kernel
theorem dX2_readText_19 : decode cX2_readText 19 = .ok (.if_icmp .ge 47, 3) := by decide +kernel
theorem dX2_readText_22 : decode cX2_readText 22 = .ok (.iload_n 2, 1) := by decide +kernel
theorem dX2_readText_23 : decode cX2_readText 23 = .ok (.ifCond .le 14, 3) := by decide +kernel
theorem dX2_readText_26 : decode cX2_readText 26 = .ok (.aload_n 0, 1) := by decide +kernel
theorem dX2_readText_27 : decode cX2_readText 27 = .ok (.bipush 44, 2) := by decide +kernel
theorem dX2_readText_29 : decode cX2_readText 29 = .ok (.invokevirtual 22, 3) := by decide +kernel
theorem dX2_readText_32 : decode cX2_readText 32 = .ok (.ifCond .ne 5, 3) := by decide +kernel
theorem dX2_readText_35 : decode cX2_readText 35 = .ok (.iconst 0, 1) := by decide +kernel
theorem dX2_readText_36 : decode cX2_readText 36 = .ok (.ireturn, 1) := by decide +kernel
theorem dX2_readText_37 : decode cX2_readText 37 = .ok (.aload_n 0, 1) := by decide +kernel
theorem dX2_readText_38 : decode cX2_readText 38 = .ok (.aload_n 1, 1) := by decide +kernel
theorem dX2_readText_39 : decode cX2_readText 39 = .ok (.invokevirtual 26, 3) := by decide +kernel
theorem dX2_readText_42 : decode cX2_readText 42 = .ok (.ifCond .ne 5, 3) := by decide +kernel
theorem dX2_readText_45 : decode cX2_readText 45 = .ok (.iconst 0, 1) := by decide +kernel
theorem dX2_readText_46 : decode cX2_readText 46 = .ok (.ireturn, 1) := by decide +kernel
theorem dX2_readText_47 : decode cX2_readText 47 = .ok (.aload_n 0, 1) := by decide +kernel
theorem dX2_readText_48 : decode cX2_readText 48 = .ok (.getfield 15, 3) := by decide +kernel
theorem dX2_readText_51 : decode cX2_readText 51 = .ok (.aload_n 0, 1) := by decide +kernel
theorem dX2_readText_52 : decode cX2_readText 52 = .ok (.getfield 19, 3) := by decide +kernel
theorem dX2_readText_55 : decode cX2_readText 55 = .ok (.if_icmp .lt 5, 3) := by decide +kernel
theorem dX2_readText_58 : decode cX2_readText 58 = .ok (.iconst 1, 1) := by decide +kernel
theorem dX2_readText_59 : decode cX2_readText 59 = .ok (.ireturn, 1) := by decide +kernel
theorem dX2_readText_60 : decode cX2_readText 60 = .ok (.iinc 2 1, 3) := by decide +kernel
theorem dX2_readText_63 : decode cX2_readText 63 = .ok (.goto (-47), 3) := by decide +kernel
theorem dX2_readText_66 : decode cX2_readText 66 = .ok (.iconst 0, 1) := by decide +kernel
theorem dX2_readText_67 : decode cX2_readText 67 = .ok (.ireturn, 1) := by decide +kernel
theorem dX2_readClause_0 : decode cX2_readClause 0 = .ok (.aload_n 0, 1) := by decide +kernel
theorem dX2_readClause_1 : decode cX2_readClause 1 = .ok (.bipush 117, 2) := by decide +kernel
theorem dX2_readClause_3 : decode cX2_readClause 3 = .ok (.invokevirtual 22, 3) := by decide +kernel
theorem dX2_readClause_6 : decode cX2_readClause 6 = .ok (.ifCond .eq 9, 3) := by decide +kernel
theorem dX2_readClause_9 : decode cX2_readClause 9 = .ok (.aload_n 0, 1) := by decide +kernel
theorem dX2_readClause_10 : decode cX2_readClause 10 = .ok (.aload_n 1, 1) := by decide +kernel
theorem dX2_readClause_11 : decode cX2_readClause 11 = .ok (.invokevirtual 30, 3) := by decide +kernel
theorem dX2_readClause_14 : decode cX2_readClause 14 = .ok (.ireturn, 1) := by decide +kernel
theorem dX2_readClause_15 : decode cX2_readClause 15 = .ok (.aload_n 0, 1) := by decide +kernel
theorem dX2_readClause_16 : decode cX2_readClause 16 = .ok (.bipush 98, 2) := by decide +kernel
theorem dX2_readClause_18 : decode cX2_readClause 18 = .ok (.invokevirtual 22, 3) := by decide +kernel
theorem dX2_readClause_21 : decode cX2_readClause 21 = .ok (.ifCond .eq 9, 3) := by decide +kernel
theorem dX2_readClause_24 : decode cX2_readClause 24 = .ok (.aload_n 0, 1) := by decide +kernel
theorem dX2_readClause_25 : decode cX2_readClause 25 = .ok (.aload_n 1, 1) := by decide +kernel
theorem dX2_readClause_26 : decode cX2_readClause 26 = .ok (.invokevirtual 33, 3) := by decide +kernel
theorem dX2_readClause_29 : decode cX2_readClause 29 = .ok (.ireturn, 1) := by decide +kernel
theorem dX2_readClause_30 : decode cX2_readClause 30 = .ok (.aload_n 0, 1) := by decide +kernel
theorem dX2_readClause_31 : decode cX2_readClause 31 = .ok (.bipush 120, 2) := by decide +kernel
theorem dX2_readClause_33 : decode cX2_readClause 33 = .ok (.invokevirtual 22, 3) := by decide +kernel
theorem dX2_readClause_36 : decode cX2_readClause 36 = .ok (.ifCond .eq 9, 3) := by decide +kernel
theorem dX2_readClause_39 : decode cX2_readClause 39 = .ok (.aload_n 0, 1) := by decide +kernel
theorem dX2_readClause_40 : decode cX2_readClause 40 = .ok (.aload_n 1, 1) := by decide +kernel
theorem dX2_readClause_41 : decode cX2_readClause 41 = .ok (.invokevirtual 36, 3) := by decide +kernel
theorem dX2_readClause_44 : decode cX2_readClause 44 = .ok (.ireturn, 1) := by decide +kernel
theorem dX2_readClause_45 : decode cX2_readClause 45 = .ok (.aload_n 0, 1) := by decide +kernel
theorem dX2_readClause_46 : decode cX2_readClause 46 = .ok (.bipush 97, 2) := by decide +kernel
theorem dX2_readClause_48 : decode cX2_readClause 48 = .ok (.invokevirtual 22, 3) := by decide +kernel
theorem dX2_readClause_51 : decode cX2_readClause 51 = .ok (.ifCond .eq 9, 3) := by decide +kernel
theorem dX2_readClause_54 : decode cX2_readClause 54 = .ok (.aload_n 0, 1) := by decide +kernel
theorem dX2_readClause_55 : decode cX2_readClause 55 = .ok (.aload_n 1, 1) := by decide +kernel
theorem dX2_readClause_56 : decode cX2_readClause 56 = .ok (.invokevirtual 39, 3) := by decide +kernel
theorem dX2_readClause_59 : decode cX2_readClause 59 = .ok (.ireturn, 1) := by decide +kernel
theorem dX2_readClause_60 : decode cX2_readClause 60 = .ok (.aload_n 0, 1) := by decide +kernel
theorem dX2_readClause_61 : decode cX2_readClause 61 = .ok (.bipush 116, 2) := by decide +kernel
theorem dX2_readClause_63 : decode cX2_readClause 63 = .ok (.invokevirtual 22, 3) := by decide +kernel
theorem dX2_readClause_66 : decode cX2_readClause 66 = .ok (.ifCond .eq 10, 3) := by decide +kernel
theorem dX2_readClause_69 : decode cX2_readClause 69 = .ok (.aload_n 1, 1) := by decide +kernel
theorem dX2_readClause_70 : decode cX2_readClause 70 = .ok (.iconst 1, 1) := by decide +kernel
theorem dX2_readClause_71 : decode cX2_readClause 71 = .ok (.putfield 42, 3) := by decide +kernel
theorem dX2_readClause_74 : decode cX2_readClause 74 = .ok (.iconst 1, 1) := by decide +kernel
theorem dX2_readClause_75 : decode cX2_readClause 75 = .ok (.ireturn, 1) := by decide +kernel
theorem dX2_readClause_76 : decode cX2_readClause 76 = .ok (.aload_n 0, 1) := by decide +kernel
theorem dX2_readClause_77 : decode cX2_readClause 77 = .ok (.bipush 105, 2) := by decide +kernel
theorem dX2_readClause_79 : decode cX2_readClause 79 = .ok (.invokevirtual 22, 3) := by decide +kernel
theorem dX2_readClause_82 : decode cX2_readClause 82 = .ok (.ifCond .eq 10, 3) := by decide +kernel
theorem dX2_readClause_85 : decode cX2_readClause 85 = .ok (.aload_n 1, 1) := by decide +kernel
theorem dX2_readClause_86 : decode cX2_readClause 86 = .ok (.iconst 1, 1) := by decide +kernel
theorem dX2_readClause_87 : decode cX2_readClause 87 = .ok (.putfield 48, 3) := by decide +kernel
theorem dX2_readClause_90 : decode cX2_readClause 90 = .ok (.iconst 1, 1) := by decide +kernel
theorem dX2_readClause_91 : decode cX2_readClause 91 = .ok (.ireturn, 1) := by decide +kernel
theorem dX2_readClause_92 : decode cX2_readClause 92 = .ok (.iconst 0, 1) := by decide +kernel
theorem dX2_readClause_93 : decode cX2_readClause 93 = .ok (.ireturn, 1) := by decide +kernel
theorem dX2_readUse_0 : decode cX2_readUse 0 = .ok (.aload_n 0, 1) := by decide +kernel
theorem dX2_readUse_1 : decode cX2_readUse 1 = .ok (.iconst 0, 1) := by decide +kernel
theorem dX2_readUse_2 : decode cX2_readUse 2 = .ok (.bipush 11, 2) := by decide +kernel
theorem dX2_readUse_4 : decode cX2_readUse 4 = .ok (.invokevirtual 51, 3) := by decide +kernel
theorem dX2_readUse_7 : decode cX2_readUse 7 = .ok (.istore_n 2, 1) := by decide +kernel
theorem dX2_readUse_8 : decode cX2_readUse 8 = .ok (.iload_n 2, 1) := by decide +kernel
theorem dX2_readUse_9 : decode cX2_readUse 9 = .ok (.iconst (-1), 1) := by decide +kernel
theorem dX2_readUse_10 : decode cX2_readUse 10 = .ok (.if_icmp .eq 12, 3) := by decide +kernel
theorem dX2_readUse_13 : decode cX2_readUse 13 = .ok (.aload_n 0, 1) := by decide +kernel
theorem dX2_readUse_14 : decode cX2_readUse 14 = .ok (.bipush 42, 2) := by decide +kernel
theorem dX2_readUse_16 : decode cX2_readUse 16 = .ok (.invokevirtual 22, 3) := by decide +kernel
theorem dX2_readUse_19 : decode cX2_readUse 19 = .ok (.ifCond .ne 5, 3) := by decide +kernel
theorem dX2_readUse_22 : decode cX2_readUse 22 = .ok (.iconst 0, 1) := by decide +kernel
theorem dX2_readUse_23 : decode cX2_readUse 23 = .ok (.ireturn, 1) := by decide +kernel
theorem dX2_readUse_24 : decode cX2_readUse 24 = .ok (.aload_n 0, 1) := by decide +kernel
theorem dX2_readUse_25 : decode cX2_readUse 25 = .ok (.iconst 1, 1) := by decide +kernel
theorem dX2_readUse_26 : decode cX2_readUse 26 = .ok (.sipush 9999, 3) := by decide +kernel
theorem dX2_readUse_29 : decode cX2_readUse 29 = .ok (.invokevirtual 51, 3) := by decide +kernel
theorem dX2_readUse_32 : decode cX2_readUse 32 = .ok (.istore_n 3, 1) := by decide +kernel
theorem dX2_readUse_33 : decode cX2_readUse 33 = .ok (.iload_n 3, 1) := by decide +kernel
theorem dX2_readUse_34 : decode cX2_readUse 34 = .ok (.iconst (-1), 1) := by decide +kernel
theorem dX2_readUse_35 : decode cX2_readUse 35 = .ok (.if_icmp .ne 5, 3) := by decide +kernel
theorem dX2_readUse_38 : decode cX2_readUse 38 = .ok (.iconst 0, 1) := by decide +kernel
theorem dX2_readUse_39 : decode cX2_readUse 39 = .ok (.ireturn, 1) := by decide +kernel
theorem dX2_readUse_40 : decode cX2_readUse 40 = .ok (.aload_n 1, 1) := by decide +kernel
theorem dX2_readUse_41 : decode cX2_readUse 41 = .ok (.getfield 55, 3) := by decide +kernel
theorem dX2_readUse_44 : decode cX2_readUse 44 = .ok (.iload_n 2, 1) := by decide +kernel
theorem dX2_readUse_45 : decode cX2_readUse 45 = .ok (.dup2, 1) := by decide +kernel
theorem dX2_readUse_46 : decode cX2_readUse 46 = .ok (.iaload, 1) := by decide +kernel
theorem dX2_readUse_47 : decode cX2_readUse 47 = .ok (.iload_n 3, 1) := by decide +kernel
theorem dX2_readUse_48 : decode cX2_readUse 48 = .ok (.iadd, 1) := by decide +kernel
theorem dX2_readUse_49 : decode cX2_readUse 49 = .ok (.iastore, 1) := by decide +kernel
theorem dX2_readUse_50 : decode cX2_readUse 50 = .ok (.iconst 1, 1) := by decide +kernel
theorem dX2_readUse_51 : decode cX2_readUse 51 = .ok (.ireturn, 1) := by decide +kernel
theorem dX2_readBar_0 : decode cX2_readBar 0 = .ok (.aload_n 0, 1) := by decide +kernel
theorem dX2_readBar_1 : decode cX2_readBar 1 = .ok (.iconst 0, 1) := by decide +kernel
theorem dX2_readBar_2 : decode cX2_readBar 2 = .ok (.bipush 9, 2) := by decide +kernel
theorem dX2_readBar_4 : decode cX2_readBar 4 = .ok (.invokevirtual 51, 3) := by decide +kernel
theorem dX2_readBar_7 : decode cX2_readBar 7 = .ok (.istore_n 2, 1) := by decide +kernel
theorem dX2_readBar_8 : decode cX2_readBar 8 = .ok (.iload_n 2, 1) := by decide +kernel
theorem dX2_readBar_9 : decode cX2_readBar 9 = .ok (.iconst (-1), 1) := by decide +kernel
theorem dX2_readBar_10 : decode cX2_readBar 10 = .ok (.if_icmp .ne 5, 3) := by decide +kernel
theorem dX2_readBar_13 : decode cX2_readBar 13 = .ok (.iconst 0, 1) := by decide +kernel
theorem dX2_readBar_14 : decode cX2_readBar 14 = .ok (.ireturn, 1) := by decide +kernel
theorem dX2_readBar_15 : decode cX2_readBar 15 = .ok (.aload_n 1, 1) := by decide +kernel
theorem dX2_readBar_16 : decode cX2_readBar 16 = .ok (.aload_n 1, 1) := by decide +kernel
theorem dX2_readBar_17 : decode cX2_readBar 17 = .ok (.getfield 58, 3) := by decide +kernel
theorem dX2_readBar_20 : decode cX2_readBar 20 = .ok (.iload_n 2, 1) := by decide +kernel
theorem dX2_readBar_21 : decode cX2_readBar 21 = .ok (.iconst 1, 1) := by decide +kernel
theorem dX2_readBar_22 : decode cX2_readBar 22 = .ok (.invokestatic 61, 3) := by decide +kernel
theorem dX2_readBar_25 : decode cX2_readBar 25 = .ok (.putfield 58, 3) := by decide +kernel
theorem dX2_readBar_28 : decode cX2_readBar 28 = .ok (.iconst 1, 1) := by decide +kernel
theorem dX2_readBar_29 : decode cX2_readBar 29 = .ok (.ireturn, 1) := by decide +kernel
theorem dX2_readNotBehind_0 : decode cX2_readNotBehind 0 = .ok (.aload_n 0, 1) := by decide +kernel
theorem dX2_readNotBehind_1 : decode cX2_readNotBehind 1 = .ok (.iconst 0, 1) := by decide +kernel
theorem dX2_readNotBehind_2 : decode cX2_readNotBehind 2 = .ok (.bipush 11, 2) := by decide +kernel
theorem dX2_readNotBehind_4 : decode cX2_readNotBehind 4 = .ok (.invokevirtual 51, 3) := by decide +kernel
theorem dX2_readNotBehind_7 : decode cX2_readNotBehind 7 = .ok (.istore_n 2, 1) := by decide +kernel
theorem dX2_readNotBehind_8 : decode cX2_readNotBehind 8 = .ok (.iload_n 2, 1) := by decide +kernel
theorem dX2_readNotBehind_9 : decode cX2_readNotBehind 9 = .ok (.iconst (-1), 1) := by decide +kernel
theorem dX2_readNotBehind_10 : decode cX2_readNotBehind 10 = .ok (.if_icmp .ne 5, 3) := by decide +kernel
theorem dX2_readNotBehind_13 : decode cX2_readNotBehind 13 = .ok (.iconst 0, 1) := by decide +kernel
theorem dX2_readNotBehind_14 : decode cX2_readNotBehind 14 = .ok (.ireturn, 1) := by decide +kernel
theorem dX2_readNotBehind_15 : decode cX2_readNotBehind 15 = .ok (.aload_n 1, 1) := by decide +kernel
theorem dX2_readNotBehind_16 : decode cX2_readNotBehind 16 = .ok (.aload_n 1, 1) := by decide +kernel
theorem dX2_readNotBehind_17 : decode cX2_readNotBehind 17 = .ok (.getfield 65, 3) := by decide +kernel
theorem dX2_readNotBehind_20 : decode cX2_readNotBehind 20 = .ok (.iload_n 2, 1) := by decide +kernel
theorem dX2_readNotBehind_21 : decode cX2_readNotBehind 21 = .ok (.iconst 1, 1) := by decide +kernel
theorem dX2_readNotBehind_22 : decode cX2_readNotBehind 22 = .ok (.invokestatic 61, 3) := by decide +kernel
theorem dX2_readNotBehind_25 : decode cX2_readNotBehind 25 = .ok (.putfield 65, 3) := by decide +kernel
theorem dX2_readNotBehind_28 : decode cX2_readNotBehind 28 = .ok (.iconst 1, 1) := by decide +kernel
theorem dX2_readNotBehind_29 : decode cX2_readNotBehind 29 = .ok (.ireturn, 1) := by decide +kernel
theorem dX2_readAfter_0 : decode cX2_readAfter 0 = .ok (.aload_n 0, 1) := by decide +kernel
theorem dX2_readAfter_1 : decode cX2_readAfter 1 = .ok (.iconst 0, 1) := by decide +kernel
theorem dX2_readAfter_2 : decode cX2_readAfter 2 = .ok (.bipush 11, 2) := by decide +kernel
theorem dX2_readAfter_4 : decode cX2_readAfter 4 = .ok (.invokevirtual 51, 3) := by decide +kernel
theorem dX2_readAfter_7 : decode cX2_readAfter 7 = .ok (.istore_n 2, 1) := by decide +kernel
theorem dX2_readAfter_8 : decode cX2_readAfter 8 = .ok (.iload_n 2, 1) := by decide +kernel
theorem dX2_readAfter_9 : decode cX2_readAfter 9 = .ok (.iconst (-1), 1) := by decide +kernel
theorem dX2_readAfter_10 : decode cX2_readAfter 10 = .ok (.if_icmp .eq 12, 3) := by decide +kernel
theorem dX2_readAfter_13 : decode cX2_readAfter 13 = .ok (.aload_n 0, 1) := by decide +kernel
theorem dX2_readAfter_14 : decode cX2_readAfter 14 = .ok (.bipush 58, 2) := by decide +kernel
theorem dX2_readAfter_16 : decode cX2_readAfter 16 = .ok (.invokevirtual 22, 3) := by decide +kernel
theorem dX2_readAfter_19 : decode cX2_readAfter 19 = .ok (.ifCond .ne 5, 3) := by decide +kernel
theorem dX2_readAfter_22 : decode cX2_readAfter 22 = .ok (.iconst 0, 1) := by decide +kernel
theorem dX2_readAfter_23 : decode cX2_readAfter 23 = .ok (.ireturn, 1) := by decide +kernel
theorem dX2_readAfter_24 : decode cX2_readAfter 24 = .ok (.aload_n 0, 1) := by decide +kernel
theorem dX2_readAfter_25 : decode cX2_readAfter 25 = .ok (.iconst 0, 1) := by decide +kernel
theorem dX2_readAfter_26 : decode cX2_readAfter 26 = .ok (.sipush 9999, 3) := by decide +kernel
theorem dX2_readAfter_29 : decode cX2_readAfter 29 = .ok (.invokevirtual 51, 3) := by decide +kernel
theorem dX2_readAfter_32 : decode cX2_readAfter 32 = .ok (.istore_n 3, 1) := by decide +kernel
theorem dX2_readAfter_33 : decode cX2_readAfter 33 = .ok (.iload_n 3, 1) := by decide +kernel
theorem dX2_readAfter_34 : decode cX2_readAfter 34 = .ok (.iconst (-1), 1) := by decide +kernel
theorem dX2_readAfter_35 : decode cX2_readAfter 35 = .ok (.if_icmp .ne 5, 3) := by decide +kernel
theorem dX2_readAfter_38 : decode cX2_readAfter 38 = .ok (.iconst 0, 1) := by decide +kernel
theorem dX2_readAfter_39 : decode cX2_readAfter 39 = .ok (.ireturn, 1) := by decide +kernel
theorem dX2_readAfter_40 : decode cX2_readAfter 40 = .ok (.aload_n 1, 1) := by decide +kernel
theorem dX2_readAfter_41 : decode cX2_readAfter 41 = .ok (.aload_n 1, 1) := by decide +kernel
theorem dX2_readAfter_42 : decode cX2_readAfter 42 = .ok (.getfield 68, 3) := by decide +kernel
theorem dX2_readAfter_45 : decode cX2_readAfter 45 = .ok (.iload_n 2, 1) := by decide +kernel
theorem dX2_readAfter_46 : decode cX2_readAfter 46 = .ok (.iconst 1, 1) := by decide +kernel
theorem dX2_readAfter_47 : decode cX2_readAfter 47 = .ok (.invokestatic 61, 3) := by decide +kernel
theorem dX2_readAfter_50 : decode cX2_readAfter 50 = .ok (.putfield 68, 3) := by decide +kernel
theorem dX2_readAfter_53 : decode cX2_readAfter 53 = .ok (.aload_n 1, 1) := by decide +kernel
theorem dX2_readAfter_54 : decode cX2_readAfter 54 = .ok (.getfield 71, 3) := by decide +kernel
theorem dX2_readAfter_57 : decode cX2_readAfter 57 = .ok (.iload_n 2, 1) := by decide +kernel
theorem dX2_readAfter_58 : decode cX2_readAfter 58 = .ok (.aload_n 1, 1) := by decide +kernel
theorem dX2_readAfter_59 : decode cX2_readAfter 59 = .ok (.getfield 71, 3) := by decide +kernel
theorem dX2_readAfter_62 : decode cX2_readAfter 62 = .ok (.iload_n 2, 1) := by decide +kernel
theorem dX2_readAfter_63 : decode cX2_readAfter 63 = .ok (.iaload, 1) := by decide +kernel
theorem dX2_readAfter_64 : decode cX2_readAfter 64 = .ok (.iload_n 3, 1) := by decide +kernel
theorem dX2_readAfter_65 : decode cX2_readAfter 65 = .ok (.invokestatic 74, 3) := by decide +kernel
theorem dX2_readAfter_68 : decode cX2_readAfter 68 = .ok (.iastore, 1) := by decide +kernel
theorem dX2_readAfter_69 : decode cX2_readAfter 69 = .ok (.iconst 1, 1) := by decide +kernel
theorem dX2_readAfter_70 : decode cX2_readAfter 70 = .ok (.ireturn, 1) := by decide +kernel
theorem dX2_readNumber_0 : decode cX2_readNumber 0 = .ok (.iconst 0, 1) := by decide +kernel
theorem dX2_readNumber_1 : decode cX2_readNumber 1 = .ok (.istore_n 3, 1) := by decide +kernel
theorem dX2_readNumber_2 : decode cX2_readNumber 2 = .ok (.iconst 0, 1) := by decide +kernel
theorem dX2_readNumber_3 : decode cX2_readNumber 3 = .ok (.istore 4, 2) := by decide +kernel
theorem dX2_readNumber_5 : decode cX2_readNumber 5 = .ok (.iload 4, 2) := by decide +kernel
theorem dX2_readNumber_7 : decode cX2_readNumber 7 = .ok (.iconst 4, 1) := by decide +kernel
theorem dX2_readNumber_8 : decode cX2_readNumber 8 = .ok (.if_icmp .ge 67, 3) := by decide +kernel
theorem dX2_readNumber_11 : decode cX2_readNumber 11 = .ok (.aload_n 0, 1) := by decide +kernel
theorem dX2_readNumber_12 : decode cX2_readNumber 12 = .ok (.invokevirtual 79, 3) := by decide +kernel
theorem dX2_readNumber_15 : decode cX2_readNumber 15 = .ok (.invokestatic 83, 3) := by decide +kernel
theorem dX2_readNumber_18 : decode cX2_readNumber 18 = .ok (.ifCond .eq 57, 3) := by decide +kernel
theorem dX2_readNumber_21 : decode cX2_readNumber 21 = .ok (.iload_n 3, 1) := by decide +kernel
theorem dX2_readNumber_22 : decode cX2_readNumber 22 = .ok (.bipush 10, 2) := by decide +kernel
theorem dX2_readNumber_24 : decode cX2_readNumber 24 = .ok (.imul, 1) := by decide +kernel
theorem dX2_readNumber_25 : decode cX2_readNumber 25 = .ok (.aload_n 0, 1) := by decide +kernel
theorem dX2_readNumber_26 : decode cX2_readNumber 26 = .ok (.invokevirtual 79, 3) := by decide +kernel
theorem dX2_readNumber_29 : decode cX2_readNumber 29 = .ok (.bipush 48, 2) := by decide +kernel
theorem dX2_readNumber_31 : decode cX2_readNumber 31 = .ok (.isub, 1) := by decide +kernel
theorem dX2_readNumber_32 : decode cX2_readNumber 32 = .ok (.iadd, 1) := by decide +kernel
theorem dX2_readNumber_33 : decode cX2_readNumber 33 = .ok (.istore 5, 2) := by decide +kernel
theorem dX2_readNumber_35 : decode cX2_readNumber 35 = .ok (.iload 5, 2) := by decide +kernel
theorem dX2_readNumber_37 : decode cX2_readNumber 37 = .ok (.iload_n 2, 1) := by decide +kernel
theorem dX2_readNumber_38 : decode cX2_readNumber 38 = .ok (.if_icmp .gt 37, 3) := by decide +kernel
theorem dX2_readNumber_41 : decode cX2_readNumber 41 = .ok (.iload 4, 2) := by decide +kernel
theorem dX2_readNumber_43 : decode cX2_readNumber 43 = .ok (.iconst 3, 1) := by decide +kernel
theorem dX2_readNumber_44 : decode cX2_readNumber 44 = .ok (.if_icmp .ne 12, 3) := by decide +kernel
theorem dX2_readNumber_47 : decode cX2_readNumber 47 = .ok (.iload 5, 2) := by decide +kernel
theorem dX2_readNumber_49 : decode cX2_readNumber 49 = .ok (.iload_n 1, 1) := by decide +kernel
theorem dX2_readNumber_50 : decode cX2_readNumber 50 = .ok (.if_icmp .ge 6, 3) := by decide +kernel
theorem dX2_readNumber_53 : decode cX2_readNumber 53 = .ok (.goto 22, 3) := by decide +kernel
theorem dX2_readNumber_56 : decode cX2_readNumber 56 = .ok (.iload 5, 2) := by decide +kernel
theorem dX2_readNumber_58 : decode cX2_readNumber 58 = .ok (.istore_n 3, 1) := by decide +kernel
theorem dX2_readNumber_59 : decode cX2_readNumber 59 = .ok (.iinc 4 1, 3) := by decide +kernel
theorem dX2_readNumber_62 : decode cX2_readNumber 62 = .ok (.aload_n 0, 1) := by decide +kernel
theorem dX2_readNumber_63 : decode cX2_readNumber 63 = .ok (.dup, 1) := by decide +kernel
theorem dX2_readNumber_64 : decode cX2_readNumber 64 = .ok (.getfield 15, 3) := by decide +kernel
theorem dX2_readNumber_67 : decode cX2_readNumber 67 = .ok (.iconst 1, 1) := by decide +kernel
theorem dX2_readNumber_68 : decode cX2_readNumber 68 = .ok (.iadd, 1) := by decide +kernel
theorem dX2_readNumber_69 : decode cX2_readNumber 69 = .ok (.putfield 15, 3) := by decide +kernel
theorem dX2_readNumber_72 : decode cX2_readNumber 72 = .ok (.goto (-67), 3) := by decide +kernel
theorem dX2_readNumber_75 : decode cX2_readNumber 75 = .ok (.iload 4, 2) := by decide +kernel
theorem dX2_readNumber_77 : decode cX2_readNumber 77 = .ok (.ifCond .eq 8, 3) := by decide +kernel
theorem dX2_readNumber_80 : decode cX2_readNumber 80 = .ok (.iload_n 3, 1) := by decide +kernel
theorem dX2_readNumber_81 : decode cX2_readNumber 81 = .ok (.iload_n 1, 1) := by decide +kernel
theorem dX2_readNumber_82 : decode cX2_readNumber 82 = .ok (.if_icmp .ge 7, 3) := by decide +kernel
theorem dX2_readNumber_85 : decode cX2_readNumber 85 = .ok (.iconst (-1), 1) := by decide +kernel
theorem dX2_readNumber_86 : decode cX2_readNumber 86 = .ok (.goto 4, 3) := by decide +kernel
theorem dX2_readNumber_89 : decode cX2_readNumber 89 = .ok (.iload_n 3, 1) := by decide +kernel
theorem dX2_readNumber_90 : decode cX2_readNumber 90 = .ok (.ireturn, 1) := by decide +kernel
theorem dX2_take_0 : decode cX2_take 0 = .ok (.aload_n 0, 1) := by decide +kernel
theorem dX2_take_1 : decode cX2_take 1 = .ok (.invokevirtual 79, 3) := by decide +kernel
theorem dX2_take_4 : decode cX2_take 4 = .ok (.iload_n 1, 1) := by decide +kernel
theorem dX2_take_5 : decode cX2_take 5 = .ok (.if_icmp .eq 5, 3) := by decide +kernel
theorem dX2_take_8 : decode cX2_take 8 = .ok (.iconst 0, 1) := by decide +kernel
theorem dX2_take_9 : decode cX2_take 9 = .ok (.ireturn, 1) := by decide +kernel
theorem dX2_take_10 : decode cX2_take 10 = .ok (.aload_n 0, 1) := by decide +kernel
theorem dX2_take_11 : decode cX2_take 11 = .ok (.dup, 1) := by decide +kernel
theorem dX2_take_12 : decode cX2_take 12 = .ok (.getfield 15, 3) := by decide +kernel
theorem dX2_take_15 : decode cX2_take 15 = .ok (.iconst 1, 1) := by decide +kernel
theorem dX2_take_16 : decode cX2_take 16 = .ok (.iadd, 1) := by decide +kernel
theorem dX2_take_17 : decode cX2_take 17 = .ok (.putfield 15, 3) := by decide +kernel
theorem dX2_take_20 : decode cX2_take 20 = .ok (.iconst 1, 1) := by decide +kernel
theorem dX2_take_21 : decode cX2_take 21 = .ok (.ireturn, 1) := by decide +kernel
theorem dX2_signHere_0 : decode cX2_signHere 0 = .ok (.aload_n 0, 1) := by decide +kernel
theorem dX2_signHere_1 : decode cX2_signHere 1 = .ok (.getfield 15, 3) := by decide +kernel
theorem dX2_signHere_4 : decode cX2_signHere 4 = .ok (.aload_n 0, 1) := by decide +kernel
theorem dX2_signHere_5 : decode cX2_signHere 5 = .ok (.getfield 19, 3) := by decide +kernel
theorem dX2_signHere_8 : decode cX2_signHere 8 = .ok (.if_icmp .ge 15, 3) := by decide +kernel
theorem dX2_signHere_11 : decode cX2_signHere 11 = .ok (.aload_n 0, 1) := by decide +kernel
theorem dX2_signHere_12 : decode cX2_signHere 12 = .ok (.getfield 9, 3) := by decide +kernel
theorem dX2_signHere_15 : decode cX2_signHere 15 = .ok (.aload_n 0, 1) := by decide +kernel
theorem dX2_signHere_16 : decode cX2_signHere 16 = .ok (.getfield 15, 3) := by decide +kernel
theorem dX2_signHere_19 : decode cX2_signHere 19 = .ok (.iaload, 1) := by decide +kernel
theorem dX2_signHere_20 : decode cX2_signHere 20 = .ok (.goto 4, 3) := by decide +kernel
theorem dX2_signHere_23 : decode cX2_signHere 23 = .ok (.iconst (-1), 1) := by decide +kernel
theorem dX2_signHere_24 : decode cX2_signHere 24 = .ok (.ireturn, 1) := by decide +kernel
theorem dX2_isDigit_0 : decode cX2_isDigit 0 = .ok (.iload_n 0, 1) := by decide +kernel
theorem dX2_isDigit_1 : decode cX2_isDigit 1 = .ok (.bipush 48, 2) := by decide +kernel
theorem dX2_isDigit_3 : decode cX2_isDigit 3 = .ok (.if_icmp .lt 13, 3) := by decide +kernel
theorem dX2_isDigit_6 : decode cX2_isDigit 6 = .ok (.iload_n 0, 1) := by decide +kernel
theorem dX2_isDigit_7 : decode cX2_isDigit 7 = .ok (.bipush 57, 2) := by decide +kernel
theorem dX2_isDigit_9 : decode cX2_isDigit 9 = .ok (.if_icmp .gt 7, 3) := by decide +kernel
theorem dX2_isDigit_12 : decode cX2_isDigit 12 = .ok (.iconst 1, 1) := by decide +kernel
theorem dX2_isDigit_13 : decode cX2_isDigit 13 = .ok (.goto 4, 3) := by decide +kernel
theorem dX2_isDigit_16 : decode cX2_isDigit 16 = .ok (.iconst 0, 1) := by decide +kernel
theorem dX2_isDigit_17 : decode cX2_isDigit 17 = .ok (.ireturn, 1) := by decide +kernel
theorem dX3_init_0 : decode cX3_init 0 = .ok (.aload_n 0, 1) := by decide +kernel
theorem dX3_init_1 : decode cX3_init 1 = .ok (.invokespecial 3, 3) := by decide +kernel
theorem dX3_init_4 : decode cX3_init 4 = .ok (.aload_n 0, 1) := by decide +kernel
theorem dX3_init_5 : decode cX3_init 5 = .ok (.bipush 8, 2) := by decide +kernel
theorem dX3_init_7 : decode cX3_init 7 = .ok (.newarray .int, 2) := by decide +kernel
theorem dX3_init_9 : decode cX3_init 9 = .ok (.putfield 9, 3) := by decide +kernel
theorem dX3_init_12 : decode cX3_init 12 = .ok (.aload_n 0, 1) := by decide +kernel
theorem dX3_init_13 : decode cX3_init 13 = .ok (.bipush 120, 2) := by decide +kernel
theorem dX3_init_15 : decode cX3_init 15 = .ok (.newarray .int, 2) := by decide +kernel
theorem dX3_init_17 : decode cX3_init 17 = .ok (.putfield 15, 3) := by decide +kernel
theorem dX3_init_20 : decode cX3_init 20 = .ok (.aload_n 0, 1) := by decide +kernel
theorem dX3_init_21 : decode cX3_init 21 = .ok (.bipush 12, 2) := by decide +kernel
theorem dX3_init_23 : decode cX3_init 23 = .ok (.newarray .int, 2) := by decide +kernel
theorem dX3_init_25 : decode cX3_init 25 = .ok (.putfield 18, 3) := by decide +kernel
theorem dX3_init_28 : decode cX3_init 28 = .ok (.return_, 1) := by decide +kernel
theorem dX3_addPart_0 : decode cX3_addPart 0 = .ok (.aload_n 0, 1) := by decide +kernel
theorem dX3_addPart_1 : decode cX3_addPart 1 = .ok (.getfield 9, 3) := by decide +kernel
theorem dX3_addPart_4 : decode cX3_addPart 4 = .ok (.aload_n 0, 1) := by decide +kernel
theorem dX3_addPart_5 : decode cX3_addPart 5 = .ok (.getfield 21, 3) := by decide +kernel
theorem dX3_addPart_8 : decode cX3_addPart 8 = .ok (.iload_n 1, 1) := by decide +kernel
theorem dX3_addPart_9 : decode cX3_addPart 9 = .ok (.iastore, 1) := by decide +kernel
theorem dX3_addPart_10 : decode cX3_addPart 10 = .ok (.aload_n 0, 1) := by decide +kernel
theorem dX3_addPart_11 : decode cX3_addPart 11 = .ok (.dup, 1) := by decide +kernel
theorem dX3_addPart_12 : decode cX3_addPart 12 = .ok (.getfield 21, 3) := by decide +kernel
theorem dX3_addPart_15 : decode cX3_addPart 15 = .ok (.iconst 1, 1) := by decide +kernel
theorem dX3_addPart_16 : decode cX3_addPart 16 = .ok (.iadd, 1) := by decide +kernel
theorem dX3_addPart_17 : decode cX3_addPart 17 = .ok (.putfield 21, 3) := by decide +kernel
theorem dX3_addPart_20 : decode cX3_addPart 20 = .ok (.aload_n 0, 1) := by decide +kernel
theorem dX3_addPart_21 : decode cX3_addPart 21 = .ok (.aload_n 0, 1) := by decide +kernel
theorem dX3_addPart_22 : decode cX3_addPart 22 = .ok (.getfield 25, 3) := by decide +kernel
theorem dX3_addPart_25 : decode cX3_addPart 25 = .ok (.iload_n 1, 1) := by decide +kernel
theorem dX3_addPart_26 : decode cX3_addPart 26 = .ok (.iconst 1, 1) := by decide +kernel
theorem dX3_addPart_27 : decode cX3_addPart 27 = .ok (.invokestatic 28, 3) := by decide +kernel
theorem dX3_addPart_30 : decode cX3_addPart 30 = .ok (.putfield 25, 3) := by decide +kernel
theorem dX3_addPart_33 : decode cX3_addPart 33 = .ok (.aload_n 0, 1) := by decide +kernel
theorem dX3_addPart_34 : decode cX3_addPart 34 = .ok (.getfield 21, 3) := by decide +kernel
theorem dX3_addPart_37 : decode cX3_addPart 37 = .ok (.iconst 1, 1) := by decide +kernel
theorem dX3_addPart_38 : decode cX3_addPart 38 = .ok (.isub, 1) := by decide +kernel
theorem dX3_addPart_39 : decode cX3_addPart 39 = .ok (.ireturn, 1) := by decide +kernel
theorem dX3_firstPartOf_0 : decode cX3_firstPartOf 0 = .ok (.iconst 0, 1) := by decide +kernel
theorem dX3_firstPartOf_1 : decode cX3_firstPartOf 1 = .ok (.istore_n 2, 1) := by decide +kernel
theorem dX3_firstPartOf_2 : decode cX3_firstPartOf 2 = .ok (.iload_n 2, 1) := by decide +kernel
theorem dX3_firstPartOf_3 : decode cX3_firstPartOf 3 = .ok (.aload_n 0, 1) := by decide +kernel
theorem dX3_firstPartOf_4 : decode cX3_firstPartOf 4 = .ok (.getfield 21, 3) := by decide +kernel
theorem dX3_firstPartOf_7 : decode cX3_firstPartOf 7 = .ok (.if_icmp .ge 24, 3) := by decide +kernel
theorem dX3_firstPartOf_10 : decode cX3_firstPartOf 10 = .ok (.iload_n 1, 1) := by decide +kernel
theorem dX3_firstPartOf_11 : decode cX3_firstPartOf 11 = .ok (.aload_n 0, 1) := by decide +kernel
theorem dX3_firstPartOf_12 : decode cX3_firstPartOf 12 = .ok (.getfield 9, 3) := by decide +kernel
theorem dX3_firstPartOf_15 : decode cX3_firstPartOf 15 = .ok (.iload_n 2, 1) := by decide +kernel
theorem dX3_firstPartOf_16 : decode cX3_firstPartOf 16 = .ok (.iaload, 1) := by decide +kernel
theorem dX3_firstPartOf_17 : decode cX3_firstPartOf 17 = .ok (.invokestatic 32, 3) := by decide +kernel
theorem dX3_firstPartOf_20 : decode cX3_firstPartOf 20 = .ok (.ifCond .eq 5, 3) := by decide +kernel
theorem dX3_firstPartOf_23 : decode cX3_firstPartOf 23 = .ok (.iload_n 2, 1) := by decide +kernel
theorem dX3_firstPartOf_24 : decode cX3_firstPartOf 24 = .ok (.ireturn, 1) := by decide +kernel
theorem dX3_firstPartOf_25 : decode cX3_firstPartOf 25 = .ok (.iinc 2 1, 3) := by decide +kernel
theorem dX3_firstPartOf_28 : decode cX3_firstPartOf 28 = .ok (.goto (-26), 3) := by decide +kernel
theorem dX3_firstPartOf_31 : decode cX3_firstPartOf 31 = .ok (.iconst (-1), 1) := by decide +kernel
theorem dX3_firstPartOf_32 : decode cX3_firstPartOf 32 = .ok (.ireturn, 1) := by decide +kernel
theorem dX3_addRow_0 : decode cX3_addRow 0 = .ok (.aload_n 0, 1) := by decide +kernel
theorem dX3_addRow_1 : decode cX3_addRow 1 = .ok (.getfield 36, 3) := by decide +kernel
theorem dX3_addRow_4 : decode cX3_addRow 4 = .ok (.iconst 4, 1) := by decide +kernel
theorem dX3_addRow_5 : decode cX3_addRow 5 = .ok (.imul, 1) := by decide +kernel
theorem dX3_addRow_6 : decode cX3_addRow 6 = .ok (.istore 5, 2) := by decide +kernel
theorem dX3_addRow_8 : decode cX3_addRow 8 = .ok (.aload_n 0, 1) := by decide +kernel
theorem dX3_addRow_9 : decode cX3_addRow 9 = .ok (.getfield 15, 3) := by decide +kernel
theorem dX3_addRow_12 : decode cX3_addRow 12 = .ok (.iload 5, 2) := by decide +kernel
theorem dX3_addRow_14 : decode cX3_addRow 14 = .ok (.iload_n 1, 1) := by decide +kernel
theorem dX3_addRow_15 : decode cX3_addRow 15 = .ok (.iastore, 1) := by decide +kernel
theorem dX3_addRow_16 : decode cX3_addRow 16 = .ok (.aload_n 0, 1) := by decide +kernel
theorem dX3_addRow_17 : decode cX3_addRow 17 = .ok (.getfield 15, 3) := by decide +kernel
theorem dX3_addRow_20 : decode cX3_addRow 20 = .ok (.iload 5, 2) := by decide +kernel
theorem dX3_addRow_22 : decode cX3_addRow 22 = .ok (.iconst 1, 1) := by decide +kernel
theorem dX3_addRow_23 : decode cX3_addRow 23 = .ok (.iadd, 1) := by decide +kernel
theorem dX3_addRow_24 : decode cX3_addRow 24 = .ok (.iload_n 2, 1) := by decide +kernel
theorem dX3_addRow_25 : decode cX3_addRow 25 = .ok (.iastore, 1) := by decide +kernel
theorem dX3_addRow_26 : decode cX3_addRow 26 = .ok (.aload_n 0, 1) := by decide +kernel
theorem dX3_addRow_27 : decode cX3_addRow 27 = .ok (.getfield 15, 3) := by decide +kernel
theorem dX3_addRow_30 : decode cX3_addRow 30 = .ok (.iload 5, 2) := by decide +kernel
theorem dX3_addRow_32 : decode cX3_addRow 32 = .ok (.iconst 2, 1) := by decide +kernel
theorem dX3_addRow_33 : decode cX3_addRow 33 = .ok (.iadd, 1) := by decide +kernel
theorem dX3_addRow_34 : decode cX3_addRow 34 = .ok (.iload_n 3, 1) := by decide +kernel
theorem dX3_addRow_35 : decode cX3_addRow 35 = .ok (.iastore, 1) := by decide +kernel
theorem dX3_addRow_36 : decode cX3_addRow 36 = .ok (.aload_n 0, 1) := by decide +kernel
theorem dX3_addRow_37 : decode cX3_addRow 37 = .ok (.getfield 15, 3) := by decide +kernel
theorem dX3_addRow_40 : decode cX3_addRow 40 = .ok (.iload 5, 2) := by decide +kernel
theorem dX3_addRow_42 : decode cX3_addRow 42 = .ok (.iconst 3, 1) := by decide +kernel
theorem dX3_addRow_43 : decode cX3_addRow 43 = .ok (.iadd, 1) := by decide +kernel
theorem dX3_addRow_44 : decode cX3_addRow 44 = .ok (.iload 4, 2) := by decide +kernel
theorem dX3_addRow_46 : decode cX3_addRow 46 = .ok (.iastore, 1) := by decide +kernel
theorem dX3_addRow_47 : decode cX3_addRow 47 = .ok (.aload_n 0, 1) := by decide +kernel
theorem dX3_addRow_48 : decode cX3_addRow 48 = .ok (.dup, 1) := by decide +kernel
theorem dX3_addRow_49 : decode cX3_addRow 49 = .ok (.getfield 36, 3) := by decide +kernel
theorem dX3_addRow_52 : decode cX3_addRow 52 = .ok (.iconst 1, 1) := by decide +kernel
theorem dX3_addRow_53 : decode cX3_addRow 53 = .ok (.iadd, 1) := by decide +kernel
theorem dX3_addRow_54 : decode cX3_addRow 54 = .ok (.putfield 36, 3) := by decide +kernel
theorem dX3_addRow_57 : decode cX3_addRow 57 = .ok (.aload_n 0, 1) := by decide +kernel
theorem dX3_addRow_58 : decode cX3_addRow 58 = .ok (.getfield 18, 3) := by decide +kernel
theorem dX3_addRow_61 : decode cX3_addRow 61 = .ok (.iload_n 1, 1) := by decide +kernel
theorem dX3_addRow_62 : decode cX3_addRow 62 = .ok (.iload_n 2, 1) := by decide +kernel
theorem dX3_addRow_63 : decode cX3_addRow 63 = .ok (.iastore, 1) := by decide +kernel
theorem dX3_addRow_64 : decode cX3_addRow 64 = .ok (.aload_n 0, 1) := by decide +kernel
theorem dX3_addRow_65 : decode cX3_addRow 65 = .ok (.iload_n 2, 1) := by decide +kernel
theorem dX3_addRow_66 : decode cX3_addRow 66 = .ok (.putfield 39, 3) := by decide +kernel
theorem dX3_addRow_69 : decode cX3_addRow 69 = .ok (.aload_n 0, 1) := by decide +kernel
theorem dX3_addRow_70 : decode cX3_addRow 70 = .ok (.aload_n 0, 1) := by decide +kernel
theorem dX3_addRow_71 : decode cX3_addRow 71 = .ok (.getfield 42, 3) := by decide +kernel
theorem dX3_addRow_74 : decode cX3_addRow 74 = .ok (.iload_n 1, 1) := by decide +kernel
theorem dX3_addRow_75 : decode cX3_addRow 75 = .ok (.iconst 1, 1) := by decide +kernel
theorem dX3_addRow_76 : decode cX3_addRow 76 = .ok (.invokestatic 28, 3) := by decide +kernel
theorem dX3_addRow_79 : decode cX3_addRow 79 = .ok (.putfield 42, 3) := by decide +kernel
theorem dX3_addRow_82 : decode cX3_addRow 82 = .ok (.return_, 1) := by decide +kernel
theorem dX4_init_0 : decode cX4_init 0 = .ok (.aload_n 0, 1) := by decide +kernel
theorem dX4_init_1 : decode cX4_init 1 = .ok (.invokespecial 1, 3) := by decide +kernel
theorem dX4_init_4 : decode cX4_init 4 = .ok (.aload_n 0, 1) := by decide +kernel
theorem dX4_init_5 : decode cX4_init 5 = .ok (.new 7, 3) := by decide +kernel
theorem dX4_init_8 : decode cX4_init 8 = .ok (.dup, 1) := by decide +kernel
theorem dX4_init_9 : decode cX4_init 9 = .ok (.invokespecial 9, 3) := by decide +kernel
theorem dX4_init_12 : decode cX4_init 12 = .ok (.putfield 10, 3) := by decide +kernel
theorem dX4_init_15 : decode cX4_init 15 = .ok (.aload_n 0, 1) := by decide +kernel
theorem dX4_init_16 : decode cX4_init 16 = .ok (.bipush 12, 2) := by decide +kernel
theorem dX4_init_18 : decode cX4_init 18 = .ok (.anewarray 16, 3) := by decide +kernel
theorem dX4_init_21 : decode cX4_init 21 = .ok (.putfield 18, 3) := by decide +kernel
theorem dX4_init_24 : decode cX4_init 24 = .ok (.iconst 0, 1) := by decide +kernel
theorem dX4_init_25 : decode cX4_init 25 = .ok (.istore_n 1, 1) := by decide +kernel
theorem dX4_init_26 : decode cX4_init 26 = .ok (.iload_n 1, 1) := by decide +kernel
theorem dX4_init_27 : decode cX4_init 27 = .ok (.bipush 12, 2) := by decide +kernel
theorem dX4_init_29 : decode cX4_init 29 = .ok (.if_icmp .ge 22, 3) := by decide +kernel
theorem dX4_init_32 : decode cX4_init 32 = .ok (.aload_n 0, 1) := by decide +kernel
theorem dX4_init_33 : decode cX4_init 33 = .ok (.getfield 18, 3) := by decide +kernel
theorem dX4_init_36 : decode cX4_init 36 = .ok (.iload_n 1, 1) := by decide +kernel
theorem dX4_init_37 : decode cX4_init 37 = .ok (.new 16, 3) := by decide +kernel
theorem dX4_init_40 : decode cX4_init 40 = .ok (.dup, 1) := by decide +kernel
theorem dX4_init_41 : decode cX4_init 41 = .ok (.invokespecial 22, 3) := by decide +kernel
theorem dX4_init_44 : decode cX4_init 44 = .ok (.aastore, 1) := by decide +kernel
theorem dX4_init_45 : decode cX4_init 45 = .ok (.iinc 1 1, 3) := by decide +kernel
theorem dX4_init_48 : decode cX4_init 48 = .ok (.goto (-22), 3) := by decide +kernel
theorem dX4_init_51 : decode cX4_init 51 = .ok (.aload_n 0, 1) := by decide +kernel
theorem dX4_init_52 : decode cX4_init 52 = .ok (.bipush 10, 2) := by decide +kernel
theorem dX4_init_54 : decode cX4_init 54 = .ok (.anewarray 23, 3) := by decide +kernel
theorem dX4_init_57 : decode cX4_init 57 = .ok (.putfield 25, 3) := by decide +kernel
theorem dX4_init_60 : decode cX4_init 60 = .ok (.iconst 0, 1) := by decide +kernel
theorem dX4_init_61 : decode cX4_init 61 = .ok (.istore_n 1, 1) := by decide +kernel
theorem dX4_init_62 : decode cX4_init 62 = .ok (.iload_n 1, 1) := by decide +kernel
theorem dX4_init_63 : decode cX4_init 63 = .ok (.bipush 10, 2) := by decide +kernel
theorem dX4_init_65 : decode cX4_init 65 = .ok (.if_icmp .ge 22, 3) := by decide +kernel
theorem dX4_init_68 : decode cX4_init 68 = .ok (.aload_n 0, 1) := by decide +kernel
theorem dX4_init_69 : decode cX4_init 69 = .ok (.getfield 25, 3) := by decide +kernel
theorem dX4_init_72 : decode cX4_init 72 = .ok (.iload_n 1, 1) := by decide +kernel
theorem dX4_init_73 : decode cX4_init 73 = .ok (.new 23, 3) := by decide +kernel
theorem dX4_init_76 : decode cX4_init 76 = .ok (.dup, 1) := by decide +kernel
theorem dX4_init_77 : decode cX4_init 77 = .ok (.invokespecial 29, 3) := by decide +kernel
theorem dX4_init_80 : decode cX4_init 80 = .ok (.aastore, 1) := by decide +kernel
theorem dX4_init_81 : decode cX4_init 81 = .ok (.iinc 1 1, 3) := by decide +kernel
theorem dX4_init_84 : decode cX4_init 84 = .ok (.goto (-22), 3) := by decide +kernel
theorem dX4_init_87 : decode cX4_init 87 = .ok (.aload_n 0, 1) := by decide +kernel
theorem dX4_init_88 : decode cX4_init 88 = .ok (.bipush 12, 2) := by decide +kernel
theorem dX4_init_90 : decode cX4_init 90 = .ok (.anewarray 30, 3) := by decide +kernel
theorem dX4_init_93 : decode cX4_init 93 = .ok (.putfield 32, 3) := by decide +kernel
theorem dX4_init_96 : decode cX4_init 96 = .ok (.iconst 0, 1) := by decide +kernel
theorem dX4_init_97 : decode cX4_init 97 = .ok (.istore_n 1, 1) := by decide +kernel
theorem dX4_init_98 : decode cX4_init 98 = .ok (.iload_n 1, 1) := by decide +kernel
theorem dX4_init_99 : decode cX4_init 99 = .ok (.bipush 12, 2) := by decide +kernel
theorem dX4_init_101 : decode cX4_init 101 = .ok (.if_icmp .ge 22, 3) := by decide +kernel
theorem dX4_init_104 : decode cX4_init 104 = .ok (.aload_n 0, 1) := by decide +kernel
theorem dX4_init_105 : decode cX4_init 105 = .ok (.getfield 32, 3) := by decide +kernel
theorem dX4_init_108 : decode cX4_init 108 = .ok (.iload_n 1, 1) := by decide +kernel
theorem dX4_init_109 : decode cX4_init 109 = .ok (.new 30, 3) := by decide +kernel
theorem dX4_init_112 : decode cX4_init 112 = .ok (.dup, 1) := by decide +kernel
theorem dX4_init_113 : decode cX4_init 113 = .ok (.invokespecial 36, 3) := by decide +kernel
theorem dX4_init_116 : decode cX4_init 116 = .ok (.aastore, 1) := by decide +kernel
theorem dX4_init_117 : decode cX4_init 117 = .ok (.iinc 1 1, 3) := by decide +kernel
theorem dX4_init_120 : decode cX4_init 120 = .ok (.goto (-22), 3) := by decide +kernel
theorem dX4_init_123 : decode cX4_init 123 = .ok (.aload_n 0, 1) := by decide +kernel
theorem dX4_init_124 : decode cX4_init 124 = .ok (.bipush 10, 2) := by decide +kernel
theorem dX4_init_126 : decode cX4_init 126 = .ok (.newarray .int, 2) := by decide +kernel
theorem dX4_init_128 : decode cX4_init 128 = .ok (.putfield 37, 3) := by decide +kernel
theorem dX4_init_131 : decode cX4_init 131 = .ok (.aload_n 0, 1) := by decide +kernel
theorem dX4_init_132 : decode cX4_init 132 = .ok (.bipush 10, 2) := by decide +kernel
theorem dX4_init_134 : decode cX4_init 134 = .ok (.newarray .int, 2) := by decide +kernel
theorem dX4_init_136 : decode cX4_init 136 = .ok (.putfield 41, 3) := by decide +kernel
theorem dX4_init_139 : decode cX4_init 139 = .ok (.return_, 1) := by decide +kernel
theorem dX4_unit_0 : decode cX4_unit 0 = .ok (.aload_n 0, 1) := by decide +kernel
theorem dX4_unit_1 : decode cX4_unit 1 = .ok (.getfield 10, 3) := by decide +kernel
theorem dX4_unit_4 : decode cX4_unit 4 = .ok (.getfield 44, 3) := by decide +kernel
theorem dX4_unit_7 : decode cX4_unit 7 = .ok (.bipush 50, 2) := by decide +kernel
theorem dX4_unit_9 : decode cX4_unit 9 = .ok (.if_icmp .lt 13, 3) := by decide +kernel
theorem dX4_unit_12 : decode cX4_unit 12 = .ok (.new 48, 3) := by decide +kernel
theorem dX4_unit_15 : decode cX4_unit 15 = .ok (.dup, 1) := by decide +kernel
theorem dX4_unit_16 : decode cX4_unit 16 = .ok (.ldc 50, 2) := by decide +kernel
theorem dX4_unit_18 : decode cX4_unit 18 = .ok (.invokespecial 52, 3) := by decide +kernel
theorem dX4_unit_21 : decode cX4_unit 21 = .ok (.athrow, 1) := by decide +kernel
theorem dX4_unit_22 : decode cX4_unit 22 = .ok (.iload_n 1, 1) := by decide +kernel
theorem dX4_unit_23 : decode cX4_unit 23 = .ok (.bipush 33, 2) := by decide +kernel
theorem dX4_unit_25 : decode cX4_unit 25 = .ok (.if_icmp .lt 9, 3) := by decide +kernel
theorem dX4_unit_28 : decode cX4_unit 28 = .ok (.iload_n 1, 1) := by decide +kernel
theorem dX4_unit_29 : decode cX4_unit 29 = .ok (.bipush 126, 2) := by decide +kernel
theorem dX4_unit_31 : decode cX4_unit 31 = .ok (.if_icmp .le 13, 3) := by decide +kernel
theorem dX4_unit_34 : decode cX4_unit 34 = .ok (.new 55, 3) := by decide +kernel
theorem dX4_unit_37 : decode cX4_unit 37 = .ok (.dup, 1) := by decide +kernel
theorem dX4_unit_38 : decode cX4_unit 38 = .ok (.ldc 57, 2) := by decide +kernel
theorem dX4_unit_40 : decode cX4_unit 40 = .ok (.invokespecial 59, 3) := by decide +kernel
theorem dX4_unit_43 : decode cX4_unit 43 = .ok (.athrow, 1) := by decide +kernel
theorem dX4_unit_44 : decode cX4_unit 44 = .ok (.aload_n 0, 1) := by decide +kernel
theorem dX4_unit_45 : decode cX4_unit 45 = .ok (.getfield 10, 3) := by decide +kernel
theorem dX4_unit_48 : decode cX4_unit 48 = .ok (.getfield 60, 3) := by decide +kernel
theorem dX4_unit_51 : decode cX4_unit 51 = .ok (.aload_n 0, 1) := by decide +kernel
theorem dX4_unit_52 : decode cX4_unit 52 = .ok (.getfield 10, 3) := by decide +kernel
theorem dX4_unit_55 : decode cX4_unit 55 = .ok (.getfield 44, 3) := by decide +kernel
theorem dX4_unit_58 : decode cX4_unit 58 = .ok (.iload_n 1, 1) := by decide +kernel
theorem dX4_unit_59 : decode cX4_unit 59 = .ok (.iastore, 1) := by decide +kernel
theorem dX4_unit_60 : decode cX4_unit 60 = .ok (.aload_n 0, 1) := by decide +kernel
theorem dX4_unit_61 : decode cX4_unit 61 = .ok (.getfield 10, 3) := by decide +kernel
theorem dX4_unit_64 : decode cX4_unit 64 = .ok (.dup, 1) := by decide +kernel
theorem dX4_unit_65 : decode cX4_unit 65 = .ok (.getfield 44, 3) := by decide +kernel
theorem dX4_unit_68 : decode cX4_unit 68 = .ok (.iconst 1, 1) := by decide +kernel
theorem dX4_unit_69 : decode cX4_unit 69 = .ok (.iadd, 1) := by decide +kernel
theorem dX4_unit_70 : decode cX4_unit 70 = .ok (.putfield 44, 3) := by decide +kernel
theorem dX4_unit_73 : decode cX4_unit 73 = .ok (.aload_n 0, 1) := by decide +kernel
theorem dX4_unit_74 : decode cX4_unit 74 = .ok (.getfield 10, 3) := by decide +kernel
theorem dX4_unit_77 : decode cX4_unit 77 = .ok (.getfield 44, 3) := by decide +kernel
theorem dX4_unit_80 : decode cX4_unit 80 = .ok (.ireturn, 1) := by decide +kernel
theorem dX4_read_0 : decode cX4_read 0 = .ok (.aload_n 0, 1) := by decide +kernel
theorem dX4_read_1 : decode cX4_read 1 = .ok (.getfield 63, 3) := by decide +kernel
theorem dX4_read_4 : decode cX4_read 4 = .ok (.bipush 12, 2) := by decide +kernel
theorem dX4_read_6 : decode cX4_read 6 = .ok (.if_icmp .lt 13, 3) := by decide +kernel
theorem dX4_read_9 : decode cX4_read 9 = .ok (.new 48, 3) := by decide +kernel
theorem dX4_read_12 : decode cX4_read 12 = .ok (.dup, 1) := by decide +kernel
theorem dX4_read_13 : decode cX4_read 13 = .ok (.ldc 66, 2) := by decide +kernel
theorem dX4_read_15 : decode cX4_read 15 = .ok (.invokespecial 52, 3) := by decide +kernel
theorem dX4_read_18 : decode cX4_read 18 = .ok (.athrow, 1) := by decide +kernel
theorem dX4_read_19 : decode cX4_read 19 = .ok (.aload_n 0, 1) := by decide +kernel
theorem dX4_read_20 : decode cX4_read 20 = .ok (.getfield 18, 3) := by decide +kernel
theorem dX4_read_23 : decode cX4_read 23 = .ok (.aload_n 0, 1) := by decide +kernel
theorem dX4_read_24 : decode cX4_read 24 = .ok (.getfield 63, 3) := by decide +kernel
theorem dX4_read_27 : decode cX4_read 27 = .ok (.aaload, 1) := by decide +kernel
theorem dX4_read_28 : decode cX4_read 28 = .ok (.astore_n 1, 1) := by decide +kernel
theorem dX4_read_29 : decode cX4_read 29 = .ok (.aload_n 1, 1) := by decide +kernel
theorem dX4_read_30 : decode cX4_read 30 = .ok (.invokevirtual 68, 3) := by decide +kernel
theorem dX4_read_33 : decode cX4_read 33 = .ok (.aload_n 0, 1) := by decide +kernel
theorem dX4_read_34 : decode cX4_read 34 = .ok (.getfield 10, 3) := by decide +kernel
theorem dX4_read_37 : decode cX4_read 37 = .ok (.aload_n 1, 1) := by decide +kernel
theorem dX4_read_38 : decode cX4_read 38 = .ok (.invokevirtual 71, 3) := by decide +kernel
theorem dX4_read_41 : decode cX4_read 41 = .ok (.istore_n 2, 1) := by decide +kernel
theorem dX4_read_42 : decode cX4_read 42 = .ok (.aload_n 0, 1) := by decide +kernel
theorem dX4_read_43 : decode cX4_read 43 = .ok (.getfield 10, 3) := by decide +kernel
theorem dX4_read_46 : decode cX4_read 46 = .ok (.iconst 0, 1) := by decide +kernel
theorem dX4_read_47 : decode cX4_read 47 = .ok (.putfield 44, 3) := by decide +kernel
theorem dX4_read_50 : decode cX4_read 50 = .ok (.iload_n 2, 1) := by decide +kernel
theorem dX4_read_51 : decode cX4_read 51 = .ok (.ifCond .ne 13, 3) := by decide +kernel
theorem dX4_read_54 : decode cX4_read 54 = .ok (.iconst (-1), 1) := by decide +kernel
theorem dX4_read_55 : decode cX4_read 55 = .ok (.aload_n 0, 1) := by decide +kernel
theorem dX4_read_56 : decode cX4_read 56 = .ok (.getfield 10, 3) := by decide +kernel
theorem dX4_read_59 : decode cX4_read 59 = .ok (.getfield 75, 3) := by decide +kernel
theorem dX4_read_62 : decode cX4_read 62 = .ok (.isub, 1) := by decide +kernel
theorem dX4_read_63 : decode cX4_read 63 = .ok (.ireturn, 1) := by decide +kernel
theorem dX4_read_64 : decode cX4_read 64 = .ok (.aload_n 0, 1) := by decide +kernel
theorem dX4_read_65 : decode cX4_read 65 = .ok (.dup, 1) := by decide +kernel
theorem dX4_read_66 : decode cX4_read 66 = .ok (.getfield 63, 3) := by decide +kernel
theorem dX4_read_69 : decode cX4_read 69 = .ok (.iconst 1, 1) := by decide +kernel
theorem dX4_read_70 : decode cX4_read 70 = .ok (.iadd, 1) := by decide +kernel
theorem dX4_read_71 : decode cX4_read 71 = .ok (.putfield 63, 3) := by decide +kernel
theorem dX4_read_74 : decode cX4_read 74 = .ok (.aload_n 0, 1) := by decide +kernel
theorem dX4_read_75 : decode cX4_read 75 = .ok (.getfield 63, 3) := by decide +kernel
theorem dX4_read_78 : decode cX4_read 78 = .ok (.iconst 1, 1) := by decide +kernel
theorem dX4_read_79 : decode cX4_read 79 = .ok (.isub, 1) := by decide +kernel
theorem dX4_read_80 : decode cX4_read 80 = .ok (.ireturn, 1) := by decide +kernel
theorem dX4_uses_0 : decode cX4_uses 0 = .ok (.aload_n 0, 1) := by decide +kernel
theorem dX4_uses_1 : decode cX4_uses 1 = .ok (.iload_n 1, 1) := by decide +kernel
theorem dX4_uses_2 : decode cX4_uses 2 = .ok (.invokevirtual 78, 3) := by decide +kernel
theorem dX4_uses_5 : decode cX4_uses 5 = .ok (.astore_n 3, 1) := by decide +kernel
theorem dX4_uses_6 : decode cX4_uses 6 = .ok (.iload_n 2, 1) := by decide +kernel
theorem dX4_uses_7 : decode cX4_uses 7 = .ok (.bipush 12, 2) := by decide +kernel
theorem dX4_uses_9 : decode cX4_uses 9 = .ok (.invokestatic 82, 3) := by decide +kernel
theorem dX4_uses_12 : decode cX4_uses 12 = .ok (.aload_n 3, 1) := by decide +kernel
theorem dX4_uses_13 : decode cX4_uses 13 = .ok (.getfield 86, 3) := by decide +kernel
theorem dX4_uses_16 : decode cX4_uses 16 = .ok (.iload_n 2, 1) := by decide +kernel
theorem dX4_uses_17 : decode cX4_uses 17 = .ok (.iaload, 1) := by decide +kernel
theorem dX4_uses_18 : decode cX4_uses 18 = .ok (.ireturn, 1) := by decide +kernel
theorem dX4_object_0 : decode cX4_object 0 = .ok (.aload_n 0, 1) := by decide +kernel
theorem dX4_object_1 : decode cX4_object 1 = .ok (.getfield 89, 3) := by decide +kernel
theorem dX4_object_4 : decode cX4_object 4 = .ok (.bipush 10, 2) := by decide +kernel
theorem dX4_object_6 : decode cX4_object 6 = .ok (.if_icmp .lt 13, 3) := by decide +kernel
theorem dX4_object_9 : decode cX4_object 9 = .ok (.new 48, 3) := by decide +kernel
theorem dX4_object_12 : decode cX4_object 12 = .ok (.dup, 1) := by decide +kernel
theorem dX4_object_13 : decode cX4_object 13 = .ok (.ldc 92, 2) := by decide +kernel
theorem dX4_object_15 : decode cX4_object 15 = .ok (.invokespecial 52, 3) := by decide +kernel
theorem dX4_object_18 : decode cX4_object 18 = .ok (.athrow, 1) := by decide +kernel
theorem dX4_object_19 : decode cX4_object 19 = .ok (.aload_n 0, 1) := by decide +kernel
theorem dX4_object_20 : decode cX4_object 20 = .ok (.dup, 1) := by decide +kernel
theorem dX4_object_21 : decode cX4_object 21 = .ok (.getfield 89, 3) := by decide +kernel
theorem dX4_object_24 : decode cX4_object 24 = .ok (.iconst 1, 1) := by decide +kernel
theorem dX4_object_25 : decode cX4_object 25 = .ok (.iadd, 1) := by decide +kernel
theorem dX4_object_26 : decode cX4_object 26 = .ok (.putfield 89, 3) := by decide +kernel
theorem dX4_object_29 : decode cX4_object 29 = .ok (.aload_n 0, 1) := by decide +kernel
theorem dX4_object_30 : decode cX4_object 30 = .ok (.getfield 89, 3) := by decide +kernel
theorem dX4_object_33 : decode cX4_object 33 = .ok (.iconst 1, 1) := by decide +kernel
theorem dX4_object_34 : decode cX4_object 34 = .ok (.isub, 1) := by decide +kernel
theorem dX4_object_35 : decode cX4_object 35 = .ok (.ireturn, 1) := by decide +kernel
theorem dX4_part_0 : decode cX4_part 0 = .ok (.aload_n 0, 1) := by decide +kernel
theorem dX4_part_1 : decode cX4_part 1 = .ok (.iload_n 1, 1) := by decide +kernel
theorem dX4_part_2 : decode cX4_part 2 = .ok (.invokevirtual 94, 3) := by decide +kernel
theorem dX4_part_5 : decode cX4_part 5 = .ok (.astore_n 3, 1) := by decide +kernel
theorem dX4_part_6 : decode cX4_part 6 = .ok (.iload_n 2, 1) := by decide +kernel
theorem dX4_part_7 : decode cX4_part 7 = .ok (.bipush 10, 2) := by decide +kernel
theorem dX4_part_9 : decode cX4_part 9 = .ok (.invokestatic 82, 3) := by decide +kernel
theorem dX4_part_12 : decode cX4_part 12 = .ok (.aload_n 3, 1) := by decide +kernel
theorem dX4_part_13 : decode cX4_part 13 = .ok (.getfield 98, 3) := by decide +kernel
theorem dX4_part_16 : decode cX4_part 16 = .ok (.bipush 8, 2) := by decide +kernel
theorem dX4_part_18 : decode cX4_part 18 = .ok (.if_icmp .lt 13, 3) := by decide +kernel
theorem dX4_part_21 : decode cX4_part 21 = .ok (.new 48, 3) := by decide +kernel
theorem dX4_part_24 : decode cX4_part 24 = .ok (.dup, 1) := by decide +kernel
theorem dX4_part_25 : decode cX4_part 25 = .ok (.ldc 101, 2) := by decide +kernel
theorem dX4_part_27 : decode cX4_part 27 = .ok (.invokespecial 52, 3) := by decide +kernel
theorem dX4_part_30 : decode cX4_part 30 = .ok (.athrow, 1) := by decide +kernel
theorem dX4_part_31 : decode cX4_part 31 = .ok (.aload_n 3, 1) := by decide +kernel
theorem dX4_part_32 : decode cX4_part 32 = .ok (.iload_n 2, 1) := by decide +kernel
theorem dX4_part_33 : decode cX4_part 33 = .ok (.invokevirtual 103, 3) := by decide +kernel
theorem dX4_part_36 : decode cX4_part 36 = .ok (.ireturn, 1) := by decide +kernel
theorem dX4_right_0 : decode cX4_right 0 = .ok (.iload_n 1, 1) := by decide +kernel
theorem dX4_right_1 : decode cX4_right 1 = .ok (.bipush 8, 2) := by decide +kernel
theorem dX4_right_3 : decode cX4_right 3 = .ok (.invokestatic 82, 3) := by decide +kernel
theorem dX4_right_6 : decode cX4_right 6 = .ok (.aload_n 0, 1) := by decide +kernel
theorem dX4_right_7 : decode cX4_right 7 = .ok (.iload_n 2, 1) := by decide +kernel
theorem dX4_right_8 : decode cX4_right 8 = .ok (.invokevirtual 78, 3) := by decide +kernel
theorem dX4_right_11 : decode cX4_right 11 = .ok (.astore 4, 2) := by decide +kernel
theorem dX4_right_13 : decode cX4_right 13 = .ok (.aload 4, 2) := by decide +kernel
theorem dX4_right_15 : decode cX4_right 15 = .ok (.getfield 107, 3) := by decide +kernel
theorem dX4_right_18 : decode cX4_right 18 = .ok (.iload_n 1, 1) := by decide +kernel
theorem dX4_right_19 : decode cX4_right 19 = .ok (.invokestatic 110, 3) := by decide +kernel
theorem dX4_right_22 : decode cX4_right 22 = .ok (.istore 5, 2) := by decide +kernel
theorem dX4_right_24 : decode cX4_right 24 = .ok (.aload 4, 2) := by decide +kernel
theorem dX4_right_26 : decode cX4_right 26 = .ok (.aload 4, 2) := by decide +kernel
theorem dX4_right_28 : decode cX4_right 28 = .ok (.getfield 107, 3) := by decide +kernel
theorem dX4_right_31 : decode cX4_right 31 = .ok (.iload_n 1, 1) := by decide +kernel
theorem dX4_right_32 : decode cX4_right 32 = .ok (.iload_n 3, 1) := by decide +kernel
theorem dX4_right_33 : decode cX4_right 33 = .ok (.invokestatic 114, 3) := by decide +kernel
theorem dX4_right_36 : decode cX4_right 36 = .ok (.putfield 107, 3) := by decide +kernel
theorem dX4_right_39 : decode cX4_right 39 = .ok (.iload 5, 2) := by decide +kernel
theorem dX4_right_41 : decode cX4_right 41 = .ok (.iload_n 3, 1) := by decide +kernel
theorem dX4_right_42 : decode cX4_right 42 = .ok (.if_icmp .eq 7, 3) := by decide +kernel
theorem dX4_right_45 : decode cX4_right 45 = .ok (.iconst 1, 1) := by decide +kernel
theorem dX4_right_46 : decode cX4_right 46 = .ok (.goto 4, 3) := by decide +kernel
theorem dX4_right_49 : decode cX4_right 49 = .ok (.iconst 0, 1) := by decide +kernel
theorem dX4_right_50 : decode cX4_right 50 = .ok (.ireturn, 1) := by decide +kernel
theorem dX4_trial_0 : decode cX4_trial 0 = .ok (.aload_n 0, 1) := by decide +kernel
theorem dX4_trial_1 : decode cX4_trial 1 = .ok (.iload_n 1, 1) := by decide +kernel
theorem dX4_trial_2 : decode cX4_trial 2 = .ok (.invokevirtual 78, 3) := by decide +kernel
theorem dX4_trial_5 : decode cX4_trial 5 = .ok (.astore 4, 2) := by decide +kernel
theorem dX4_trial_7 : decode cX4_trial 7 = .ok (.iload_n 2, 1) := by decide +kernel
theorem dX4_trial_8 : decode cX4_trial 8 = .ok (.bipush 10, 2) := by decide +kernel
theorem dX4_trial_10 : decode cX4_trial 10 = .ok (.invokestatic 82, 3) := by decide +kernel
theorem dX4_trial_13 : decode cX4_trial 13 = .ok (.aload 4, 2) := by decide +kernel
theorem dX4_trial_15 : decode cX4_trial 15 = .ok (.getfield 118, 3) := by decide +kernel
theorem dX4_trial_18 : decode cX4_trial 18 = .ok (.iload_n 2, 1) := by decide +kernel
theorem dX4_trial_19 : decode cX4_trial 19 = .ok (.invokestatic 110, 3) := by decide +kernel
theorem dX4_trial_22 : decode cX4_trial 22 = .ok (.istore 5, 2) := by decide +kernel
theorem dX4_trial_24 : decode cX4_trial 24 = .ok (.aload 4, 2) := by decide +kernel
theorem dX4_trial_26 : decode cX4_trial 26 = .ok (.aload 4, 2) := by decide +kernel
theorem dX4_trial_28 : decode cX4_trial 28 = .ok (.getfield 118, 3) := by decide +kernel
theorem dX4_trial_31 : decode cX4_trial 31 = .ok (.iload_n 2, 1) := by decide +kernel
theorem dX4_trial_32 : decode cX4_trial 32 = .ok (.iload_n 3, 1) := by decide +kernel
theorem dX4_trial_33 : decode cX4_trial 33 = .ok (.invokestatic 114, 3) := by decide +kernel
theorem dX4_trial_36 : decode cX4_trial 36 = .ok (.putfield 118, 3) := by decide +kernel
theorem dX4_trial_39 : decode cX4_trial 39 = .ok (.iload 5, 2) := by decide +kernel
theorem dX4_trial_41 : decode cX4_trial 41 = .ok (.ireturn, 1) := by decide +kernel
theorem dX4_reason_0 : decode cX4_reason 0 = .ok (.aload_n 0, 1) := by decide +kernel
theorem dX4_reason_1 : decode cX4_reason 1 = .ok (.iload_n 1, 1) := by decide +kernel
theorem dX4_reason_2 : decode cX4_reason 2 = .ok (.invokevirtual 94, 3) := by decide +kernel
theorem dX4_reason_5 : decode cX4_reason 5 = .ok (.astore 5, 2) := by decide +kernel
theorem dX4_reason_7 : decode cX4_reason 7 = .ok (.aload_n 0, 1) := by decide +kernel
theorem dX4_reason_8 : decode cX4_reason 8 = .ok (.iload_n 2, 1) := by decide +kernel
theorem dX4_reason_9 : decode cX4_reason 9 = .ok (.invokevirtual 78, 3) := by decide +kernel
theorem dX4_reason_12 : decode cX4_reason 12 = .ok (.astore 6, 2) := by decide +kernel
theorem dX4_reason_14 : decode cX4_reason 14 = .ok (.iload_n 3, 1) := by decide +kernel
theorem dX4_reason_15 : decode cX4_reason 15 = .ok (.bipush 8, 2) := by decide +kernel
theorem dX4_reason_17 : decode cX4_reason 17 = .ok (.invokestatic 82, 3) := by decide +kernel
theorem dX4_reason_20 : decode cX4_reason 20 = .ok (.iload 4, 2) := by decide +kernel
theorem dX4_reason_22 : decode cX4_reason 22 = .ok (.iconst 0, 1) := by decide +kernel
theorem dX4_reason_23 : decode cX4_reason 23 = .ok (.invokestatic 121, 3) := by decide +kernel
theorem dX4_reason_26 : decode cX4_reason 26 = .ok (.aload_n 0, 1) := by decide +kernel
theorem dX4_reason_27 : decode cX4_reason 27 = .ok (.aload 5, 2) := by decide +kernel
theorem dX4_reason_29 : decode cX4_reason 29 = .ok (.aload 6, 2) := by decide +kernel
theorem dX4_reason_31 : decode cX4_reason 31 = .ok (.iload_n 3, 1) := by decide +kernel
theorem dX4_reason_32 : decode cX4_reason 32 = .ok (.iload 4, 2) := by decide +kernel
theorem dX4_reason_34 : decode cX4_reason 34 = .ok (.invokevirtual 124, 3) := by decide +kernel
theorem dX4_reason_37 : decode cX4_reason 37 = .ok (.ireturn, 1) := by decide +kernel
theorem dX4_done_0 : decode cX4_done 0 = .ok (.aload_n 0, 1) := by decide +kernel
theorem dX4_done_1 : decode cX4_done 1 = .ok (.iload_n 1, 1) := by decide +kernel
theorem dX4_done_2 : decode cX4_done 2 = .ok (.invokevirtual 94, 3) := by decide +kernel
theorem dX4_done_5 : decode cX4_done 5 = .ok (.astore 6, 2) := by decide +kernel
theorem dX4_done_7 : decode cX4_done 7 = .ok (.aload_n 0, 1) := by decide +kernel
theorem dX4_done_8 : decode cX4_done 8 = .ok (.iload_n 2, 1) := by decide +kernel
theorem dX4_done_9 : decode cX4_done 9 = .ok (.invokevirtual 78, 3) := by decide +kernel
theorem dX4_done_12 : decode cX4_done 12 = .ok (.astore 7, 2) := by decide +kernel
theorem dX4_done_14 : decode cX4_done 14 = .ok (.iload_n 3, 1) := by decide +kernel
theorem dX4_done_15 : decode cX4_done 15 = .ok (.bipush 8, 2) := by decide +kernel
theorem dX4_done_17 : decode cX4_done 17 = .ok (.invokestatic 82, 3) := by decide +kernel
theorem dX4_done_20 : decode cX4_done 20 = .ok (.iload 4, 2) := by decide +kernel
theorem dX4_done_22 : decode cX4_done 22 = .ok (.bipush 8, 2) := by decide +kernel
theorem dX4_done_24 : decode cX4_done 24 = .ok (.invokestatic 82, 3) := by decide +kernel
theorem dX4_done_27 : decode cX4_done 27 = .ok (.aload 6, 2) := by decide +kernel
theorem dX4_done_29 : decode cX4_done 29 = .ok (.getfield 128, 3) := by decide +kernel
theorem dX4_done_32 : decode cX4_done 32 = .ok (.bipush 30, 2) := by decide +kernel
theorem dX4_done_34 : decode cX4_done 34 = .ok (.if_icmp .lt 13, 3) := by decide +kernel
theorem dX4_done_37 : decode cX4_done 37 = .ok (.new 48, 3) := by decide +kernel
theorem dX4_done_40 : decode cX4_done 40 = .ok (.dup, 1) := by decide +kernel
theorem dX4_done_41 : decode cX4_done 41 = .ok (.ldc 131, 2) := by decide +kernel
theorem dX4_done_43 : decode cX4_done 43 = .ok (.invokespecial 52, 3) := by decide +kernel
theorem dX4_done_46 : decode cX4_done 46 = .ok (.athrow, 1) := by decide +kernel
theorem dX4_done_47 : decode cX4_done 47 = .ok (.iload 5, 2) := by decide +kernel
theorem dX4_done_49 : decode cX4_done 49 = .ok (.aload 6, 2) := by decide +kernel
theorem dX4_done_51 : decode cX4_done 51 = .ok (.getfield 133, 3) := by decide +kernel
theorem dX4_done_54 : decode cX4_done 54 = .ok (.invokestatic 121, 3) := by decide +kernel
theorem dX4_done_57 : decode cX4_done 57 = .ok (.aload_n 0, 1) := by decide +kernel
theorem dX4_done_58 : decode cX4_done 58 = .ok (.aload 6, 2) := by decide +kernel
theorem dX4_done_60 : decode cX4_done 60 = .ok (.aload 7, 2) := by decide +kernel
theorem dX4_done_62 : decode cX4_done 62 = .ok (.iload_n 3, 1) := by decide +kernel
theorem dX4_done_63 : decode cX4_done 63 = .ok (.iload 5, 2) := by decide +kernel
theorem dX4_done_65 : decode cX4_done 65 = .ok (.invokevirtual 124, 3) := by decide +kernel
theorem dX4_done_68 : decode cX4_done 68 = .ok (.istore 8, 2) := by decide +kernel
theorem dX4_done_70 : decode cX4_done 70 = .ok (.iload 8, 2) := by decide +kernel
theorem dX4_done_72 : decode cX4_done 72 = .ok (.ifCond .eq 6, 3) := by decide +kernel
theorem dX4_done_75 : decode cX4_done 75 = .ok (.iload 8, 2) := by decide +kernel
theorem dX4_done_77 : decode cX4_done 77 = .ok (.ireturn, 1) := by decide +kernel
theorem dX4_done_78 : decode cX4_done 78 = .ok (.aload 7, 2) := by decide +kernel
theorem dX4_done_80 : decode cX4_done 80 = .ok (.getfield 136, 3) := by decide +kernel
theorem dX4_done_83 : decode cX4_done 83 = .ok (.ifCond .eq 26, 3) := by decide +kernel
theorem dX4_done_86 : decode cX4_done 86 = .ok (.iload 4, 2) := by decide +kernel
theorem dX4_done_88 : decode cX4_done 88 = .ok (.iload_n 3, 1) := by decide +kernel
theorem dX4_done_89 : decode cX4_done 89 = .ok (.if_icmp .eq 16, 3) := by decide +kernel
theorem dX4_done_92 : decode cX4_done 92 = .ok (.aload 7, 2) := by decide +kernel
theorem dX4_done_94 : decode cX4_done 94 = .ok (.getfield 107, 3) := by decide +kernel
theorem dX4_done_97 : decode cX4_done 97 = .ok (.iload 4, 2) := by decide +kernel
theorem dX4_done_99 : decode cX4_done 99 = .ok (.invokestatic 110, 3) := by decide +kernel
theorem dX4_done_102 : decode cX4_done 102 = .ok (.ifCond .ne 7, 3) := by decide +kernel
theorem dX4_done_105 : decode cX4_done 105 = .ok (.sipush 700, 3) := by decide +kernel
theorem dX4_done_108 : decode cX4_done 108 = .ok (.ireturn, 1) := by decide +kernel
theorem dX4_done_109 : decode cX4_done 109 = .ok (.aload_n 0, 1) := by decide +kernel
theorem dX4_done_110 : decode cX4_done 110 = .ok (.aload 7, 2) := by decide +kernel
theorem dX4_done_112 : decode cX4_done 112 = .ok (.invokevirtual 140, 3) := by decide +kernel
theorem dX4_done_115 : decode cX4_done 115 = .ok (.aload 6, 2) := by decide +kernel
theorem dX4_done_117 : decode cX4_done 117 = .ok (.iload_n 2, 1) := by decide +kernel
theorem dX4_done_118 : decode cX4_done 118 = .ok (.iload 5, 2) := by decide +kernel
theorem dX4_done_120 : decode cX4_done 120 = .ok (.iload_n 3, 1) := by decide +kernel
theorem dX4_done_121 : decode cX4_done 121 = .ok (.aload 7, 2) := by decide +kernel
theorem dX4_done_123 : decode cX4_done 123 = .ok (.getfield 136, 3) := by decide +kernel
theorem dX4_done_126 : decode cX4_done 126 = .ok (.ifCond .eq 8, 3) := by decide +kernel
theorem dX4_done_129 : decode cX4_done 129 = .ok (.iload 4, 2) := by decide +kernel
theorem dX4_done_131 : decode cX4_done 131 = .ok (.goto 4, 3) := by decide +kernel
theorem dX4_done_134 : decode cX4_done 134 = .ok (.iconst (-1), 1) := by decide +kernel
theorem dX4_done_135 : decode cX4_done 135 = .ok (.invokevirtual 144, 3) := by decide +kernel
theorem dX4_done_138 : decode cX4_done 138 = .ok (.iconst 0, 1) := by decide +kernel
theorem dX4_done_139 : decode cX4_done 139 = .ok (.ireturn, 1) := by decide +kernel
theorem dX4_row_0 : decode cX4_row 0 = .ok (.aload_n 0, 1) := by decide +kernel
theorem dX4_row_1 : decode cX4_row 1 = .ok (.iload_n 1, 1) := by decide +kernel
theorem dX4_row_2 : decode cX4_row 2 = .ok (.invokevirtual 94, 3) := by decide +kernel
theorem dX4_row_5 : decode cX4_row 5 = .ok (.astore 4, 2) := by decide +kernel
theorem dX4_row_7 : decode cX4_row 7 = .ok (.iload_n 3, 1) := by decide +kernel
theorem dX4_row_8 : decode cX4_row 8 = .ok (.iconst 4, 1) := by decide +kernel
theorem dX4_row_9 : decode cX4_row 9 = .ok (.invokestatic 82, 3) := by decide +kernel
theorem dX4_row_12 : decode cX4_row 12 = .ok (.iload_n 2, 1) := by decide +kernel
theorem dX4_row_13 : decode cX4_row 13 = .ok (.iconst (-1), 1) := by decide +kernel
theorem dX4_row_14 : decode cX4_row 14 = .ok (.if_icmp .ne 9, 3) := by decide +kernel
theorem dX4_row_17 : decode cX4_row 17 = .ok (.aload 4, 2) := by decide +kernel
theorem dX4_row_19 : decode cX4_row 19 = .ok (.getfield 128, 3) := by decide +kernel
theorem dX4_row_22 : decode cX4_row 22 = .ok (.ireturn, 1) := by decide +kernel
theorem dX4_row_23 : decode cX4_row 23 = .ok (.iload_n 2, 1) := by decide +kernel
theorem dX4_row_24 : decode cX4_row 24 = .ok (.aload 4, 2) := by decide +kernel
theorem dX4_row_26 : decode cX4_row 26 = .ok (.getfield 128, 3) := by decide +kernel
theorem dX4_row_29 : decode cX4_row 29 = .ok (.invokestatic 82, 3) := by decide +kernel
theorem dX4_row_32 : decode cX4_row 32 = .ok (.aload 4, 2) := by decide +kernel
theorem dX4_row_34 : decode cX4_row 34 = .ok (.getfield 148, 3) := by decide +kernel
theorem dX4_row_37 : decode cX4_row 37 = .ok (.iload_n 2, 1) := by decide +kernel
theorem dX4_row_38 : decode cX4_row 38 = .ok (.iconst 4, 1) := by decide +kernel
theorem dX4_row_39 : decode cX4_row 39 = .ok (.imul, 1) := by decide +kernel
theorem dX4_row_40 : decode cX4_row 40 = .ok (.iload_n 3, 1) := by decide +kernel
theorem dX4_row_41 : decode cX4_row 41 = .ok (.iadd, 1) := by decide +kernel
theorem dX4_row_42 : decode cX4_row 42 = .ok (.iaload, 1) := by decide +kernel
theorem dX4_row_43 : decode cX4_row 43 = .ok (.ireturn, 1) := by decide +kernel
theorem dX4_stock_0 : decode cX4_stock 0 = .ok (.aload_n 0, 1) := by decide +kernel
theorem dX4_stock_1 : decode cX4_stock 1 = .ok (.iload_n 1, 1) := by decide +kernel
theorem dX4_stock_2 : decode cX4_stock 2 = .ok (.invokevirtual 151, 3) := by decide +kernel
theorem dX4_stock_5 : decode cX4_stock 5 = .ok (.astore_n 3, 1) := by decide +kernel
theorem dX4_stock_6 : decode cX4_stock 6 = .ok (.iload_n 2, 1) := by decide +kernel
theorem dX4_stock_7 : decode cX4_stock 7 = .ok (.ldc 155, 2) := by decide +kernel
theorem dX4_stock_9 : decode cX4_stock 9 = .ok (.if_icmp .lt 9, 3) := by decide +kernel
theorem dX4_stock_12 : decode cX4_stock 12 = .ok (.iload_n 2, 1) := by decide +kernel
theorem dX4_stock_13 : decode cX4_stock 13 = .ok (.ldc 156, 2) := by decide +kernel
theorem dX4_stock_15 : decode cX4_stock 15 = .ok (.if_icmp .le 13, 3) := by decide +kernel
theorem dX4_stock_18 : decode cX4_stock 18 = .ok (.new 55, 3) := by decide +kernel
theorem dX4_stock_21 : decode cX4_stock 21 = .ok (.dup, 1) := by decide +kernel
theorem dX4_stock_22 : decode cX4_stock 22 = .ok (.ldc 157, 2) := by decide +kernel
theorem dX4_stock_24 : decode cX4_stock 24 = .ok (.invokespecial 59, 3) := by decide +kernel
theorem dX4_stock_27 : decode cX4_stock 27 = .ok (.athrow, 1) := by decide +kernel
theorem dX4_stock_28 : decode cX4_stock 28 = .ok (.aload_n 3, 1) := by decide +kernel
theorem dX4_stock_29 : decode cX4_stock 29 = .ok (.getfield 159, 3) := by decide +kernel
theorem dX4_stock_32 : decode cX4_stock 32 = .ok (.iload_n 2, 1) := by decide +kernel
theorem dX4_stock_33 : decode cX4_stock 33 = .ok (.iadd, 1) := by decide +kernel
theorem dX4_stock_34 : decode cX4_stock 34 = .ok (.istore 4, 2) := by decide +kernel
theorem dX4_stock_36 : decode cX4_stock 36 = .ok (.iload 4, 2) := by decide +kernel
theorem dX4_stock_38 : decode cX4_stock 38 = .ok (.ifCond .lt 10, 3) := by decide +kernel
theorem dX4_stock_41 : decode cX4_stock 41 = .ok (.iload 4, 2) := by decide +kernel
theorem dX4_stock_43 : decode cX4_stock 43 = .ok (.ldc 156, 2) := by decide +kernel
theorem dX4_stock_45 : decode cX4_stock 45 = .ok (.if_icmp .le 5, 3) := by decide +kernel
theorem dX4_stock_48 : decode cX4_stock 48 = .ok (.iconst (-1), 1) := by decide +kernel
theorem dX4_stock_49 : decode cX4_stock 49 = .ok (.ireturn, 1) := by decide +kernel
theorem dX4_stock_50 : decode cX4_stock 50 = .ok (.aload_n 3, 1) := by decide +kernel
theorem dX4_stock_51 : decode cX4_stock 51 = .ok (.iload_n 2, 1) := by decide +kernel
theorem dX4_stock_52 : decode cX4_stock 52 = .ok (.invokevirtual 162, 3) := by decide +kernel
theorem dX4_stock_55 : decode cX4_stock 55 = .ok (.iload 4, 2) := by decide +kernel
theorem dX4_stock_57 : decode cX4_stock 57 = .ok (.ireturn, 1) := by decide +kernel
theorem dX4_about_0 : decode cX4_about 0 = .ok (.aload_n 0, 1) := by decide +kernel
theorem dX4_about_1 : decode cX4_about 1 = .ok (.iload_n 1, 1) := by decide +kernel
theorem dX4_about_2 : decode cX4_about 2 = .ok (.invokevirtual 151, 3) := by decide +kernel
theorem dX4_about_5 : decode cX4_about 5 = .ok (.astore_n 3, 1) := by decide +kernel
theorem dX4_about_6 : decode cX4_about 6 = .ok (.iload_n 2, 1) := by decide +kernel
theorem dX4_about_7 : decode cX4_about 7 = .ok (.tableswitch 51 0 3 #[29, 35, 40, 45], 29) := by decide +kernel
theorem dX4_about_36 : decode cX4_about 36 = .ok (.aload_n 3, 1) := by decide +kernel
theorem dX4_about_37 : decode cX4_about 37 = .ok (.getfield 159, 3) := by decide +kernel
theorem dX4_about_40 : decode cX4_about 40 = .ok (.i2l, 1) := by decide +kernel
theorem dX4_about_41 : decode cX4_about 41 = .ok (.lreturn, 1) := by decide +kernel
theorem dX4_about_42 : decode cX4_about 42 = .ok (.aload_n 3, 1) := by decide +kernel
theorem dX4_about_43 : decode cX4_about 43 = .ok (.getfield 166, 3) := by decide +kernel
theorem dX4_about_46 : decode cX4_about 46 = .ok (.lreturn, 1) := by decide +kernel
theorem dX4_about_47 : decode cX4_about 47 = .ok (.aload_n 3, 1) := by decide +kernel
theorem dX4_about_48 : decode cX4_about 48 = .ok (.getfield 170, 3) := by decide +kernel
theorem dX4_about_51 : decode cX4_about 51 = .ok (.lreturn, 1) := by decide +kernel
theorem dX4_about_52 : decode cX4_about 52 = .ok (.aload_n 3, 1) := by decide +kernel
theorem dX4_about_53 : decode cX4_about 53 = .ok (.getfield 173, 3) := by decide +kernel
theorem dX4_about_56 : decode cX4_about 56 = .ok (.i2l, 1) := by decide +kernel
theorem dX4_about_57 : decode cX4_about 57 = .ok (.lreturn, 1) := by decide +kernel
theorem dX4_about_58 : decode cX4_about 58 = .ok (.new 176, 3) := by decide +kernel
theorem dX4_about_61 : decode cX4_about 61 = .ok (.dup, 1) := by decide +kernel
theorem dX4_about_62 : decode cX4_about 62 = .ok (.ldc 178, 2) := by decide +kernel
theorem dX4_about_64 : decode cX4_about 64 = .ok (.invokespecial 180, 3) := by decide +kernel
theorem dX4_about_67 : decode cX4_about 67 = .ok (.athrow, 1) := by decide +kernel
theorem dX4_apart_0 : decode cX4_apart 0 = .ok (.aload_n 0, 1) := by decide +kernel
theorem dX4_apart_1 : decode cX4_apart 1 = .ok (.iload_n 1, 1) := by decide +kernel
theorem dX4_apart_2 : decode cX4_apart 2 = .ok (.invokevirtual 151, 3) := by decide +kernel
theorem dX4_apart_5 : decode cX4_apart 5 = .ok (.astore_n 3, 1) := by decide +kernel
theorem dX4_apart_6 : decode cX4_apart 6 = .ok (.aload_n 0, 1) := by decide +kernel
theorem dX4_apart_7 : decode cX4_apart 7 = .ok (.iload_n 2, 1) := by decide +kernel
theorem dX4_apart_8 : decode cX4_apart 8 = .ok (.invokevirtual 151, 3) := by decide +kernel
theorem dX4_apart_11 : decode cX4_apart 11 = .ok (.astore 4, 2) := by decide +kernel
theorem dX4_apart_13 : decode cX4_apart 13 = .ok (.iload_n 1, 1) := by decide +kernel
theorem dX4_apart_14 : decode cX4_apart 14 = .ok (.iload_n 2, 1) := by decide +kernel
theorem dX4_apart_15 : decode cX4_apart 15 = .ok (.if_icmp .eq 23, 3) := by decide +kernel
theorem dX4_apart_18 : decode cX4_apart 18 = .ok (.aload_n 3, 1) := by decide +kernel
theorem dX4_apart_19 : decode cX4_apart 19 = .ok (.getfield 173, 3) := by decide +kernel
theorem dX4_apart_22 : decode cX4_apart 22 = .ok (.iconst (-1), 1) := by decide +kernel
theorem dX4_apart_23 : decode cX4_apart 23 = .ok (.if_icmp .eq 17, 3) := by decide +kernel
theorem dX4_apart_26 : decode cX4_apart 26 = .ok (.aload_n 3, 1) := by decide +kernel
theorem dX4_apart_27 : decode cX4_apart 27 = .ok (.getfield 173, 3) := by decide +kernel
theorem dX4_apart_30 : decode cX4_apart 30 = .ok (.aload 4, 2) := by decide +kernel
theorem dX4_apart_32 : decode cX4_apart 32 = .ok (.getfield 173, 3) := by decide +kernel
theorem dX4_apart_35 : decode cX4_apart 35 = .ok (.if_icmp .ne 5, 3) := by decide +kernel
theorem dX4_apart_38 : decode cX4_apart 38 = .ok (.iconst 0, 1) := by decide +kernel
theorem dX4_apart_39 : decode cX4_apart 39 = .ok (.ireturn, 1) := by decide +kernel
theorem dX4_apart_40 : decode cX4_apart 40 = .ok (.aload_n 3, 1) := by decide +kernel
theorem dX4_apart_41 : decode cX4_apart 41 = .ok (.aload_n 3, 1) := by decide +kernel
theorem dX4_apart_42 : decode cX4_apart 42 = .ok (.getfield 181, 3) := by decide +kernel
theorem dX4_apart_45 : decode cX4_apart 45 = .ok (.iload_n 2, 1) := by decide +kernel
theorem dX4_apart_46 : decode cX4_apart 46 = .ok (.iconst 1, 1) := by decide +kernel
theorem dX4_apart_47 : decode cX4_apart 47 = .ok (.invokestatic 114, 3) := by decide +kernel
theorem dX4_apart_50 : decode cX4_apart 50 = .ok (.putfield 181, 3) := by decide +kernel
theorem dX4_apart_53 : decode cX4_apart 53 = .ok (.aload 4, 2) := by decide +kernel
theorem dX4_apart_55 : decode cX4_apart 55 = .ok (.aload 4, 2) := by decide +kernel
theorem dX4_apart_57 : decode cX4_apart 57 = .ok (.getfield 181, 3) := by decide +kernel
theorem dX4_apart_60 : decode cX4_apart 60 = .ok (.iload_n 1, 1) := by decide +kernel
theorem dX4_apart_61 : decode cX4_apart 61 = .ok (.iconst 1, 1) := by decide +kernel
theorem dX4_apart_62 : decode cX4_apart 62 = .ok (.invokestatic 114, 3) := by decide +kernel
theorem dX4_apart_65 : decode cX4_apart 65 = .ok (.putfield 181, 3) := by decide +kernel
theorem dX4_apart_68 : decode cX4_apart 68 = .ok (.iconst 1, 1) := by decide +kernel
theorem dX4_apart_69 : decode cX4_apart 69 = .ok (.ireturn, 1) := by decide +kernel
theorem dX4_put_0 : decode cX4_put 0 = .ok (.aload_n 0, 1) := by decide +kernel
theorem dX4_put_1 : decode cX4_put 1 = .ok (.iload_n 1, 1) := by decide +kernel
theorem dX4_put_2 : decode cX4_put 2 = .ok (.invokevirtual 151, 3) := by decide +kernel
theorem dX4_put_5 : decode cX4_put 5 = .ok (.astore_n 3, 1) := by decide +kernel
theorem dX4_put_6 : decode cX4_put 6 = .ok (.iload_n 2, 1) := by decide +kernel
theorem dX4_put_7 : decode cX4_put 7 = .ok (.iconst (-1), 1) := by decide +kernel
theorem dX4_put_8 : decode cX4_put 8 = .ok (.if_icmp .eq 35, 3) := by decide +kernel
theorem dX4_put_11 : decode cX4_put 11 = .ok (.iload_n 2, 1) := by decide +kernel
theorem dX4_put_12 : decode cX4_put 12 = .ok (.bipush 6, 2) := by decide +kernel
theorem dX4_put_14 : decode cX4_put 14 = .ok (.invokestatic 82, 3) := by decide +kernel
theorem dX4_put_17 : decode cX4_put 17 = .ok (.aload_n 3, 1) := by decide +kernel
theorem dX4_put_18 : decode cX4_put 18 = .ok (.getfield 181, 3) := by decide +kernel
theorem dX4_put_21 : decode cX4_put 21 = .ok (.aload_n 0, 1) := by decide +kernel
theorem dX4_put_22 : decode cX4_put 22 = .ok (.iload_n 2, 1) := by decide +kernel
theorem dX4_put_23 : decode cX4_put 23 = .ok (.invokevirtual 184, 3) := by decide +kernel
theorem dX4_put_26 : decode cX4_put 26 = .ok (.iand, 1) := by decide +kernel
theorem dX4_put_27 : decode cX4_put 27 = .ok (.invokestatic 187, 3) := by decide +kernel
theorem dX4_put_30 : decode cX4_put 30 = .ok (.istore 4, 2) := by decide +kernel
theorem dX4_put_32 : decode cX4_put 32 = .ok (.iload 4, 2) := by decide +kernel
theorem dX4_put_34 : decode cX4_put 34 = .ok (.iconst (-1), 1) := by decide +kernel
theorem dX4_put_35 : decode cX4_put 35 = .ok (.if_icmp .eq 8, 3) := by decide +kernel
theorem dX4_put_38 : decode cX4_put 38 = .ok (.iconst 1, 1) := by decide +kernel
theorem dX4_put_39 : decode cX4_put 39 = .ok (.iload 4, 2) := by decide +kernel
theorem dX4_put_41 : decode cX4_put 41 = .ok (.iadd, 1) := by decide +kernel
theorem dX4_put_42 : decode cX4_put 42 = .ok (.ireturn, 1) := by decide +kernel
theorem dX4_put_43 : decode cX4_put 43 = .ok (.aload_n 3, 1) := by decide +kernel
theorem dX4_put_44 : decode cX4_put 44 = .ok (.iload_n 2, 1) := by decide +kernel
theorem dX4_put_45 : decode cX4_put 45 = .ok (.putfield 173, 3) := by decide +kernel
theorem dX4_put_48 : decode cX4_put 48 = .ok (.iconst 0, 1) := by decide +kernel
theorem dX4_put_49 : decode cX4_put 49 = .ok (.ireturn, 1) := by decide +kernel
theorem dX4_plan_0 : decode cX4_plan 0 = .ok (.aload_n 0, 1) := by decide +kernel
theorem dX4_plan_1 : decode cX4_plan 1 = .ok (.iload_n 1, 1) := by decide +kernel
theorem dX4_plan_2 : decode cX4_plan 2 = .ok (.invokevirtual 94, 3) := by decide +kernel
theorem dX4_plan_5 : decode cX4_plan 5 = .ok (.astore_n 3, 1) := by decide +kernel
theorem dX4_plan_6 : decode cX4_plan 6 = .ok (.iload_n 2, 1) := by decide +kernel
theorem dX4_plan_7 : decode cX4_plan 7 = .ok (.aload_n 0, 1) := by decide +kernel
theorem dX4_plan_8 : decode cX4_plan 8 = .ok (.getfield 63, 3) := by decide +kernel
theorem dX4_plan_11 : decode cX4_plan 11 = .ok (.iushr, 1) := by decide +kernel
theorem dX4_plan_12 : decode cX4_plan 12 = .ok (.ifCond .eq 13, 3) := by decide +kernel
theorem dX4_plan_15 : decode cX4_plan 15 = .ok (.new 176, 3) := by decide +kernel
theorem dX4_plan_18 : decode cX4_plan 18 = .ok (.dup, 1) := by decide +kernel
theorem dX4_plan_19 : decode cX4_plan 19 = .ok (.ldc 190, 2) := by decide +kernel
theorem dX4_plan_21 : decode cX4_plan 21 = .ok (.invokespecial 180, 3) := by decide +kernel
theorem dX4_plan_24 : decode cX4_plan 24 = .ok (.athrow, 1) := by decide +kernel
theorem dX4_plan_25 : decode cX4_plan 25 = .ok (.aload_n 0, 1) := by decide +kernel
theorem dX4_plan_26 : decode cX4_plan 26 = .ok (.iload_n 2, 1) := by decide +kernel
theorem dX4_plan_27 : decode cX4_plan 27 = .ok (.invokevirtual 192, 3) := by decide +kernel
theorem dX4_plan_30 : decode cX4_plan 30 = .ok (.aload_n 3, 1) := by decide +kernel
theorem dX4_plan_31 : decode cX4_plan 31 = .ok (.getfield 195, 3) := by decide +kernel
theorem dX4_plan_34 : decode cX4_plan 34 = .ok (.iconst (-1), 1) := by decide +kernel
theorem dX4_plan_35 : decode cX4_plan 35 = .ok (.ixor, 1) := by decide +kernel
theorem dX4_plan_36 : decode cX4_plan 36 = .ok (.iand, 1) := by decide +kernel
theorem dX4_plan_37 : decode cX4_plan 37 = .ok (.istore 4, 2) := by decide +kernel
theorem dX4_plan_39 : decode cX4_plan 39 = .ok (.iload 4, 2) := by decide +kernel
theorem dX4_plan_41 : decode cX4_plan 41 = .ok (.invokestatic 198, 3) := by decide +kernel
theorem dX4_plan_44 : decode cX4_plan 44 = .ok (.istore 5, 2) := by decide +kernel
theorem dX4_plan_46 : decode cX4_plan 46 = .ok (.iload 5, 2) := by decide +kernel
theorem dX4_plan_48 : decode cX4_plan 48 = .ok (.bipush 10, 2) := by decide +kernel
theorem dX4_plan_50 : decode cX4_plan 50 = .ok (.if_icmp .le 6, 3) := by decide +kernel
theorem dX4_plan_53 : decode cX4_plan 53 = .ok (.bipush (-2), 2) := by decide +kernel
theorem dX4_plan_55 : decode cX4_plan 55 = .ok (.ireturn, 1) := by decide +kernel
theorem dX4_plan_56 : decode cX4_plan 56 = .ok (.aload_n 0, 1) := by decide +kernel
theorem dX4_plan_57 : decode cX4_plan 57 = .ok (.aload_n 3, 1) := by decide +kernel
theorem dX4_plan_58 : decode cX4_plan 58 = .ok (.iload 4, 2) := by decide +kernel
theorem dX4_plan_60 : decode cX4_plan 60 = .ok (.invokevirtual 203, 3) := by decide +kernel
theorem dX4_plan_63 : decode cX4_plan 63 = .ok (.ifCond .eq 14, 3) := by decide +kernel
theorem dX4_plan_66 : decode cX4_plan 66 = .ok (.aload_n 0, 1) := by decide +kernel
theorem dX4_plan_67 : decode cX4_plan 67 = .ok (.iload 4, 2) := by decide +kernel
theorem dX4_plan_69 : decode cX4_plan 69 = .ok (.iload 5, 2) := by decide +kernel
theorem dX4_plan_71 : decode cX4_plan 71 = .ok (.invokevirtual 207, 3) := by decide +kernel
theorem dX4_plan_74 : decode cX4_plan 74 = .ok (.ifCond .ne 5, 3) := by decide +kernel
theorem dX4_plan_77 : decode cX4_plan 77 = .ok (.iconst (-1), 1) := by decide +kernel
theorem dX4_plan_78 : decode cX4_plan 78 = .ok (.ireturn, 1) := by decide +kernel
theorem dX4_plan_79 : decode cX4_plan 79 = .ok (.aload_n 0, 1) := by decide +kernel
theorem dX4_plan_80 : decode cX4_plan 80 = .ok (.getfield 41, 3) := by decide +kernel
theorem dX4_plan_83 : decode cX4_plan 83 = .ok (.iconst 0, 1) := by decide +kernel
theorem dX4_plan_84 : decode cX4_plan 84 = .ok (.aload_n 0, 1) := by decide +kernel
theorem dX4_plan_85 : decode cX4_plan 85 = .ok (.getfield 37, 3) := by decide +kernel
theorem dX4_plan_88 : decode cX4_plan 88 = .ok (.iconst 0, 1) := by decide +kernel
theorem dX4_plan_89 : decode cX4_plan 89 = .ok (.iload 5, 2) := by decide +kernel
theorem dX4_plan_91 : decode cX4_plan 91 = .ok (.invokestatic 210, 3) := by decide +kernel
theorem dX4_plan_94 : decode cX4_plan 94 = .ok (.aload_n 0, 1) := by decide +kernel
theorem dX4_plan_95 : decode cX4_plan 95 = .ok (.iload 5, 2) := by decide +kernel
theorem dX4_plan_97 : decode cX4_plan 97 = .ok (.putfield 216, 3) := by decide +kernel
theorem dX4_plan_100 : decode cX4_plan 100 = .ok (.iload 5, 2) := by decide +kernel
theorem dX4_plan_102 : decode cX4_plan 102 = .ok (.ireturn, 1) := by decide +kernel
theorem dX4_step_0 : decode cX4_step 0 = .ok (.iload_n 1, 1) := by decide +kernel
theorem dX4_step_1 : decode cX4_step 1 = .ok (.aload_n 0, 1) := by decide +kernel
theorem dX4_step_2 : decode cX4_step 2 = .ok (.getfield 216, 3) := by decide +kernel
theorem dX4_step_5 : decode cX4_step 5 = .ok (.invokestatic 82, 3) := by decide +kernel
theorem dX4_step_8 : decode cX4_step 8 = .ok (.aload_n 0, 1) := by decide +kernel
theorem dX4_step_9 : decode cX4_step 9 = .ok (.getfield 37, 3) := by decide +kernel
theorem dX4_step_12 : decode cX4_step 12 = .ok (.iload_n 1, 1) := by decide +kernel
theorem dX4_step_13 : decode cX4_step 13 = .ok (.iaload, 1) := by decide +kernel
theorem dX4_step_14 : decode cX4_step 14 = .ok (.ireturn, 1) := by decide +kernel
theorem dX4_count_0 : decode cX4_count 0 = .ok (.iload_n 1, 1) := by decide +kernel
theorem dX4_count_1 : decode cX4_count 1 = .ok (.tableswitch 63 0 4 #[35, 43, 48, 53, 58], 35) := by decide +kernel
theorem dX4_count_36 : decode cX4_count 36 = .ok (.aload_n 0, 1) := by decide +kernel
theorem dX4_count_37 : decode cX4_count 37 = .ok (.getfield 10, 3) := by decide +kernel
theorem dX4_count_40 : decode cX4_count 40 = .ok (.getfield 44, 3) := by decide +kernel
theorem dX4_count_43 : decode cX4_count 43 = .ok (.ireturn, 1) := by decide +kernel
theorem dX4_count_44 : decode cX4_count 44 = .ok (.aload_n 0, 1) := by decide +kernel
theorem dX4_count_45 : decode cX4_count 45 = .ok (.getfield 63, 3) := by decide +kernel
theorem dX4_count_48 : decode cX4_count 48 = .ok (.ireturn, 1) := by decide +kernel
theorem dX4_count_49 : decode cX4_count 49 = .ok (.aload_n 0, 1) := by decide +kernel
theorem dX4_count_50 : decode cX4_count 50 = .ok (.getfield 89, 3) := by decide +kernel
theorem dX4_count_53 : decode cX4_count 53 = .ok (.ireturn, 1) := by decide +kernel
theorem dX4_count_54 : decode cX4_count 54 = .ok (.aload_n 0, 1) := by decide +kernel
theorem dX4_count_55 : decode cX4_count 55 = .ok (.invokevirtual 219, 3) := by decide +kernel
theorem dX4_count_58 : decode cX4_count 58 = .ok (.ireturn, 1) := by decide +kernel
theorem dX4_count_59 : decode cX4_count 59 = .ok (.aload_n 0, 1) := by decide +kernel
theorem dX4_count_60 : decode cX4_count 60 = .ok (.getfield 216, 3) := by decide +kernel
theorem dX4_count_63 : decode cX4_count 63 = .ok (.ireturn, 1) := by decide +kernel
theorem dX4_count_64 : decode cX4_count 64 = .ok (.new 176, 3) := by decide +kernel
theorem dX4_count_67 : decode cX4_count 67 = .ok (.dup, 1) := by decide +kernel
theorem dX4_count_68 : decode cX4_count 68 = .ok (.ldc 178, 2) := by decide +kernel
theorem dX4_count_70 : decode cX4_count 70 = .ok (.invokespecial 180, 3) := by decide +kernel
theorem dX4_count_73 : decode cX4_count 73 = .ok (.athrow, 1) := by decide +kernel
theorem dX4_checkPlace_0 : decode cX4_checkPlace 0 = .ok (.iload_n 0, 1) := by decide +kernel
theorem dX4_checkPlace_1 : decode cX4_checkPlace 1 = .ok (.ifCond .lt 8, 3) := by decide +kernel
theorem dX4_checkPlace_4 : decode cX4_checkPlace 4 = .ok (.iload_n 0, 1) := by decide +kernel
theorem dX4_checkPlace_5 : decode cX4_checkPlace 5 = .ok (.iload_n 1, 1) := by decide +kernel
theorem dX4_checkPlace_6 : decode cX4_checkPlace 6 = .ok (.if_icmp .lt 13, 3) := by decide +kernel
theorem dX4_checkPlace_9 : decode cX4_checkPlace 9 = .ok (.new 176, 3) := by decide +kernel
theorem dX4_checkPlace_12 : decode cX4_checkPlace 12 = .ok (.dup, 1) := by decide +kernel
theorem dX4_checkPlace_13 : decode cX4_checkPlace 13 = .ok (.ldc 223, 2) := by decide +kernel
theorem dX4_checkPlace_15 : decode cX4_checkPlace 15 = .ok (.invokespecial 180, 3) := by decide +kernel
theorem dX4_checkPlace_18 : decode cX4_checkPlace 18 = .ok (.athrow, 1) := by decide +kernel
theorem dX4_checkPlace_19 : decode cX4_checkPlace 19 = .ok (.return_, 1) := by decide +kernel
theorem dX4_checkHour_0 : decode cX4_checkHour 0 = .ok (.iload_n 0, 1) := by decide +kernel
theorem dX4_checkHour_1 : decode cX4_checkHour 1 = .ok (.iload_n 1, 1) := by decide +kernel
theorem dX4_checkHour_2 : decode cX4_checkHour 2 = .ok (.if_icmp .lt 9, 3) := by decide +kernel
theorem dX4_checkHour_5 : decode cX4_checkHour 5 = .ok (.iload_n 0, 1) := by decide +kernel
theorem dX4_checkHour_6 : decode cX4_checkHour 6 = .ok (.ldc 156, 2) := by decide +kernel
theorem dX4_checkHour_8 : decode cX4_checkHour 8 = .ok (.if_icmp .le 13, 3) := by decide +kernel
theorem dX4_checkHour_11 : decode cX4_checkHour 11 = .ok (.new 55, 3) := by decide +kernel
theorem dX4_checkHour_14 : decode cX4_checkHour 14 = .ok (.dup, 1) := by decide +kernel
theorem dX4_checkHour_15 : decode cX4_checkHour 15 = .ok (.ldc 225, 2) := by decide +kernel
theorem dX4_checkHour_17 : decode cX4_checkHour 17 = .ok (.invokespecial 59, 3) := by decide +kernel
theorem dX4_checkHour_20 : decode cX4_checkHour 20 = .ok (.athrow, 1) := by decide +kernel
theorem dX4_checkHour_21 : decode cX4_checkHour 21 = .ok (.return_, 1) := by decide +kernel
theorem dX4_methodAt_0 : decode cX4_methodAt 0 = .ok (.iload_n 1, 1) := by decide +kernel
theorem dX4_methodAt_1 : decode cX4_methodAt 1 = .ok (.aload_n 0, 1) := by decide +kernel
theorem dX4_methodAt_2 : decode cX4_methodAt 2 = .ok (.getfield 63, 3) := by decide +kernel
theorem dX4_methodAt_5 : decode cX4_methodAt 5 = .ok (.invokestatic 82, 3) := by decide +kernel
theorem dX4_methodAt_8 : decode cX4_methodAt 8 = .ok (.aload_n 0, 1) := by decide +kernel
theorem dX4_methodAt_9 : decode cX4_methodAt 9 = .ok (.getfield 18, 3) := by decide +kernel
theorem dX4_methodAt_12 : decode cX4_methodAt 12 = .ok (.iload_n 1, 1) := by decide +kernel
theorem dX4_methodAt_13 : decode cX4_methodAt 13 = .ok (.aaload, 1) := by decide +kernel
theorem dX4_methodAt_14 : decode cX4_methodAt 14 = .ok (.areturn, 1) := by decide +kernel
theorem dX4_pieceAt_0 : decode cX4_pieceAt 0 = .ok (.iload_n 1, 1) := by decide +kernel
theorem dX4_pieceAt_1 : decode cX4_pieceAt 1 = .ok (.aload_n 0, 1) := by decide +kernel
theorem dX4_pieceAt_2 : decode cX4_pieceAt 2 = .ok (.getfield 89, 3) := by decide +kernel
theorem dX4_pieceAt_5 : decode cX4_pieceAt 5 = .ok (.invokestatic 82, 3) := by decide +kernel
theorem dX4_pieceAt_8 : decode cX4_pieceAt 8 = .ok (.aload_n 0, 1) := by decide +kernel
theorem dX4_pieceAt_9 : decode cX4_pieceAt 9 = .ok (.getfield 25, 3) := by decide +kernel
theorem dX4_pieceAt_12 : decode cX4_pieceAt 12 = .ok (.iload_n 1, 1) := by decide +kernel
theorem dX4_pieceAt_13 : decode cX4_pieceAt 13 = .ok (.aaload, 1) := by decide +kernel
theorem dX4_pieceAt_14 : decode cX4_pieceAt 14 = .ok (.areturn, 1) := by decide +kernel
theorem dX4_goodAt_0 : decode cX4_goodAt 0 = .ok (.iload_n 1, 1) := by decide +kernel
theorem dX4_goodAt_1 : decode cX4_goodAt 1 = .ok (.bipush 12, 2) := by decide +kernel
theorem dX4_goodAt_3 : decode cX4_goodAt 3 = .ok (.invokestatic 82, 3) := by decide +kernel
theorem dX4_goodAt_6 : decode cX4_goodAt 6 = .ok (.aload_n 0, 1) := by decide +kernel
theorem dX4_goodAt_7 : decode cX4_goodAt 7 = .ok (.getfield 32, 3) := by decide +kernel
theorem dX4_goodAt_10 : decode cX4_goodAt 10 = .ok (.iload_n 1, 1) := by decide +kernel
theorem dX4_goodAt_11 : decode cX4_goodAt 11 = .ok (.aaload, 1) := by decide +kernel
theorem dX4_goodAt_12 : decode cX4_goodAt 12 = .ok (.areturn, 1) := by decide +kernel
theorem dX4_has_0 : decode cX4_has 0 = .ok (.iload_n 0, 1) := by decide +kernel
theorem dX4_has_1 : decode cX4_has 1 = .ok (.iload_n 1, 1) := by decide +kernel
theorem dX4_has_2 : decode cX4_has 2 = .ok (.iushr, 1) := by decide +kernel
theorem dX4_has_3 : decode cX4_has 3 = .ok (.iconst 1, 1) := by decide +kernel
theorem dX4_has_4 : decode cX4_has 4 = .ok (.iand, 1) := by decide +kernel
theorem dX4_has_5 : decode cX4_has 5 = .ok (.iconst 1, 1) := by decide +kernel
theorem dX4_has_6 : decode cX4_has 6 = .ok (.if_icmp .ne 7, 3) := by decide +kernel
theorem dX4_has_9 : decode cX4_has 9 = .ok (.iconst 1, 1) := by decide +kernel
theorem dX4_has_10 : decode cX4_has 10 = .ok (.goto 4, 3) := by decide +kernel
theorem dX4_has_13 : decode cX4_has 13 = .ok (.iconst 0, 1) := by decide +kernel
theorem dX4_has_14 : decode cX4_has 14 = .ok (.ireturn, 1) := by decide +kernel
theorem dX4_with_0 : decode cX4_with 0 = .ok (.iload_n 2, 1) := by decide +kernel
theorem dX4_with_1 : decode cX4_with 1 = .ok (.ifCond .eq 11, 3) := by decide +kernel
theorem dX4_with_4 : decode cX4_with 4 = .ok (.iload_n 0, 1) := by decide +kernel
theorem dX4_with_5 : decode cX4_with 5 = .ok (.iconst 1, 1) := by decide +kernel
theorem dX4_with_6 : decode cX4_with 6 = .ok (.iload_n 1, 1) := by decide +kernel
theorem dX4_with_7 : decode cX4_with 7 = .ok (.ishl, 1) := by decide +kernel
theorem dX4_with_8 : decode cX4_with 8 = .ok (.ior, 1) := by decide +kernel
theorem dX4_with_9 : decode cX4_with 9 = .ok (.goto 10, 3) := by decide +kernel
theorem dX4_with_12 : decode cX4_with 12 = .ok (.iload_n 0, 1) := by decide +kernel
theorem dX4_with_13 : decode cX4_with 13 = .ok (.iconst 1, 1) := by decide +kernel
theorem dX4_with_14 : decode cX4_with 14 = .ok (.iload_n 1, 1) := by decide +kernel
theorem dX4_with_15 : decode cX4_with 15 = .ok (.ishl, 1) := by decide +kernel
theorem dX4_with_16 : decode cX4_with 16 = .ok (.iconst (-1), 1) := by decide +kernel
theorem dX4_with_17 : decode cX4_with 17 = .ok (.ixor, 1) := by decide +kernel
theorem dX4_with_18 : decode cX4_with 18 = .ok (.iand, 1) := by decide +kernel
theorem dX4_with_19 : decode cX4_with 19 = .ok (.ireturn, 1) := by decide +kernel
theorem dX4_lowest_0 : decode cX4_lowest 0 = .ok (.iconst 0, 1) := by decide +kernel
theorem dX4_lowest_1 : decode cX4_lowest 1 = .ok (.istore_n 1, 1) := by decide +kernel
theorem dX4_lowest_2 : decode cX4_lowest 2 = .ok (.iload_n 1, 1) := by decide +kernel
theorem dX4_lowest_3 : decode cX4_lowest 3 = .ok (.bipush 12, 2) := by decide +kernel
theorem dX4_lowest_5 : decode cX4_lowest 5 = .ok (.if_icmp .ge 19, 3) := by decide +kernel
theorem dX4_lowest_8 : decode cX4_lowest 8 = .ok (.iload_n 0, 1) := by decide +kernel
theorem dX4_lowest_9 : decode cX4_lowest 9 = .ok (.iload_n 1, 1) := by decide +kernel
theorem dX4_lowest_10 : decode cX4_lowest 10 = .ok (.invokestatic 110, 3) := by decide +kernel
theorem dX4_lowest_13 : decode cX4_lowest 13 = .ok (.ifCond .eq 5, 3) := by decide +kernel
theorem dX4_lowest_16 : decode cX4_lowest 16 = .ok (.iload_n 1, 1) := by decide +kernel
theorem dX4_lowest_17 : decode cX4_lowest 17 = .ok (.ireturn, 1) := by decide +kernel
theorem dX4_lowest_18 : decode cX4_lowest 18 = .ok (.iinc 1 1, 3) := by decide +kernel
theorem dX4_lowest_21 : decode cX4_lowest 21 = .ok (.goto (-19), 3) := by decide +kernel
theorem dX4_lowest_24 : decode cX4_lowest 24 = .ok (.iconst (-1), 1) := by decide +kernel
theorem dX4_lowest_25 : decode cX4_lowest 25 = .ok (.ireturn, 1) := by decide +kernel
theorem dX4_reasonAgainst_0 : decode cX4_reasonAgainst 0 = .ok (.aload_n 1, 1) := by decide +kernel
theorem dX4_reasonAgainst_1 : decode cX4_reasonAgainst 1 = .ok (.aload_n 2, 1) := by decide +kernel
theorem dX4_reasonAgainst_2 : decode cX4_reasonAgainst 2 = .ok (.getfield 227, 3) := by decide +kernel
theorem dX4_reasonAgainst_5 : decode cX4_reasonAgainst 5 = .ok (.invokevirtual 230, 3) := by decide +kernel
theorem dX4_reasonAgainst_8 : decode cX4_reasonAgainst 8 = .ok (.istore 5, 2) := by decide +kernel
theorem dX4_reasonAgainst_10 : decode cX4_reasonAgainst 10 = .ok (.iload 5, 2) := by decide +kernel
theorem dX4_reasonAgainst_12 : decode cX4_reasonAgainst 12 = .ok (.iconst (-1), 1) := by decide +kernel
theorem dX4_reasonAgainst_13 : decode cX4_reasonAgainst 13 = .ok (.if_icmp .eq 9, 3) := by decide +kernel
theorem dX4_reasonAgainst_16 : decode cX4_reasonAgainst 16 = .ok (.bipush 100, 2) := by decide +kernel
theorem dX4_reasonAgainst_18 : decode cX4_reasonAgainst 18 = .ok (.iload 5, 2) := by decide +kernel
theorem dX4_reasonAgainst_20 : decode cX4_reasonAgainst 20 = .ok (.iadd, 1) := by decide +kernel
theorem dX4_reasonAgainst_21 : decode cX4_reasonAgainst 21 = .ok (.ireturn, 1) := by decide +kernel
theorem dX4_reasonAgainst_22 : decode cX4_reasonAgainst 22 = .ok (.aload_n 2, 1) := by decide +kernel
theorem dX4_reasonAgainst_23 : decode cX4_reasonAgainst 23 = .ok (.getfield 233, 3) := by decide +kernel
theorem dX4_reasonAgainst_26 : decode cX4_reasonAgainst 26 = .ok (.aload_n 1, 1) := by decide +kernel
theorem dX4_reasonAgainst_27 : decode cX4_reasonAgainst 27 = .ok (.getfield 195, 3) := by decide +kernel
theorem dX4_reasonAgainst_30 : decode cX4_reasonAgainst 30 = .ok (.iand, 1) := by decide +kernel
theorem dX4_reasonAgainst_31 : decode cX4_reasonAgainst 31 = .ok (.invokestatic 187, 3) := by decide +kernel
theorem dX4_reasonAgainst_34 : decode cX4_reasonAgainst 34 = .ok (.istore 6, 2) := by decide +kernel
theorem dX4_reasonAgainst_36 : decode cX4_reasonAgainst 36 = .ok (.iload 6, 2) := by decide +kernel
theorem dX4_reasonAgainst_38 : decode cX4_reasonAgainst 38 = .ok (.iconst (-1), 1) := by decide +kernel
theorem dX4_reasonAgainst_39 : decode cX4_reasonAgainst 39 = .ok (.if_icmp .eq 10, 3) := by decide +kernel
theorem dX4_reasonAgainst_42 : decode cX4_reasonAgainst 42 = .ok (.sipush 200, 3) := by decide +kernel
theorem dX4_reasonAgainst_45 : decode cX4_reasonAgainst 45 = .ok (.iload 6, 2) := by decide +kernel
theorem dX4_reasonAgainst_47 : decode cX4_reasonAgainst 47 = .ok (.iadd, 1) := by decide +kernel
theorem dX4_reasonAgainst_48 : decode cX4_reasonAgainst 48 = .ok (.ireturn, 1) := by decide +kernel
theorem dX4_reasonAgainst_49 : decode cX4_reasonAgainst 49 = .ok (.aload_n 1, 1) := by decide +kernel
theorem dX4_reasonAgainst_50 : decode cX4_reasonAgainst 50 = .ok (.aload_n 2, 1) := by decide +kernel
theorem dX4_reasonAgainst_51 : decode cX4_reasonAgainst 51 = .ok (.iload 4, 2) := by decide +kernel
theorem dX4_reasonAgainst_53 : decode cX4_reasonAgainst 53 = .ok (.invokestatic 236, 3) := by decide +kernel
theorem dX4_reasonAgainst_56 : decode cX4_reasonAgainst 56 = .ok (.istore 7, 2) := by decide +kernel
theorem dX4_reasonAgainst_58 : decode cX4_reasonAgainst 58 = .ok (.iload 7, 2) := by decide +kernel
theorem dX4_reasonAgainst_60 : decode cX4_reasonAgainst 60 = .ok (.iconst (-1), 1) := by decide +kernel
theorem dX4_reasonAgainst_61 : decode cX4_reasonAgainst 61 = .ok (.if_icmp .eq 10, 3) := by decide +kernel
theorem dX4_reasonAgainst_64 : decode cX4_reasonAgainst 64 = .ok (.sipush 300, 3) := by decide +kernel
theorem dX4_reasonAgainst_67 : decode cX4_reasonAgainst 67 = .ok (.iload 7, 2) := by decide +kernel
theorem dX4_reasonAgainst_69 : decode cX4_reasonAgainst 69 = .ok (.iadd, 1) := by decide +kernel
theorem dX4_reasonAgainst_70 : decode cX4_reasonAgainst 70 = .ok (.ireturn, 1) := by decide +kernel
theorem dX4_reasonAgainst_71 : decode cX4_reasonAgainst 71 = .ok (.aload_n 2, 1) := by decide +kernel
theorem dX4_reasonAgainst_72 : decode cX4_reasonAgainst 72 = .ok (.getfield 240, 3) := by decide +kernel
theorem dX4_reasonAgainst_75 : decode cX4_reasonAgainst 75 = .ok (.ifCond .eq 20, 3) := by decide +kernel
theorem dX4_reasonAgainst_78 : decode cX4_reasonAgainst 78 = .ok (.aload_n 1, 1) := by decide +kernel
theorem dX4_reasonAgainst_79 : decode cX4_reasonAgainst 79 = .ok (.getfield 243, 3) := by decide +kernel
theorem dX4_reasonAgainst_82 : decode cX4_reasonAgainst 82 = .ok (.aload_n 2, 1) := by decide +kernel
theorem dX4_reasonAgainst_83 : decode cX4_reasonAgainst 83 = .ok (.getfield 118, 3) := by decide +kernel
theorem dX4_reasonAgainst_86 : decode cX4_reasonAgainst 86 = .ok (.iconst (-1), 1) := by decide +kernel
theorem dX4_reasonAgainst_87 : decode cX4_reasonAgainst 87 = .ok (.ixor, 1) := by decide +kernel
theorem dX4_reasonAgainst_88 : decode cX4_reasonAgainst 88 = .ok (.iand, 1) := by decide +kernel
theorem dX4_reasonAgainst_89 : decode cX4_reasonAgainst 89 = .ok (.invokestatic 187, 3) := by decide +kernel
theorem dX4_reasonAgainst_92 : decode cX4_reasonAgainst 92 = .ok (.goto 4, 3) := by decide +kernel
theorem dX4_reasonAgainst_95 : decode cX4_reasonAgainst 95 = .ok (.iconst (-1), 1) := by decide +kernel
theorem dX4_reasonAgainst_96 : decode cX4_reasonAgainst 96 = .ok (.istore 8, 2) := by decide +kernel
theorem dX4_reasonAgainst_98 : decode cX4_reasonAgainst 98 = .ok (.iload 8, 2) := by decide +kernel
theorem dX4_reasonAgainst_100 : decode cX4_reasonAgainst 100 = .ok (.iconst (-1), 1) := by decide +kernel
theorem dX4_reasonAgainst_101 : decode cX4_reasonAgainst 101 = .ok (.if_icmp .eq 10, 3) := by decide +kernel
theorem dX4_reasonAgainst_104 : decode cX4_reasonAgainst 104 = .ok (.sipush 400, 3) := by decide +kernel
theorem dX4_reasonAgainst_107 : decode cX4_reasonAgainst 107 = .ok (.iload 8, 2) := by decide +kernel
theorem dX4_reasonAgainst_109 : decode cX4_reasonAgainst 109 = .ok (.iadd, 1) := by decide +kernel
theorem dX4_reasonAgainst_110 : decode cX4_reasonAgainst 110 = .ok (.ireturn, 1) := by decide +kernel
theorem dX4_reasonAgainst_111 : decode cX4_reasonAgainst 111 = .ok (.aload_n 0, 1) := by decide +kernel
theorem dX4_reasonAgainst_112 : decode cX4_reasonAgainst 112 = .ok (.aload_n 2, 1) := by decide +kernel
theorem dX4_reasonAgainst_113 : decode cX4_reasonAgainst 113 = .ok (.invokevirtual 246, 3) := by decide +kernel
theorem dX4_reasonAgainst_116 : decode cX4_reasonAgainst 116 = .ok (.istore 9, 2) := by decide +kernel
theorem dX4_reasonAgainst_118 : decode cX4_reasonAgainst 118 = .ok (.iload 9, 2) := by decide +kernel
theorem dX4_reasonAgainst_120 : decode cX4_reasonAgainst 120 = .ok (.iconst (-1), 1) := by decide +kernel
theorem dX4_reasonAgainst_121 : decode cX4_reasonAgainst 121 = .ok (.if_icmp .eq 10, 3) := by decide +kernel
theorem dX4_reasonAgainst_124 : decode cX4_reasonAgainst 124 = .ok (.sipush 500, 3) := by decide +kernel
theorem dX4_reasonAgainst_127 : decode cX4_reasonAgainst 127 = .ok (.iload 9, 2) := by decide +kernel
theorem dX4_reasonAgainst_129 : decode cX4_reasonAgainst 129 = .ok (.iadd, 1) := by decide +kernel
theorem dX4_reasonAgainst_130 : decode cX4_reasonAgainst 130 = .ok (.ireturn, 1) := by decide +kernel
theorem dX4_reasonAgainst_131 : decode cX4_reasonAgainst 131 = .ok (.aload_n 2, 1) := by decide +kernel
theorem dX4_reasonAgainst_132 : decode cX4_reasonAgainst 132 = .ok (.getfield 107, 3) := by decide +kernel
theorem dX4_reasonAgainst_135 : decode cX4_reasonAgainst 135 = .ok (.iload_n 3, 1) := by decide +kernel
theorem dX4_reasonAgainst_136 : decode cX4_reasonAgainst 136 = .ok (.invokestatic 110, 3) := by decide +kernel
theorem dX4_reasonAgainst_139 : decode cX4_reasonAgainst 139 = .ok (.ifCond .eq 7, 3) := by decide +kernel
theorem dX4_reasonAgainst_142 : decode cX4_reasonAgainst 142 = .ok (.iconst 0, 1) := by decide +kernel
theorem dX4_reasonAgainst_143 : decode cX4_reasonAgainst 143 = .ok (.goto 6, 3) := by decide +kernel
theorem dX4_reasonAgainst_146 : decode cX4_reasonAgainst 146 = .ok (.sipush 600, 3) := by decide +kernel
theorem dX4_reasonAgainst_149 : decode cX4_reasonAgainst 149 = .ok (.ireturn, 1) := by decide +kernel
theorem dX4_lowestNotLongEnoughAgo_0 : decode cX4_lowestNotLongEnoughAgo 0 = .ok (.iconst 0, 1) := by decide +kernel
theorem dX4_lowestNotLongEnoughAgo_1 : decode cX4_lowestNotLongEnoughAgo 1 = .ok (.istore_n 3, 1) := by decide +kernel
theorem dX4_lowestNotLongEnoughAgo_2 : decode cX4_lowestNotLongEnoughAgo 2 = .ok (.iload_n 3, 1) := by decide +kernel
theorem dX4_lowestNotLongEnoughAgo_3 : decode cX4_lowestNotLongEnoughAgo 3 = .ok (.bipush 12, 2) := by decide +kernel
theorem dX4_lowestNotLongEnoughAgo_5 : decode cX4_lowestNotLongEnoughAgo 5 = .ok (.if_icmp .ge 50, 3) := by decide +kernel
theorem dX4_lowestNotLongEnoughAgo_8 : decode cX4_lowestNotLongEnoughAgo 8 = .ok (.aload_n 1, 1) := by decide +kernel
theorem dX4_lowestNotLongEnoughAgo_9 : decode cX4_lowestNotLongEnoughAgo 9 = .ok (.getfield 250, 3) := by decide +kernel
theorem dX4_lowestNotLongEnoughAgo_12 : decode cX4_lowestNotLongEnoughAgo 12 = .ok (.iload_n 3, 1) := by decide +kernel
theorem dX4_lowestNotLongEnoughAgo_13 : decode cX4_lowestNotLongEnoughAgo 13 = .ok (.invokestatic 110, 3) := by decide +kernel
theorem dX4_lowestNotLongEnoughAgo_16 : decode cX4_lowestNotLongEnoughAgo 16 = .ok (.ifCond .eq 33, 3) := by decide +kernel
theorem dX4_lowestNotLongEnoughAgo_19 : decode cX4_lowestNotLongEnoughAgo 19 = .ok (.aload_n 0, 1) := by decide +kernel
theorem dX4_lowestNotLongEnoughAgo_20 : decode cX4_lowestNotLongEnoughAgo 20 = .ok (.getfield 195, 3) := by decide +kernel
theorem dX4_lowestNotLongEnoughAgo_23 : decode cX4_lowestNotLongEnoughAgo 23 = .ok (.iload_n 3, 1) := by decide +kernel
theorem dX4_lowestNotLongEnoughAgo_24 : decode cX4_lowestNotLongEnoughAgo 24 = .ok (.invokestatic 110, 3) := by decide +kernel
theorem dX4_lowestNotLongEnoughAgo_27 : decode cX4_lowestNotLongEnoughAgo 27 = .ok (.ifCond .eq 20, 3) := by decide +kernel
theorem dX4_lowestNotLongEnoughAgo_30 : decode cX4_lowestNotLongEnoughAgo 30 = .ok (.iload_n 2, 1) := by decide +kernel
theorem dX4_lowestNotLongEnoughAgo_31 : decode cX4_lowestNotLongEnoughAgo 31 = .ok (.aload_n 0, 1) := by decide +kernel
theorem dX4_lowestNotLongEnoughAgo_32 : decode cX4_lowestNotLongEnoughAgo 32 = .ok (.getfield 253, 3) := by decide +kernel
theorem dX4_lowestNotLongEnoughAgo_35 : decode cX4_lowestNotLongEnoughAgo 35 = .ok (.iload_n 3, 1) := by decide +kernel
theorem dX4_lowestNotLongEnoughAgo_36 : decode cX4_lowestNotLongEnoughAgo 36 = .ok (.iaload, 1) := by decide +kernel
theorem dX4_lowestNotLongEnoughAgo_37 : decode cX4_lowestNotLongEnoughAgo 37 = .ok (.isub, 1) := by decide +kernel
theorem dX4_lowestNotLongEnoughAgo_38 : decode cX4_lowestNotLongEnoughAgo 38 = .ok (.aload_n 1, 1) := by decide +kernel
theorem dX4_lowestNotLongEnoughAgo_39 : decode cX4_lowestNotLongEnoughAgo 39 = .ok (.getfield 256, 3) := by decide +kernel
theorem dX4_lowestNotLongEnoughAgo_42 : decode cX4_lowestNotLongEnoughAgo 42 = .ok (.iload_n 3, 1) := by decide +kernel
theorem dX4_lowestNotLongEnoughAgo_43 : decode cX4_lowestNotLongEnoughAgo 43 = .ok (.iaload, 1) := by decide +kernel
theorem dX4_lowestNotLongEnoughAgo_44 : decode cX4_lowestNotLongEnoughAgo 44 = .ok (.if_icmp .ge 5, 3) := by decide +kernel
theorem dX4_lowestNotLongEnoughAgo_47 : decode cX4_lowestNotLongEnoughAgo 47 = .ok (.iload_n 3, 1) := by decide +kernel
theorem dX4_lowestNotLongEnoughAgo_48 : decode cX4_lowestNotLongEnoughAgo 48 = .ok (.ireturn, 1) := by decide +kernel
theorem dX4_lowestNotLongEnoughAgo_49 : decode cX4_lowestNotLongEnoughAgo 49 = .ok (.iinc 3 1, 3) := by decide +kernel
theorem dX4_lowestNotLongEnoughAgo_52 : decode cX4_lowestNotLongEnoughAgo 52 = .ok (.goto (-50), 3) := by decide +kernel
theorem dX4_lowestNotLongEnoughAgo_55 : decode cX4_lowestNotLongEnoughAgo 55 = .ok (.iconst (-1), 1) := by decide +kernel
theorem dX4_lowestNotLongEnoughAgo_56 : decode cX4_lowestNotLongEnoughAgo 56 = .ok (.ireturn, 1) := by decide +kernel
theorem dX4_lowestLacking_0 : decode cX4_lowestLacking 0 = .ok (.iconst 0, 1) := by decide +kernel
theorem dX4_lowestLacking_1 : decode cX4_lowestLacking 1 = .ok (.istore_n 2, 1) := by decide +kernel
theorem dX4_lowestLacking_2 : decode cX4_lowestLacking 2 = .ok (.iload_n 2, 1) := by decide +kernel
theorem dX4_lowestLacking_3 : decode cX4_lowestLacking 3 = .ok (.bipush 12, 2) := by decide +kernel
theorem dX4_lowestLacking_5 : decode cX4_lowestLacking 5 = .ok (.if_icmp .ge 29, 3) := by decide +kernel
theorem dX4_lowestLacking_8 : decode cX4_lowestLacking 8 = .ok (.aload_n 0, 1) := by decide +kernel
theorem dX4_lowestLacking_9 : decode cX4_lowestLacking 9 = .ok (.getfield 32, 3) := by decide +kernel
theorem dX4_lowestLacking_12 : decode cX4_lowestLacking 12 = .ok (.iload_n 2, 1) := by decide +kernel
theorem dX4_lowestLacking_13 : decode cX4_lowestLacking 13 = .ok (.aaload, 1) := by decide +kernel
theorem dX4_lowestLacking_14 : decode cX4_lowestLacking 14 = .ok (.getfield 159, 3) := by decide +kernel
theorem dX4_lowestLacking_17 : decode cX4_lowestLacking 17 = .ok (.aload_n 1, 1) := by decide +kernel
theorem dX4_lowestLacking_18 : decode cX4_lowestLacking 18 = .ok (.getfield 86, 3) := by decide +kernel
theorem dX4_lowestLacking_21 : decode cX4_lowestLacking 21 = .ok (.iload_n 2, 1) := by decide +kernel
theorem dX4_lowestLacking_22 : decode cX4_lowestLacking 22 = .ok (.iaload, 1) := by decide +kernel
theorem dX4_lowestLacking_23 : decode cX4_lowestLacking 23 = .ok (.if_icmp .ge 5, 3) := by decide +kernel
theorem dX4_lowestLacking_26 : decode cX4_lowestLacking 26 = .ok (.iload_n 2, 1) := by decide +kernel
theorem dX4_lowestLacking_27 : decode cX4_lowestLacking 27 = .ok (.ireturn, 1) := by decide +kernel
theorem dX4_lowestLacking_28 : decode cX4_lowestLacking 28 = .ok (.iinc 2 1, 3) := by decide +kernel
theorem dX4_lowestLacking_31 : decode cX4_lowestLacking 31 = .ok (.goto (-29), 3) := by decide +kernel
theorem dX4_lowestLacking_34 : decode cX4_lowestLacking 34 = .ok (.iconst (-1), 1) := by decide +kernel
theorem dX4_lowestLacking_35 : decode cX4_lowestLacking 35 = .ok (.ireturn, 1) := by decide +kernel
theorem dX4_takeWhatGoes_0 : decode cX4_takeWhatGoes 0 = .ok (.iconst 0, 1) := by decide +kernel
theorem dX4_takeWhatGoes_1 : decode cX4_takeWhatGoes 1 = .ok (.istore_n 2, 1) := by decide +kernel
theorem dX4_takeWhatGoes_2 : decode cX4_takeWhatGoes 2 = .ok (.iload_n 2, 1) := by decide +kernel
theorem dX4_takeWhatGoes_3 : decode cX4_takeWhatGoes 3 = .ok (.bipush 12, 2) := by decide +kernel
theorem dX4_takeWhatGoes_5 : decode cX4_takeWhatGoes 5 = .ok (.if_icmp .ge 25, 3) := by decide +kernel
theorem dX4_takeWhatGoes_8 : decode cX4_takeWhatGoes 8 = .ok (.aload_n 0, 1) := by decide +kernel
theorem dX4_takeWhatGoes_9 : decode cX4_takeWhatGoes 9 = .ok (.getfield 32, 3) := by decide +kernel
theorem dX4_takeWhatGoes_12 : decode cX4_takeWhatGoes 12 = .ok (.iload_n 2, 1) := by decide +kernel
theorem dX4_takeWhatGoes_13 : decode cX4_takeWhatGoes 13 = .ok (.aaload, 1) := by decide +kernel
theorem dX4_takeWhatGoes_14 : decode cX4_takeWhatGoes 14 = .ok (.aload_n 1, 1) := by decide +kernel
theorem dX4_takeWhatGoes_15 : decode cX4_takeWhatGoes 15 = .ok (.getfield 86, 3) := by decide +kernel
theorem dX4_takeWhatGoes_18 : decode cX4_takeWhatGoes 18 = .ok (.iload_n 2, 1) := by decide +kernel
theorem dX4_takeWhatGoes_19 : decode cX4_takeWhatGoes 19 = .ok (.iaload, 1) := by decide +kernel
theorem dX4_takeWhatGoes_20 : decode cX4_takeWhatGoes 20 = .ok (.ineg, 1) := by decide +kernel
theorem dX4_takeWhatGoes_21 : decode cX4_takeWhatGoes 21 = .ok (.invokevirtual 162, 3) := by decide +kernel
theorem dX4_takeWhatGoes_24 : decode cX4_takeWhatGoes 24 = .ok (.iinc 2 1, 3) := by decide +kernel
theorem dX4_takeWhatGoes_27 : decode cX4_takeWhatGoes 27 = .ok (.goto (-25), 3) := by decide +kernel
theorem dX4_takeWhatGoes_30 : decode cX4_takeWhatGoes 30 = .ok (.return_, 1) := by decide +kernel
theorem dX4_goodsOn_0 : decode cX4_goodsOn 0 = .ok (.iconst 0, 1) := by decide +kernel
theorem dX4_goodsOn_1 : decode cX4_goodsOn 1 = .ok (.istore_n 2, 1) := by decide +kernel
theorem dX4_goodsOn_2 : decode cX4_goodsOn 2 = .ok (.iconst 0, 1) := by decide +kernel
theorem dX4_goodsOn_3 : decode cX4_goodsOn 3 = .ok (.istore_n 3, 1) := by decide +kernel
theorem dX4_goodsOn_4 : decode cX4_goodsOn 4 = .ok (.iload_n 3, 1) := by decide +kernel
theorem dX4_goodsOn_5 : decode cX4_goodsOn 5 = .ok (.bipush 12, 2) := by decide +kernel
theorem dX4_goodsOn_7 : decode cX4_goodsOn 7 = .ok (.if_icmp .ge 33, 3) := by decide +kernel
theorem dX4_goodsOn_10 : decode cX4_goodsOn 10 = .ok (.iload_n 2, 1) := by decide +kernel
theorem dX4_goodsOn_11 : decode cX4_goodsOn 11 = .ok (.iload_n 3, 1) := by decide +kernel
theorem dX4_goodsOn_12 : decode cX4_goodsOn 12 = .ok (.aload_n 0, 1) := by decide +kernel
theorem dX4_goodsOn_13 : decode cX4_goodsOn 13 = .ok (.getfield 32, 3) := by decide +kernel
theorem dX4_goodsOn_16 : decode cX4_goodsOn 16 = .ok (.iload_n 3, 1) := by decide +kernel
theorem dX4_goodsOn_17 : decode cX4_goodsOn 17 = .ok (.aaload, 1) := by decide +kernel
theorem dX4_goodsOn_18 : decode cX4_goodsOn 18 = .ok (.getfield 173, 3) := by decide +kernel
theorem dX4_goodsOn_21 : decode cX4_goodsOn 21 = .ok (.iload_n 1, 1) := by decide +kernel
theorem dX4_goodsOn_22 : decode cX4_goodsOn 22 = .ok (.if_icmp .ne 7, 3) := by decide +kernel
theorem dX4_goodsOn_25 : decode cX4_goodsOn 25 = .ok (.iconst 1, 1) := by decide +kernel
theorem dX4_goodsOn_26 : decode cX4_goodsOn 26 = .ok (.goto 4, 3) := by decide +kernel
theorem dX4_goodsOn_29 : decode cX4_goodsOn 29 = .ok (.iconst 0, 1) := by decide +kernel
theorem dX4_goodsOn_30 : decode cX4_goodsOn 30 = .ok (.invokestatic 114, 3) := by decide +kernel
theorem dX4_goodsOn_33 : decode cX4_goodsOn 33 = .ok (.istore_n 2, 1) := by decide +kernel
theorem dX4_goodsOn_34 : decode cX4_goodsOn 34 = .ok (.iinc 3 1, 3) := by decide +kernel
theorem dX4_goodsOn_37 : decode cX4_goodsOn 37 = .ok (.goto (-33), 3) := by decide +kernel
theorem dX4_goodsOn_40 : decode cX4_goodsOn 40 = .ok (.iload_n 2, 1) := by decide +kernel
theorem dX4_goodsOn_41 : decode cX4_goodsOn 41 = .ok (.ireturn, 1) := by decide +kernel
theorem dX4_rowsOfAll_0 : decode cX4_rowsOfAll 0 = .ok (.iconst 0, 1) := by decide +kernel
theorem dX4_rowsOfAll_1 : decode cX4_rowsOfAll 1 = .ok (.istore_n 1, 1) := by decide +kernel
theorem dX4_rowsOfAll_2 : decode cX4_rowsOfAll 2 = .ok (.iconst 0, 1) := by decide +kernel
theorem dX4_rowsOfAll_3 : decode cX4_rowsOfAll 3 = .ok (.istore_n 2, 1) := by decide +kernel
theorem dX4_rowsOfAll_4 : decode cX4_rowsOfAll 4 = .ok (.iload_n 2, 1) := by decide +kernel
theorem dX4_rowsOfAll_5 : decode cX4_rowsOfAll 5 = .ok (.aload_n 0, 1) := by decide +kernel
theorem dX4_rowsOfAll_6 : decode cX4_rowsOfAll 6 = .ok (.getfield 89, 3) := by decide +kernel
theorem dX4_rowsOfAll_9 : decode cX4_rowsOfAll 9 = .ok (.if_icmp .ge 21, 3) := by decide +kernel
theorem dX4_rowsOfAll_12 : decode cX4_rowsOfAll 12 = .ok (.iload_n 1, 1) := by decide +kernel
theorem dX4_rowsOfAll_13 : decode cX4_rowsOfAll 13 = .ok (.aload_n 0, 1) := by decide +kernel
theorem dX4_rowsOfAll_14 : decode cX4_rowsOfAll 14 = .ok (.getfield 25, 3) := by decide +kernel
theorem dX4_rowsOfAll_17 : decode cX4_rowsOfAll 17 = .ok (.iload_n 2, 1) := by decide +kernel
theorem dX4_rowsOfAll_18 : decode cX4_rowsOfAll 18 = .ok (.aaload, 1) := by decide +kernel
theorem dX4_rowsOfAll_19 : decode cX4_rowsOfAll 19 = .ok (.getfield 128, 3) := by decide +kernel
theorem dX4_rowsOfAll_22 : decode cX4_rowsOfAll 22 = .ok (.iadd, 1) := by decide +kernel
theorem dX4_rowsOfAll_23 : decode cX4_rowsOfAll 23 = .ok (.istore_n 1, 1) := by decide +kernel
theorem dX4_rowsOfAll_24 : decode cX4_rowsOfAll 24 = .ok (.iinc 2 1, 3) := by decide +kernel
theorem dX4_rowsOfAll_27 : decode cX4_rowsOfAll 27 = .ok (.goto (-23), 3) := by decide +kernel
theorem dX4_rowsOfAll_30 : decode cX4_rowsOfAll 30 = .ok (.iload_n 1, 1) := by decide +kernel
theorem dX4_rowsOfAll_31 : decode cX4_rowsOfAll 31 = .ok (.ireturn, 1) := by decide +kernel
theorem dX4_withAllAhead_0 : decode cX4_withAllAhead 0 = .ok (.iload_n 1, 1) := by decide +kernel
theorem dX4_withAllAhead_1 : decode cX4_withAllAhead 1 = .ok (.istore_n 2, 1) := by decide +kernel
theorem dX4_withAllAhead_2 : decode cX4_withAllAhead 2 = .ok (.iconst 0, 1) := by decide +kernel
theorem dX4_withAllAhead_3 : decode cX4_withAllAhead 3 = .ok (.istore_n 3, 1) := by decide +kernel
theorem dX4_withAllAhead_4 : decode cX4_withAllAhead 4 = .ok (.iload_n 3, 1) := by decide +kernel
theorem dX4_withAllAhead_5 : decode cX4_withAllAhead 5 = .ok (.bipush 12, 2) := by decide +kernel
theorem dX4_withAllAhead_7 : decode cX4_withAllAhead 7 = .ok (.if_icmp .ge 49, 3) := by decide +kernel
theorem dX4_withAllAhead_10 : decode cX4_withAllAhead 10 = .ok (.iconst 0, 1) := by decide +kernel
theorem dX4_withAllAhead_11 : decode cX4_withAllAhead 11 = .ok (.istore 4, 2) := by decide +kernel
theorem dX4_withAllAhead_13 : decode cX4_withAllAhead 13 = .ok (.iload 4, 2) := by decide +kernel
theorem dX4_withAllAhead_15 : decode cX4_withAllAhead 15 = .ok (.aload_n 0, 1) := by decide +kernel
theorem dX4_withAllAhead_16 : decode cX4_withAllAhead 16 = .ok (.getfield 63, 3) := by decide +kernel
theorem dX4_withAllAhead_19 : decode cX4_withAllAhead 19 = .ok (.if_icmp .ge 31, 3) := by decide +kernel
theorem dX4_withAllAhead_22 : decode cX4_withAllAhead 22 = .ok (.iload_n 2, 1) := by decide +kernel
theorem dX4_withAllAhead_23 : decode cX4_withAllAhead 23 = .ok (.iload 4, 2) := by decide +kernel
theorem dX4_withAllAhead_25 : decode cX4_withAllAhead 25 = .ok (.invokestatic 110, 3) := by decide +kernel
theorem dX4_withAllAhead_28 : decode cX4_withAllAhead 28 = .ok (.ifCond .eq 16, 3) := by decide +kernel
theorem dX4_withAllAhead_31 : decode cX4_withAllAhead 31 = .ok (.iload_n 2, 1) := by decide +kernel
theorem dX4_withAllAhead_32 : decode cX4_withAllAhead 32 = .ok (.aload_n 0, 1) := by decide +kernel
theorem dX4_withAllAhead_33 : decode cX4_withAllAhead 33 = .ok (.getfield 18, 3) := by decide +kernel
theorem dX4_withAllAhead_36 : decode cX4_withAllAhead 36 = .ok (.iload 4, 2) := by decide +kernel
theorem dX4_withAllAhead_38 : decode cX4_withAllAhead 38 = .ok (.aaload, 1) := by decide +kernel
theorem dX4_withAllAhead_39 : decode cX4_withAllAhead 39 = .ok (.getfield 250, 3) := by decide +kernel
theorem dX4_withAllAhead_42 : decode cX4_withAllAhead 42 = .ok (.ior, 1) := by decide +kernel
theorem dX4_withAllAhead_43 : decode cX4_withAllAhead 43 = .ok (.istore_n 2, 1) := by decide +kernel
theorem dX4_withAllAhead_44 : decode cX4_withAllAhead 44 = .ok (.iinc 4 1, 3) := by decide +kernel
theorem dX4_withAllAhead_47 : decode cX4_withAllAhead 47 = .ok (.goto (-34), 3) := by decide +kernel
theorem dX4_withAllAhead_50 : decode cX4_withAllAhead 50 = .ok (.iinc 3 1, 3) := by decide +kernel
theorem dX4_withAllAhead_53 : decode cX4_withAllAhead 53 = .ok (.goto (-49), 3) := by decide +kernel
theorem dX4_withAllAhead_56 : decode cX4_withAllAhead 56 = .ok (.iload_n 2, 1) := by decide +kernel
theorem dX4_withAllAhead_57 : decode cX4_withAllAhead 57 = .ok (.ireturn, 1) := by decide +kernel
theorem dX4_eachMayBeDone_0 : decode cX4_eachMayBeDone 0 = .ok (.iconst 0, 1) := by decide +kernel
theorem dX4_eachMayBeDone_1 : decode cX4_eachMayBeDone 1 = .ok (.istore_n 3, 1) := by decide +kernel
theorem dX4_eachMayBeDone_2 : decode cX4_eachMayBeDone 2 = .ok (.iload_n 3, 1) := by decide +kernel
theorem dX4_eachMayBeDone_3 : decode cX4_eachMayBeDone 3 = .ok (.bipush 12, 2) := by decide +kernel
theorem dX4_eachMayBeDone_5 : decode cX4_eachMayBeDone 5 = .ok (.if_icmp .ge 28, 3) := by decide +kernel
theorem dX4_eachMayBeDone_8 : decode cX4_eachMayBeDone 8 = .ok (.iload_n 2, 1) := by decide +kernel
theorem dX4_eachMayBeDone_9 : decode cX4_eachMayBeDone 9 = .ok (.iload_n 3, 1) := by decide +kernel
theorem dX4_eachMayBeDone_10 : decode cX4_eachMayBeDone 10 = .ok (.invokestatic 110, 3) := by decide +kernel
theorem dX4_eachMayBeDone_13 : decode cX4_eachMayBeDone 13 = .ok (.ifCond .eq 14, 3) := by decide +kernel
theorem dX4_eachMayBeDone_16 : decode cX4_eachMayBeDone 16 = .ok (.aload_n 0, 1) := by decide +kernel
theorem dX4_eachMayBeDone_17 : decode cX4_eachMayBeDone 17 = .ok (.aload_n 1, 1) := by decide +kernel
theorem dX4_eachMayBeDone_18 : decode cX4_eachMayBeDone 18 = .ok (.iload_n 3, 1) := by decide +kernel
theorem dX4_eachMayBeDone_19 : decode cX4_eachMayBeDone 19 = .ok (.invokevirtual 259, 3) := by decide +kernel
theorem dX4_eachMayBeDone_22 : decode cX4_eachMayBeDone 22 = .ok (.ifCond .ne 5, 3) := by decide +kernel
theorem dX4_eachMayBeDone_25 : decode cX4_eachMayBeDone 25 = .ok (.iconst 0, 1) := by decide +kernel
theorem dX4_eachMayBeDone_26 : decode cX4_eachMayBeDone 26 = .ok (.ireturn, 1) := by decide +kernel
theorem dX4_eachMayBeDone_27 : decode cX4_eachMayBeDone 27 = .ok (.iinc 3 1, 3) := by decide +kernel
theorem dX4_eachMayBeDone_30 : decode cX4_eachMayBeDone 30 = .ok (.goto (-28), 3) := by decide +kernel
theorem dX4_eachMayBeDone_33 : decode cX4_eachMayBeDone 33 = .ok (.iconst 1, 1) := by decide +kernel
theorem dX4_eachMayBeDone_34 : decode cX4_eachMayBeDone 34 = .ok (.ireturn, 1) := by decide +kernel
theorem dX4_mayBeDone_0 : decode cX4_mayBeDone 0 = .ok (.iload_n 2, 1) := by decide +kernel
theorem dX4_mayBeDone_1 : decode cX4_mayBeDone 1 = .ok (.aload_n 0, 1) := by decide +kernel
theorem dX4_mayBeDone_2 : decode cX4_mayBeDone 2 = .ok (.getfield 63, 3) := by decide +kernel
theorem dX4_mayBeDone_5 : decode cX4_mayBeDone 5 = .ok (.if_icmp .ge 41, 3) := by decide +kernel
theorem dX4_mayBeDone_8 : decode cX4_mayBeDone 8 = .ok (.aload_n 0, 1) := by decide +kernel
theorem dX4_mayBeDone_9 : decode cX4_mayBeDone 9 = .ok (.getfield 18, 3) := by decide +kernel
theorem dX4_mayBeDone_12 : decode cX4_mayBeDone 12 = .ok (.iload_n 2, 1) := by decide +kernel
theorem dX4_mayBeDone_13 : decode cX4_mayBeDone 13 = .ok (.aaload, 1) := by decide +kernel
theorem dX4_mayBeDone_14 : decode cX4_mayBeDone 14 = .ok (.getfield 227, 3) := by decide +kernel
theorem dX4_mayBeDone_17 : decode cX4_mayBeDone 17 = .ok (.aload_n 1, 1) := by decide +kernel
theorem dX4_mayBeDone_18 : decode cX4_mayBeDone 18 = .ok (.getfield 243, 3) := by decide +kernel
theorem dX4_mayBeDone_21 : decode cX4_mayBeDone 21 = .ok (.iand, 1) := by decide +kernel
theorem dX4_mayBeDone_22 : decode cX4_mayBeDone 22 = .ok (.ifCond .ne 24, 3) := by decide +kernel
theorem dX4_mayBeDone_25 : decode cX4_mayBeDone 25 = .ok (.aload_n 0, 1) := by decide +kernel
theorem dX4_mayBeDone_26 : decode cX4_mayBeDone 26 = .ok (.getfield 18, 3) := by decide +kernel
theorem dX4_mayBeDone_29 : decode cX4_mayBeDone 29 = .ok (.iload_n 2, 1) := by decide +kernel
theorem dX4_mayBeDone_30 : decode cX4_mayBeDone 30 = .ok (.aaload, 1) := by decide +kernel
theorem dX4_mayBeDone_31 : decode cX4_mayBeDone 31 = .ok (.getfield 233, 3) := by decide +kernel
theorem dX4_mayBeDone_34 : decode cX4_mayBeDone 34 = .ok (.aload_n 1, 1) := by decide +kernel
theorem dX4_mayBeDone_35 : decode cX4_mayBeDone 35 = .ok (.getfield 195, 3) := by decide +kernel
theorem dX4_mayBeDone_38 : decode cX4_mayBeDone 38 = .ok (.iand, 1) := by decide +kernel
theorem dX4_mayBeDone_39 : decode cX4_mayBeDone 39 = .ok (.ifCond .ne 7, 3) := by decide +kernel
theorem dX4_mayBeDone_42 : decode cX4_mayBeDone 42 = .ok (.iconst 1, 1) := by decide +kernel
theorem dX4_mayBeDone_43 : decode cX4_mayBeDone 43 = .ok (.goto 4, 3) := by decide +kernel
theorem dX4_mayBeDone_46 : decode cX4_mayBeDone 46 = .ok (.iconst 0, 1) := by decide +kernel
theorem dX4_mayBeDone_47 : decode cX4_mayBeDone 47 = .ok (.ireturn, 1) := by decide +kernel
theorem dX4_putInOrder_0 : decode cX4_putInOrder 0 = .ok (.iload_n 1, 1) := by decide +kernel
theorem dX4_putInOrder_1 : decode cX4_putInOrder 1 = .ok (.istore_n 3, 1) := by decide +kernel
theorem dX4_putInOrder_2 : decode cX4_putInOrder 2 = .ok (.iconst 0, 1) := by decide +kernel
theorem dX4_putInOrder_3 : decode cX4_putInOrder 3 = .ok (.istore 4, 2) := by decide +kernel
theorem dX4_putInOrder_5 : decode cX4_putInOrder 5 = .ok (.iload 4, 2) := by decide +kernel
theorem dX4_putInOrder_7 : decode cX4_putInOrder 7 = .ok (.iload_n 2, 1) := by decide +kernel
theorem dX4_putInOrder_8 : decode cX4_putInOrder 8 = .ok (.if_icmp .ge 48, 3) := by decide +kernel
theorem dX4_putInOrder_11 : decode cX4_putInOrder 11 = .ok (.iload 4, 2) := by decide +kernel
theorem dX4_putInOrder_13 : decode cX4_putInOrder 13 = .ok (.bipush 10, 2) := by decide +kernel
theorem dX4_putInOrder_15 : decode cX4_putInOrder 15 = .ok (.if_icmp .ge 41, 3) := by decide +kernel
theorem dX4_putInOrder_18 : decode cX4_putInOrder 18 = .ok (.aload_n 0, 1) := by decide +kernel
theorem dX4_putInOrder_19 : decode cX4_putInOrder 19 = .ok (.iload_n 3, 1) := by decide +kernel
theorem dX4_putInOrder_20 : decode cX4_putInOrder 20 = .ok (.invokevirtual 262, 3) := by decide +kernel
theorem dX4_putInOrder_23 : decode cX4_putInOrder 23 = .ok (.istore 5, 2) := by decide +kernel
theorem dX4_putInOrder_25 : decode cX4_putInOrder 25 = .ok (.iload 5, 2) := by decide +kernel
theorem dX4_putInOrder_27 : decode cX4_putInOrder 27 = .ok (.iconst (-1), 1) := by decide +kernel
theorem dX4_putInOrder_28 : decode cX4_putInOrder 28 = .ok (.if_icmp .ne 5, 3) := by decide +kernel
theorem dX4_putInOrder_31 : decode cX4_putInOrder 31 = .ok (.iconst 0, 1) := by decide +kernel
theorem dX4_putInOrder_32 : decode cX4_putInOrder 32 = .ok (.ireturn, 1) := by decide +kernel
theorem dX4_putInOrder_33 : decode cX4_putInOrder 33 = .ok (.aload_n 0, 1) := by decide +kernel
theorem dX4_putInOrder_34 : decode cX4_putInOrder 34 = .ok (.getfield 41, 3) := by decide +kernel
theorem dX4_putInOrder_37 : decode cX4_putInOrder 37 = .ok (.iload 4, 2) := by decide +kernel
theorem dX4_putInOrder_39 : decode cX4_putInOrder 39 = .ok (.iload 5, 2) := by decide +kernel
theorem dX4_putInOrder_41 : decode cX4_putInOrder 41 = .ok (.iastore, 1) := by decide +kernel
theorem dX4_putInOrder_42 : decode cX4_putInOrder 42 = .ok (.iload_n 3, 1) := by decide +kernel
theorem dX4_putInOrder_43 : decode cX4_putInOrder 43 = .ok (.iload 5, 2) := by decide +kernel
theorem dX4_putInOrder_45 : decode cX4_putInOrder 45 = .ok (.iconst 0, 1) := by decide +kernel
theorem dX4_putInOrder_46 : decode cX4_putInOrder 46 = .ok (.invokestatic 114, 3) := by decide +kernel
theorem dX4_putInOrder_49 : decode cX4_putInOrder 49 = .ok (.istore_n 3, 1) := by decide +kernel
theorem dX4_putInOrder_50 : decode cX4_putInOrder 50 = .ok (.iinc 4 1, 3) := by decide +kernel
theorem dX4_putInOrder_53 : decode cX4_putInOrder 53 = .ok (.goto (-48), 3) := by decide +kernel
theorem dX4_putInOrder_56 : decode cX4_putInOrder 56 = .ok (.iconst 1, 1) := by decide +kernel
theorem dX4_putInOrder_57 : decode cX4_putInOrder 57 = .ok (.ireturn, 1) := by decide +kernel
theorem dX4_lowestThatMayComeNext_0 : decode cX4_lowestThatMayComeNext 0 = .ok (.iconst 0, 1) := by decide +kernel
theorem dX4_lowestThatMayComeNext_1 : decode cX4_lowestThatMayComeNext 1 = .ok (.istore_n 2, 1) := by decide +kernel
theorem dX4_lowestThatMayComeNext_2 : decode cX4_lowestThatMayComeNext 2 = .ok (.iload_n 2, 1) := by decide +kernel
theorem dX4_lowestThatMayComeNext_3 : decode cX4_lowestThatMayComeNext 3 = .ok (.aload_n 0, 1) := by decide +kernel
theorem dX4_lowestThatMayComeNext_4 : decode cX4_lowestThatMayComeNext 4 = .ok (.getfield 63, 3) := by decide +kernel
theorem dX4_lowestThatMayComeNext_7 : decode cX4_lowestThatMayComeNext 7 = .ok (.if_icmp .ge 42, 3) := by decide +kernel
theorem dX4_lowestThatMayComeNext_10 : decode cX4_lowestThatMayComeNext 10 = .ok (.iload_n 1, 1) := by decide +kernel
theorem dX4_lowestThatMayComeNext_11 : decode cX4_lowestThatMayComeNext 11 = .ok (.iload_n 2, 1) := by decide +kernel
theorem dX4_lowestThatMayComeNext_12 : decode cX4_lowestThatMayComeNext 12 = .ok (.invokestatic 110, 3) := by decide +kernel
theorem dX4_lowestThatMayComeNext_15 : decode cX4_lowestThatMayComeNext 15 = .ok (.ifCond .eq 28, 3) := by decide +kernel
theorem dX4_lowestThatMayComeNext_18 : decode cX4_lowestThatMayComeNext 18 = .ok (.aload_n 0, 1) := by decide +kernel
theorem dX4_lowestThatMayComeNext_19 : decode cX4_lowestThatMayComeNext 19 = .ok (.getfield 18, 3) := by decide +kernel
theorem dX4_lowestThatMayComeNext_22 : decode cX4_lowestThatMayComeNext 22 = .ok (.iload_n 2, 1) := by decide +kernel
theorem dX4_lowestThatMayComeNext_23 : decode cX4_lowestThatMayComeNext 23 = .ok (.aaload, 1) := by decide +kernel
theorem dX4_lowestThatMayComeNext_24 : decode cX4_lowestThatMayComeNext 24 = .ok (.getfield 250, 3) := by decide +kernel
theorem dX4_lowestThatMayComeNext_27 : decode cX4_lowestThatMayComeNext 27 = .ok (.iload_n 1, 1) := by decide +kernel
theorem dX4_lowestThatMayComeNext_28 : decode cX4_lowestThatMayComeNext 28 = .ok (.iand, 1) := by decide +kernel
theorem dX4_lowestThatMayComeNext_29 : decode cX4_lowestThatMayComeNext 29 = .ok (.ifCond .ne 14, 3) := by decide +kernel
theorem dX4_lowestThatMayComeNext_32 : decode cX4_lowestThatMayComeNext 32 = .ok (.aload_n 0, 1) := by decide +kernel
theorem dX4_lowestThatMayComeNext_33 : decode cX4_lowestThatMayComeNext 33 = .ok (.iload_n 2, 1) := by decide +kernel
theorem dX4_lowestThatMayComeNext_34 : decode cX4_lowestThatMayComeNext 34 = .ok (.iload_n 1, 1) := by decide +kernel
theorem dX4_lowestThatMayComeNext_35 : decode cX4_lowestThatMayComeNext 35 = .ok (.invokevirtual 265, 3) := by decide +kernel
theorem dX4_lowestThatMayComeNext_38 : decode cX4_lowestThatMayComeNext 38 = .ok (.ifCond .ne 5, 3) := by decide +kernel
theorem dX4_lowestThatMayComeNext_41 : decode cX4_lowestThatMayComeNext 41 = .ok (.iload_n 2, 1) := by decide +kernel
theorem dX4_lowestThatMayComeNext_42 : decode cX4_lowestThatMayComeNext 42 = .ok (.ireturn, 1) := by decide +kernel
theorem dX4_lowestThatMayComeNext_43 : decode cX4_lowestThatMayComeNext 43 = .ok (.iinc 2 1, 3) := by decide +kernel
theorem dX4_lowestThatMayComeNext_46 : decode cX4_lowestThatMayComeNext 46 = .ok (.goto (-44), 3) := by decide +kernel
theorem dX4_lowestThatMayComeNext_49 : decode cX4_lowestThatMayComeNext 49 = .ok (.iconst (-1), 1) := by decide +kernel
theorem dX4_lowestThatMayComeNext_50 : decode cX4_lowestThatMayComeNext 50 = .ok (.ireturn, 1) := by decide +kernel
theorem dX4_hasToWait_0 : decode cX4_hasToWait 0 = .ok (.iconst 0, 1) := by decide +kernel
theorem dX4_hasToWait_1 : decode cX4_hasToWait 1 = .ok (.istore_n 3, 1) := by decide +kernel
theorem dX4_hasToWait_2 : decode cX4_hasToWait 2 = .ok (.iload_n 3, 1) := by decide +kernel
theorem dX4_hasToWait_3 : decode cX4_hasToWait 3 = .ok (.aload_n 0, 1) := by decide +kernel
theorem dX4_hasToWait_4 : decode cX4_hasToWait 4 = .ok (.getfield 63, 3) := by decide +kernel
theorem dX4_hasToWait_7 : decode cX4_hasToWait 7 = .ok (.if_icmp .ge 40, 3) := by decide +kernel
theorem dX4_hasToWait_10 : decode cX4_hasToWait 10 = .ok (.iload_n 3, 1) := by decide +kernel
theorem dX4_hasToWait_11 : decode cX4_hasToWait 11 = .ok (.iload_n 1, 1) := by decide +kernel
theorem dX4_hasToWait_12 : decode cX4_hasToWait 12 = .ok (.if_icmp .eq 29, 3) := by decide +kernel
theorem dX4_hasToWait_15 : decode cX4_hasToWait 15 = .ok (.iload_n 2, 1) := by decide +kernel
theorem dX4_hasToWait_16 : decode cX4_hasToWait 16 = .ok (.iload_n 3, 1) := by decide +kernel
theorem dX4_hasToWait_17 : decode cX4_hasToWait 17 = .ok (.invokestatic 110, 3) := by decide +kernel
theorem dX4_hasToWait_20 : decode cX4_hasToWait 20 = .ok (.ifCond .eq 21, 3) := by decide +kernel
theorem dX4_hasToWait_23 : decode cX4_hasToWait 23 = .ok (.aload_n 0, 1) := by decide +kernel
theorem dX4_hasToWait_24 : decode cX4_hasToWait 24 = .ok (.getfield 18, 3) := by decide +kernel
theorem dX4_hasToWait_27 : decode cX4_hasToWait 27 = .ok (.iload_n 3, 1) := by decide +kernel
theorem dX4_hasToWait_28 : decode cX4_hasToWait 28 = .ok (.aaload, 1) := by decide +kernel
theorem dX4_hasToWait_29 : decode cX4_hasToWait 29 = .ok (.getfield 233, 3) := by decide +kernel
theorem dX4_hasToWait_32 : decode cX4_hasToWait 32 = .ok (.iload_n 1, 1) := by decide +kernel
theorem dX4_hasToWait_33 : decode cX4_hasToWait 33 = .ok (.invokestatic 110, 3) := by decide +kernel
theorem dX4_hasToWait_36 : decode cX4_hasToWait 36 = .ok (.ifCond .eq 5, 3) := by decide +kernel
theorem dX4_hasToWait_39 : decode cX4_hasToWait 39 = .ok (.iconst 1, 1) := by decide +kernel
theorem dX4_hasToWait_40 : decode cX4_hasToWait 40 = .ok (.ireturn, 1) := by decide +kernel
theorem dX4_hasToWait_41 : decode cX4_hasToWait 41 = .ok (.iinc 3 1, 3) := by decide +kernel
theorem dX4_hasToWait_44 : decode cX4_hasToWait 44 = .ok (.goto (-42), 3) := by decide +kernel
theorem dX4_hasToWait_47 : decode cX4_hasToWait 47 = .ok (.iconst 0, 1) := by decide +kernel
theorem dX4_hasToWait_48 : decode cX4_hasToWait 48 = .ok (.ireturn, 1) := by decide +kernel
theorem dJ6_bitCount_0 : decode cJ6_bitCount 0 = .ok (.iload_n 0, 1) := by decide +kernel
theorem dJ6_bitCount_1 : decode cJ6_bitCount 1 = .ok (.iload_n 0, 1) := by decide +kernel
theorem dJ6_bitCount_2 : decode cJ6_bitCount 2 = .ok (.iconst 1, 1) := by decide +kernel
theorem dJ6_bitCount_3 : decode cJ6_bitCount 3 = .ok (.iushr, 1) := by decide +kernel
theorem dJ6_bitCount_4 : decode cJ6_bitCount 4 = .ok (.ldc_w 265, 3) := by decide +kernel
theorem dJ6_bitCount_7 : decode cJ6_bitCount 7 = .ok (.iand, 1) := by decide +kernel
theorem dJ6_bitCount_8 : decode cJ6_bitCount 8 = .ok (.isub, 1) := by decide +kernel
theorem dJ6_bitCount_9 : decode cJ6_bitCount 9 = .ok (.istore_n 0, 1) := by decide +kernel
theorem dJ6_bitCount_10 : decode cJ6_bitCount 10 = .ok (.iload_n 0, 1) := by decide +kernel
theorem dJ6_bitCount_11 : decode cJ6_bitCount 11 = .ok (.ldc_w 266, 3) := by decide +kernel
theorem dJ6_bitCount_14 : decode cJ6_bitCount 14 = .ok (.iand, 1) := by decide +kernel
theorem dJ6_bitCount_15 : decode cJ6_bitCount 15 = .ok (.iload_n 0, 1) := by decide +kernel
theorem dJ6_bitCount_16 : decode cJ6_bitCount 16 = .ok (.iconst 2, 1) := by decide +kernel
theorem dJ6_bitCount_17 : decode cJ6_bitCount 17 = .ok (.iushr, 1) := by decide +kernel
theorem dJ6_bitCount_18 : decode cJ6_bitCount 18 = .ok (.ldc_w 266, 3) := by decide +kernel
theorem dJ6_bitCount_21 : decode cJ6_bitCount 21 = .ok (.iand, 1) := by decide +kernel
theorem dJ6_bitCount_22 : decode cJ6_bitCount 22 = .ok (.iadd, 1) := by decide +kernel
theorem dJ6_bitCount_23 : decode cJ6_bitCount 23 = .ok (.istore_n 0, 1) := by decide +kernel
theorem dJ6_bitCount_24 : decode cJ6_bitCount 24 = .ok (.iload_n 0, 1) := by decide +kernel
theorem dJ6_bitCount_25 : decode cJ6_bitCount 25 = .ok (.iload_n 0, 1) := by decide +kernel
theorem dJ6_bitCount_26 : decode cJ6_bitCount 26 = .ok (.iconst 4, 1) := by decide +kernel
theorem dJ6_bitCount_27 : decode cJ6_bitCount 27 = .ok (.iushr, 1) := by decide +kernel
theorem dJ6_bitCount_28 : decode cJ6_bitCount 28 = .ok (.iadd, 1) := by decide +kernel
theorem dJ6_bitCount_29 : decode cJ6_bitCount 29 = .ok (.ldc_w 267, 3) := by decide +kernel
theorem dJ6_bitCount_32 : decode cJ6_bitCount 32 = .ok (.iand, 1) := by decide +kernel
theorem dJ6_bitCount_33 : decode cJ6_bitCount 33 = .ok (.istore_n 0, 1) := by decide +kernel
theorem dJ6_bitCount_34 : decode cJ6_bitCount 34 = .ok (.iload_n 0, 1) := by decide +kernel
theorem dJ6_bitCount_35 : decode cJ6_bitCount 35 = .ok (.iload_n 0, 1) := by decide +kernel
theorem dJ6_bitCount_36 : decode cJ6_bitCount 36 = .ok (.bipush 8, 2) := by decide +kernel
theorem dJ6_bitCount_38 : decode cJ6_bitCount 38 = .ok (.iushr, 1) := by decide +kernel
theorem dJ6_bitCount_39 : decode cJ6_bitCount 39 = .ok (.iadd, 1) := by decide +kernel
theorem dJ6_bitCount_40 : decode cJ6_bitCount 40 = .ok (.istore_n 0, 1) := by decide +kernel
theorem dJ6_bitCount_41 : decode cJ6_bitCount 41 = .ok (.iload_n 0, 1) := by decide +kernel
theorem dJ6_bitCount_42 : decode cJ6_bitCount 42 = .ok (.iload_n 0, 1) := by decide +kernel
theorem dJ6_bitCount_43 : decode cJ6_bitCount 43 = .ok (.bipush 16, 2) := by decide +kernel
theorem dJ6_bitCount_45 : decode cJ6_bitCount 45 = .ok (.iushr, 1) := by decide +kernel
theorem dJ6_bitCount_46 : decode cJ6_bitCount 46 = .ok (.iadd, 1) := by decide +kernel
theorem dJ6_bitCount_47 : decode cJ6_bitCount 47 = .ok (.istore_n 0, 1) := by decide +kernel
theorem dJ6_bitCount_48 : decode cJ6_bitCount 48 = .ok (.iload_n 0, 1) := by decide +kernel
theorem dJ6_bitCount_49 : decode cJ6_bitCount 49 = .ok (.bipush 63, 2) := by decide +kernel
theorem dJ6_bitCount_51 : decode cJ6_bitCount 51 = .ok (.iand, 1) := by decide +kernel
theorem dJ6_bitCount_52 : decode cJ6_bitCount 52 = .ok (.ireturn, 1) := by decide +kernel
