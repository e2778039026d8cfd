theorem d_HM_init_0 : decode b_HM_init 0 = .ok (.aload_n 0, 1) := by decide +kernel
theorem d_HM_init_1 : decode b_HM_init 1 = .ok (.invokespecial 3, 3) := by decide +kernel
theorem d_HM_init_4 : decode b_HM_init 4 = .ok (.aload_n 0, 1) := by decide +kernel
theorem d_HM_init_5 : decode b_HM_init 5 = .ok (.new 9, 3) := by decide +kernel
theorem d_HM_init_8 : decode b_HM_init 8 = .ok (.dup, 1) := by decide +kernel
theorem d_HM_init_9 : decode b_HM_init 9 = .ok (.invokespecial 11, 3) := by decide +kernel
theorem d_HM_init_12 : decode b_HM_init 12 = .ok (.putfield 12, 3) := by decide +kernel
theorem d_HM_init_15 : decode b_HM_init 15 = .ok (.aload_n 0, 1) := by decide +kernel
theorem d_HM_init_16 : decode b_HM_init 16 = .ok (.aload_n 0, 1) := by decide +kernel
theorem d_HM_init_17 : decode b_HM_init 17 = .ok (.getfield 12, 3) := by decide +kernel
theorem d_HM_init_20 : decode b_HM_init 20 = .ok (.getfield 16, 3) := by decide +kernel
theorem d_HM_init_23 : decode b_HM_init 23 = .ok (.putfield 20, 3) := by decide +kernel
theorem d_HM_init_26 : decode b_HM_init 26 = .ok (.aload_n 0, 1) := by decide +kernel
theorem d_HM_init_27 : decode b_HM_init 27 = .ok (.bipush 36, 2) := by decide +kernel
theorem d_HM_init_29 : decode b_HM_init 29 = .ok (.newarray .int, 2) := by decide +kernel
theorem d_HM_init_31 : decode b_HM_init 31 = .ok (.putfield 21, 3) := by decide +kernel
theorem d_HM_init_34 : decode b_HM_init 34 = .ok (.aload_n 0, 1) := by decide +kernel
theorem d_HM_init_35 : decode b_HM_init 35 = .ok (.iconst 4, 1) := by decide +kernel
theorem d_HM_init_36 : decode b_HM_init 36 = .ok (.newarray .long, 2) := by decide +kernel
theorem d_HM_init_38 : decode b_HM_init 38 = .ok (.putfield 25, 3) := by decide +kernel
theorem d_HM_init_41 : decode b_HM_init 41 = .ok (.aload_n 0, 1) := by decide +kernel
theorem d_HM_init_42 : decode b_HM_init 42 = .ok (.new 29, 3) := by decide +kernel
theorem d_HM_init_45 : decode b_HM_init 45 = .ok (.dup, 1) := by decide +kernel
theorem d_HM_init_46 : decode b_HM_init 46 = .ok (.bipush 6, 2) := by decide +kernel
theorem d_HM_init_48 : decode b_HM_init 48 = .ok (.invokespecial 31, 3) := by decide +kernel
theorem d_HM_init_51 : decode b_HM_init 51 = .ok (.putfield 34, 3) := by decide +kernel
theorem d_HM_init_54 : decode b_HM_init 54 = .ok (.aload_n 0, 1) := by decide +kernel
theorem d_HM_init_55 : decode b_HM_init 55 = .ok (.new 38, 3) := by decide +kernel
theorem d_HM_init_58 : decode b_HM_init 58 = .ok (.dup, 1) := by decide +kernel
theorem d_HM_init_59 : decode b_HM_init 59 = .ok (.invokespecial 40, 3) := by decide +kernel
theorem d_HM_init_62 : decode b_HM_init 62 = .ok (.putfield 41, 3) := by decide +kernel
theorem d_HM_init_65 : decode b_HM_init 65 = .ok (.return_, 1) := by decide +kernel
theorem d_Pl_init_0 : decode b_Pl_init 0 = .ok (.aload_n 0, 1) := by decide +kernel
theorem d_Pl_init_1 : decode b_Pl_init 1 = .ok (.invokespecial 3, 3) := by decide +kernel
theorem d_Pl_init_4 : decode b_Pl_init 4 = .ok (.aload_n 0, 1) := by decide +kernel
theorem d_Pl_init_5 : decode b_Pl_init 5 = .ok (.new 9, 3) := by decide +kernel
theorem d_Pl_init_8 : decode b_Pl_init 8 = .ok (.dup, 1) := by decide +kernel
theorem d_Pl_init_9 : decode b_Pl_init 9 = .ok (.invokespecial 11, 3) := by decide +kernel
theorem d_Pl_init_12 : decode b_Pl_init 12 = .ok (.putfield 12, 3) := by decide +kernel
theorem d_Pl_init_15 : decode b_Pl_init 15 = .ok (.aload_n 0, 1) := by decide +kernel
theorem d_Pl_init_16 : decode b_Pl_init 16 = .ok (.new 18, 3) := by decide +kernel
theorem d_Pl_init_19 : decode b_Pl_init 19 = .ok (.dup, 1) := by decide +kernel
theorem d_Pl_init_20 : decode b_Pl_init 20 = .ok (.invokespecial 20, 3) := by decide +kernel
theorem d_Pl_init_23 : decode b_Pl_init 23 = .ok (.putfield 21, 3) := by decide +kernel
theorem d_Pl_init_26 : decode b_Pl_init 26 = .ok (.aload_n 0, 1) := by decide +kernel
theorem d_Pl_init_27 : decode b_Pl_init 27 = .ok (.iconst 0, 1) := by decide +kernel
theorem d_Pl_init_28 : decode b_Pl_init 28 = .ok (.putfield 25, 3) := by decide +kernel
theorem d_Pl_init_31 : decode b_Pl_init 31 = .ok (.aload_n 0, 1) := by decide +kernel
theorem d_Pl_init_32 : decode b_Pl_init 32 = .ok (.iconst 0, 1) := by decide +kernel
theorem d_Pl_init_33 : decode b_Pl_init 33 = .ok (.putfield 29, 3) := by decide +kernel
theorem d_Pl_init_36 : decode b_Pl_init 36 = .ok (.aload_n 0, 1) := by decide +kernel
theorem d_Pl_init_37 : decode b_Pl_init 37 = .ok (.bipush 36, 2) := by decide +kernel
theorem d_Pl_init_39 : decode b_Pl_init 39 = .ok (.putfield 32, 3) := by decide +kernel
theorem d_Pl_init_42 : decode b_Pl_init 42 = .ok (.aload_n 0, 1) := by decide +kernel
theorem d_Pl_init_43 : decode b_Pl_init 43 = .ok (.bipush 36, 2) := by decide +kernel
theorem d_Pl_init_45 : decode b_Pl_init 45 = .ok (.newarray .int, 2) := by decide +kernel
theorem d_Pl_init_47 : decode b_Pl_init 47 = .ok (.putfield 35, 3) := by decide +kernel
theorem d_Pl_init_50 : decode b_Pl_init 50 = .ok (.aload_n 0, 1) := by decide +kernel
theorem d_Pl_init_51 : decode b_Pl_init 51 = .ok (.bipush 36, 2) := by decide +kernel
theorem d_Pl_init_53 : decode b_Pl_init 53 = .ok (.newarray .int, 2) := by decide +kernel
theorem d_Pl_init_55 : decode b_Pl_init 55 = .ok (.putfield 39, 3) := by decide +kernel
theorem d_Pl_init_58 : decode b_Pl_init 58 = .ok (.aload_n 0, 1) := by decide +kernel
theorem d_Pl_init_59 : decode b_Pl_init 59 = .ok (.sipush 288, 3) := by decide +kernel
theorem d_Pl_init_62 : decode b_Pl_init 62 = .ok (.newarray .int, 2) := by decide +kernel
theorem d_Pl_init_64 : decode b_Pl_init 64 = .ok (.putfield 42, 3) := by decide +kernel
theorem d_Pl_init_67 : decode b_Pl_init 67 = .ok (.aload_n 0, 1) := by decide +kernel
theorem d_Pl_init_68 : decode b_Pl_init 68 = .ok (.sipush 288, 3) := by decide +kernel
theorem d_Pl_init_71 : decode b_Pl_init 71 = .ok (.newarray .int, 2) := by decide +kernel
theorem d_Pl_init_73 : decode b_Pl_init 73 = .ok (.putfield 45, 3) := by decide +kernel
theorem d_Pl_init_76 : decode b_Pl_init 76 = .ok (.aload_n 0, 1) := by decide +kernel
theorem d_Pl_init_77 : decode b_Pl_init 77 = .ok (.bipush 8, 2) := by decide +kernel
theorem d_Pl_init_79 : decode b_Pl_init 79 = .ok (.newarray .int, 2) := by decide +kernel
theorem d_Pl_init_81 : decode b_Pl_init 81 = .ok (.putfield 48, 3) := by decide +kernel
theorem d_Pl_init_84 : decode b_Pl_init 84 = .ok (.aload_n 0, 1) := by decide +kernel
theorem d_Pl_init_85 : decode b_Pl_init 85 = .ok (.sipush 18944, 3) := by decide +kernel
theorem d_Pl_init_88 : decode b_Pl_init 88 = .ok (.newarray .long, 2) := by decide +kernel
theorem d_Pl_init_90 : decode b_Pl_init 90 = .ok (.putfield 51, 3) := by decide +kernel
theorem d_Pl_init_93 : decode b_Pl_init 93 = .ok (.return_, 1) := by decide +kernel
theorem d_Ho_init_0 : decode b_Ho_init 0 = .ok (.aload_n 0, 1) := by decide +kernel
theorem d_Ho_init_1 : decode b_Ho_init 1 = .ok (.invokespecial 3, 3) := by decide +kernel
theorem d_Ho_init_4 : decode b_Ho_init 4 = .ok (.aload_n 0, 1) := by decide +kernel
theorem d_Ho_init_5 : decode b_Ho_init 5 = .ok (.iconst 3, 1) := by decide +kernel
theorem d_Ho_init_6 : decode b_Ho_init 6 = .ok (.anewarray 9, 3) := by decide +kernel
theorem d_Ho_init_9 : decode b_Ho_init 9 = .ok (.putfield 11, 3) := by decide +kernel
theorem d_Ho_init_12 : decode b_Ho_init 12 = .ok (.aload_n 0, 1) := by decide +kernel
theorem d_Ho_init_13 : decode b_Ho_init 13 = .ok (.iconst 0, 1) := by decide +kernel
theorem d_Ho_init_14 : decode b_Ho_init 14 = .ok (.putfield 17, 3) := by decide +kernel
theorem d_Ho_init_17 : decode b_Ho_init 17 = .ok (.aload_n 0, 1) := by decide +kernel
theorem d_Ho_init_18 : decode b_Ho_init 18 = .ok (.iconst 3, 1) := by decide +kernel
theorem d_Ho_init_19 : decode b_Ho_init 19 = .ok (.bipush 36, 2) := by decide +kernel
theorem d_Ho_init_21 : decode b_Ho_init 21 = .ok (.multianewarray 21 2, 4) := by decide +kernel
theorem d_Ho_init_25 : decode b_Ho_init 25 = .ok (.putfield 23, 3) := by decide +kernel
theorem d_Ho_init_28 : decode b_Ho_init 28 = .ok (.iconst 0, 1) := by decide +kernel
theorem d_Ho_init_29 : decode b_Ho_init 29 = .ok (.istore_n 1, 1) := by decide +kernel
theorem d_Ho_init_30 : decode b_Ho_init 30 = .ok (.iload_n 1, 1) := by decide +kernel
theorem d_Ho_init_31 : decode b_Ho_init 31 = .ok (.iconst 3, 1) := by decide +kernel
theorem d_Ho_init_32 : decode b_Ho_init 32 = .ok (.if_icmp .ge 22, 3) := by decide +kernel
theorem d_Ho_init_35 : decode b_Ho_init 35 = .ok (.aload_n 0, 1) := by decide +kernel
theorem d_Ho_init_36 : decode b_Ho_init 36 = .ok (.getfield 11, 3) := by decide +kernel
theorem d_Ho_init_39 : decode b_Ho_init 39 = .ok (.iload_n 1, 1) := by decide +kernel
theorem d_Ho_init_40 : decode b_Ho_init 40 = .ok (.new 9, 3) := by decide +kernel
theorem d_Ho_init_43 : decode b_Ho_init 43 = .ok (.dup, 1) := by decide +kernel
theorem d_Ho_init_44 : decode b_Ho_init 44 = .ok (.invokespecial 26, 3) := by decide +kernel
theorem d_Ho_init_47 : decode b_Ho_init 47 = .ok (.aastore, 1) := by decide +kernel
theorem d_Ho_init_48 : decode b_Ho_init 48 = .ok (.iinc 1 1, 3) := by decide +kernel
theorem d_Ho_init_51 : decode b_Ho_init 51 = .ok (.goto (-21), 3) := by decide +kernel
theorem d_Ho_init_54 : decode b_Ho_init 54 = .ok (.iconst 0, 1) := by decide +kernel
theorem d_Ho_init_55 : decode b_Ho_init 55 = .ok (.istore_n 1, 1) := by decide +kernel
theorem d_Ho_init_56 : decode b_Ho_init 56 = .ok (.iload_n 1, 1) := by decide +kernel
theorem d_Ho_init_57 : decode b_Ho_init 57 = .ok (.bipush 36, 2) := by decide +kernel
theorem d_Ho_init_59 : decode b_Ho_init 59 = .ok (.if_icmp .ge 19, 3) := by decide +kernel
theorem d_Ho_init_62 : decode b_Ho_init 62 = .ok (.aload_n 0, 1) := by decide +kernel
theorem d_Ho_init_63 : decode b_Ho_init 63 = .ok (.getfield 23, 3) := by decide +kernel
theorem d_Ho_init_66 : decode b_Ho_init 66 = .ok (.iconst 1, 1) := by decide +kernel
theorem d_Ho_init_67 : decode b_Ho_init 67 = .ok (.aaload, 1) := by decide +kernel
theorem d_Ho_init_68 : decode b_Ho_init 68 = .ok (.iload_n 1, 1) := by decide +kernel
theorem d_Ho_init_69 : decode b_Ho_init 69 = .ok (.bipush 10, 2) := by decide +kernel
theorem d_Ho_init_71 : decode b_Ho_init 71 = .ok (.iastore, 1) := by decide +kernel
theorem d_Ho_init_72 : decode b_Ho_init 72 = .ok (.iinc 1 1, 3) := by decide +kernel
theorem d_Ho_init_75 : decode b_Ho_init 75 = .ok (.goto (-19), 3) := by decide +kernel
theorem d_Ho_init_78 : decode b_Ho_init 78 = .ok (.return_, 1) := by decide +kernel
theorem d_Mc_init_0 : decode b_Mc_init 0 = .ok (.aload_n 0, 1) := by decide +kernel
theorem d_Mc_init_1 : decode b_Mc_init 1 = .ok (.invokespecial 3, 3) := by decide +kernel
theorem d_Mc_init_4 : decode b_Mc_init 4 = .ok (.aload_n 0, 1) := by decide +kernel
theorem d_Mc_init_5 : decode b_Mc_init 5 = .ok (.iconst 1, 1) := by decide +kernel
theorem d_Mc_init_6 : decode b_Mc_init 6 = .ok (.putfield 9, 3) := by decide +kernel
theorem d_Mc_init_9 : decode b_Mc_init 9 = .ok (.aload_n 0, 1) := by decide +kernel
theorem d_Mc_init_10 : decode b_Mc_init 10 = .ok (.iconst 1, 1) := by decide +kernel
theorem d_Mc_init_11 : decode b_Mc_init 11 = .ok (.putfield 15, 3) := by decide +kernel
theorem d_Mc_init_14 : decode b_Mc_init 14 = .ok (.aload_n 0, 1) := by decide +kernel
theorem d_Mc_init_15 : decode b_Mc_init 15 = .ok (.iconst 0, 1) := by decide +kernel
theorem d_Mc_init_16 : decode b_Mc_init 16 = .ok (.putfield 18, 3) := by decide +kernel
theorem d_Mc_init_19 : decode b_Mc_init 19 = .ok (.aload_n 0, 1) := by decide +kernel
theorem d_Mc_init_20 : decode b_Mc_init 20 = .ok (.new 21, 3) := by decide +kernel
theorem d_Mc_init_23 : decode b_Mc_init 23 = .ok (.dup, 1) := by decide +kernel
theorem d_Mc_init_24 : decode b_Mc_init 24 = .ok (.bipush 8, 2) := by decide +kernel
theorem d_Mc_init_26 : decode b_Mc_init 26 = .ok (.invokespecial 23, 3) := by decide +kernel
theorem d_Mc_init_29 : decode b_Mc_init 29 = .ok (.putfield 26, 3) := by decide +kernel
theorem d_Mc_init_32 : decode b_Mc_init 32 = .ok (.aload_n 0, 1) := by decide +kernel
theorem d_Mc_init_33 : decode b_Mc_init 33 = .ok (.new 21, 3) := by decide +kernel
theorem d_Mc_init_36 : decode b_Mc_init 36 = .ok (.dup, 1) := by decide +kernel
theorem d_Mc_init_37 : decode b_Mc_init 37 = .ok (.bipush 8, 2) := by decide +kernel
theorem d_Mc_init_39 : decode b_Mc_init 39 = .ok (.invokespecial 23, 3) := by decide +kernel
theorem d_Mc_init_42 : decode b_Mc_init 42 = .ok (.putfield 30, 3) := by decide +kernel
theorem d_Mc_init_45 : decode b_Mc_init 45 = .ok (.aload_n 0, 1) := by decide +kernel
theorem d_Mc_init_46 : decode b_Mc_init 46 = .ok (.bipush 36, 2) := by decide +kernel
theorem d_Mc_init_48 : decode b_Mc_init 48 = .ok (.newarray .boolean, 2) := by decide +kernel
theorem d_Mc_init_50 : decode b_Mc_init 50 = .ok (.putfield 33, 3) := by decide +kernel
theorem d_Mc_init_53 : decode b_Mc_init 53 = .ok (.return_, 1) := by decide +kernel
theorem d_Ln_init_0 : decode b_Ln_init 0 = .ok (.aload_n 0, 1) := by decide +kernel
theorem d_Ln_init_1 : decode b_Ln_init 1 = .ok (.invokespecial 3, 3) := by decide +kernel
theorem d_Ln_init_4 : decode b_Ln_init 4 = .ok (.aload_n 0, 1) := by decide +kernel
theorem d_Ln_init_5 : decode b_Ln_init 5 = .ok (.iconst 0, 1) := by decide +kernel
theorem d_Ln_init_6 : decode b_Ln_init 6 = .ok (.putfield 9, 3) := by decide +kernel
theorem d_Ln_init_9 : decode b_Ln_init 9 = .ok (.iload_n 1, 1) := by decide +kernel
theorem d_Ln_init_10 : decode b_Ln_init 10 = .ok (.iconst 0, 1) := by decide +kernel
theorem d_Ln_init_11 : decode b_Ln_init 11 = .ok (.invokestatic 15, 3) := by decide +kernel
theorem d_Ln_init_14 : decode b_Ln_init 14 = .ok (.istore_n 2, 1) := by decide +kernel
theorem d_Ln_init_15 : decode b_Ln_init 15 = .ok (.aload_n 0, 1) := by decide +kernel
theorem d_Ln_init_16 : decode b_Ln_init 16 = .ok (.iload_n 2, 1) := by decide +kernel
theorem d_Ln_init_17 : decode b_Ln_init 17 = .ok (.newarray .int, 2) := by decide +kernel
theorem d_Ln_init_19 : decode b_Ln_init 19 = .ok (.putfield 21, 3) := by decide +kernel
theorem d_Ln_init_22 : decode b_Ln_init 22 = .ok (.aload_n 0, 1) := by decide +kernel
theorem d_Ln_init_23 : decode b_Ln_init 23 = .ok (.iload_n 2, 1) := by decide +kernel
theorem d_Ln_init_24 : decode b_Ln_init 24 = .ok (.newarray .int, 2) := by decide +kernel
theorem d_Ln_init_26 : decode b_Ln_init 26 = .ok (.putfield 25, 3) := by decide +kernel
theorem d_Ln_init_29 : decode b_Ln_init 29 = .ok (.return_, 1) := by decide +kernel
theorem d_Ma_max_0 : decode b_Ma_max 0 = .ok (.iload_n 0, 1) := by decide +kernel
theorem d_Ma_max_1 : decode b_Ma_max 1 = .ok (.iload_n 1, 1) := by decide +kernel
theorem d_Ma_max_2 : decode b_Ma_max 2 = .ok (.if_icmp .lt 7, 3) := by decide +kernel
theorem d_Ma_max_5 : decode b_Ma_max 5 = .ok (.iload_n 0, 1) := by decide +kernel
theorem d_Ma_max_6 : decode b_Ma_max 6 = .ok (.goto 4, 3) := by decide +kernel
theorem d_Ma_max_9 : decode b_Ma_max 9 = .ok (.iload_n 1, 1) := by decide +kernel
theorem d_Ma_max_10 : decode b_Ma_max 10 = .ok (.ireturn, 1) := by decide +kernel
theorem d_Sa_init_0 : decode b_Sa_init 0 = .ok (.aload_n 0, 1) := by decide +kernel
theorem d_Sa_init_1 : decode b_Sa_init 1 = .ok (.invokespecial 3, 3) := by decide +kernel
theorem d_Sa_init_4 : decode b_Sa_init 4 = .ok (.aload_n 0, 1) := by decide +kernel
theorem d_Sa_init_5 : decode b_Sa_init 5 = .ok (.sipush 512, 3) := by decide +kernel
theorem d_Sa_init_8 : decode b_Sa_init 8 = .ok (.newarray .int, 2) := by decide +kernel
theorem d_Sa_init_10 : decode b_Sa_init 10 = .ok (.putfield 9, 3) := by decide +kernel
theorem d_Sa_init_13 : decode b_Sa_init 13 = .ok (.aload_n 0, 1) := by decide +kernel
theorem d_Sa_init_14 : decode b_Sa_init 14 = .ok (.iconst 1, 1) := by decide +kernel
theorem d_Sa_init_15 : decode b_Sa_init 15 = .ok (.putfield 15, 3) := by decide +kernel
theorem d_Sa_init_18 : decode b_Sa_init 18 = .ok (.aload_n 0, 1) := by decide +kernel
theorem d_Sa_init_19 : decode b_Sa_init 19 = .ok (.sipush 512, 3) := by decide +kernel
theorem d_Sa_init_22 : decode b_Sa_init 22 = .ok (.newarray .int, 2) := by decide +kernel
theorem d_Sa_init_24 : decode b_Sa_init 24 = .ok (.putfield 19, 3) := by decide +kernel
theorem d_Sa_init_27 : decode b_Sa_init 27 = .ok (.aload_n 0, 1) := by decide +kernel
theorem d_Sa_init_28 : decode b_Sa_init 28 = .ok (.sipush 512, 3) := by decide +kernel
theorem d_Sa_init_31 : decode b_Sa_init 31 = .ok (.newarray .int, 2) := by decide +kernel
theorem d_Sa_init_33 : decode b_Sa_init 33 = .ok (.putfield 22, 3) := by decide +kernel
theorem d_Sa_init_36 : decode b_Sa_init 36 = .ok (.aload_n 0, 1) := by decide +kernel
theorem d_Sa_init_37 : decode b_Sa_init 37 = .ok (.sipush 512, 3) := by decide +kernel
theorem d_Sa_init_40 : decode b_Sa_init 40 = .ok (.newarray .int, 2) := by decide +kernel
theorem d_Sa_init_42 : decode b_Sa_init 42 = .ok (.putfield 25, 3) := by decide +kernel
theorem d_Sa_init_45 : decode b_Sa_init 45 = .ok (.aload_n 0, 1) := by decide +kernel
theorem d_Sa_init_46 : decode b_Sa_init 46 = .ok (.sipush 4096, 3) := by decide +kernel
theorem d_Sa_init_49 : decode b_Sa_init 49 = .ok (.newarray .int, 2) := by decide +kernel
theorem d_Sa_init_51 : decode b_Sa_init 51 = .ok (.putfield 28, 3) := by decide +kernel
theorem d_Sa_init_54 : decode b_Sa_init 54 = .ok (.return_, 1) := by decide +kernel
theorem d_Bh_init_0 : decode b_Bh_init 0 = .ok (.aload_n 0, 1) := by decide +kernel
theorem d_Bh_init_1 : decode b_Bh_init 1 = .ok (.invokespecial 3, 3) := by decide +kernel
theorem d_Bh_init_4 : decode b_Bh_init 4 = .ok (.aload_n 0, 1) := by decide +kernel
theorem d_Bh_init_5 : decode b_Bh_init 5 = .ok (.bipush 36, 2) := by decide +kernel
theorem d_Bh_init_7 : decode b_Bh_init 7 = .ok (.newarray .int, 2) := by decide +kernel
theorem d_Bh_init_9 : decode b_Bh_init 9 = .ok (.putfield 9, 3) := by decide +kernel
theorem d_Bh_init_12 : decode b_Bh_init 12 = .ok (.aload_n 0, 1) := by decide +kernel
theorem d_Bh_init_13 : decode b_Bh_init 13 = .ok (.iconst 0, 1) := by decide +kernel
theorem d_Bh_init_14 : decode b_Bh_init 14 = .ok (.putfield 15, 3) := by decide +kernel
theorem d_Bh_init_17 : decode b_Bh_init 17 = .ok (.aload_n 0, 1) := by decide +kernel
theorem d_Bh_init_18 : decode b_Bh_init 18 = .ok (.bipush 36, 2) := by decide +kernel
theorem d_Bh_init_20 : decode b_Bh_init 20 = .ok (.newarray .int, 2) := by decide +kernel
theorem d_Bh_init_22 : decode b_Bh_init 22 = .ok (.putfield 19, 3) := by decide +kernel
theorem d_Bh_init_25 : decode b_Bh_init 25 = .ok (.return_, 1) := by decide +kernel
theorem d_HM_cost_0 : decode b_HM_cost 0 = .ok (.aload_n 0, 1) := by decide +kernel
theorem d_HM_cost_1 : decode b_HM_cost 1 = .ok (.getfield 12, 3) := by decide +kernel
theorem d_HM_cost_4 : decode b_HM_cost 4 = .ok (.invokevirtual 126, 3) := by decide +kernel
theorem d_HM_cost_7 : decode b_HM_cost 7 = .ok (.aload_n 0, 1) := by decide +kernel
theorem d_HM_cost_8 : decode b_HM_cost 8 = .ok (.getfield 12, 3) := by decide +kernel
theorem d_HM_cost_11 : decode b_HM_cost 11 = .ok (.invokevirtual 129, 3) := by decide +kernel
theorem d_HM_cost_14 : decode b_HM_cost 14 = .ok (.lreturn, 1) := by decide +kernel
theorem d_Pl_refresh_0 : decode b_Pl_refresh 0 = .ok (.aload_n 0, 1) := by decide +kernel
theorem d_Pl_refresh_1 : decode b_Pl_refresh 1 = .ok (.getfield 32, 3) := by decide +kernel
theorem d_Pl_refresh_4 : decode b_Pl_refresh 4 = .ok (.ifCond .ne 4, 3) := by decide +kernel
theorem d_Pl_refresh_7 : decode b_Pl_refresh 7 = .ok (.return_, 1) := by decide +kernel
theorem d_Pl_refresh_8 : decode b_Pl_refresh 8 = .ok (.aload_n 0, 1) := by decide +kernel
theorem d_Pl_refresh_9 : decode b_Pl_refresh 9 = .ok (.getfield 32, 3) := by decide +kernel
theorem d_Pl_refresh_12 : decode b_Pl_refresh 12 = .ok (.iconst 1, 1) := by decide +kernel
theorem d_Pl_refresh_13 : decode b_Pl_refresh 13 = .ok (.isub, 1) := by decide +kernel
theorem d_Pl_refresh_14 : decode b_Pl_refresh 14 = .ok (.istore_n 1, 1) := by decide +kernel
theorem d_Pl_refresh_15 : decode b_Pl_refresh 15 = .ok (.iload_n 1, 1) := by decide +kernel
theorem d_Pl_refresh_16 : decode b_Pl_refresh 16 = .ok (.aload_n 0, 1) := by decide +kernel
theorem d_Pl_refresh_17 : decode b_Pl_refresh 17 = .ok (.getfield 25, 3) := by decide +kernel
theorem d_Pl_refresh_20 : decode b_Pl_refresh 20 = .ok (.if_icmp .lt 19, 3) := by decide +kernel
theorem d_Pl_refresh_23 : decode b_Pl_refresh 23 = .ok (.aload_n 0, 1) := by decide +kernel
theorem d_Pl_refresh_24 : decode b_Pl_refresh 24 = .ok (.iload_n 1, 1) := by decide +kernel
theorem d_Pl_refresh_25 : decode b_Pl_refresh 25 = .ok (.invokevirtual 77, 3) := by decide +kernel
theorem d_Pl_refresh_28 : decode b_Pl_refresh 28 = .ok (.aload_n 0, 1) := by decide +kernel
theorem d_Pl_refresh_29 : decode b_Pl_refresh 29 = .ok (.iload_n 1, 1) := by decide +kernel
theorem d_Pl_refresh_30 : decode b_Pl_refresh 30 = .ok (.invokevirtual 80, 3) := by decide +kernel
theorem d_Pl_refresh_33 : decode b_Pl_refresh 33 = .ok (.iinc 1 (-1), 3) := by decide +kernel
theorem d_Pl_refresh_36 : decode b_Pl_refresh 36 = .ok (.goto (-21), 3) := by decide +kernel
theorem d_Pl_refresh_39 : decode b_Pl_refresh 39 = .ok (.aload_n 0, 1) := by decide +kernel
theorem d_Pl_refresh_40 : decode b_Pl_refresh 40 = .ok (.iconst 0, 1) := by decide +kernel
theorem d_Pl_refresh_41 : decode b_Pl_refresh 41 = .ok (.putfield 32, 3) := by decide +kernel
theorem d_Pl_refresh_44 : decode b_Pl_refresh 44 = .ok (.aload_n 0, 1) := by decide +kernel
theorem d_Pl_refresh_45 : decode b_Pl_refresh 45 = .ok (.invokevirtual 83, 3) := by decide +kernel
theorem d_Pl_refresh_48 : decode b_Pl_refresh 48 = .ok (.return_, 1) := by decide +kernel
theorem d_Pl_weigh_0 : decode b_Pl_weigh 0 = .ok (.aload_n 0, 1) := by decide +kernel
theorem d_Pl_weigh_1 : decode b_Pl_weigh 1 = .ok (.getfield 39, 3) := by decide +kernel
theorem d_Pl_weigh_4 : decode b_Pl_weigh 4 = .ok (.iload_n 1, 1) := by decide +kernel
theorem d_Pl_weigh_5 : decode b_Pl_weigh 5 = .ok (.iconst 0, 1) := by decide +kernel
theorem d_Pl_weigh_6 : decode b_Pl_weigh 6 = .ok (.iastore, 1) := by decide +kernel
theorem d_Pl_weigh_7 : decode b_Pl_weigh 7 = .ok (.iconst 0, 1) := by decide +kernel
theorem d_Pl_weigh_8 : decode b_Pl_weigh 8 = .ok (.istore_n 2, 1) := by decide +kernel
theorem d_Pl_weigh_9 : decode b_Pl_weigh 9 = .ok (.iload_n 2, 1) := by decide +kernel
theorem d_Pl_weigh_10 : decode b_Pl_weigh 10 = .ok (.aload_n 0, 1) := by decide +kernel
theorem d_Pl_weigh_11 : decode b_Pl_weigh 11 = .ok (.getfield 12, 3) := by decide +kernel
theorem d_Pl_weigh_14 : decode b_Pl_weigh 14 = .ok (.getfield 104, 3) := by decide +kernel
theorem d_Pl_weigh_17 : decode b_Pl_weigh 17 = .ok (.if_icmp .ge 15, 3) := by decide +kernel
theorem d_Pl_weigh_20 : decode b_Pl_weigh 20 = .ok (.aload_n 0, 1) := by decide +kernel
theorem d_Pl_weigh_21 : decode b_Pl_weigh 21 = .ok (.iload_n 1, 1) := by decide +kernel
theorem d_Pl_weigh_22 : decode b_Pl_weigh 22 = .ok (.iload_n 2, 1) := by decide +kernel
theorem d_Pl_weigh_23 : decode b_Pl_weigh 23 = .ok (.invokevirtual 107, 3) := by decide +kernel
theorem d_Pl_weigh_26 : decode b_Pl_weigh 26 = .ok (.iinc 2 1, 3) := by decide +kernel
theorem d_Pl_weigh_29 : decode b_Pl_weigh 29 = .ok (.goto (-20), 3) := by decide +kernel
theorem d_Pl_weigh_32 : decode b_Pl_weigh 32 = .ok (.return_, 1) := by decide +kernel
theorem d_Pl_weighMachine_0 : decode b_Pl_weighMachine 0 = .ok (.aload_n 0, 1) := by decide +kernel
theorem d_Pl_weighMachine_1 : decode b_Pl_weighMachine 1 = .ok (.getfield 12, 3) := by decide +kernel
theorem d_Pl_weighMachine_4 : decode b_Pl_weighMachine 4 = .ok (.getfield 59, 3) := by decide +kernel
theorem d_Pl_weighMachine_7 : decode b_Pl_weighMachine 7 = .ok (.iload_n 2, 1) := by decide +kernel
theorem d_Pl_weighMachine_8 : decode b_Pl_weighMachine 8 = .ok (.aaload, 1) := by decide +kernel
theorem d_Pl_weighMachine_9 : decode b_Pl_weighMachine 9 = .ok (.astore_n 3, 1) := by decide +kernel
theorem d_Pl_weighMachine_10 : decode b_Pl_weighMachine 10 = .ok (.aload_n 0, 1) := by decide +kernel
theorem d_Pl_weighMachine_11 : decode b_Pl_weighMachine 11 = .ok (.getfield 12, 3) := by decide +kernel
theorem d_Pl_weighMachine_14 : decode b_Pl_weighMachine 14 = .ok (.getfield 100, 3) := by decide +kernel
theorem d_Pl_weighMachine_17 : decode b_Pl_weighMachine 17 = .ok (.iconst 0, 1) := by decide +kernel
theorem d_Pl_weighMachine_18 : decode b_Pl_weighMachine 18 = .ok (.aaload, 1) := by decide +kernel
theorem d_Pl_weighMachine_19 : decode b_Pl_weighMachine 19 = .ok (.iload_n 1, 1) := by decide +kernel
theorem d_Pl_weighMachine_20 : decode b_Pl_weighMachine 20 = .ok (.iaload, 1) := by decide +kernel
theorem d_Pl_weighMachine_21 : decode b_Pl_weighMachine 21 = .ok (.istore 4, 2) := by decide +kernel
theorem d_Pl_weighMachine_23 : decode b_Pl_weighMachine 23 = .ok (.aload_n 3, 1) := by decide +kernel
theorem d_Pl_weighMachine_24 : decode b_Pl_weighMachine 24 = .ok (.getfield 111, 3) := by decide +kernel
theorem d_Pl_weighMachine_27 : decode b_Pl_weighMachine 27 = .ok (.iload_n 1, 1) := by decide +kernel
theorem d_Pl_weighMachine_28 : decode b_Pl_weighMachine 28 = .ok (.baload, 1) := by decide +kernel
theorem d_Pl_weighMachine_29 : decode b_Pl_weighMachine 29 = .ok (.ifCond .eq 7, 3) := by decide +kernel
theorem d_Pl_weighMachine_32 : decode b_Pl_weighMachine 32 = .ok (.iconst (-1), 1) := by decide +kernel
theorem d_Pl_weighMachine_33 : decode b_Pl_weighMachine 33 = .ok (.goto 13, 3) := by decide +kernel
theorem d_Pl_weighMachine_36 : decode b_Pl_weighMachine 36 = .ok (.aload_n 3, 1) := by decide +kernel
theorem d_Pl_weighMachine_37 : decode b_Pl_weighMachine 37 = .ok (.getfield 115, 3) := by decide +kernel
theorem d_Pl_weighMachine_40 : decode b_Pl_weighMachine 40 = .ok (.iload 4, 2) := by decide +kernel
theorem d_Pl_weighMachine_42 : decode b_Pl_weighMachine 42 = .ok (.iconst 0, 1) := by decide +kernel
theorem d_Pl_weighMachine_43 : decode b_Pl_weighMachine 43 = .ok (.invokevirtual 118, 3) := by decide +kernel
theorem d_Pl_weighMachine_46 : decode b_Pl_weighMachine 46 = .ok (.istore 5, 2) := by decide +kernel
theorem d_Pl_weighMachine_48 : decode b_Pl_weighMachine 48 = .ok (.iload 5, 2) := by decide +kernel
theorem d_Pl_weighMachine_50 : decode b_Pl_weighMachine 50 = .ok (.iconst (-1), 1) := by decide +kernel
theorem d_Pl_weighMachine_51 : decode b_Pl_weighMachine 51 = .ok (.if_icmp .eq 7, 3) := by decide +kernel
theorem d_Pl_weighMachine_54 : decode b_Pl_weighMachine 54 = .ok (.iconst 1, 1) := by decide +kernel
theorem d_Pl_weighMachine_55 : decode b_Pl_weighMachine 55 = .ok (.goto 4, 3) := by decide +kernel
theorem d_Pl_weighMachine_58 : decode b_Pl_weighMachine 58 = .ok (.iconst 0, 1) := by decide +kernel
theorem d_Pl_weighMachine_59 : decode b_Pl_weighMachine 59 = .ok (.istore 6, 2) := by decide +kernel
theorem d_Pl_weighMachine_61 : decode b_Pl_weighMachine 61 = .ok (.iload 6, 2) := by decide +kernel
theorem d_Pl_weighMachine_63 : decode b_Pl_weighMachine 63 = .ok (.ifCond .eq 8, 3) := by decide +kernel
theorem d_Pl_weighMachine_66 : decode b_Pl_weighMachine 66 = .ok (.iload 5, 2) := by decide +kernel
theorem d_Pl_weighMachine_68 : decode b_Pl_weighMachine 68 = .ok (.goto 4, 3) := by decide +kernel
theorem d_Pl_weighMachine_71 : decode b_Pl_weighMachine 71 = .ok (.iconst 0, 1) := by decide +kernel
theorem d_Pl_weighMachine_72 : decode b_Pl_weighMachine 72 = .ok (.istore 7, 2) := by decide +kernel
theorem d_Pl_weighMachine_74 : decode b_Pl_weighMachine 74 = .ok (.iload 6, 2) := by decide +kernel
theorem d_Pl_weighMachine_76 : decode b_Pl_weighMachine 76 = .ok (.ifCond .eq 16, 3) := by decide +kernel
theorem d_Pl_weighMachine_79 : decode b_Pl_weighMachine 79 = .ok (.aload_n 3, 1) := by decide +kernel
theorem d_Pl_weighMachine_80 : decode b_Pl_weighMachine 80 = .ok (.getfield 124, 3) := by decide +kernel
theorem d_Pl_weighMachine_83 : decode b_Pl_weighMachine 83 = .ok (.iload 4, 2) := by decide +kernel
theorem d_Pl_weighMachine_85 : decode b_Pl_weighMachine 85 = .ok (.iconst 1, 1) := by decide +kernel
theorem d_Pl_weighMachine_86 : decode b_Pl_weighMachine 86 = .ok (.invokevirtual 118, 3) := by decide +kernel
theorem d_Pl_weighMachine_89 : decode b_Pl_weighMachine 89 = .ok (.goto 4, 3) := by decide +kernel
theorem d_Pl_weighMachine_92 : decode b_Pl_weighMachine 92 = .ok (.iconst 0, 1) := by decide +kernel
theorem d_Pl_weighMachine_93 : decode b_Pl_weighMachine 93 = .ok (.istore 8, 2) := by decide +kernel
theorem d_Pl_weighMachine_95 : decode b_Pl_weighMachine 95 = .ok (.iconst 1, 1) := by decide +kernel
theorem d_Pl_weighMachine_96 : decode b_Pl_weighMachine 96 = .ok (.iload_n 2, 1) := by decide +kernel
theorem d_Pl_weighMachine_97 : decode b_Pl_weighMachine 97 = .ok (.ishl, 1) := by decide +kernel
theorem d_Pl_weighMachine_98 : decode b_Pl_weighMachine 98 = .ok (.istore 9, 2) := by decide +kernel
theorem d_Pl_weighMachine_100 : decode b_Pl_weighMachine 100 = .ok (.aload_n 0, 1) := by decide +kernel
theorem d_Pl_weighMachine_101 : decode b_Pl_weighMachine 101 = .ok (.getfield 39, 3) := by decide +kernel
theorem d_Pl_weighMachine_104 : decode b_Pl_weighMachine 104 = .ok (.iload_n 1, 1) := by decide +kernel
theorem d_Pl_weighMachine_105 : decode b_Pl_weighMachine 105 = .ok (.dup2, 1) := by decide +kernel
theorem d_Pl_weighMachine_106 : decode b_Pl_weighMachine 106 = .ok (.iaload, 1) := by decide +kernel
theorem d_Pl_weighMachine_107 : decode b_Pl_weighMachine 107 = .ok (.iload 6, 2) := by decide +kernel
theorem d_Pl_weighMachine_109 : decode b_Pl_weighMachine 109 = .ok (.ifCond .eq 8, 3) := by decide +kernel
theorem d_Pl_weighMachine_112 : decode b_Pl_weighMachine 112 = .ok (.iload 9, 2) := by decide +kernel
theorem d_Pl_weighMachine_114 : decode b_Pl_weighMachine 114 = .ok (.goto 4, 3) := by decide +kernel
theorem d_Pl_weighMachine_117 : decode b_Pl_weighMachine 117 = .ok (.iconst 0, 1) := by decide +kernel
theorem d_Pl_weighMachine_118 : decode b_Pl_weighMachine 118 = .ok (.ior, 1) := by decide +kernel
theorem d_Pl_weighMachine_119 : decode b_Pl_weighMachine 119 = .ok (.iastore, 1) := by decide +kernel
theorem d_Pl_weighMachine_120 : decode b_Pl_weighMachine 120 = .ok (.iload_n 1, 1) := by decide +kernel
theorem d_Pl_weighMachine_121 : decode b_Pl_weighMachine 121 = .ok (.bipush 8, 2) := by decide +kernel
theorem d_Pl_weighMachine_123 : decode b_Pl_weighMachine 123 = .ok (.imul, 1) := by decide +kernel
theorem d_Pl_weighMachine_124 : decode b_Pl_weighMachine 124 = .ok (.istore 10, 2) := by decide +kernel
theorem d_Pl_weighMachine_126 : decode b_Pl_weighMachine 126 = .ok (.iload 10, 2) := by decide +kernel
theorem d_Pl_weighMachine_128 : decode b_Pl_weighMachine 128 = .ok (.iload_n 1, 1) := by decide +kernel
theorem d_Pl_weighMachine_129 : decode b_Pl_weighMachine 129 = .ok (.bipush 8, 2) := by decide +kernel
theorem d_Pl_weighMachine_131 : decode b_Pl_weighMachine 131 = .ok (.imul, 1) := by decide +kernel
theorem d_Pl_weighMachine_132 : decode b_Pl_weighMachine 132 = .ok (.iload 9, 2) := by decide +kernel
theorem d_Pl_weighMachine_134 : decode b_Pl_weighMachine 134 = .ok (.iadd, 1) := by decide +kernel
theorem d_Pl_weighMachine_135 : decode b_Pl_weighMachine 135 = .ok (.if_icmp .ge 49, 3) := by decide +kernel
theorem d_Pl_weighMachine_138 : decode b_Pl_weighMachine 138 = .ok (.aload_n 0, 1) := by decide +kernel
theorem d_Pl_weighMachine_139 : decode b_Pl_weighMachine 139 = .ok (.getfield 42, 3) := by decide +kernel
theorem d_Pl_weighMachine_142 : decode b_Pl_weighMachine 142 = .ok (.iload 9, 2) := by decide +kernel
theorem d_Pl_weighMachine_144 : decode b_Pl_weighMachine 144 = .ok (.iload 10, 2) := by decide +kernel
theorem d_Pl_weighMachine_146 : decode b_Pl_weighMachine 146 = .ok (.iadd, 1) := by decide +kernel
theorem d_Pl_weighMachine_147 : decode b_Pl_weighMachine 147 = .ok (.aload_n 0, 1) := by decide +kernel
theorem d_Pl_weighMachine_148 : decode b_Pl_weighMachine 148 = .ok (.getfield 42, 3) := by decide +kernel
theorem d_Pl_weighMachine_151 : decode b_Pl_weighMachine 151 = .ok (.iload 10, 2) := by decide +kernel
theorem d_Pl_weighMachine_153 : decode b_Pl_weighMachine 153 = .ok (.iaload, 1) := by decide +kernel
theorem d_Pl_weighMachine_154 : decode b_Pl_weighMachine 154 = .ok (.iload 7, 2) := by decide +kernel
theorem d_Pl_weighMachine_156 : decode b_Pl_weighMachine 156 = .ok (.iadd, 1) := by decide +kernel
theorem d_Pl_weighMachine_157 : decode b_Pl_weighMachine 157 = .ok (.iastore, 1) := by decide +kernel
theorem d_Pl_weighMachine_158 : decode b_Pl_weighMachine 158 = .ok (.aload_n 0, 1) := by decide +kernel
theorem d_Pl_weighMachine_159 : decode b_Pl_weighMachine 159 = .ok (.getfield 45, 3) := by decide +kernel
theorem d_Pl_weighMachine_162 : decode b_Pl_weighMachine 162 = .ok (.iload 9, 2) := by decide +kernel
theorem d_Pl_weighMachine_164 : decode b_Pl_weighMachine 164 = .ok (.iload 10, 2) := by decide +kernel
theorem d_Pl_weighMachine_166 : decode b_Pl_weighMachine 166 = .ok (.iadd, 1) := by decide +kernel
theorem d_Pl_weighMachine_167 : decode b_Pl_weighMachine 167 = .ok (.aload_n 0, 1) := by decide +kernel
theorem d_Pl_weighMachine_168 : decode b_Pl_weighMachine 168 = .ok (.getfield 45, 3) := by decide +kernel
theorem d_Pl_weighMachine_171 : decode b_Pl_weighMachine 171 = .ok (.iload 10, 2) := by decide +kernel
theorem d_Pl_weighMachine_173 : decode b_Pl_weighMachine 173 = .ok (.iaload, 1) := by decide +kernel
theorem d_Pl_weighMachine_174 : decode b_Pl_weighMachine 174 = .ok (.iload 8, 2) := by decide +kernel
theorem d_Pl_weighMachine_176 : decode b_Pl_weighMachine 176 = .ok (.iadd, 1) := by decide +kernel
theorem d_Pl_weighMachine_177 : decode b_Pl_weighMachine 177 = .ok (.iastore, 1) := by decide +kernel
theorem d_Pl_weighMachine_178 : decode b_Pl_weighMachine 178 = .ok (.iinc 10 1, 3) := by decide +kernel
theorem d_Pl_weighMachine_181 : decode b_Pl_weighMachine 181 = .ok (.goto (-55), 3) := by decide +kernel
theorem d_Pl_weighMachine_184 : decode b_Pl_weighMachine 184 = .ok (.return_, 1) := by decide +kernel
theorem d_Ln_valueAt_0 : decode b_Ln_valueAt 0 = .ok (.iconst 0, 1) := by decide +kernel
theorem d_Ln_valueAt_1 : decode b_Ln_valueAt 1 = .ok (.istore_n 3, 1) := by decide +kernel
theorem d_Ln_valueAt_2 : decode b_Ln_valueAt 2 = .ok (.iload_n 3, 1) := by decide +kernel
theorem d_Ln_valueAt_3 : decode b_Ln_valueAt 3 = .ok (.aload_n 0, 1) := by decide +kernel
theorem d_Ln_valueAt_4 : decode b_Ln_valueAt 4 = .ok (.getfield 9, 3) := by decide +kernel
theorem d_Ln_valueAt_7 : decode b_Ln_valueAt 7 = .ok (.if_icmp .ge 19, 3) := by decide +kernel
theorem d_Ln_valueAt_10 : decode b_Ln_valueAt 10 = .ok (.aload_n 0, 1) := by decide +kernel
theorem d_Ln_valueAt_11 : decode b_Ln_valueAt 11 = .ok (.getfield 21, 3) := by decide +kernel
theorem d_Ln_valueAt_14 : decode b_Ln_valueAt 14 = .ok (.iload_n 3, 1) := by decide +kernel
theorem d_Ln_valueAt_15 : decode b_Ln_valueAt 15 = .ok (.iaload, 1) := by decide +kernel
theorem d_Ln_valueAt_16 : decode b_Ln_valueAt 16 = .ok (.iload_n 1, 1) := by decide +kernel
theorem d_Ln_valueAt_17 : decode b_Ln_valueAt 17 = .ok (.if_icmp .ge 9, 3) := by decide +kernel
theorem d_Ln_valueAt_20 : decode b_Ln_valueAt 20 = .ok (.iinc 3 1, 3) := by decide +kernel
theorem d_Ln_valueAt_23 : decode b_Ln_valueAt 23 = .ok (.goto (-21), 3) := by decide +kernel
theorem d_Ln_valueAt_26 : decode b_Ln_valueAt 26 = .ok (.iload_n 3, 1) := by decide +kernel
theorem d_Ln_valueAt_27 : decode b_Ln_valueAt 27 = .ok (.aload_n 0, 1) := by decide +kernel
theorem d_Ln_valueAt_28 : decode b_Ln_valueAt 28 = .ok (.getfield 9, 3) := by decide +kernel
theorem d_Ln_valueAt_31 : decode b_Ln_valueAt 31 = .ok (.if_icmp .eq 17, 3) := by decide +kernel
theorem d_Ln_valueAt_34 : decode b_Ln_valueAt 34 = .ok (.iload_n 3, 1) := by decide +kernel
theorem d_Ln_valueAt_35 : decode b_Ln_valueAt 35 = .ok (.ifCond .ne 15, 3) := by decide +kernel
theorem d_Ln_valueAt_38 : decode b_Ln_valueAt 38 = .ok (.aload_n 0, 1) := by decide +kernel
theorem d_Ln_valueAt_39 : decode b_Ln_valueAt 39 = .ok (.getfield 21, 3) := by decide +kernel
theorem d_Ln_valueAt_42 : decode b_Ln_valueAt 42 = .ok (.iconst 0, 1) := by decide +kernel
theorem d_Ln_valueAt_43 : decode b_Ln_valueAt 43 = .ok (.iaload, 1) := by decide +kernel
theorem d_Ln_valueAt_44 : decode b_Ln_valueAt 44 = .ok (.iload_n 1, 1) := by decide +kernel
theorem d_Ln_valueAt_45 : decode b_Ln_valueAt 45 = .ok (.if_icmp .eq 5, 3) := by decide +kernel
theorem d_Ln_valueAt_48 : decode b_Ln_valueAt 48 = .ok (.iconst (-1), 1) := by decide +kernel
theorem d_Ln_valueAt_49 : decode b_Ln_valueAt 49 = .ok (.ireturn, 1) := by decide +kernel
theorem d_Ln_valueAt_50 : decode b_Ln_valueAt 50 = .ok (.aload_n 0, 1) := by decide +kernel
theorem d_Ln_valueAt_51 : decode b_Ln_valueAt 51 = .ok (.getfield 21, 3) := by decide +kernel
theorem d_Ln_valueAt_54 : decode b_Ln_valueAt 54 = .ok (.iload_n 3, 1) := by decide +kernel
theorem d_Ln_valueAt_55 : decode b_Ln_valueAt 55 = .ok (.iaload, 1) := by decide +kernel
theorem d_Ln_valueAt_56 : decode b_Ln_valueAt 56 = .ok (.iload_n 1, 1) := by decide +kernel
theorem d_Ln_valueAt_57 : decode b_Ln_valueAt 57 = .ok (.if_icmp .ne 12, 3) := by decide +kernel
theorem d_Ln_valueAt_60 : decode b_Ln_valueAt 60 = .ok (.aload_n 0, 1) := by decide +kernel
theorem d_Ln_valueAt_61 : decode b_Ln_valueAt 61 = .ok (.getfield 25, 3) := by decide +kernel
theorem d_Ln_valueAt_64 : decode b_Ln_valueAt 64 = .ok (.iload_n 3, 1) := by decide +kernel
theorem d_Ln_valueAt_65 : decode b_Ln_valueAt 65 = .ok (.iaload, 1) := by decide +kernel
theorem d_Ln_valueAt_66 : decode b_Ln_valueAt 66 = .ok (.goto 12, 3) := by decide +kernel
theorem d_Ln_valueAt_69 : decode b_Ln_valueAt 69 = .ok (.aload_n 0, 1) := by decide +kernel
theorem d_Ln_valueAt_70 : decode b_Ln_valueAt 70 = .ok (.iload_n 3, 1) := by decide +kernel
theorem d_Ln_valueAt_71 : decode b_Ln_valueAt 71 = .ok (.iconst 1, 1) := by decide +kernel
theorem d_Ln_valueAt_72 : decode b_Ln_valueAt 72 = .ok (.isub, 1) := by decide +kernel
theorem d_Ln_valueAt_73 : decode b_Ln_valueAt 73 = .ok (.iload_n 1, 1) := by decide +kernel
theorem d_Ln_valueAt_74 : decode b_Ln_valueAt 74 = .ok (.iload_n 2, 1) := by decide +kernel
theorem d_Ln_valueAt_75 : decode b_Ln_valueAt 75 = .ok (.invokevirtual 32, 3) := by decide +kernel
theorem d_Ln_valueAt_78 : decode b_Ln_valueAt 78 = .ok (.ireturn, 1) := by decide +kernel
theorem d_Ln_between_0 : decode b_Ln_between 0 = .ok (.aload_n 0, 1) := by decide +kernel
theorem d_Ln_between_1 : decode b_Ln_between 1 = .ok (.getfield 21, 3) := by decide +kernel
theorem d_Ln_between_4 : decode b_Ln_between 4 = .ok (.iload_n 1, 1) := by decide +kernel
theorem d_Ln_between_5 : decode b_Ln_between 5 = .ok (.iconst 1, 1) := by decide +kernel
theorem d_Ln_between_6 : decode b_Ln_between 6 = .ok (.iadd, 1) := by decide +kernel
theorem d_Ln_between_7 : decode b_Ln_between 7 = .ok (.iaload, 1) := by decide +kernel
theorem d_Ln_between_8 : decode b_Ln_between 8 = .ok (.aload_n 0, 1) := by decide +kernel
theorem d_Ln_between_9 : decode b_Ln_between 9 = .ok (.getfield 21, 3) := by decide +kernel
theorem d_Ln_between_12 : decode b_Ln_between 12 = .ok (.iload_n 1, 1) := by decide +kernel
theorem d_Ln_between_13 : decode b_Ln_between 13 = .ok (.iaload, 1) := by decide +kernel
theorem d_Ln_between_14 : decode b_Ln_between 14 = .ok (.isub, 1) := by decide +kernel
theorem d_Ln_between_15 : decode b_Ln_between 15 = .ok (.istore 4, 2) := by decide +kernel
theorem d_Ln_between_17 : decode b_Ln_between 17 = .ok (.iload 4, 2) := by decide +kernel
theorem d_Ln_between_19 : decode b_Ln_between 19 = .ok (.ifCond .gt 10, 3) := by decide +kernel
theorem d_Ln_between_22 : decode b_Ln_between 22 = .ok (.aload_n 0, 1) := by decide +kernel
theorem d_Ln_between_23 : decode b_Ln_between 23 = .ok (.getfield 25, 3) := by decide +kernel
theorem d_Ln_between_26 : decode b_Ln_between 26 = .ok (.iload_n 1, 1) := by decide +kernel
theorem d_Ln_between_27 : decode b_Ln_between 27 = .ok (.iaload, 1) := by decide +kernel
theorem d_Ln_between_28 : decode b_Ln_between 28 = .ok (.ireturn, 1) := by decide +kernel
theorem d_Ln_between_29 : decode b_Ln_between 29 = .ok (.aload_n 0, 1) := by decide +kernel
theorem d_Ln_between_30 : decode b_Ln_between 30 = .ok (.getfield 25, 3) := by decide +kernel
theorem d_Ln_between_33 : decode b_Ln_between 33 = .ok (.iload_n 1, 1) := by decide +kernel
theorem d_Ln_between_34 : decode b_Ln_between 34 = .ok (.iconst 1, 1) := by decide +kernel
theorem d_Ln_between_35 : decode b_Ln_between 35 = .ok (.iadd, 1) := by decide +kernel
theorem d_Ln_between_36 : decode b_Ln_between 36 = .ok (.iaload, 1) := by decide +kernel
theorem d_Ln_between_37 : decode b_Ln_between 37 = .ok (.aload_n 0, 1) := by decide +kernel
theorem d_Ln_between_38 : decode b_Ln_between 38 = .ok (.getfield 25, 3) := by decide +kernel
theorem d_Ln_between_41 : decode b_Ln_between 41 = .ok (.iload_n 1, 1) := by decide +kernel
theorem d_Ln_between_42 : decode b_Ln_between 42 = .ok (.iaload, 1) := by decide +kernel
theorem d_Ln_between_43 : decode b_Ln_between 43 = .ok (.isub, 1) := by decide +kernel
theorem d_Ln_between_44 : decode b_Ln_between 44 = .ok (.i2l, 1) := by decide +kernel
theorem d_Ln_between_45 : decode b_Ln_between 45 = .ok (.iload_n 2, 1) := by decide +kernel
theorem d_Ln_between_46 : decode b_Ln_between 46 = .ok (.aload_n 0, 1) := by decide +kernel
theorem d_Ln_between_47 : decode b_Ln_between 47 = .ok (.getfield 21, 3) := by decide +kernel
theorem d_Ln_between_50 : decode b_Ln_between 50 = .ok (.iload_n 1, 1) := by decide +kernel
theorem d_Ln_between_51 : decode b_Ln_between 51 = .ok (.iaload, 1) := by decide +kernel
theorem d_Ln_between_52 : decode b_Ln_between 52 = .ok (.isub, 1) := by decide +kernel
theorem d_Ln_between_53 : decode b_Ln_between 53 = .ok (.i2l, 1) := by decide +kernel
theorem d_Ln_between_54 : decode b_Ln_between 54 = .ok (.lmul, 1) := by decide +kernel
theorem d_Ln_between_55 : decode b_Ln_between 55 = .ok (.lstore 5, 2) := by decide +kernel
theorem d_Ln_between_57 : decode b_Ln_between 57 = .ok (.iload_n 3, 1) := by decide +kernel
theorem d_Ln_between_58 : decode b_Ln_between 58 = .ok (.ifCond .eq 16, 3) := by decide +kernel
theorem d_Ln_between_61 : decode b_Ln_between 61 = .ok (.lload 5, 2) := by decide +kernel
theorem d_Ln_between_63 : decode b_Ln_between 63 = .ok (.lneg, 1) := by decide +kernel
theorem d_Ln_between_64 : decode b_Ln_between 64 = .ok (.iload 4, 2) := by decide +kernel
theorem d_Ln_between_66 : decode b_Ln_between 66 = .ok (.i2l, 1) := by decide +kernel
theorem d_Ln_between_67 : decode b_Ln_between 67 = .ok (.invokestatic 43, 3) := by decide +kernel
theorem d_Ln_between_70 : decode b_Ln_between 70 = .ok (.lneg, 1) := by decide +kernel
theorem d_Ln_between_71 : decode b_Ln_between 71 = .ok (.goto 11, 3) := by decide +kernel
theorem d_Ln_between_74 : decode b_Ln_between 74 = .ok (.lload 5, 2) := by decide +kernel
theorem d_Ln_between_76 : decode b_Ln_between 76 = .ok (.iload 4, 2) := by decide +kernel
theorem d_Ln_between_78 : decode b_Ln_between 78 = .ok (.i2l, 1) := by decide +kernel
theorem d_Ln_between_79 : decode b_Ln_between 79 = .ok (.invokestatic 43, 3) := by decide +kernel
theorem d_Ln_between_82 : decode b_Ln_between 82 = .ok (.lstore 7, 2) := by decide +kernel
theorem d_Ln_between_84 : decode b_Ln_between 84 = .ok (.aload_n 0, 1) := by decide +kernel
theorem d_Ln_between_85 : decode b_Ln_between 85 = .ok (.getfield 25, 3) := by decide +kernel
theorem d_Ln_between_88 : decode b_Ln_between 88 = .ok (.iload_n 1, 1) := by decide +kernel
theorem d_Ln_between_89 : decode b_Ln_between 89 = .ok (.iaload, 1) := by decide +kernel
theorem d_Ln_between_90 : decode b_Ln_between 90 = .ok (.lload 7, 2) := by decide +kernel
theorem d_Ln_between_92 : decode b_Ln_between 92 = .ok (.l2i, 1) := by decide +kernel
theorem d_Ln_between_93 : decode b_Ln_between 93 = .ok (.iadd, 1) := by decide +kernel
theorem d_Ln_between_94 : decode b_Ln_between 94 = .ok (.ireturn, 1) := by decide +kernel
theorem d_Ma_floorDiv_0 : decode b_Ma_floorDiv 0 = .ok (.lload_n 0, 1) := by decide +kernel
theorem d_Ma_floorDiv_1 : decode b_Ma_floorDiv 1 = .ok (.lload_n 2, 1) := by decide +kernel
theorem d_Ma_floorDiv_2 : decode b_Ma_floorDiv 2 = .ok (.ldiv, 1) := by decide +kernel
theorem d_Ma_floorDiv_3 : decode b_Ma_floorDiv 3 = .ok (.lstore 4, 2) := by decide +kernel
theorem d_Ma_floorDiv_5 : decode b_Ma_floorDiv 5 = .ok (.lload_n 0, 1) := by decide +kernel
theorem d_Ma_floorDiv_6 : decode b_Ma_floorDiv 6 = .ok (.lload_n 2, 1) := by decide +kernel
theorem d_Ma_floorDiv_7 : decode b_Ma_floorDiv 7 = .ok (.lxor, 1) := by decide +kernel
theorem d_Ma_floorDiv_8 : decode b_Ma_floorDiv 8 = .ok (.lconst 0, 1) := by decide +kernel
theorem d_Ma_floorDiv_9 : decode b_Ma_floorDiv 9 = .ok (.lcmp, 1) := by decide +kernel
theorem d_Ma_floorDiv_10 : decode b_Ma_floorDiv 10 = .ok (.ifCond .ge 17, 3) := by decide +kernel
theorem d_Ma_floorDiv_13 : decode b_Ma_floorDiv 13 = .ok (.lload 4, 2) := by decide +kernel
theorem d_Ma_floorDiv_15 : decode b_Ma_floorDiv 15 = .ok (.lload_n 2, 1) := by decide +kernel
theorem d_Ma_floorDiv_16 : decode b_Ma_floorDiv 16 = .ok (.lmul, 1) := by decide +kernel
theorem d_Ma_floorDiv_17 : decode b_Ma_floorDiv 17 = .ok (.lload_n 0, 1) := by decide +kernel
theorem d_Ma_floorDiv_18 : decode b_Ma_floorDiv 18 = .ok (.lcmp, 1) := by decide +kernel
theorem d_Ma_floorDiv_19 : decode b_Ma_floorDiv 19 = .ok (.ifCond .eq 8, 3) := by decide +kernel
theorem d_Ma_floorDiv_22 : decode b_Ma_floorDiv 22 = .ok (.lload 4, 2) := by decide +kernel
theorem d_Ma_floorDiv_24 : decode b_Ma_floorDiv 24 = .ok (.lconst 1, 1) := by decide +kernel
theorem d_Ma_floorDiv_25 : decode b_Ma_floorDiv 25 = .ok (.lsub, 1) := by decide +kernel
theorem d_Ma_floorDiv_26 : decode b_Ma_floorDiv 26 = .ok (.lreturn, 1) := by decide +kernel
theorem d_Ma_floorDiv_27 : decode b_Ma_floorDiv 27 = .ok (.lload 4, 2) := by decide +kernel
theorem d_Ma_floorDiv_29 : decode b_Ma_floorDiv 29 = .ok (.lreturn, 1) := by decide +kernel
theorem d_Pl_fill_0 : decode b_Pl_fill 0 = .ok (.iconst 0, 1) := by decide +kernel
theorem d_Pl_fill_1 : decode b_Pl_fill 1 = .ok (.istore_n 2, 1) := by decide +kernel
theorem d_Pl_fill_2 : decode b_Pl_fill 2 = .ok (.iload_n 2, 1) := by decide +kernel
theorem d_Pl_fill_3 : decode b_Pl_fill 3 = .ok (.aload_n 0, 1) := by decide +kernel
theorem d_Pl_fill_4 : decode b_Pl_fill 4 = .ok (.getfield 21, 3) := by decide +kernel
theorem d_Pl_fill_7 : decode b_Pl_fill 7 = .ok (.getfield 126, 3) := by decide +kernel
theorem d_Pl_fill_10 : decode b_Pl_fill 10 = .ok (.if_icmp .ge 37, 3) := by decide +kernel
theorem d_Pl_fill_13 : decode b_Pl_fill 13 = .ok (.aload_n 0, 1) := by decide +kernel
theorem d_Pl_fill_14 : decode b_Pl_fill 14 = .ok (.getfield 21, 3) := by decide +kernel
theorem d_Pl_fill_17 : decode b_Pl_fill 17 = .ok (.getfield 127, 3) := by decide +kernel
theorem d_Pl_fill_20 : decode b_Pl_fill 20 = .ok (.iload_n 2, 1) := by decide +kernel
theorem d_Pl_fill_21 : decode b_Pl_fill 21 = .ok (.iaload, 1) := by decide +kernel
theorem d_Pl_fill_22 : decode b_Pl_fill 22 = .ok (.istore_n 3, 1) := by decide +kernel
theorem d_Pl_fill_23 : decode b_Pl_fill 23 = .ok (.aload_n 0, 1) := by decide +kernel
theorem d_Pl_fill_24 : decode b_Pl_fill 24 = .ok (.getfield 51, 3) := by decide +kernel
theorem d_Pl_fill_27 : decode b_Pl_fill 27 = .ok (.iload_n 1, 1) := by decide +kernel
theorem d_Pl_fill_28 : decode b_Pl_fill 28 = .ok (.sipush 512, 3) := by decide +kernel
theorem d_Pl_fill_31 : decode b_Pl_fill 31 = .ok (.imul, 1) := by decide +kernel
theorem d_Pl_fill_32 : decode b_Pl_fill 32 = .ok (.iload_n 3, 1) := by decide +kernel
theorem d_Pl_fill_33 : decode b_Pl_fill 33 = .ok (.iadd, 1) := by decide +kernel
theorem d_Pl_fill_34 : decode b_Pl_fill 34 = .ok (.aload_n 0, 1) := by decide +kernel
theorem d_Pl_fill_35 : decode b_Pl_fill 35 = .ok (.iload_n 1, 1) := by decide +kernel
theorem d_Pl_fill_36 : decode b_Pl_fill 36 = .ok (.iload_n 3, 1) := by decide +kernel
theorem d_Pl_fill_37 : decode b_Pl_fill 37 = .ok (.invokevirtual 130, 3) := by decide +kernel
theorem d_Pl_fill_40 : decode b_Pl_fill 40 = .ok (.lastore, 1) := by decide +kernel
theorem d_Pl_fill_41 : decode b_Pl_fill 41 = .ok (.iinc 2 1, 3) := by decide +kernel
theorem d_Pl_fill_44 : decode b_Pl_fill 44 = .ok (.goto (-42), 3) := by decide +kernel
theorem d_Pl_fill_47 : decode b_Pl_fill 47 = .ok (.return_, 1) := by decide +kernel
theorem d_Pl_bestChoice_0 : decode b_Pl_bestChoice 0 = .ok (.aload_n 0, 1) := by decide +kernel
theorem d_Pl_bestChoice_1 : decode b_Pl_bestChoice 1 = .ok (.getfield 21, 3) := by decide +kernel
theorem d_Pl_bestChoice_4 : decode b_Pl_bestChoice 4 = .ok (.getfield 134, 3) := by decide +kernel
theorem d_Pl_bestChoice_7 : decode b_Pl_bestChoice 7 = .ok (.iload_n 2, 1) := by decide +kernel
theorem d_Pl_bestChoice_8 : decode b_Pl_bestChoice 8 = .ok (.iaload, 1) := by decide +kernel
theorem d_Pl_bestChoice_9 : decode b_Pl_bestChoice 9 = .ok (.aload_n 0, 1) := by decide +kernel
theorem d_Pl_bestChoice_10 : decode b_Pl_bestChoice 10 = .ok (.getfield 39, 3) := by decide +kernel
theorem d_Pl_bestChoice_13 : decode b_Pl_bestChoice 13 = .ok (.iload_n 1, 1) := by decide +kernel
theorem d_Pl_bestChoice_14 : decode b_Pl_bestChoice 14 = .ok (.iaload, 1) := by decide +kernel
theorem d_Pl_bestChoice_15 : decode b_Pl_bestChoice 15 = .ok (.iand, 1) := by decide +kernel
theorem d_Pl_bestChoice_16 : decode b_Pl_bestChoice 16 = .ok (.istore_n 3, 1) := by decide +kernel
theorem d_Pl_bestChoice_17 : decode b_Pl_bestChoice 17 = .ok (.aload_n 0, 1) := by decide +kernel
theorem d_Pl_bestChoice_18 : decode b_Pl_bestChoice 18 = .ok (.getfield 39, 3) := by decide +kernel
theorem d_Pl_bestChoice_21 : decode b_Pl_bestChoice 21 = .ok (.iload_n 1, 1) := by decide +kernel
theorem d_Pl_bestChoice_22 : decode b_Pl_bestChoice 22 = .ok (.iaload, 1) := by decide +kernel
theorem d_Pl_bestChoice_23 : decode b_Pl_bestChoice 23 = .ok (.iload_n 3, 1) := by decide +kernel
theorem d_Pl_bestChoice_24 : decode b_Pl_bestChoice 24 = .ok (.iconst (-1), 1) := by decide +kernel
theorem d_Pl_bestChoice_25 : decode b_Pl_bestChoice 25 = .ok (.ixor, 1) := by decide +kernel
theorem d_Pl_bestChoice_26 : decode b_Pl_bestChoice 26 = .ok (.iand, 1) := by decide +kernel
theorem d_Pl_bestChoice_27 : decode b_Pl_bestChoice 27 = .ok (.aload_n 0, 1) := by decide +kernel
theorem d_Pl_bestChoice_28 : decode b_Pl_bestChoice 28 = .ok (.getfield 21, 3) := by decide +kernel
theorem d_Pl_bestChoice_31 : decode b_Pl_bestChoice 31 = .ok (.getfield 137, 3) := by decide +kernel
theorem d_Pl_bestChoice_34 : decode b_Pl_bestChoice 34 = .ok (.iload_n 2, 1) := by decide +kernel
theorem d_Pl_bestChoice_35 : decode b_Pl_bestChoice 35 = .ok (.iaload, 1) := by decide +kernel
theorem d_Pl_bestChoice_36 : decode b_Pl_bestChoice 36 = .ok (.iconst (-1), 1) := by decide +kernel
theorem d_Pl_bestChoice_37 : decode b_Pl_bestChoice 37 = .ok (.ixor, 1) := by decide +kernel
theorem d_Pl_bestChoice_38 : decode b_Pl_bestChoice 38 = .ok (.iand, 1) := by decide +kernel
theorem d_Pl_bestChoice_39 : decode b_Pl_bestChoice 39 = .ok (.istore 4, 2) := by decide +kernel
theorem d_Pl_bestChoice_41 : decode b_Pl_bestChoice 41 = .ok (.iconst 1, 1) := by decide +kernel
theorem d_Pl_bestChoice_42 : decode b_Pl_bestChoice 42 = .ok (.iload 4, 2) := by decide +kernel
theorem d_Pl_bestChoice_44 : decode b_Pl_bestChoice 44 = .ok (.invokestatic 140, 3) := by decide +kernel
theorem d_Pl_bestChoice_47 : decode b_Pl_bestChoice 47 = .ok (.ishl, 1) := by decide +kernel
theorem d_Pl_bestChoice_48 : decode b_Pl_bestChoice 48 = .ok (.istore 5, 2) := by decide +kernel
theorem d_Pl_bestChoice_50 : decode b_Pl_bestChoice 50 = .ok (.iconst 0, 1) := by decide +kernel
theorem d_Pl_bestChoice_51 : decode b_Pl_bestChoice 51 = .ok (.istore 6, 2) := by decide +kernel
theorem d_Pl_bestChoice_53 : decode b_Pl_bestChoice 53 = .ok (.ldc2_w 86, 3) := by decide +kernel
theorem d_Pl_bestChoice_56 : decode b_Pl_bestChoice 56 = .ok (.lstore 7, 2) := by decide +kernel
theorem d_Pl_bestChoice_58 : decode b_Pl_bestChoice 58 = .ok (.iconst 0, 1) := by decide +kernel
theorem d_Pl_bestChoice_59 : decode b_Pl_bestChoice 59 = .ok (.istore 9, 2) := by decide +kernel
theorem d_Pl_bestChoice_61 : decode b_Pl_bestChoice 61 = .ok (.iload 9, 2) := by decide +kernel
theorem d_Pl_bestChoice_63 : decode b_Pl_bestChoice 63 = .ok (.iload 5, 2) := by decide +kernel
theorem d_Pl_bestChoice_65 : decode b_Pl_bestChoice 65 = .ok (.if_icmp .ge 61, 3) := by decide +kernel
theorem d_Pl_bestChoice_68 : decode b_Pl_bestChoice 68 = .ok (.aload_n 0, 1) := by decide +kernel
theorem d_Pl_bestChoice_69 : decode b_Pl_bestChoice 69 = .ok (.iload_n 1, 1) := by decide +kernel
theorem d_Pl_bestChoice_70 : decode b_Pl_bestChoice 70 = .ok (.iload_n 2, 1) := by decide +kernel
theorem d_Pl_bestChoice_71 : decode b_Pl_bestChoice 71 = .ok (.iload_n 3, 1) := by decide +kernel
theorem d_Pl_bestChoice_72 : decode b_Pl_bestChoice 72 = .ok (.iload 6, 2) := by decide +kernel
theorem d_Pl_bestChoice_74 : decode b_Pl_bestChoice 74 = .ok (.ior, 1) := by decide +kernel
theorem d_Pl_bestChoice_75 : decode b_Pl_bestChoice 75 = .ok (.invokevirtual 146, 3) := by decide +kernel
theorem d_Pl_bestChoice_78 : decode b_Pl_bestChoice 78 = .ok (.lstore 10, 2) := by decide +kernel
theorem d_Pl_bestChoice_80 : decode b_Pl_bestChoice 80 = .ok (.lload 10, 2) := by decide +kernel
theorem d_Pl_bestChoice_82 : decode b_Pl_bestChoice 82 = .ok (.ldc2_w 86, 3) := by decide +kernel
theorem d_Pl_bestChoice_85 : decode b_Pl_bestChoice 85 = .ok (.lcmp, 1) := by decide +kernel
theorem d_Pl_bestChoice_86 : decode b_Pl_bestChoice 86 = .ok (.ifCond .eq 24, 3) := by decide +kernel
theorem d_Pl_bestChoice_89 : decode b_Pl_bestChoice 89 = .ok (.lload 7, 2) := by decide +kernel
theorem d_Pl_bestChoice_91 : decode b_Pl_bestChoice 91 = .ok (.ldc2_w 86, 3) := by decide +kernel
theorem d_Pl_bestChoice_94 : decode b_Pl_bestChoice 94 = .ok (.lcmp, 1) := by decide +kernel
theorem d_Pl_bestChoice_95 : decode b_Pl_bestChoice 95 = .ok (.ifCond .eq 11, 3) := by decide +kernel
theorem d_Pl_bestChoice_98 : decode b_Pl_bestChoice 98 = .ok (.lload 10, 2) := by decide +kernel
theorem d_Pl_bestChoice_100 : decode b_Pl_bestChoice 100 = .ok (.lload 7, 2) := by decide +kernel
theorem d_Pl_bestChoice_102 : decode b_Pl_bestChoice 102 = .ok (.lcmp, 1) := by decide +kernel
theorem d_Pl_bestChoice_103 : decode b_Pl_bestChoice 103 = .ok (.ifCond .ge 7, 3) := by decide +kernel
theorem d_Pl_bestChoice_106 : decode b_Pl_bestChoice 106 = .ok (.lload 10, 2) := by decide +kernel
theorem d_Pl_bestChoice_108 : decode b_Pl_bestChoice 108 = .ok (.lstore 7, 2) := by decide +kernel
theorem d_Pl_bestChoice_110 : decode b_Pl_bestChoice 110 = .ok (.iload 6, 2) := by decide +kernel
theorem d_Pl_bestChoice_112 : decode b_Pl_bestChoice 112 = .ok (.iload 4, 2) := by decide +kernel
theorem d_Pl_bestChoice_114 : decode b_Pl_bestChoice 114 = .ok (.isub, 1) := by decide +kernel
theorem d_Pl_bestChoice_115 : decode b_Pl_bestChoice 115 = .ok (.iload 4, 2) := by decide +kernel
theorem d_Pl_bestChoice_117 : decode b_Pl_bestChoice 117 = .ok (.iand, 1) := by decide +kernel
theorem d_Pl_bestChoice_118 : decode b_Pl_bestChoice 118 = .ok (.istore 6, 2) := by decide +kernel
theorem d_Pl_bestChoice_120 : decode b_Pl_bestChoice 120 = .ok (.iinc 9 1, 3) := by decide +kernel
theorem d_Pl_bestChoice_123 : decode b_Pl_bestChoice 123 = .ok (.goto (-62), 3) := by decide +kernel
theorem d_Pl_bestChoice_126 : decode b_Pl_bestChoice 126 = .ok (.lload 7, 2) := by decide +kernel
theorem d_Pl_bestChoice_128 : decode b_Pl_bestChoice 128 = .ok (.lreturn, 1) := by decide +kernel
theorem d_In_bitCount_0 : decode b_In_bitCount 0 = .ok (.iload_n 0, 1) := by decide +kernel
theorem d_In_bitCount_1 : decode b_In_bitCount 1 = .ok (.iload_n 0, 1) := by decide +kernel
theorem d_In_bitCount_2 : decode b_In_bitCount 2 = .ok (.iconst 1, 1) := by decide +kernel
theorem d_In_bitCount_3 : decode b_In_bitCount 3 = .ok (.iushr, 1) := by decide +kernel
theorem d_In_bitCount_4 : decode b_In_bitCount 4 = .ok (.ldc_w 265, 3) := by decide +kernel
theorem d_In_bitCount_7 : decode b_In_bitCount 7 = .ok (.iand, 1) := by decide +kernel
theorem d_In_bitCount_8 : decode b_In_bitCount 8 = .ok (.isub, 1) := by decide +kernel
theorem d_In_bitCount_9 : decode b_In_bitCount 9 = .ok (.istore_n 0, 1) := by decide +kernel
theorem d_In_bitCount_10 : decode b_In_bitCount 10 = .ok (.iload_n 0, 1) := by decide +kernel
theorem d_In_bitCount_11 : decode b_In_bitCount 11 = .ok (.ldc_w 266, 3) := by decide +kernel
theorem d_In_bitCount_14 : decode b_In_bitCount 14 = .ok (.iand, 1) := by decide +kernel
theorem d_In_bitCount_15 : decode b_In_bitCount 15 = .ok (.iload_n 0, 1) := by decide +kernel
theorem d_In_bitCount_16 : decode b_In_bitCount 16 = .ok (.iconst 2, 1) := by decide +kernel
theorem d_In_bitCount_17 : decode b_In_bitCount 17 = .ok (.iushr, 1) := by decide +kernel
theorem d_In_bitCount_18 : decode b_In_bitCount 18 = .ok (.ldc_w 266, 3) := by decide +kernel
theorem d_In_bitCount_21 : decode b_In_bitCount 21 = .ok (.iand, 1) := by decide +kernel
theorem d_In_bitCount_22 : decode b_In_bitCount 22 = .ok (.iadd, 1) := by decide +kernel
theorem d_In_bitCount_23 : decode b_In_bitCount 23 = .ok (.istore_n 0, 1) := by decide +kernel
theorem d_In_bitCount_24 : decode b_In_bitCount 24 = .ok (.iload_n 0, 1) := by decide +kernel
theorem d_In_bitCount_25 : decode b_In_bitCount 25 = .ok (.iload_n 0, 1) := by decide +kernel
theorem d_In_bitCount_26 : decode b_In_bitCount 26 = .ok (.iconst 4, 1) := by decide +kernel
theorem d_In_bitCount_27 : decode b_In_bitCount 27 = .ok (.iushr, 1) := by decide +kernel
theorem d_In_bitCount_28 : decode b_In_bitCount 28 = .ok (.iadd, 1) := by decide +kernel
theorem d_In_bitCount_29 : decode b_In_bitCount 29 = .ok (.ldc_w 267, 3) := by decide +kernel
theorem d_In_bitCount_32 : decode b_In_bitCount 32 = .ok (.iand, 1) := by decide +kernel
theorem d_In_bitCount_33 : decode b_In_bitCount 33 = .ok (.istore_n 0, 1) := by decide +kernel
theorem d_In_bitCount_34 : decode b_In_bitCount 34 = .ok (.iload_n 0, 1) := by decide +kernel
theorem d_In_bitCount_35 : decode b_In_bitCount 35 = .ok (.iload_n 0, 1) := by decide +kernel
theorem d_In_bitCount_36 : decode b_In_bitCount 36 = .ok (.bipush 8, 2) := by decide +kernel
theorem d_In_bitCount_38 : decode b_In_bitCount 38 = .ok (.iushr, 1) := by decide +kernel
theorem d_In_bitCount_39 : decode b_In_bitCount 39 = .ok (.iadd, 1) := by decide +kernel
theorem d_In_bitCount_40 : decode b_In_bitCount 40 = .ok (.istore_n 0, 1) := by decide +kernel
theorem d_In_bitCount_41 : decode b_In_bitCount 41 = .ok (.iload_n 0, 1) := by decide +kernel
theorem d_In_bitCount_42 : decode b_In_bitCount 42 = .ok (.iload_n 0, 1) := by decide +kernel
theorem d_In_bitCount_43 : decode b_In_bitCount 43 = .ok (.bipush 16, 2) := by decide +kernel
theorem d_In_bitCount_45 : decode b_In_bitCount 45 = .ok (.iushr, 1) := by decide +kernel
theorem d_In_bitCount_46 : decode b_In_bitCount 46 = .ok (.iadd, 1) := by decide +kernel
theorem d_In_bitCount_47 : decode b_In_bitCount 47 = .ok (.istore_n 0, 1) := by decide +kernel
theorem d_In_bitCount_48 : decode b_In_bitCount 48 = .ok (.iload_n 0, 1) := by decide +kernel
theorem d_In_bitCount_49 : decode b_In_bitCount 49 = .ok (.bipush 63, 2) := by decide +kernel
theorem d_In_bitCount_51 : decode b_In_bitCount 51 = .ok (.iand, 1) := by decide +kernel
theorem d_In_bitCount_52 : decode b_In_bitCount 52 = .ok (.ireturn, 1) := by decide +kernel
theorem d_Pl_choiceOf_0 : decode b_Pl_choiceOf 0 = .ok (.aload_n 0, 1) := by decide +kernel
theorem d_Pl_choiceOf_1 : decode b_Pl_choiceOf 1 = .ok (.getfield 42, 3) := by decide +kernel
theorem d_Pl_choiceOf_4 : decode b_Pl_choiceOf 4 = .ok (.iload_n 1, 1) := by decide +kernel
theorem d_Pl_choiceOf_5 : decode b_Pl_choiceOf 5 = .ok (.bipush 8, 2) := by decide +kernel
theorem d_Pl_choiceOf_7 : decode b_Pl_choiceOf 7 = .ok (.imul, 1) := by decide +kernel
theorem d_Pl_choiceOf_8 : decode b_Pl_choiceOf 8 = .ok (.iload_n 3, 1) := by decide +kernel
theorem d_Pl_choiceOf_9 : decode b_Pl_choiceOf 9 = .ok (.iadd, 1) := by decide +kernel
theorem d_Pl_choiceOf_10 : decode b_Pl_choiceOf 10 = .ok (.iaload, 1) := by decide +kernel
theorem d_Pl_choiceOf_11 : decode b_Pl_choiceOf 11 = .ok (.aload_n 0, 1) := by decide +kernel
theorem d_Pl_choiceOf_12 : decode b_Pl_choiceOf 12 = .ok (.getfield 12, 3) := by decide +kernel
theorem d_Pl_choiceOf_15 : decode b_Pl_choiceOf 15 = .ok (.getfield 100, 3) := by decide +kernel
theorem d_Pl_choiceOf_18 : decode b_Pl_choiceOf 18 = .ok (.iconst 2, 1) := by decide +kernel
theorem d_Pl_choiceOf_19 : decode b_Pl_choiceOf 19 = .ok (.aaload, 1) := by decide +kernel
theorem d_Pl_choiceOf_20 : decode b_Pl_choiceOf 20 = .ok (.iload_n 1, 1) := by decide +kernel
theorem d_Pl_choiceOf_21 : decode b_Pl_choiceOf 21 = .ok (.iaload, 1) := by decide +kernel
theorem d_Pl_choiceOf_22 : decode b_Pl_choiceOf 22 = .ok (.if_icmp .ge 7, 3) := by decide +kernel
theorem d_Pl_choiceOf_25 : decode b_Pl_choiceOf 25 = .ok (.ldc2_w 86, 3) := by decide +kernel
theorem d_Pl_choiceOf_28 : decode b_Pl_choiceOf 28 = .ok (.lreturn, 1) := by decide +kernel
theorem d_Pl_choiceOf_29 : decode b_Pl_choiceOf 29 = .ok (.aload_n 0, 1) := by decide +kernel
theorem d_Pl_choiceOf_30 : decode b_Pl_choiceOf 30 = .ok (.getfield 51, 3) := by decide +kernel
theorem d_Pl_choiceOf_33 : decode b_Pl_choiceOf 33 = .ok (.iload_n 1, 1) := by decide +kernel
theorem d_Pl_choiceOf_34 : decode b_Pl_choiceOf 34 = .ok (.iconst 1, 1) := by decide +kernel
theorem d_Pl_choiceOf_35 : decode b_Pl_choiceOf 35 = .ok (.iadd, 1) := by decide +kernel
theorem d_Pl_choiceOf_36 : decode b_Pl_choiceOf 36 = .ok (.sipush 512, 3) := by decide +kernel
theorem d_Pl_choiceOf_39 : decode b_Pl_choiceOf 39 = .ok (.imul, 1) := by decide +kernel
theorem d_Pl_choiceOf_40 : decode b_Pl_choiceOf 40 = .ok (.aload_n 0, 1) := by decide +kernel
theorem d_Pl_choiceOf_41 : decode b_Pl_choiceOf 41 = .ok (.getfield 21, 3) := by decide +kernel
theorem d_Pl_choiceOf_44 : decode b_Pl_choiceOf 44 = .ok (.getfield 97, 3) := by decide +kernel
theorem d_Pl_choiceOf_47 : decode b_Pl_choiceOf 47 = .ok (.iload_n 2, 1) := by decide +kernel
theorem d_Pl_choiceOf_48 : decode b_Pl_choiceOf 48 = .ok (.bipush 8, 2) := by decide +kernel
theorem d_Pl_choiceOf_50 : decode b_Pl_choiceOf 50 = .ok (.imul, 1) := by decide +kernel
theorem d_Pl_choiceOf_51 : decode b_Pl_choiceOf 51 = .ok (.iload_n 3, 1) := by decide +kernel
theorem d_Pl_choiceOf_52 : decode b_Pl_choiceOf 52 = .ok (.iadd, 1) := by decide +kernel
theorem d_Pl_choiceOf_53 : decode b_Pl_choiceOf 53 = .ok (.iaload, 1) := by decide +kernel
theorem d_Pl_choiceOf_54 : decode b_Pl_choiceOf 54 = .ok (.iadd, 1) := by decide +kernel
theorem d_Pl_choiceOf_55 : decode b_Pl_choiceOf 55 = .ok (.laload, 1) := by decide +kernel
theorem d_Pl_choiceOf_56 : decode b_Pl_choiceOf 56 = .ok (.lstore 4, 2) := by decide +kernel
theorem d_Pl_choiceOf_58 : decode b_Pl_choiceOf 58 = .ok (.lload 4, 2) := by decide +kernel
theorem d_Pl_choiceOf_60 : decode b_Pl_choiceOf 60 = .ok (.ldc2_w 86, 3) := by decide +kernel
theorem d_Pl_choiceOf_63 : decode b_Pl_choiceOf 63 = .ok (.lcmp, 1) := by decide +kernel
theorem d_Pl_choiceOf_64 : decode b_Pl_choiceOf 64 = .ok (.ifCond .ne 9, 3) := by decide +kernel
theorem d_Pl_choiceOf_67 : decode b_Pl_choiceOf 67 = .ok (.ldc2_w 86, 3) := by decide +kernel
theorem d_Pl_choiceOf_70 : decode b_Pl_choiceOf 70 = .ok (.goto 24, 3) := by decide +kernel
theorem d_Pl_choiceOf_73 : decode b_Pl_choiceOf 73 = .ok (.lload 4, 2) := by decide +kernel
theorem d_Pl_choiceOf_75 : decode b_Pl_choiceOf 75 = .ok (.ldc2_w 92, 3) := by decide +kernel
theorem d_Pl_choiceOf_78 : decode b_Pl_choiceOf 78 = .ok (.ldiv, 1) := by decide +kernel
theorem d_Pl_choiceOf_79 : decode b_Pl_choiceOf 79 = .ok (.aload_n 0, 1) := by decide +kernel
theorem d_Pl_choiceOf_80 : decode b_Pl_choiceOf 80 = .ok (.iload_n 1, 1) := by decide +kernel
theorem d_Pl_choiceOf_81 : decode b_Pl_choiceOf 81 = .ok (.iload_n 2, 1) := by decide +kernel
theorem d_Pl_choiceOf_82 : decode b_Pl_choiceOf 82 = .ok (.iload_n 3, 1) := by decide +kernel
theorem d_Pl_choiceOf_83 : decode b_Pl_choiceOf 83 = .ok (.invokevirtual 150, 3) := by decide +kernel
theorem d_Pl_choiceOf_86 : decode b_Pl_choiceOf 86 = .ok (.ladd, 1) := by decide +kernel
theorem d_Pl_choiceOf_87 : decode b_Pl_choiceOf 87 = .ok (.ldc2_w 92, 3) := by decide +kernel
theorem d_Pl_choiceOf_90 : decode b_Pl_choiceOf 90 = .ok (.lmul, 1) := by decide +kernel
theorem d_Pl_choiceOf_91 : decode b_Pl_choiceOf 91 = .ok (.iload_n 3, 1) := by decide +kernel
theorem d_Pl_choiceOf_92 : decode b_Pl_choiceOf 92 = .ok (.i2l, 1) := by decide +kernel
theorem d_Pl_choiceOf_93 : decode b_Pl_choiceOf 93 = .ok (.ladd, 1) := by decide +kernel
theorem d_Pl_choiceOf_94 : decode b_Pl_choiceOf 94 = .ok (.lreturn, 1) := by decide +kernel
theorem d_Pl_centsOf_0 : decode b_Pl_centsOf 0 = .ok (.aload_n 0, 1) := by decide +kernel
theorem d_Pl_centsOf_1 : decode b_Pl_centsOf 1 = .ok (.getfield 45, 3) := by decide +kernel
theorem d_Pl_centsOf_4 : decode b_Pl_centsOf 4 = .ok (.iload_n 1, 1) := by decide +kernel
theorem d_Pl_centsOf_5 : decode b_Pl_centsOf 5 = .ok (.bipush 8, 2) := by decide +kernel
theorem d_Pl_centsOf_7 : decode b_Pl_centsOf 7 = .ok (.imul, 1) := by decide +kernel
theorem d_Pl_centsOf_8 : decode b_Pl_centsOf 8 = .ok (.iload_n 3, 1) := by decide +kernel
theorem d_Pl_centsOf_9 : decode b_Pl_centsOf 9 = .ok (.iadd, 1) := by decide +kernel
theorem d_Pl_centsOf_10 : decode b_Pl_centsOf 10 = .ok (.iaload, 1) := by decide +kernel
theorem d_Pl_centsOf_11 : decode b_Pl_centsOf 11 = .ok (.i2l, 1) := by decide +kernel
theorem d_Pl_centsOf_12 : decode b_Pl_centsOf 12 = .ok (.aload_n 0, 1) := by decide +kernel
theorem d_Pl_centsOf_13 : decode b_Pl_centsOf 13 = .ok (.getfield 12, 3) := by decide +kernel
theorem d_Pl_centsOf_16 : decode b_Pl_centsOf 16 = .ok (.getfield 100, 3) := by decide +kernel
theorem d_Pl_centsOf_19 : decode b_Pl_centsOf 19 = .ok (.iconst 1, 1) := by decide +kernel
theorem d_Pl_centsOf_20 : decode b_Pl_centsOf 20 = .ok (.aaload, 1) := by decide +kernel
theorem d_Pl_centsOf_21 : decode b_Pl_centsOf 21 = .ok (.iload_n 1, 1) := by decide +kernel
theorem d_Pl_centsOf_22 : decode b_Pl_centsOf 22 = .ok (.iaload, 1) := by decide +kernel
theorem d_Pl_centsOf_23 : decode b_Pl_centsOf 23 = .ok (.i2l, 1) := by decide +kernel
theorem d_Pl_centsOf_24 : decode b_Pl_centsOf 24 = .ok (.lmul, 1) := by decide +kernel
theorem d_Pl_centsOf_25 : decode b_Pl_centsOf 25 = .ok (.aload_n 0, 1) := by decide +kernel
theorem d_Pl_centsOf_26 : decode b_Pl_centsOf 26 = .ok (.getfield 48, 3) := by decide +kernel
theorem d_Pl_centsOf_29 : decode b_Pl_centsOf 29 = .ok (.iload_n 3, 1) := by decide +kernel
theorem d_Pl_centsOf_30 : decode b_Pl_centsOf 30 = .ok (.aload_n 0, 1) := by decide +kernel
theorem d_Pl_centsOf_31 : decode b_Pl_centsOf 31 = .ok (.getfield 21, 3) := by decide +kernel
theorem d_Pl_centsOf_34 : decode b_Pl_centsOf 34 = .ok (.getfield 94, 3) := by decide +kernel
theorem d_Pl_centsOf_37 : decode b_Pl_centsOf 37 = .ok (.iload_n 2, 1) := by decide +kernel
theorem d_Pl_centsOf_38 : decode b_Pl_centsOf 38 = .ok (.iaload, 1) := by decide +kernel
theorem d_Pl_centsOf_39 : decode b_Pl_centsOf 39 = .ok (.iconst (-1), 1) := by decide +kernel
theorem d_Pl_centsOf_40 : decode b_Pl_centsOf 40 = .ok (.ixor, 1) := by decide +kernel
theorem d_Pl_centsOf_41 : decode b_Pl_centsOf 41 = .ok (.iand, 1) := by decide +kernel
theorem d_Pl_centsOf_42 : decode b_Pl_centsOf 42 = .ok (.iaload, 1) := by decide +kernel
theorem d_Pl_centsOf_43 : decode b_Pl_centsOf 43 = .ok (.i2l, 1) := by decide +kernel
theorem d_Pl_centsOf_44 : decode b_Pl_centsOf 44 = .ok (.ladd, 1) := by decide +kernel
theorem d_Pl_centsOf_45 : decode b_Pl_centsOf 45 = .ok (.lreturn, 1) := by decide +kernel
theorem d_Pl_layPlan_0 : decode b_Pl_layPlan 0 = .ok (.aload_n 0, 1) := by decide +kernel
theorem d_Pl_layPlan_1 : decode b_Pl_layPlan 1 = .ok (.getfield 29, 3) := by decide +kernel
theorem d_Pl_layPlan_4 : decode b_Pl_layPlan 4 = .ok (.istore_n 1, 1) := by decide +kernel
theorem d_Pl_layPlan_5 : decode b_Pl_layPlan 5 = .ok (.aload_n 0, 1) := by decide +kernel
theorem d_Pl_layPlan_6 : decode b_Pl_layPlan 6 = .ok (.invokevirtual 88, 3) := by decide +kernel
theorem d_Pl_layPlan_9 : decode b_Pl_layPlan 9 = .ok (.istore_n 2, 1) := by decide +kernel
theorem d_Pl_layPlan_10 : decode b_Pl_layPlan 10 = .ok (.aload_n 0, 1) := by decide +kernel
theorem d_Pl_layPlan_11 : decode b_Pl_layPlan 11 = .ok (.getfield 25, 3) := by decide +kernel
theorem d_Pl_layPlan_14 : decode b_Pl_layPlan 14 = .ok (.istore_n 3, 1) := by decide +kernel
theorem d_Pl_layPlan_15 : decode b_Pl_layPlan 15 = .ok (.iload_n 3, 1) := by decide +kernel
theorem d_Pl_layPlan_16 : decode b_Pl_layPlan 16 = .ok (.bipush 36, 2) := by decide +kernel
theorem d_Pl_layPlan_18 : decode b_Pl_layPlan 18 = .ok (.if_icmp .ge 68, 3) := by decide +kernel
theorem d_Pl_layPlan_21 : decode b_Pl_layPlan 21 = .ok (.iload_n 2, 1) := by decide +kernel
theorem d_Pl_layPlan_22 : decode b_Pl_layPlan 22 = .ok (.ifCond .eq 23, 3) := by decide +kernel
theorem d_Pl_layPlan_25 : decode b_Pl_layPlan 25 = .ok (.aload_n 0, 1) := by decide +kernel
theorem d_Pl_layPlan_26 : decode b_Pl_layPlan 26 = .ok (.getfield 51, 3) := by decide +kernel
theorem d_Pl_layPlan_29 : decode b_Pl_layPlan 29 = .ok (.iload_n 3, 1) := by decide +kernel
theorem d_Pl_layPlan_30 : decode b_Pl_layPlan 30 = .ok (.sipush 512, 3) := by decide +kernel
theorem d_Pl_layPlan_33 : decode b_Pl_layPlan 33 = .ok (.imul, 1) := by decide +kernel
theorem d_Pl_layPlan_34 : decode b_Pl_layPlan 34 = .ok (.iload_n 1, 1) := by decide +kernel
theorem d_Pl_layPlan_35 : decode b_Pl_layPlan 35 = .ok (.iadd, 1) := by decide +kernel
theorem d_Pl_layPlan_36 : decode b_Pl_layPlan 36 = .ok (.laload, 1) := by decide +kernel
theorem d_Pl_layPlan_37 : decode b_Pl_layPlan 37 = .ok (.ldc2_w 92, 3) := by decide +kernel
theorem d_Pl_layPlan_40 : decode b_Pl_layPlan 40 = .ok (.lrem, 1) := by decide +kernel
theorem d_Pl_layPlan_41 : decode b_Pl_layPlan 41 = .ok (.l2i, 1) := by decide +kernel
theorem d_Pl_layPlan_42 : decode b_Pl_layPlan 42 = .ok (.goto 4, 3) := by decide +kernel
theorem d_Pl_layPlan_45 : decode b_Pl_layPlan 45 = .ok (.iconst (-1), 1) := by decide +kernel
theorem d_Pl_layPlan_46 : decode b_Pl_layPlan 46 = .ok (.istore 4, 2) := by decide +kernel
theorem d_Pl_layPlan_48 : decode b_Pl_layPlan 48 = .ok (.aload_n 0, 1) := by decide +kernel
theorem d_Pl_layPlan_49 : decode b_Pl_layPlan 49 = .ok (.getfield 35, 3) := by decide +kernel
theorem d_Pl_layPlan_52 : decode b_Pl_layPlan 52 = .ok (.iload_n 3, 1) := by decide +kernel
theorem d_Pl_layPlan_53 : decode b_Pl_layPlan 53 = .ok (.iload 4, 2) := by decide +kernel
theorem d_Pl_layPlan_55 : decode b_Pl_layPlan 55 = .ok (.iastore, 1) := by decide +kernel
theorem d_Pl_layPlan_56 : decode b_Pl_layPlan 56 = .ok (.iload_n 2, 1) := by decide +kernel
theorem d_Pl_layPlan_57 : decode b_Pl_layPlan 57 = .ok (.ifCond .eq 21, 3) := by decide +kernel
theorem d_Pl_layPlan_60 : decode b_Pl_layPlan 60 = .ok (.aload_n 0, 1) := by decide +kernel
theorem d_Pl_layPlan_61 : decode b_Pl_layPlan 61 = .ok (.getfield 21, 3) := by decide +kernel
theorem d_Pl_layPlan_64 : decode b_Pl_layPlan 64 = .ok (.getfield 97, 3) := by decide +kernel
theorem d_Pl_layPlan_67 : decode b_Pl_layPlan 67 = .ok (.iload_n 1, 1) := by decide +kernel
theorem d_Pl_layPlan_68 : decode b_Pl_layPlan 68 = .ok (.bipush 8, 2) := by decide +kernel
theorem d_Pl_layPlan_70 : decode b_Pl_layPlan 70 = .ok (.imul, 1) := by decide +kernel
theorem d_Pl_layPlan_71 : decode b_Pl_layPlan 71 = .ok (.iload 4, 2) := by decide +kernel
theorem d_Pl_layPlan_73 : decode b_Pl_layPlan 73 = .ok (.iadd, 1) := by decide +kernel
theorem d_Pl_layPlan_74 : decode b_Pl_layPlan 74 = .ok (.iaload, 1) := by decide +kernel
theorem d_Pl_layPlan_75 : decode b_Pl_layPlan 75 = .ok (.goto 4, 3) := by decide +kernel
theorem d_Pl_layPlan_78 : decode b_Pl_layPlan 78 = .ok (.iload_n 1, 1) := by decide +kernel
theorem d_Pl_layPlan_79 : decode b_Pl_layPlan 79 = .ok (.istore_n 1, 1) := by decide +kernel
theorem d_Pl_layPlan_80 : decode b_Pl_layPlan 80 = .ok (.iinc 3 1, 3) := by decide +kernel
theorem d_Pl_layPlan_83 : decode b_Pl_layPlan 83 = .ok (.goto (-68), 3) := by decide +kernel
theorem d_Pl_layPlan_86 : decode b_Pl_layPlan 86 = .ok (.return_, 1) := by decide +kernel
theorem d_Pl_hasPlan_0 : decode b_Pl_hasPlan 0 = .ok (.aload_n 0, 1) := by decide +kernel
theorem d_Pl_hasPlan_1 : decode b_Pl_hasPlan 1 = .ok (.getfield 51, 3) := by decide +kernel
theorem d_Pl_hasPlan_4 : decode b_Pl_hasPlan 4 = .ok (.aload_n 0, 1) := by decide +kernel
theorem d_Pl_hasPlan_5 : decode b_Pl_hasPlan 5 = .ok (.getfield 25, 3) := by decide +kernel
theorem d_Pl_hasPlan_8 : decode b_Pl_hasPlan 8 = .ok (.sipush 512, 3) := by decide +kernel
theorem d_Pl_hasPlan_11 : decode b_Pl_hasPlan 11 = .ok (.imul, 1) := by decide +kernel
theorem d_Pl_hasPlan_12 : decode b_Pl_hasPlan 12 = .ok (.aload_n 0, 1) := by decide +kernel
theorem d_Pl_hasPlan_13 : decode b_Pl_hasPlan 13 = .ok (.getfield 29, 3) := by decide +kernel
theorem d_Pl_hasPlan_16 : decode b_Pl_hasPlan 16 = .ok (.iadd, 1) := by decide +kernel
theorem d_Pl_hasPlan_17 : decode b_Pl_hasPlan 17 = .ok (.laload, 1) := by decide +kernel
theorem d_Pl_hasPlan_18 : decode b_Pl_hasPlan 18 = .ok (.ldc2_w 86, 3) := by decide +kernel
theorem d_Pl_hasPlan_21 : decode b_Pl_hasPlan 21 = .ok (.lcmp, 1) := by decide +kernel
theorem d_Pl_hasPlan_22 : decode b_Pl_hasPlan 22 = .ok (.ifCond .eq 7, 3) := by decide +kernel
theorem d_Pl_hasPlan_25 : decode b_Pl_hasPlan 25 = .ok (.iconst 1, 1) := by decide +kernel
theorem d_Pl_hasPlan_26 : decode b_Pl_hasPlan 26 = .ok (.goto 4, 3) := by decide +kernel
theorem d_Pl_hasPlan_29 : decode b_Pl_hasPlan 29 = .ok (.iconst 0, 1) := by decide +kernel
theorem d_Pl_hasPlan_30 : decode b_Pl_hasPlan 30 = .ok (.ireturn, 1) := by decide +kernel
theorem d_Pl_leastCents_0 : decode b_Pl_leastCents 0 = .ok (.aload_n 0, 1) := by decide +kernel
theorem d_Pl_leastCents_1 : decode b_Pl_leastCents 1 = .ok (.invokevirtual 88, 3) := by decide +kernel
theorem d_Pl_leastCents_4 : decode b_Pl_leastCents 4 = .ok (.ifCond .eq 28, 3) := by decide +kernel
theorem d_Pl_leastCents_7 : decode b_Pl_leastCents 7 = .ok (.aload_n 0, 1) := by decide +kernel
theorem d_Pl_leastCents_8 : decode b_Pl_leastCents 8 = .ok (.getfield 51, 3) := by decide +kernel
theorem d_Pl_leastCents_11 : decode b_Pl_leastCents 11 = .ok (.aload_n 0, 1) := by decide +kernel
theorem d_Pl_leastCents_12 : decode b_Pl_leastCents 12 = .ok (.getfield 25, 3) := by decide +kernel
theorem d_Pl_leastCents_15 : decode b_Pl_leastCents 15 = .ok (.sipush 512, 3) := by decide +kernel
theorem d_Pl_leastCents_18 : decode b_Pl_leastCents 18 = .ok (.imul, 1) := by decide +kernel
theorem d_Pl_leastCents_19 : decode b_Pl_leastCents 19 = .ok (.aload_n 0, 1) := by decide +kernel
theorem d_Pl_leastCents_20 : decode b_Pl_leastCents 20 = .ok (.getfield 29, 3) := by decide +kernel
theorem d_Pl_leastCents_23 : decode b_Pl_leastCents 23 = .ok (.iadd, 1) := by decide +kernel
theorem d_Pl_leastCents_24 : decode b_Pl_leastCents 24 = .ok (.laload, 1) := by decide +kernel
theorem d_Pl_leastCents_25 : decode b_Pl_leastCents 25 = .ok (.ldc2_w 92, 3) := by decide +kernel
theorem d_Pl_leastCents_28 : decode b_Pl_leastCents 28 = .ok (.ldiv, 1) := by decide +kernel
theorem d_Pl_leastCents_29 : decode b_Pl_leastCents 29 = .ok (.goto 6, 3) := by decide +kernel
theorem d_Pl_leastCents_32 : decode b_Pl_leastCents 32 = .ok (.ldc2_w 86, 3) := by decide +kernel
theorem d_Pl_leastCents_35 : decode b_Pl_leastCents 35 = .ok (.lreturn, 1) := by decide +kernel
theorem d_HM_machine_0 : decode b_HM_machine 0 = .ok (.iload_n 1, 1) := by decide +kernel
theorem d_HM_machine_1 : decode b_HM_machine 1 = .ok (.iconst 1, 1) := by decide +kernel
theorem d_HM_machine_2 : decode b_HM_machine 2 = .ok (.iconst 4, 1) := by decide +kernel
theorem d_HM_machine_3 : decode b_HM_machine 3 = .ok (.invokestatic 45, 3) := by decide +kernel
theorem d_HM_machine_6 : decode b_HM_machine 6 = .ok (.ifCond .eq 26, 3) := by decide +kernel
theorem d_HM_machine_9 : decode b_HM_machine 9 = .ok (.iload_n 2, 1) := by decide +kernel
theorem d_HM_machine_10 : decode b_HM_machine 10 = .ok (.iconst 1, 1) := by decide +kernel
theorem d_HM_machine_11 : decode b_HM_machine 11 = .ok (.iconst 4, 1) := by decide +kernel
theorem d_HM_machine_12 : decode b_HM_machine 12 = .ok (.invokestatic 45, 3) := by decide +kernel
theorem d_HM_machine_15 : decode b_HM_machine 15 = .ok (.ifCond .eq 17, 3) := by decide +kernel
theorem d_HM_machine_18 : decode b_HM_machine 18 = .ok (.iload_n 3, 1) := by decide +kernel
theorem d_HM_machine_19 : decode b_HM_machine 19 = .ok (.iconst 0, 1) := by decide +kernel
theorem d_HM_machine_20 : decode b_HM_machine 20 = .ok (.ldc 49, 2) := by decide +kernel
theorem d_HM_machine_22 : decode b_HM_machine 22 = .ok (.invokestatic 45, 3) := by decide +kernel
theorem d_HM_machine_25 : decode b_HM_machine 25 = .ok (.ifCond .eq 7, 3) := by decide +kernel
theorem d_HM_machine_28 : decode b_HM_machine 28 = .ok (.iconst 1, 1) := by decide +kernel
theorem d_HM_machine_29 : decode b_HM_machine 29 = .ok (.goto 4, 3) := by decide +kernel
theorem d_HM_machine_32 : decode b_HM_machine 32 = .ok (.iconst 0, 1) := by decide +kernel
theorem d_HM_machine_33 : decode b_HM_machine 33 = .ok (.invokestatic 50, 3) := by decide +kernel
theorem d_HM_machine_36 : decode b_HM_machine 36 = .ok (.aload_n 0, 1) := by decide +kernel
theorem d_HM_machine_37 : decode b_HM_machine 37 = .ok (.getfield 20, 3) := by decide +kernel
theorem d_HM_machine_40 : decode b_HM_machine 40 = .ok (.getfield 54, 3) := by decide +kernel
theorem d_HM_machine_43 : decode b_HM_machine 43 = .ok (.iconst 3, 1) := by decide +kernel
theorem d_HM_machine_44 : decode b_HM_machine 44 = .ok (.if_icmp .ge 17, 3) := by decide +kernel
theorem d_HM_machine_47 : decode b_HM_machine 47 = .ok (.aload_n 0, 1) := by decide +kernel
theorem d_HM_machine_48 : decode b_HM_machine 48 = .ok (.getfield 12, 3) := by decide +kernel
theorem d_HM_machine_51 : decode b_HM_machine 51 = .ok (.getfield 60, 3) := by decide +kernel
theorem d_HM_machine_54 : decode b_HM_machine 54 = .ok (.ifCond .ne 7, 3) := by decide +kernel
theorem d_HM_machine_57 : decode b_HM_machine 57 = .ok (.iconst 1, 1) := by decide +kernel
theorem d_HM_machine_58 : decode b_HM_machine 58 = .ok (.goto 4, 3) := by decide +kernel
theorem d_HM_machine_61 : decode b_HM_machine 61 = .ok (.iconst 0, 1) := by decide +kernel
theorem d_HM_machine_62 : decode b_HM_machine 62 = .ok (.invokestatic 63, 3) := by decide +kernel
theorem d_HM_machine_65 : decode b_HM_machine 65 = .ok (.aload_n 0, 1) := by decide +kernel
theorem d_HM_machine_66 : decode b_HM_machine 66 = .ok (.getfield 20, 3) := by decide +kernel
theorem d_HM_machine_69 : decode b_HM_machine 69 = .ok (.iload_n 1, 1) := by decide +kernel
theorem d_HM_machine_70 : decode b_HM_machine 70 = .ok (.iload_n 2, 1) := by decide +kernel
theorem d_HM_machine_71 : decode b_HM_machine 71 = .ok (.iload_n 3, 1) := by decide +kernel
theorem d_HM_machine_72 : decode b_HM_machine 72 = .ok (.invokevirtual 66, 3) := by decide +kernel
theorem d_HM_machine_75 : decode b_HM_machine 75 = .ok (.istore 4, 2) := by decide +kernel
theorem d_HM_machine_77 : decode b_HM_machine 77 = .ok (.aload_n 0, 1) := by decide +kernel
theorem d_HM_machine_78 : decode b_HM_machine 78 = .ok (.getfield 12, 3) := by decide +kernel
theorem d_HM_machine_81 : decode b_HM_machine 81 = .ok (.iload 4, 2) := by decide +kernel
theorem d_HM_machine_83 : decode b_HM_machine 83 = .ok (.invokevirtual 70, 3) := by decide +kernel
theorem d_HM_machine_86 : decode b_HM_machine 86 = .ok (.iload 4, 2) := by decide +kernel
theorem d_HM_machine_88 : decode b_HM_machine 88 = .ok (.ireturn, 1) := by decide +kernel
theorem d_HM_isWithin_0 : decode b_HM_isWithin 0 = .ok (.iload_n 0, 1) := by decide +kernel
theorem d_HM_isWithin_1 : decode b_HM_isWithin 1 = .ok (.iload_n 1, 1) := by decide +kernel
theorem d_HM_isWithin_2 : decode b_HM_isWithin 2 = .ok (.if_icmp .lt 12, 3) := by decide +kernel
theorem d_HM_isWithin_5 : decode b_HM_isWithin 5 = .ok (.iload_n 0, 1) := by decide +kernel
theorem d_HM_isWithin_6 : decode b_HM_isWithin 6 = .ok (.iload_n 2, 1) := by decide +kernel
theorem d_HM_isWithin_7 : decode b_HM_isWithin 7 = .ok (.if_icmp .gt 7, 3) := by decide +kernel
theorem d_HM_isWithin_10 : decode b_HM_isWithin 10 = .ok (.iconst 1, 1) := by decide +kernel
theorem d_HM_isWithin_11 : decode b_HM_isWithin 11 = .ok (.goto 4, 3) := by decide +kernel
theorem d_HM_isWithin_14 : decode b_HM_isWithin 14 = .ok (.iconst 0, 1) := by decide +kernel
theorem d_HM_isWithin_15 : decode b_HM_isWithin 15 = .ok (.ireturn, 1) := by decide +kernel
theorem d_HM_requireArgument_0 : decode b_HM_requireArgument 0 = .ok (.iload_n 0, 1) := by decide +kernel
theorem d_HM_requireArgument_1 : decode b_HM_requireArgument 1 = .ok (.ifCond .ne 13, 3) := by decide +kernel
theorem d_HM_requireArgument_4 : decode b_HM_requireArgument 4 = .ok (.new 181, 3) := by decide +kernel
theorem d_HM_requireArgument_7 : decode b_HM_requireArgument 7 = .ok (.dup, 1) := by decide +kernel
theorem d_HM_requireArgument_8 : decode b_HM_requireArgument 8 = .ok (.ldc 183, 2) := by decide +kernel
theorem d_HM_requireArgument_10 : decode b_HM_requireArgument 10 = .ok (.invokespecial 185, 3) := by decide +kernel
theorem d_HM_requireArgument_13 : decode b_HM_requireArgument 13 = .ok (.athrow, 1) := by decide +kernel
theorem d_HM_requireArgument_14 : decode b_HM_requireArgument 14 = .ok (.return_, 1) := by decide +kernel
theorem d_HM_requireState_0 : decode b_HM_requireState 0 = .ok (.iload_n 0, 1) := by decide +kernel
theorem d_HM_requireState_1 : decode b_HM_requireState 1 = .ok (.ifCond .ne 13, 3) := by decide +kernel
theorem d_HM_requireState_4 : decode b_HM_requireState 4 = .ok (.new 188, 3) := by decide +kernel
theorem d_HM_requireState_7 : decode b_HM_requireState 7 = .ok (.dup, 1) := by decide +kernel
theorem d_HM_requireState_8 : decode b_HM_requireState 8 = .ok (.ldc 190, 2) := by decide +kernel
theorem d_HM_requireState_10 : decode b_HM_requireState 10 = .ok (.invokespecial 192, 3) := by decide +kernel
theorem d_HM_requireState_13 : decode b_HM_requireState 13 = .ok (.athrow, 1) := by decide +kernel
theorem d_HM_requireState_14 : decode b_HM_requireState 14 = .ok (.return_, 1) := by decide +kernel
theorem d_Ho_take_0 : decode b_Ho_take 0 = .ok (.aload_n 0, 1) := by decide +kernel
theorem d_Ho_take_1 : decode b_Ho_take 1 = .ok (.getfield 17, 3) := by decide +kernel
theorem d_Ho_take_4 : decode b_Ho_take 4 = .ok (.iconst 3, 1) := by decide +kernel
theorem d_Ho_take_5 : decode b_Ho_take 5 = .ok (.if_icmp .lt 5, 3) := by decide +kernel
theorem d_Ho_take_8 : decode b_Ho_take 8 = .ok (.iconst (-1), 1) := by decide +kernel
theorem d_Ho_take_9 : decode b_Ho_take 9 = .ok (.ireturn, 1) := by decide +kernel
theorem d_Ho_take_10 : decode b_Ho_take 10 = .ok (.aload_n 0, 1) := by decide +kernel
theorem d_Ho_take_11 : decode b_Ho_take 11 = .ok (.getfield 11, 3) := by decide +kernel
theorem d_Ho_take_14 : decode b_Ho_take 14 = .ok (.aload_n 0, 1) := by decide +kernel
theorem d_Ho_take_15 : decode b_Ho_take 15 = .ok (.getfield 17, 3) := by decide +kernel
theorem d_Ho_take_18 : decode b_Ho_take 18 = .ok (.aaload, 1) := by decide +kernel
theorem d_Ho_take_19 : decode b_Ho_take 19 = .ok (.astore 4, 2) := by decide +kernel
theorem d_Ho_take_21 : decode b_Ho_take 21 = .ok (.aload 4, 2) := by decide +kernel
theorem d_Ho_take_23 : decode b_Ho_take 23 = .ok (.iload_n 1, 1) := by decide +kernel
theorem d_Ho_take_24 : decode b_Ho_take 24 = .ok (.putfield 27, 3) := by decide +kernel
theorem d_Ho_take_27 : decode b_Ho_take 27 = .ok (.aload 4, 2) := by decide +kernel
theorem d_Ho_take_29 : decode b_Ho_take 29 = .ok (.iload_n 2, 1) := by decide +kernel
theorem d_Ho_take_30 : decode b_Ho_take 30 = .ok (.putfield 30, 3) := by decide +kernel
theorem d_Ho_take_33 : decode b_Ho_take 33 = .ok (.aload 4, 2) := by decide +kernel
theorem d_Ho_take_35 : decode b_Ho_take 35 = .ok (.iload_n 3, 1) := by decide +kernel
theorem d_Ho_take_36 : decode b_Ho_take 36 = .ok (.putfield 33, 3) := by decide +kernel
theorem d_Ho_take_39 : decode b_Ho_take 39 = .ok (.aload_n 0, 1) := by decide +kernel
theorem d_Ho_take_40 : decode b_Ho_take 40 = .ok (.dup, 1) := by decide +kernel
theorem d_Ho_take_41 : decode b_Ho_take 41 = .ok (.getfield 17, 3) := by decide +kernel
theorem d_Ho_take_44 : decode b_Ho_take 44 = .ok (.iconst 1, 1) := by decide +kernel
theorem d_Ho_take_45 : decode b_Ho_take 45 = .ok (.iadd, 1) := by decide +kernel
theorem d_Ho_take_46 : decode b_Ho_take 46 = .ok (.putfield 17, 3) := by decide +kernel
theorem d_Ho_take_49 : decode b_Ho_take 49 = .ok (.aload_n 0, 1) := by decide +kernel
theorem d_Ho_take_50 : decode b_Ho_take 50 = .ok (.getfield 17, 3) := by decide +kernel
theorem d_Ho_take_53 : decode b_Ho_take 53 = .ok (.iconst 1, 1) := by decide +kernel
theorem d_Ho_take_54 : decode b_Ho_take 54 = .ok (.isub, 1) := by decide +kernel
theorem d_Ho_take_55 : decode b_Ho_take 55 = .ok (.ireturn, 1) := by decide +kernel
theorem d_Pl_join_0 : decode b_Pl_join 0 = .ok (.aload_n 0, 1) := by decide +kernel
theorem d_Pl_join_1 : decode b_Pl_join 1 = .ok (.getfield 21, 3) := by decide +kernel
theorem d_Pl_join_4 : decode b_Pl_join 4 = .ok (.aload_n 0, 1) := by decide +kernel
theorem d_Pl_join_5 : decode b_Pl_join 5 = .ok (.getfield 12, 3) := by decide +kernel
theorem d_Pl_join_8 : decode b_Pl_join 8 = .ok (.iload_n 1, 1) := by decide +kernel
theorem d_Pl_join_9 : decode b_Pl_join 9 = .ok (.invokevirtual 55, 3) := by decide +kernel
theorem d_Pl_join_12 : decode b_Pl_join 12 = .ok (.iconst 1, 1) := by decide +kernel
theorem d_Pl_join_13 : decode b_Pl_join 13 = .ok (.iload_n 1, 1) := by decide +kernel
theorem d_Pl_join_14 : decode b_Pl_join 14 = .ok (.ishl, 1) := by decide +kernel
theorem d_Pl_join_15 : decode b_Pl_join 15 = .ok (.istore_n 2, 1) := by decide +kernel
theorem d_Pl_join_16 : decode b_Pl_join 16 = .ok (.iconst 0, 1) := by decide +kernel
theorem d_Pl_join_17 : decode b_Pl_join 17 = .ok (.istore_n 3, 1) := by decide +kernel
theorem d_Pl_join_18 : decode b_Pl_join 18 = .ok (.iload_n 3, 1) := by decide +kernel
theorem d_Pl_join_19 : decode b_Pl_join 19 = .ok (.iload_n 2, 1) := by decide +kernel
theorem d_Pl_join_20 : decode b_Pl_join 20 = .ok (.if_icmp .ge 36, 3) := by decide +kernel
theorem d_Pl_join_23 : decode b_Pl_join 23 = .ok (.aload_n 0, 1) := by decide +kernel
theorem d_Pl_join_24 : decode b_Pl_join 24 = .ok (.getfield 48, 3) := by decide +kernel
theorem d_Pl_join_27 : decode b_Pl_join 27 = .ok (.iload_n 2, 1) := by decide +kernel
theorem d_Pl_join_28 : decode b_Pl_join 28 = .ok (.iload_n 3, 1) := by decide +kernel
theorem d_Pl_join_29 : decode b_Pl_join 29 = .ok (.iadd, 1) := by decide +kernel
theorem d_Pl_join_30 : decode b_Pl_join 30 = .ok (.aload_n 0, 1) := by decide +kernel
theorem d_Pl_join_31 : decode b_Pl_join 31 = .ok (.getfield 48, 3) := by decide +kernel
theorem d_Pl_join_34 : decode b_Pl_join 34 = .ok (.iload_n 3, 1) := by decide +kernel
theorem d_Pl_join_35 : decode b_Pl_join 35 = .ok (.iaload, 1) := by decide +kernel
theorem d_Pl_join_36 : decode b_Pl_join 36 = .ok (.aload_n 0, 1) := by decide +kernel
theorem d_Pl_join_37 : decode b_Pl_join 37 = .ok (.getfield 12, 3) := by decide +kernel
theorem d_Pl_join_40 : decode b_Pl_join 40 = .ok (.getfield 59, 3) := by decide +kernel
theorem d_Pl_join_43 : decode b_Pl_join 43 = .ok (.iload_n 1, 1) := by decide +kernel
theorem d_Pl_join_44 : decode b_Pl_join 44 = .ok (.aaload, 1) := by decide +kernel
theorem d_Pl_join_45 : decode b_Pl_join 45 = .ok (.getfield 63, 3) := by decide +kernel
theorem d_Pl_join_48 : decode b_Pl_join 48 = .ok (.iadd, 1) := by decide +kernel
theorem d_Pl_join_49 : decode b_Pl_join 49 = .ok (.iastore, 1) := by decide +kernel
theorem d_Pl_join_50 : decode b_Pl_join 50 = .ok (.iinc 3 1, 3) := by decide +kernel
theorem d_Pl_join_53 : decode b_Pl_join 53 = .ok (.goto (-35), 3) := by decide +kernel
theorem d_Pl_join_56 : decode b_Pl_join 56 = .ok (.aload_n 0, 1) := by decide +kernel
theorem d_Pl_join_57 : decode b_Pl_join 57 = .ok (.bipush 35, 2) := by decide +kernel
theorem d_Pl_join_59 : decode b_Pl_join 59 = .ok (.invokevirtual 67, 3) := by decide +kernel
theorem d_Pl_join_62 : decode b_Pl_join 62 = .ok (.return_, 1) := by decide +kernel
theorem d_Sa_extend_0 : decode b_Sa_extend 0 = .ok (.aload_n 0, 1) := by decide +kernel
theorem d_Sa_extend_1 : decode b_Sa_extend 1 = .ok (.getfield 15, 3) := by decide +kernel
theorem d_Sa_extend_4 : decode b_Sa_extend 4 = .ok (.istore_n 3, 1) := by decide +kernel
theorem d_Sa_extend_5 : decode b_Sa_extend 5 = .ok (.iconst 1, 1) := by decide +kernel
theorem d_Sa_extend_6 : decode b_Sa_extend 6 = .ok (.istore 4, 2) := by decide +kernel
theorem d_Sa_extend_8 : decode b_Sa_extend 8 = .ok (.iload 4, 2) := by decide +kernel
theorem d_Sa_extend_10 : decode b_Sa_extend 10 = .ok (.bipush 8, 2) := by decide +kernel
theorem d_Sa_extend_12 : decode b_Sa_extend 12 = .ok (.if_icmp .ge 81, 3) := by decide +kernel
theorem d_Sa_extend_15 : decode b_Sa_extend 15 = .ok (.iconst 0, 1) := by decide +kernel
theorem d_Sa_extend_16 : decode b_Sa_extend 16 = .ok (.istore 5, 2) := by decide +kernel
theorem d_Sa_extend_18 : decode b_Sa_extend 18 = .ok (.iload 5, 2) := by decide +kernel
theorem d_Sa_extend_20 : decode b_Sa_extend 20 = .ok (.iload_n 3, 1) := by decide +kernel
theorem d_Sa_extend_21 : decode b_Sa_extend 21 = .ok (.if_icmp .ge 66, 3) := by decide +kernel
theorem d_Sa_extend_24 : decode b_Sa_extend 24 = .ok (.aload_n 0, 1) := by decide +kernel
theorem d_Sa_extend_25 : decode b_Sa_extend 25 = .ok (.getfield 15, 3) := by decide +kernel
theorem d_Sa_extend_28 : decode b_Sa_extend 28 = .ok (.sipush 512, 3) := by decide +kernel
theorem d_Sa_extend_31 : decode b_Sa_extend 31 = .ok (.if_icmp .ge 56, 3) := by decide +kernel
theorem d_Sa_extend_34 : decode b_Sa_extend 34 = .ok (.aload_n 1, 1) := by decide +kernel
theorem d_Sa_extend_35 : decode b_Sa_extend 35 = .ok (.getfield 31, 3) := by decide +kernel
theorem d_Sa_extend_38 : decode b_Sa_extend 38 = .ok (.iload_n 2, 1) := by decide +kernel
theorem d_Sa_extend_39 : decode b_Sa_extend 39 = .ok (.aaload, 1) := by decide +kernel
theorem d_Sa_extend_40 : decode b_Sa_extend 40 = .ok (.iload 4, 2) := by decide +kernel
theorem d_Sa_extend_42 : decode b_Sa_extend 42 = .ok (.invokevirtual 37, 3) := by decide +kernel
theorem d_Sa_extend_45 : decode b_Sa_extend 45 = .ok (.ifCond .eq 36, 3) := by decide +kernel
theorem d_Sa_extend_48 : decode b_Sa_extend 48 = .ok (.aload_n 0, 1) := by decide +kernel
theorem d_Sa_extend_49 : decode b_Sa_extend 49 = .ok (.getfield 9, 3) := by decide +kernel
theorem d_Sa_extend_52 : decode b_Sa_extend 52 = .ok (.aload_n 0, 1) := by decide +kernel
theorem d_Sa_extend_53 : decode b_Sa_extend 53 = .ok (.getfield 15, 3) := by decide +kernel
theorem d_Sa_extend_56 : decode b_Sa_extend 56 = .ok (.aload_n 0, 1) := by decide +kernel
theorem d_Sa_extend_57 : decode b_Sa_extend 57 = .ok (.getfield 9, 3) := by decide +kernel
theorem d_Sa_extend_60 : decode b_Sa_extend 60 = .ok (.iload 5, 2) := by decide +kernel
theorem d_Sa_extend_62 : decode b_Sa_extend 62 = .ok (.iaload, 1) := by decide +kernel
theorem d_Sa_extend_63 : decode b_Sa_extend 63 = .ok (.iload 4, 2) := by decide +kernel
theorem d_Sa_extend_65 : decode b_Sa_extend 65 = .ok (.iconst 3, 1) := by decide +kernel
theorem d_Sa_extend_66 : decode b_Sa_extend 66 = .ok (.iload_n 2, 1) := by decide +kernel
theorem d_Sa_extend_67 : decode b_Sa_extend 67 = .ok (.imul, 1) := by decide +kernel
theorem d_Sa_extend_68 : decode b_Sa_extend 68 = .ok (.ishl, 1) := by decide +kernel
theorem d_Sa_extend_69 : decode b_Sa_extend 69 = .ok (.ior, 1) := by decide +kernel
theorem d_Sa_extend_70 : decode b_Sa_extend 70 = .ok (.iastore, 1) := by decide +kernel
theorem d_Sa_extend_71 : decode b_Sa_extend 71 = .ok (.aload_n 0, 1) := by decide +kernel
theorem d_Sa_extend_72 : decode b_Sa_extend 72 = .ok (.dup, 1) := by decide +kernel
theorem d_Sa_extend_73 : decode b_Sa_extend 73 = .ok (.getfield 15, 3) := by decide +kernel
theorem d_Sa_extend_76 : decode b_Sa_extend 76 = .ok (.iconst 1, 1) := by decide +kernel
theorem d_Sa_extend_77 : decode b_Sa_extend 77 = .ok (.iadd, 1) := by decide +kernel
theorem d_Sa_extend_78 : decode b_Sa_extend 78 = .ok (.putfield 15, 3) := by decide +kernel
theorem d_Sa_extend_81 : decode b_Sa_extend 81 = .ok (.iinc 5 1, 3) := by decide +kernel
theorem d_Sa_extend_84 : decode b_Sa_extend 84 = .ok (.goto (-66), 3) := by decide +kernel
theorem d_Sa_extend_87 : decode b_Sa_extend 87 = .ok (.iinc 4 1, 3) := by decide +kernel
theorem d_Sa_extend_90 : decode b_Sa_extend 90 = .ok (.goto (-82), 3) := by decide +kernel
theorem d_Sa_extend_93 : decode b_Sa_extend 93 = .ok (.iconst 0, 1) := by decide +kernel
theorem d_Sa_extend_94 : decode b_Sa_extend 94 = .ok (.istore 4, 2) := by decide +kernel
theorem d_Sa_extend_96 : decode b_Sa_extend 96 = .ok (.iload 4, 2) := by decide +kernel
theorem d_Sa_extend_98 : decode b_Sa_extend 98 = .ok (.aload_n 0, 1) := by decide +kernel
theorem d_Sa_extend_99 : decode b_Sa_extend 99 = .ok (.getfield 15, 3) := by decide +kernel
theorem d_Sa_extend_102 : decode b_Sa_extend 102 = .ok (.if_icmp .ge 33, 3) := by decide +kernel
theorem d_Sa_extend_105 : decode b_Sa_extend 105 = .ok (.aload_n 0, 1) := by decide +kernel
theorem d_Sa_extend_106 : decode b_Sa_extend 106 = .ok (.aload_n 1, 1) := by decide +kernel
theorem d_Sa_extend_107 : decode b_Sa_extend 107 = .ok (.aload_n 0, 1) := by decide +kernel
theorem d_Sa_extend_108 : decode b_Sa_extend 108 = .ok (.getfield 9, 3) := by decide +kernel
theorem d_Sa_extend_111 : decode b_Sa_extend 111 = .ok (.iload 4, 2) := by decide +kernel
theorem d_Sa_extend_113 : decode b_Sa_extend 113 = .ok (.iaload, 1) := by decide +kernel
theorem d_Sa_extend_114 : decode b_Sa_extend 114 = .ok (.invokevirtual 43, 3) := by decide +kernel
theorem d_Sa_extend_117 : decode b_Sa_extend 117 = .ok (.aload_n 0, 1) := by decide +kernel
theorem d_Sa_extend_118 : decode b_Sa_extend 118 = .ok (.aload_n 1, 1) := by decide +kernel
theorem d_Sa_extend_119 : decode b_Sa_extend 119 = .ok (.aload_n 0, 1) := by decide +kernel
theorem d_Sa_extend_120 : decode b_Sa_extend 120 = .ok (.getfield 9, 3) := by decide +kernel
theorem d_Sa_extend_123 : decode b_Sa_extend 123 = .ok (.iload 4, 2) := by decide +kernel
theorem d_Sa_extend_125 : decode b_Sa_extend 125 = .ok (.iaload, 1) := by decide +kernel
theorem d_Sa_extend_126 : decode b_Sa_extend 126 = .ok (.invokevirtual 47, 3) := by decide +kernel
theorem d_Sa_extend_129 : decode b_Sa_extend 129 = .ok (.iinc 4 1, 3) := by decide +kernel
theorem d_Sa_extend_132 : decode b_Sa_extend 132 = .ok (.goto (-36), 3) := by decide +kernel
theorem d_Sa_extend_135 : decode b_Sa_extend 135 = .ok (.return_, 1) := by decide +kernel
theorem d_Mc_canReach_0 : decode b_Mc_canReach 0 = .ok (.iload_n 1, 1) := by decide +kernel
theorem d_Mc_canReach_1 : decode b_Mc_canReach 1 = .ok (.invokestatic 37, 3) := by decide +kernel
theorem d_Mc_canReach_4 : decode b_Mc_canReach 4 = .ok (.ifCond .eq 21, 3) := by decide +kernel
theorem d_Mc_canReach_7 : decode b_Mc_canReach 7 = .ok (.iload_n 1, 1) := by decide +kernel
theorem d_Mc_canReach_8 : decode b_Mc_canReach 8 = .ok (.iconst 4, 1) := by decide +kernel
theorem d_Mc_canReach_9 : decode b_Mc_canReach 9 = .ok (.aload_n 0, 1) := by decide +kernel
theorem d_Mc_canReach_10 : decode b_Mc_canReach 10 = .ok (.getfield 9, 3) := by decide +kernel
theorem d_Mc_canReach_13 : decode b_Mc_canReach 13 = .ok (.iadd, 1) := by decide +kernel
theorem d_Mc_canReach_14 : decode b_Mc_canReach 14 = .ok (.if_icmp .ge 7, 3) := by decide +kernel
theorem d_Mc_canReach_17 : decode b_Mc_canReach 17 = .ok (.iconst 1, 1) := by decide +kernel
theorem d_Mc_canReach_18 : decode b_Mc_canReach 18 = .ok (.goto 20, 3) := by decide +kernel
theorem d_Mc_canReach_21 : decode b_Mc_canReach 21 = .ok (.iconst 0, 1) := by decide +kernel
theorem d_Mc_canReach_22 : decode b_Mc_canReach 22 = .ok (.goto 16, 3) := by decide +kernel
theorem d_Mc_canReach_25 : decode b_Mc_canReach 25 = .ok (.iload_n 1, 1) := by decide +kernel
theorem d_Mc_canReach_26 : decode b_Mc_canReach 26 = .ok (.aload_n 0, 1) := by decide +kernel
theorem d_Mc_canReach_27 : decode b_Mc_canReach 27 = .ok (.getfield 15, 3) := by decide +kernel
theorem d_Mc_canReach_30 : decode b_Mc_canReach 30 = .ok (.if_icmp .ge 7, 3) := by decide +kernel
theorem d_Mc_canReach_33 : decode b_Mc_canReach 33 = .ok (.iconst 1, 1) := by decide +kernel
theorem d_Mc_canReach_34 : decode b_Mc_canReach 34 = .ok (.goto 4, 3) := by decide +kernel
theorem d_Mc_canReach_37 : decode b_Mc_canReach 37 = .ok (.iconst 0, 1) := by decide +kernel
theorem d_Mc_canReach_38 : decode b_Mc_canReach 38 = .ok (.ireturn, 1) := by decide +kernel
theorem d_Mc_hasRun_0 : decode b_Mc_hasRun 0 = .ok (.iload_n 0, 1) := by decide +kernel
theorem d_Mc_hasRun_1 : decode b_Mc_hasRun 1 = .ok (.iconst 4, 1) := by decide +kernel
theorem d_Mc_hasRun_2 : decode b_Mc_hasRun 2 = .ok (.if_icmp .lt 7, 3) := by decide +kernel
theorem d_Mc_hasRun_5 : decode b_Mc_hasRun 5 = .ok (.iconst 1, 1) := by decide +kernel
theorem d_Mc_hasRun_6 : decode b_Mc_hasRun 6 = .ok (.goto 4, 3) := by decide +kernel
theorem d_Mc_hasRun_9 : decode b_Mc_hasRun 9 = .ok (.iconst 0, 1) := by decide +kernel
theorem d_Mc_hasRun_10 : decode b_Mc_hasRun 10 = .ok (.ireturn, 1) := by decide +kernel
theorem d_Sa_bindAll_0 : decode b_Sa_bindAll 0 = .ok (.aload_n 0, 1) := by decide +kernel
theorem d_Sa_bindAll_1 : decode b_Sa_bindAll 1 = .ok (.getfield 19, 3) := by decide +kernel
theorem d_Sa_bindAll_4 : decode b_Sa_bindAll 4 = .ok (.iload_n 2, 1) := by decide +kernel
theorem d_Sa_bindAll_5 : decode b_Sa_bindAll 5 = .ok (.iconst 0, 1) := by decide +kernel
theorem d_Sa_bindAll_6 : decode b_Sa_bindAll 6 = .ok (.iastore, 1) := by decide +kernel
theorem d_Sa_bindAll_7 : decode b_Sa_bindAll 7 = .ok (.aload_n 0, 1) := by decide +kernel
theorem d_Sa_bindAll_8 : decode b_Sa_bindAll 8 = .ok (.getfield 22, 3) := by decide +kernel
theorem d_Sa_bindAll_11 : decode b_Sa_bindAll 11 = .ok (.iload_n 2, 1) := by decide +kernel
theorem d_Sa_bindAll_12 : decode b_Sa_bindAll 12 = .ok (.iconst 0, 1) := by decide +kernel
theorem d_Sa_bindAll_13 : decode b_Sa_bindAll 13 = .ok (.iastore, 1) := by decide +kernel
theorem d_Sa_bindAll_14 : decode b_Sa_bindAll 14 = .ok (.aload_n 0, 1) := by decide +kernel
theorem d_Sa_bindAll_15 : decode b_Sa_bindAll 15 = .ok (.getfield 25, 3) := by decide +kernel
theorem d_Sa_bindAll_18 : decode b_Sa_bindAll 18 = .ok (.iload_n 2, 1) := by decide +kernel
theorem d_Sa_bindAll_19 : decode b_Sa_bindAll 19 = .ok (.iconst 0, 1) := by decide +kernel
theorem d_Sa_bindAll_20 : decode b_Sa_bindAll 20 = .ok (.iastore, 1) := by decide +kernel
theorem d_Sa_bindAll_21 : decode b_Sa_bindAll 21 = .ok (.iconst 0, 1) := by decide +kernel
theorem d_Sa_bindAll_22 : decode b_Sa_bindAll 22 = .ok (.istore_n 3, 1) := by decide +kernel
theorem d_Sa_bindAll_23 : decode b_Sa_bindAll 23 = .ok (.iload_n 3, 1) := by decide +kernel
theorem d_Sa_bindAll_24 : decode b_Sa_bindAll 24 = .ok (.aload_n 1, 1) := by decide +kernel
theorem d_Sa_bindAll_25 : decode b_Sa_bindAll 25 = .ok (.getfield 50, 3) := by decide +kernel
theorem d_Sa_bindAll_28 : decode b_Sa_bindAll 28 = .ok (.if_icmp .ge 87, 3) := by decide +kernel
theorem d_Sa_bindAll_31 : decode b_Sa_bindAll 31 = .ok (.iload_n 2, 1) := by decide +kernel
theorem d_Sa_bindAll_32 : decode b_Sa_bindAll 32 = .ok (.iload_n 3, 1) := by decide +kernel
theorem d_Sa_bindAll_33 : decode b_Sa_bindAll 33 = .ok (.invokestatic 51, 3) := by decide +kernel
theorem d_Sa_bindAll_36 : decode b_Sa_bindAll 36 = .ok (.istore 4, 2) := by decide +kernel
theorem d_Sa_bindAll_38 : decode b_Sa_bindAll 38 = .ok (.iload 4, 2) := by decide +kernel
theorem d_Sa_bindAll_40 : decode b_Sa_bindAll 40 = .ok (.invokestatic 55, 3) := by decide +kernel
theorem d_Sa_bindAll_43 : decode b_Sa_bindAll 43 = .ok (.ifCond .eq 42, 3) := by decide +kernel
theorem d_Sa_bindAll_46 : decode b_Sa_bindAll 46 = .ok (.aload_n 0, 1) := by decide +kernel
theorem d_Sa_bindAll_47 : decode b_Sa_bindAll 47 = .ok (.getfield 19, 3) := by decide +kernel
theorem d_Sa_bindAll_50 : decode b_Sa_bindAll 50 = .ok (.iload_n 2, 1) := by decide +kernel
theorem d_Sa_bindAll_51 : decode b_Sa_bindAll 51 = .ok (.dup2, 1) := by decide +kernel
theorem d_Sa_bindAll_52 : decode b_Sa_bindAll 52 = .ok (.iaload, 1) := by decide +kernel
theorem d_Sa_bindAll_53 : decode b_Sa_bindAll 53 = .ok (.iconst 1, 1) := by decide +kernel
theorem d_Sa_bindAll_54 : decode b_Sa_bindAll 54 = .ok (.iload_n 3, 1) := by decide +kernel
theorem d_Sa_bindAll_55 : decode b_Sa_bindAll 55 = .ok (.ishl, 1) := by decide +kernel
theorem d_Sa_bindAll_56 : decode b_Sa_bindAll 56 = .ok (.ior, 1) := by decide +kernel
theorem d_Sa_bindAll_57 : decode b_Sa_bindAll 57 = .ok (.iastore, 1) := by decide +kernel
theorem d_Sa_bindAll_58 : decode b_Sa_bindAll 58 = .ok (.aload_n 0, 1) := by decide +kernel
theorem d_Sa_bindAll_59 : decode b_Sa_bindAll 59 = .ok (.getfield 22, 3) := by decide +kernel
theorem d_Sa_bindAll_62 : decode b_Sa_bindAll 62 = .ok (.iload_n 2, 1) := by decide +kernel
theorem d_Sa_bindAll_63 : decode b_Sa_bindAll 63 = .ok (.dup2, 1) := by decide +kernel
theorem d_Sa_bindAll_64 : decode b_Sa_bindAll 64 = .ok (.iaload, 1) := by decide +kernel
theorem d_Sa_bindAll_65 : decode b_Sa_bindAll 65 = .ok (.iload 4, 2) := by decide +kernel
theorem d_Sa_bindAll_67 : decode b_Sa_bindAll 67 = .ok (.invokestatic 58, 3) := by decide +kernel
theorem d_Sa_bindAll_70 : decode b_Sa_bindAll 70 = .ok (.ifCond .eq 9, 3) := by decide +kernel
theorem d_Sa_bindAll_73 : decode b_Sa_bindAll 73 = .ok (.iconst 1, 1) := by decide +kernel
theorem d_Sa_bindAll_74 : decode b_Sa_bindAll 74 = .ok (.iload_n 3, 1) := by decide +kernel
theorem d_Sa_bindAll_75 : decode b_Sa_bindAll 75 = .ok (.ishl, 1) := by decide +kernel
theorem d_Sa_bindAll_76 : decode b_Sa_bindAll 76 = .ok (.goto 4, 3) := by decide +kernel
theorem d_Sa_bindAll_79 : decode b_Sa_bindAll 79 = .ok (.iconst 0, 1) := by decide +kernel
theorem d_Sa_bindAll_80 : decode b_Sa_bindAll 80 = .ok (.ior, 1) := by decide +kernel
theorem d_Sa_bindAll_81 : decode b_Sa_bindAll 81 = .ok (.iastore, 1) := by decide +kernel
theorem d_Sa_bindAll_82 : decode b_Sa_bindAll 82 = .ok (.goto 27, 3) := by decide +kernel
theorem d_Sa_bindAll_85 : decode b_Sa_bindAll 85 = .ok (.aload_n 0, 1) := by decide +kernel
theorem d_Sa_bindAll_86 : decode b_Sa_bindAll 86 = .ok (.getfield 25, 3) := by decide +kernel
theorem d_Sa_bindAll_89 : decode b_Sa_bindAll 89 = .ok (.iload_n 2, 1) := by decide +kernel
theorem d_Sa_bindAll_90 : decode b_Sa_bindAll 90 = .ok (.dup2, 1) := by decide +kernel
theorem d_Sa_bindAll_91 : decode b_Sa_bindAll 91 = .ok (.iaload, 1) := by decide +kernel
theorem d_Sa_bindAll_92 : decode b_Sa_bindAll 92 = .ok (.iload 4, 2) := by decide +kernel
theorem d_Sa_bindAll_94 : decode b_Sa_bindAll 94 = .ok (.invokestatic 58, 3) := by decide +kernel
theorem d_Sa_bindAll_97 : decode b_Sa_bindAll 97 = .ok (.ifCond .eq 9, 3) := by decide +kernel
theorem d_Sa_bindAll_100 : decode b_Sa_bindAll 100 = .ok (.iconst 1, 1) := by decide +kernel
theorem d_Sa_bindAll_101 : decode b_Sa_bindAll 101 = .ok (.iload_n 3, 1) := by decide +kernel
theorem d_Sa_bindAll_102 : decode b_Sa_bindAll 102 = .ok (.ishl, 1) := by decide +kernel
theorem d_Sa_bindAll_103 : decode b_Sa_bindAll 103 = .ok (.goto 4, 3) := by decide +kernel
theorem d_Sa_bindAll_106 : decode b_Sa_bindAll 106 = .ok (.iconst 0, 1) := by decide +kernel
theorem d_Sa_bindAll_107 : decode b_Sa_bindAll 107 = .ok (.ior, 1) := by decide +kernel
theorem d_Sa_bindAll_108 : decode b_Sa_bindAll 108 = .ok (.iastore, 1) := by decide +kernel
theorem d_Sa_bindAll_109 : decode b_Sa_bindAll 109 = .ok (.iinc 3 1, 3) := by decide +kernel
theorem d_Sa_bindAll_112 : decode b_Sa_bindAll 112 = .ok (.goto (-89), 3) := by decide +kernel
theorem d_Sa_bindAll_115 : decode b_Sa_bindAll 115 = .ok (.return_, 1) := by decide +kernel
theorem d_Sa_digitOf_0 : decode b_Sa_digitOf 0 = .ok (.iload_n 0, 1) := by decide +kernel
theorem d_Sa_digitOf_1 : decode b_Sa_digitOf 1 = .ok (.iconst 3, 1) := by decide +kernel
theorem d_Sa_digitOf_2 : decode b_Sa_digitOf 2 = .ok (.iload_n 1, 1) := by decide +kernel
theorem d_Sa_digitOf_3 : decode b_Sa_digitOf 3 = .ok (.imul, 1) := by decide +kernel
theorem d_Sa_digitOf_4 : decode b_Sa_digitOf 4 = .ok (.ishr, 1) := by decide +kernel
theorem d_Sa_digitOf_5 : decode b_Sa_digitOf 5 = .ok (.bipush 7, 2) := by decide +kernel
theorem d_Sa_digitOf_7 : decode b_Sa_digitOf 7 = .ok (.iand, 1) := by decide +kernel
theorem d_Sa_digitOf_8 : decode b_Sa_digitOf 8 = .ok (.ireturn, 1) := by decide +kernel
theorem d_Mc_isBound_0 : decode b_Mc_isBound 0 = .ok (.iload_n 0, 1) := by decide +kernel
theorem d_Mc_isBound_1 : decode b_Mc_isBound 1 = .ok (.ifCond .eq 12, 3) := by decide +kernel
theorem d_Mc_isBound_4 : decode b_Mc_isBound 4 = .ok (.iload_n 0, 1) := by decide +kernel
theorem d_Mc_isBound_5 : decode b_Mc_isBound 5 = .ok (.iconst 4, 1) := by decide +kernel
theorem d_Mc_isBound_6 : decode b_Mc_isBound 6 = .ok (.if_icmp .eq 7, 3) := by decide +kernel
theorem d_Mc_isBound_9 : decode b_Mc_isBound 9 = .ok (.iconst 1, 1) := by decide +kernel
theorem d_Mc_isBound_10 : decode b_Mc_isBound 10 = .ok (.goto 4, 3) := by decide +kernel
theorem d_Mc_isBound_13 : decode b_Mc_isBound 13 = .ok (.iconst 0, 1) := by decide +kernel
theorem d_Mc_isBound_14 : decode b_Mc_isBound 14 = .ok (.ireturn, 1) := by decide +kernel
theorem d_Sa_followAll_0 : decode b_Sa_followAll 0 = .ok (.iconst 0, 1) := by decide +kernel
theorem d_Sa_followAll_1 : decode b_Sa_followAll 1 = .ok (.istore_n 3, 1) := by decide +kernel
theorem d_Sa_followAll_2 : decode b_Sa_followAll 2 = .ok (.iload_n 3, 1) := by decide +kernel
theorem d_Sa_followAll_3 : decode b_Sa_followAll 3 = .ok (.iconst 1, 1) := by decide +kernel
theorem d_Sa_followAll_4 : decode b_Sa_followAll 4 = .ok (.aload_n 1, 1) := by decide +kernel
theorem d_Sa_followAll_5 : decode b_Sa_followAll 5 = .ok (.getfield 50, 3) := by decide +kernel
theorem d_Sa_followAll_8 : decode b_Sa_followAll 8 = .ok (.ishl, 1) := by decide +kernel
theorem d_Sa_followAll_9 : decode b_Sa_followAll 9 = .ok (.if_icmp .ge 91, 3) := by decide +kernel
theorem d_Sa_followAll_12 : decode b_Sa_followAll 12 = .ok (.iconst 0, 1) := by decide +kernel
theorem d_Sa_followAll_13 : decode b_Sa_followAll 13 = .ok (.istore 4, 2) := by decide +kernel
theorem d_Sa_followAll_15 : decode b_Sa_followAll 15 = .ok (.iconst 0, 1) := by decide +kernel
theorem d_Sa_followAll_16 : decode b_Sa_followAll 16 = .ok (.istore 5, 2) := by decide +kernel
theorem d_Sa_followAll_18 : decode b_Sa_followAll 18 = .ok (.iload 5, 2) := by decide +kernel
theorem d_Sa_followAll_20 : decode b_Sa_followAll 20 = .ok (.aload_n 1, 1) := by decide +kernel
theorem d_Sa_followAll_21 : decode b_Sa_followAll 21 = .ok (.getfield 50, 3) := by decide +kernel
theorem d_Sa_followAll_24 : decode b_Sa_followAll 24 = .ok (.if_icmp .ge 57, 3) := by decide +kernel
theorem d_Sa_followAll_27 : decode b_Sa_followAll 27 = .ok (.iload_n 3, 1) := by decide +kernel
theorem d_Sa_followAll_28 : decode b_Sa_followAll 28 = .ok (.iload 5, 2) := by decide +kernel
theorem d_Sa_followAll_30 : decode b_Sa_followAll 30 = .ok (.ishr, 1) := by decide +kernel
theorem d_Sa_followAll_31 : decode b_Sa_followAll 31 = .ok (.iconst 1, 1) := by decide +kernel
theorem d_Sa_followAll_32 : decode b_Sa_followAll 32 = .ok (.iand, 1) := by decide +kernel
theorem d_Sa_followAll_33 : decode b_Sa_followAll 33 = .ok (.ifCond .eq 7, 3) := by decide +kernel
theorem d_Sa_followAll_36 : decode b_Sa_followAll 36 = .ok (.iconst 1, 1) := by decide +kernel
theorem d_Sa_followAll_37 : decode b_Sa_followAll 37 = .ok (.goto 4, 3) := by decide +kernel
theorem d_Sa_followAll_40 : decode b_Sa_followAll 40 = .ok (.iconst 0, 1) := by decide +kernel
theorem d_Sa_followAll_41 : decode b_Sa_followAll 41 = .ok (.istore 6, 2) := by decide +kernel
theorem d_Sa_followAll_43 : decode b_Sa_followAll 43 = .ok (.aload_n 1, 1) := by decide +kernel
theorem d_Sa_followAll_44 : decode b_Sa_followAll 44 = .ok (.getfield 31, 3) := by decide +kernel
theorem d_Sa_followAll_47 : decode b_Sa_followAll 47 = .ok (.iload 5, 2) := by decide +kernel
theorem d_Sa_followAll_49 : decode b_Sa_followAll 49 = .ok (.aaload, 1) := by decide +kernel
theorem d_Sa_followAll_50 : decode b_Sa_followAll 50 = .ok (.iload_n 2, 1) := by decide +kernel
theorem d_Sa_followAll_51 : decode b_Sa_followAll 51 = .ok (.iload 5, 2) := by decide +kernel
theorem d_Sa_followAll_53 : decode b_Sa_followAll 53 = .ok (.invokestatic 51, 3) := by decide +kernel
theorem d_Sa_followAll_56 : decode b_Sa_followAll 56 = .ok (.iload 6, 2) := by decide +kernel
theorem d_Sa_followAll_58 : decode b_Sa_followAll 58 = .ok (.invokevirtual 61, 3) := by decide +kernel
theorem d_Sa_followAll_61 : decode b_Sa_followAll 61 = .ok (.istore 7, 2) := by decide +kernel
theorem d_Sa_followAll_63 : decode b_Sa_followAll 63 = .ok (.iload 4, 2) := by decide +kernel
theorem d_Sa_followAll_65 : decode b_Sa_followAll 65 = .ok (.iload 7, 2) := by decide +kernel
theorem d_Sa_followAll_67 : decode b_Sa_followAll 67 = .ok (.iconst 3, 1) := by decide +kernel
theorem d_Sa_followAll_68 : decode b_Sa_followAll 68 = .ok (.iload 5, 2) := by decide +kernel
theorem d_Sa_followAll_70 : decode b_Sa_followAll 70 = .ok (.imul, 1) := by decide +kernel
theorem d_Sa_followAll_71 : decode b_Sa_followAll 71 = .ok (.ishl, 1) := by decide +kernel
theorem d_Sa_followAll_72 : decode b_Sa_followAll 72 = .ok (.ior, 1) := by decide +kernel
theorem d_Sa_followAll_73 : decode b_Sa_followAll 73 = .ok (.istore 4, 2) := by decide +kernel
theorem d_Sa_followAll_75 : decode b_Sa_followAll 75 = .ok (.iinc 5 1, 3) := by decide +kernel
theorem d_Sa_followAll_78 : decode b_Sa_followAll 78 = .ok (.goto (-60), 3) := by decide +kernel
theorem d_Sa_followAll_81 : decode b_Sa_followAll 81 = .ok (.aload_n 0, 1) := by decide +kernel
theorem d_Sa_followAll_82 : decode b_Sa_followAll 82 = .ok (.getfield 28, 3) := by decide +kernel
theorem d_Sa_followAll_85 : decode b_Sa_followAll 85 = .ok (.iload_n 2, 1) := by decide +kernel
theorem d_Sa_followAll_86 : decode b_Sa_followAll 86 = .ok (.bipush 8, 2) := by decide +kernel
theorem d_Sa_followAll_88 : decode b_Sa_followAll 88 = .ok (.imul, 1) := by decide +kernel
theorem d_Sa_followAll_89 : decode b_Sa_followAll 89 = .ok (.iload_n 3, 1) := by decide +kernel
theorem d_Sa_followAll_90 : decode b_Sa_followAll 90 = .ok (.iadd, 1) := by decide +kernel
theorem d_Sa_followAll_91 : decode b_Sa_followAll 91 = .ok (.iload 4, 2) := by decide +kernel
theorem d_Sa_followAll_93 : decode b_Sa_followAll 93 = .ok (.iastore, 1) := by decide +kernel
theorem d_Sa_followAll_94 : decode b_Sa_followAll 94 = .ok (.iinc 3 1, 3) := by decide +kernel
theorem d_Sa_followAll_97 : decode b_Sa_followAll 97 = .ok (.goto (-95), 3) := by decide +kernel
theorem d_Sa_followAll_100 : decode b_Sa_followAll 100 = .ok (.return_, 1) := by decide +kernel
theorem d_Mc_digitAfter_0 : decode b_Mc_digitAfter 0 = .ok (.iload_n 2, 1) := by decide +kernel
theorem d_Mc_digitAfter_1 : decode b_Mc_digitAfter 1 = .ok (.iload_n 1, 1) := by decide +kernel
theorem d_Mc_digitAfter_2 : decode b_Mc_digitAfter 2 = .ok (.invokestatic 37, 3) := by decide +kernel
theorem d_Mc_digitAfter_5 : decode b_Mc_digitAfter 5 = .ok (.if_icmp .eq 25, 3) := by decide +kernel
theorem d_Mc_digitAfter_8 : decode b_Mc_digitAfter 8 = .ok (.iload_n 2, 1) := by decide +kernel
theorem d_Mc_digitAfter_9 : decode b_Mc_digitAfter 9 = .ok (.ifCond .eq 14, 3) := by decide +kernel
theorem d_Mc_digitAfter_12 : decode b_Mc_digitAfter 12 = .ok (.iconst 4, 1) := by decide +kernel
theorem d_Mc_digitAfter_13 : decode b_Mc_digitAfter 13 = .ok (.aload_n 0, 1) := by decide +kernel
theorem d_Mc_digitAfter_14 : decode b_Mc_digitAfter 14 = .ok (.getfield 9, 3) := by decide +kernel
theorem d_Mc_digitAfter_17 : decode b_Mc_digitAfter 17 = .ok (.iadd, 1) := by decide +kernel
theorem d_Mc_digitAfter_18 : decode b_Mc_digitAfter 18 = .ok (.iconst 1, 1) := by decide +kernel
theorem d_Mc_digitAfter_19 : decode b_Mc_digitAfter 19 = .ok (.isub, 1) := by decide +kernel
theorem d_Mc_digitAfter_20 : decode b_Mc_digitAfter 20 = .ok (.goto 9, 3) := by decide +kernel
theorem d_Mc_digitAfter_23 : decode b_Mc_digitAfter 23 = .ok (.aload_n 0, 1) := by decide +kernel
theorem d_Mc_digitAfter_24 : decode b_Mc_digitAfter 24 = .ok (.getfield 15, 3) := by decide +kernel
theorem d_Mc_digitAfter_27 : decode b_Mc_digitAfter 27 = .ok (.iconst 1, 1) := by decide +kernel
theorem d_Mc_digitAfter_28 : decode b_Mc_digitAfter 28 = .ok (.isub, 1) := by decide +kernel
theorem d_Mc_digitAfter_29 : decode b_Mc_digitAfter 29 = .ok (.ireturn, 1) := by decide +kernel
theorem d_Mc_digitAfter_30 : decode b_Mc_digitAfter 30 = .ok (.iload_n 1, 1) := by decide +kernel
theorem d_Mc_digitAfter_31 : decode b_Mc_digitAfter 31 = .ok (.invokestatic 41, 3) := by decide +kernel
theorem d_Mc_digitAfter_34 : decode b_Mc_digitAfter 34 = .ok (.ifCond .eq 9, 3) := by decide +kernel
theorem d_Mc_digitAfter_37 : decode b_Mc_digitAfter 37 = .ok (.iload_n 1, 1) := by decide +kernel
theorem d_Mc_digitAfter_38 : decode b_Mc_digitAfter 38 = .ok (.iconst 1, 1) := by decide +kernel
theorem d_Mc_digitAfter_39 : decode b_Mc_digitAfter 39 = .ok (.isub, 1) := by decide +kernel
theorem d_Mc_digitAfter_40 : decode b_Mc_digitAfter 40 = .ok (.goto 4, 3) := by decide +kernel
theorem d_Mc_digitAfter_43 : decode b_Mc_digitAfter 43 = .ok (.iload_n 1, 1) := by decide +kernel
theorem d_Mc_digitAfter_44 : decode b_Mc_digitAfter 44 = .ok (.ireturn, 1) := by decide +kernel
theorem d_Pl_forgetUpTo_0 : decode b_Pl_forgetUpTo 0 = .ok (.aload_n 0, 1) := by decide +kernel
theorem d_Pl_forgetUpTo_1 : decode b_Pl_forgetUpTo 1 = .ok (.aload_n 0, 1) := by decide +kernel
theorem d_Pl_forgetUpTo_2 : decode b_Pl_forgetUpTo 2 = .ok (.getfield 32, 3) := by decide +kernel
theorem d_Pl_forgetUpTo_5 : decode b_Pl_forgetUpTo 5 = .ok (.iload_n 1, 1) := by decide +kernel
theorem d_Pl_forgetUpTo_6 : decode b_Pl_forgetUpTo 6 = .ok (.iconst 1, 1) := by decide +kernel
theorem d_Pl_forgetUpTo_7 : decode b_Pl_forgetUpTo 7 = .ok (.iadd, 1) := by decide +kernel
theorem d_Pl_forgetUpTo_8 : decode b_Pl_forgetUpTo 8 = .ok (.invokestatic 71, 3) := by decide +kernel
theorem d_Pl_forgetUpTo_11 : decode b_Pl_forgetUpTo 11 = .ok (.putfield 32, 3) := by decide +kernel
theorem d_Pl_forgetUpTo_14 : decode b_Pl_forgetUpTo 14 = .ok (.return_, 1) := by decide +kernel
theorem d_HM_row_0 : decode b_HM_row 0 = .ok (.aload_n 0, 1) := by decide +kernel
theorem d_HM_row_1 : decode b_HM_row 1 = .ok (.iload_n 1, 1) := by decide +kernel
theorem d_HM_row_2 : decode b_HM_row 2 = .ok (.invokevirtual 73, 3) := by decide +kernel
theorem d_HM_row_5 : decode b_HM_row 5 = .ok (.ifCond .eq 35, 3) := by decide +kernel
theorem d_HM_row_8 : decode b_HM_row 8 = .ok (.iload_n 2, 1) := by decide +kernel
theorem d_HM_row_9 : decode b_HM_row 9 = .ok (.invokestatic 77, 3) := by decide +kernel
theorem d_HM_row_12 : decode b_HM_row 12 = .ok (.ifCond .eq 28, 3) := by decide +kernel
theorem d_HM_row_15 : decode b_HM_row 15 = .ok (.iload_n 3, 1) := by decide +kernel
theorem d_HM_row_16 : decode b_HM_row 16 = .ok (.iconst 0, 1) := by decide +kernel
theorem d_HM_row_17 : decode b_HM_row 17 = .ok (.ldc 49, 2) := by decide +kernel
theorem d_HM_row_19 : decode b_HM_row 19 = .ok (.invokestatic 45, 3) := by decide +kernel
theorem d_HM_row_22 : decode b_HM_row 22 = .ok (.ifCond .eq 18, 3) := by decide +kernel
theorem d_HM_row_25 : decode b_HM_row 25 = .ok (.iload 4, 2) := by decide +kernel
theorem d_HM_row_27 : decode b_HM_row 27 = .ok (.iconst 0, 1) := by decide +kernel
theorem d_HM_row_28 : decode b_HM_row 28 = .ok (.ldc 49, 2) := by decide +kernel
theorem d_HM_row_30 : decode b_HM_row 30 = .ok (.invokestatic 45, 3) := by decide +kernel
theorem d_HM_row_33 : decode b_HM_row 33 = .ok (.ifCond .eq 7, 3) := by decide +kernel
theorem d_HM_row_36 : decode b_HM_row 36 = .ok (.iconst 1, 1) := by decide +kernel
theorem d_HM_row_37 : decode b_HM_row 37 = .ok (.goto 4, 3) := by decide +kernel
theorem d_HM_row_40 : decode b_HM_row 40 = .ok (.iconst 0, 1) := by decide +kernel
theorem d_HM_row_41 : decode b_HM_row 41 = .ok (.invokestatic 50, 3) := by decide +kernel
theorem d_HM_row_44 : decode b_HM_row 44 = .ok (.aload_n 0, 1) := by decide +kernel
theorem d_HM_row_45 : decode b_HM_row 45 = .ok (.getfield 20, 3) := by decide +kernel
theorem d_HM_row_48 : decode b_HM_row 48 = .ok (.getfield 80, 3) := by decide +kernel
theorem d_HM_row_51 : decode b_HM_row 51 = .ok (.iload_n 1, 1) := by decide +kernel
theorem d_HM_row_52 : decode b_HM_row 52 = .ok (.aaload, 1) := by decide +kernel
theorem d_HM_row_53 : decode b_HM_row 53 = .ok (.astore 5, 2) := by decide +kernel
theorem d_HM_row_55 : decode b_HM_row 55 = .ok (.aload 5, 2) := by decide +kernel
theorem d_HM_row_57 : decode b_HM_row 57 = .ok (.getfield 84, 3) := by decide +kernel
theorem d_HM_row_60 : decode b_HM_row 60 = .ok (.iload_n 2, 1) := by decide +kernel
theorem d_HM_row_61 : decode b_HM_row 61 = .ok (.invokevirtual 89, 3) := by decide +kernel
theorem d_HM_row_64 : decode b_HM_row 64 = .ok (.invokestatic 63, 3) := by decide +kernel
theorem d_HM_row_67 : decode b_HM_row 67 = .ok (.aload 5, 2) := by decide +kernel
theorem d_HM_row_69 : decode b_HM_row 69 = .ok (.getfield 84, 3) := by decide +kernel
theorem d_HM_row_72 : decode b_HM_row 72 = .ok (.iload_n 2, 1) := by decide +kernel
theorem d_HM_row_73 : decode b_HM_row 73 = .ok (.iload_n 3, 1) := by decide +kernel
theorem d_HM_row_74 : decode b_HM_row 74 = .ok (.invokevirtual 92, 3) := by decide +kernel
theorem d_HM_row_77 : decode b_HM_row 77 = .ok (.aload 5, 2) := by decide +kernel
theorem d_HM_row_79 : decode b_HM_row 79 = .ok (.getfield 96, 3) := by decide +kernel
theorem d_HM_row_82 : decode b_HM_row 82 = .ok (.iload_n 2, 1) := by decide +kernel
theorem d_HM_row_83 : decode b_HM_row 83 = .ok (.iload 4, 2) := by decide +kernel
theorem d_HM_row_85 : decode b_HM_row 85 = .ok (.invokevirtual 92, 3) := by decide +kernel
theorem d_HM_row_88 : decode b_HM_row 88 = .ok (.aload_n 0, 1) := by decide +kernel
theorem d_HM_row_89 : decode b_HM_row 89 = .ok (.getfield 12, 3) := by decide +kernel
theorem d_HM_row_92 : decode b_HM_row 92 = .ok (.bipush 35, 2) := by decide +kernel
theorem d_HM_row_94 : decode b_HM_row 94 = .ok (.invokevirtual 99, 3) := by decide +kernel
theorem d_HM_row_97 : decode b_HM_row 97 = .ok (.aload 5, 2) := by decide +kernel
theorem d_HM_row_99 : decode b_HM_row 99 = .ok (.getfield 84, 3) := by decide +kernel
theorem d_HM_row_102 : decode b_HM_row 102 = .ok (.getfield 102, 3) := by decide +kernel
theorem d_HM_row_105 : decode b_HM_row 105 = .ok (.ireturn, 1) := by decide +kernel
theorem d_HM_isMachine_0 : decode b_HM_isMachine 0 = .ok (.iload_n 1, 1) := by decide +kernel
theorem d_HM_isMachine_1 : decode b_HM_isMachine 1 = .ok (.iconst 0, 1) := by decide +kernel
theorem d_HM_isMachine_2 : decode b_HM_isMachine 2 = .ok (.aload_n 0, 1) := by decide +kernel
theorem d_HM_isMachine_3 : decode b_HM_isMachine 3 = .ok (.getfield 20, 3) := by decide +kernel
theorem d_HM_isMachine_6 : decode b_HM_isMachine 6 = .ok (.getfield 54, 3) := by decide +kernel
theorem d_HM_isMachine_9 : decode b_HM_isMachine 9 = .ok (.iconst 1, 1) := by decide +kernel
theorem d_HM_isMachine_10 : decode b_HM_isMachine 10 = .ok (.isub, 1) := by decide +kernel
theorem d_HM_isMachine_11 : decode b_HM_isMachine 11 = .ok (.invokestatic 45, 3) := by decide +kernel
theorem d_HM_isMachine_14 : decode b_HM_isMachine 14 = .ok (.ireturn, 1) := by decide +kernel
theorem d_HM_isWarmth_0 : decode b_HM_isWarmth 0 = .ok (.iload_n 0, 1) := by decide +kernel
theorem d_HM_isWarmth_1 : decode b_HM_isWarmth 1 = .ok (.sipush (-5000), 3) := by decide +kernel
theorem d_HM_isWarmth_4 : decode b_HM_isWarmth 4 = .ok (.sipush 5000, 3) := by decide +kernel
theorem d_HM_isWarmth_7 : decode b_HM_isWarmth 7 = .ok (.invokestatic 45, 3) := by decide +kernel
theorem d_HM_isWarmth_10 : decode b_HM_isWarmth 10 = .ok (.ireturn, 1) := by decide +kernel
theorem d_Ln_hasRoomAt_0 : decode b_Ln_hasRoomAt 0 = .ok (.aload_n 0, 1) := by decide +kernel
theorem d_Ln_hasRoomAt_1 : decode b_Ln_hasRoomAt 1 = .ok (.getfield 9, 3) := by decide +kernel
theorem d_Ln_hasRoomAt_4 : decode b_Ln_hasRoomAt 4 = .ok (.aload_n 0, 1) := by decide +kernel
theorem d_Ln_hasRoomAt_5 : decode b_Ln_hasRoomAt 5 = .ok (.getfield 25, 3) := by decide +kernel
theorem d_Ln_hasRoomAt_8 : decode b_Ln_hasRoomAt 8 = .ok (.arraylength, 1) := by decide +kernel
theorem d_Ln_hasRoomAt_9 : decode b_Ln_hasRoomAt 9 = .ok (.if_icmp .ge 29, 3) := by decide +kernel
theorem d_Ln_hasRoomAt_12 : decode b_Ln_hasRoomAt 12 = .ok (.aload_n 0, 1) := by decide +kernel
theorem d_Ln_hasRoomAt_13 : decode b_Ln_hasRoomAt 13 = .ok (.getfield 9, 3) := by decide +kernel
theorem d_Ln_hasRoomAt_16 : decode b_Ln_hasRoomAt 16 = .ok (.ifCond .eq 18, 3) := by decide +kernel
theorem d_Ln_hasRoomAt_19 : decode b_Ln_hasRoomAt 19 = .ok (.iload_n 1, 1) := by decide +kernel
theorem d_Ln_hasRoomAt_20 : decode b_Ln_hasRoomAt 20 = .ok (.aload_n 0, 1) := by decide +kernel
theorem d_Ln_hasRoomAt_21 : decode b_Ln_hasRoomAt 21 = .ok (.getfield 21, 3) := by decide +kernel
theorem d_Ln_hasRoomAt_24 : decode b_Ln_hasRoomAt 24 = .ok (.aload_n 0, 1) := by decide +kernel
theorem d_Ln_hasRoomAt_25 : decode b_Ln_hasRoomAt 25 = .ok (.getfield 9, 3) := by decide +kernel
theorem d_Ln_hasRoomAt_28 : decode b_Ln_hasRoomAt 28 = .ok (.iconst 1, 1) := by decide +kernel
theorem d_Ln_hasRoomAt_29 : decode b_Ln_hasRoomAt 29 = .ok (.isub, 1) := by decide +kernel
theorem d_Ln_hasRoomAt_30 : decode b_Ln_hasRoomAt 30 = .ok (.iaload, 1) := by decide +kernel
theorem d_Ln_hasRoomAt_31 : decode b_Ln_hasRoomAt 31 = .ok (.if_icmp .le 7, 3) := by decide +kernel
theorem d_Ln_hasRoomAt_34 : decode b_Ln_hasRoomAt 34 = .ok (.iconst 1, 1) := by decide +kernel
theorem d_Ln_hasRoomAt_35 : decode b_Ln_hasRoomAt 35 = .ok (.goto 4, 3) := by decide +kernel
theorem d_Ln_hasRoomAt_38 : decode b_Ln_hasRoomAt 38 = .ok (.iconst 0, 1) := by decide +kernel
theorem d_Ln_hasRoomAt_39 : decode b_Ln_hasRoomAt 39 = .ok (.ireturn, 1) := by decide +kernel
theorem d_Ln_add_0 : decode b_Ln_add 0 = .ok (.aload_n 0, 1) := by decide +kernel
theorem d_Ln_add_1 : decode b_Ln_add 1 = .ok (.iload_n 1, 1) := by decide +kernel
theorem d_Ln_add_2 : decode b_Ln_add 2 = .ok (.invokevirtual 28, 3) := by decide +kernel
theorem d_Ln_add_5 : decode b_Ln_add 5 = .ok (.ifCond .eq 33, 3) := by decide +kernel
theorem d_Ln_add_8 : decode b_Ln_add 8 = .ok (.aload_n 0, 1) := by decide +kernel
theorem d_Ln_add_9 : decode b_Ln_add 9 = .ok (.getfield 21, 3) := by decide +kernel
theorem d_Ln_add_12 : decode b_Ln_add 12 = .ok (.aload_n 0, 1) := by decide +kernel
theorem d_Ln_add_13 : decode b_Ln_add 13 = .ok (.getfield 9, 3) := by decide +kernel
theorem d_Ln_add_16 : decode b_Ln_add 16 = .ok (.iload_n 1, 1) := by decide +kernel
theorem d_Ln_add_17 : decode b_Ln_add 17 = .ok (.iastore, 1) := by decide +kernel
theorem d_Ln_add_18 : decode b_Ln_add 18 = .ok (.aload_n 0, 1) := by decide +kernel
theorem d_Ln_add_19 : decode b_Ln_add 19 = .ok (.getfield 25, 3) := by decide +kernel
theorem d_Ln_add_22 : decode b_Ln_add 22 = .ok (.aload_n 0, 1) := by decide +kernel
theorem d_Ln_add_23 : decode b_Ln_add 23 = .ok (.getfield 9, 3) := by decide +kernel
theorem d_Ln_add_26 : decode b_Ln_add 26 = .ok (.iload_n 2, 1) := by decide +kernel
theorem d_Ln_add_27 : decode b_Ln_add 27 = .ok (.iastore, 1) := by decide +kernel
theorem d_Ln_add_28 : decode b_Ln_add 28 = .ok (.aload_n 0, 1) := by decide +kernel
theorem d_Ln_add_29 : decode b_Ln_add 29 = .ok (.dup, 1) := by decide +kernel
theorem d_Ln_add_30 : decode b_Ln_add 30 = .ok (.getfield 9, 3) := by decide +kernel
theorem d_Ln_add_33 : decode b_Ln_add 33 = .ok (.iconst 1, 1) := by decide +kernel
theorem d_Ln_add_34 : decode b_Ln_add 34 = .ok (.iadd, 1) := by decide +kernel
theorem d_Ln_add_35 : decode b_Ln_add 35 = .ok (.putfield 9, 3) := by decide +kernel
theorem d_Ln_add_38 : decode b_Ln_add 38 = .ok (.return_, 1) := by decide +kernel
theorem d_HM_hour_0 : decode b_HM_hour 0 = .ok (.iload_n 1, 1) := by decide +kernel
theorem d_HM_hour_1 : decode b_HM_hour 1 = .ok (.invokestatic 105, 3) := by decide +kernel
theorem d_HM_hour_4 : decode b_HM_hour 4 = .ok (.ifCond .eq 33, 3) := by decide +kernel
theorem d_HM_hour_7 : decode b_HM_hour 7 = .ok (.iload_n 2, 1) := by decide +kernel
theorem d_HM_hour_8 : decode b_HM_hour 8 = .ok (.iconst 0, 1) := by decide +kernel
theorem d_HM_hour_9 : decode b_HM_hour 9 = .ok (.iconst 2, 1) := by decide +kernel
theorem d_HM_hour_10 : decode b_HM_hour 10 = .ok (.invokestatic 45, 3) := by decide +kernel
theorem d_HM_hour_13 : decode b_HM_hour 13 = .ok (.ifCond .eq 24, 3) := by decide +kernel
theorem d_HM_hour_16 : decode b_HM_hour 16 = .ok (.iload_n 3, 1) := by decide +kernel
theorem d_HM_hour_17 : decode b_HM_hour 17 = .ok (.getstatic 108, 3) := by decide +kernel
theorem d_HM_hour_20 : decode b_HM_hour 20 = .ok (.iload_n 2, 1) := by decide +kernel
theorem d_HM_hour_21 : decode b_HM_hour 21 = .ok (.iaload, 1) := by decide +kernel
theorem d_HM_hour_22 : decode b_HM_hour 22 = .ok (.getstatic 111, 3) := by decide +kernel
theorem d_HM_hour_25 : decode b_HM_hour 25 = .ok (.iload_n 2, 1) := by decide +kernel
theorem d_HM_hour_26 : decode b_HM_hour 26 = .ok (.iaload, 1) := by decide +kernel
theorem d_HM_hour_27 : decode b_HM_hour 27 = .ok (.invokestatic 45, 3) := by decide +kernel
theorem d_HM_hour_30 : decode b_HM_hour 30 = .ok (.ifCond .eq 7, 3) := by decide +kernel
theorem d_HM_hour_33 : decode b_HM_hour 33 = .ok (.iconst 1, 1) := by decide +kernel
theorem d_HM_hour_34 : decode b_HM_hour 34 = .ok (.goto 4, 3) := by decide +kernel
theorem d_HM_hour_37 : decode b_HM_hour 37 = .ok (.iconst 0, 1) := by decide +kernel
theorem d_HM_hour_38 : decode b_HM_hour 38 = .ok (.invokestatic 50, 3) := by decide +kernel
theorem d_HM_hour_41 : decode b_HM_hour 41 = .ok (.iload_n 1, 1) := by decide +kernel
theorem d_HM_hour_42 : decode b_HM_hour 42 = .ok (.aload_n 0, 1) := by decide +kernel
theorem d_HM_hour_43 : decode b_HM_hour 43 = .ok (.getfield 12, 3) := by decide +kernel
theorem d_HM_hour_46 : decode b_HM_hour 46 = .ok (.getfield 60, 3) := by decide +kernel
theorem d_HM_hour_49 : decode b_HM_hour 49 = .ok (.if_icmp .lt 7, 3) := by decide +kernel
theorem d_HM_hour_52 : decode b_HM_hour 52 = .ok (.iconst 1, 1) := by decide +kernel
theorem d_HM_hour_53 : decode b_HM_hour 53 = .ok (.goto 4, 3) := by decide +kernel
theorem d_HM_hour_56 : decode b_HM_hour 56 = .ok (.iconst 0, 1) := by decide +kernel
theorem d_HM_hour_57 : decode b_HM_hour 57 = .ok (.invokestatic 63, 3) := by decide +kernel
theorem d_HM_hour_60 : decode b_HM_hour 60 = .ok (.aload_n 0, 1) := by decide +kernel
theorem d_HM_hour_61 : decode b_HM_hour 61 = .ok (.getfield 20, 3) := by decide +kernel
theorem d_HM_hour_64 : decode b_HM_hour 64 = .ok (.getfield 114, 3) := by decide +kernel
theorem d_HM_hour_67 : decode b_HM_hour 67 = .ok (.iload_n 2, 1) := by decide +kernel
theorem d_HM_hour_68 : decode b_HM_hour 68 = .ok (.aaload, 1) := by decide +kernel
theorem d_HM_hour_69 : decode b_HM_hour 69 = .ok (.iload_n 1, 1) := by decide +kernel
theorem d_HM_hour_70 : decode b_HM_hour 70 = .ok (.iaload, 1) := by decide +kernel
theorem d_HM_hour_71 : decode b_HM_hour 71 = .ok (.istore 4, 2) := by decide +kernel
theorem d_HM_hour_73 : decode b_HM_hour 73 = .ok (.aload_n 0, 1) := by decide +kernel
theorem d_HM_hour_74 : decode b_HM_hour 74 = .ok (.getfield 20, 3) := by decide +kernel
theorem d_HM_hour_77 : decode b_HM_hour 77 = .ok (.getfield 114, 3) := by decide +kernel
theorem d_HM_hour_80 : decode b_HM_hour 80 = .ok (.iload_n 2, 1) := by decide +kernel
theorem d_HM_hour_81 : decode b_HM_hour 81 = .ok (.aaload, 1) := by decide +kernel
theorem d_HM_hour_82 : decode b_HM_hour 82 = .ok (.iload_n 1, 1) := by decide +kernel
theorem d_HM_hour_83 : decode b_HM_hour 83 = .ok (.iload_n 3, 1) := by decide +kernel
theorem d_HM_hour_84 : decode b_HM_hour 84 = .ok (.iastore, 1) := by decide +kernel
theorem d_HM_hour_85 : decode b_HM_hour 85 = .ok (.aload_n 0, 1) := by decide +kernel
theorem d_HM_hour_86 : decode b_HM_hour 86 = .ok (.getfield 12, 3) := by decide +kernel
theorem d_HM_hour_89 : decode b_HM_hour 89 = .ok (.iload_n 1, 1) := by decide +kernel
theorem d_HM_hour_90 : decode b_HM_hour 90 = .ok (.invokevirtual 99, 3) := by decide +kernel
theorem d_HM_hour_93 : decode b_HM_hour 93 = .ok (.iload 4, 2) := by decide +kernel
theorem d_HM_hour_95 : decode b_HM_hour 95 = .ok (.ireturn, 1) := by decide +kernel
theorem d_HM_isHour_0 : decode b_HM_isHour 0 = .ok (.iload_n 0, 1) := by decide +kernel
theorem d_HM_isHour_1 : decode b_HM_isHour 1 = .ok (.iconst 0, 1) := by decide +kernel
theorem d_HM_isHour_2 : decode b_HM_isHour 2 = .ok (.bipush 35, 2) := by decide +kernel
theorem d_HM_isHour_4 : decode b_HM_isHour 4 = .ok (.invokestatic 45, 3) := by decide +kernel
theorem d_HM_isHour_7 : decode b_HM_isHour 7 = .ok (.ireturn, 1) := by decide +kernel
theorem d_HM_out_0 : decode b_HM_out 0 = .ok (.aload_n 0, 1) := by decide +kernel
theorem d_HM_out_1 : decode b_HM_out 1 = .ok (.iload_n 1, 1) := by decide +kernel
theorem d_HM_out_2 : decode b_HM_out 2 = .ok (.invokevirtual 73, 3) := by decide +kernel
theorem d_HM_out_5 : decode b_HM_out 5 = .ok (.ifCond .eq 14, 3) := by decide +kernel
theorem d_HM_out_8 : decode b_HM_out 8 = .ok (.iload_n 2, 1) := by decide +kernel
theorem d_HM_out_9 : decode b_HM_out 9 = .ok (.invokestatic 105, 3) := by decide +kernel
theorem d_HM_out_12 : decode b_HM_out 12 = .ok (.ifCond .eq 7, 3) := by decide +kernel
theorem d_HM_out_15 : decode b_HM_out 15 = .ok (.iconst 1, 1) := by decide +kernel
theorem d_HM_out_16 : decode b_HM_out 16 = .ok (.goto 4, 3) := by decide +kernel
theorem d_HM_out_19 : decode b_HM_out 19 = .ok (.iconst 0, 1) := by decide +kernel
theorem d_HM_out_20 : decode b_HM_out 20 = .ok (.invokestatic 50, 3) := by decide +kernel
theorem d_HM_out_23 : decode b_HM_out 23 = .ok (.iload_n 2, 1) := by decide +kernel
theorem d_HM_out_24 : decode b_HM_out 24 = .ok (.aload_n 0, 1) := by decide +kernel
theorem d_HM_out_25 : decode b_HM_out 25 = .ok (.getfield 12, 3) := by decide +kernel
theorem d_HM_out_28 : decode b_HM_out 28 = .ok (.getfield 60, 3) := by decide +kernel
theorem d_HM_out_31 : decode b_HM_out 31 = .ok (.if_icmp .lt 7, 3) := by decide +kernel
theorem d_HM_out_34 : decode b_HM_out 34 = .ok (.iconst 1, 1) := by decide +kernel
theorem d_HM_out_35 : decode b_HM_out 35 = .ok (.goto 4, 3) := by decide +kernel
theorem d_HM_out_38 : decode b_HM_out 38 = .ok (.iconst 0, 1) := by decide +kernel
theorem d_HM_out_39 : decode b_HM_out 39 = .ok (.invokestatic 63, 3) := by decide +kernel
theorem d_HM_out_42 : decode b_HM_out 42 = .ok (.aload_n 0, 1) := by decide +kernel
theorem d_HM_out_43 : decode b_HM_out 43 = .ok (.getfield 20, 3) := by decide +kernel
theorem d_HM_out_46 : decode b_HM_out 46 = .ok (.getfield 80, 3) := by decide +kernel
theorem d_HM_out_49 : decode b_HM_out 49 = .ok (.iload_n 1, 1) := by decide +kernel
theorem d_HM_out_50 : decode b_HM_out 50 = .ok (.aaload, 1) := by decide +kernel
theorem d_HM_out_51 : decode b_HM_out 51 = .ok (.astore 4, 2) := by decide +kernel
theorem d_HM_out_53 : decode b_HM_out 53 = .ok (.aload 4, 2) := by decide +kernel
theorem d_HM_out_55 : decode b_HM_out 55 = .ok (.getfield 118, 3) := by decide +kernel
theorem d_HM_out_58 : decode b_HM_out 58 = .ok (.iload_n 2, 1) := by decide +kernel
theorem d_HM_out_59 : decode b_HM_out 59 = .ok (.baload, 1) := by decide +kernel
theorem d_HM_out_60 : decode b_HM_out 60 = .ok (.istore 5, 2) := by decide +kernel
theorem d_HM_out_62 : decode b_HM_out 62 = .ok (.aload 4, 2) := by decide +kernel
theorem d_HM_out_64 : decode b_HM_out 64 = .ok (.getfield 118, 3) := by decide +kernel
theorem d_HM_out_67 : decode b_HM_out 67 = .ok (.iload_n 2, 1) := by decide +kernel
theorem d_HM_out_68 : decode b_HM_out 68 = .ok (.iload_n 3, 1) := by decide +kernel
theorem d_HM_out_69 : decode b_HM_out 69 = .ok (.bastore, 1) := by decide +kernel
theorem d_HM_out_70 : decode b_HM_out 70 = .ok (.aload_n 0, 1) := by decide +kernel
theorem d_HM_out_71 : decode b_HM_out 71 = .ok (.getfield 12, 3) := by decide +kernel
theorem d_HM_out_74 : decode b_HM_out 74 = .ok (.iload_n 2, 1) := by decide +kernel
theorem d_HM_out_75 : decode b_HM_out 75 = .ok (.invokevirtual 99, 3) := by decide +kernel
theorem d_HM_out_78 : decode b_HM_out 78 = .ok (.iload 5, 2) := by decide +kernel
theorem d_HM_out_80 : decode b_HM_out 80 = .ok (.ireturn, 1) := by decide +kernel
theorem d_HM_gives_0 : decode b_HM_gives 0 = .ok (.aload_n 0, 1) := by decide +kernel
theorem d_HM_gives_1 : decode b_HM_gives 1 = .ok (.iload_n 1, 1) := by decide +kernel
theorem d_HM_gives_2 : decode b_HM_gives 2 = .ok (.invokevirtual 73, 3) := by decide +kernel
theorem d_HM_gives_5 : decode b_HM_gives 5 = .ok (.ifCond .eq 23, 3) := by decide +kernel
theorem d_HM_gives_8 : decode b_HM_gives 8 = .ok (.iload_n 2, 1) := by decide +kernel
theorem d_HM_gives_9 : decode b_HM_gives 9 = .ok (.invokestatic 77, 3) := by decide +kernel
theorem d_HM_gives_12 : decode b_HM_gives 12 = .ok (.ifCond .eq 16, 3) := by decide +kernel
theorem d_HM_gives_15 : decode b_HM_gives 15 = .ok (.iload_n 3, 1) := by decide +kernel
theorem d_HM_gives_16 : decode b_HM_gives 16 = .ok (.iconst 0, 1) := by decide +kernel
theorem d_HM_gives_17 : decode b_HM_gives 17 = .ok (.iconst 1, 1) := by decide +kernel
theorem d_HM_gives_18 : decode b_HM_gives 18 = .ok (.invokestatic 45, 3) := by decide +kernel
theorem d_HM_gives_21 : decode b_HM_gives 21 = .ok (.ifCond .eq 7, 3) := by decide +kernel
theorem d_HM_gives_24 : decode b_HM_gives 24 = .ok (.iconst 1, 1) := by decide +kernel
theorem d_HM_gives_25 : decode b_HM_gives 25 = .ok (.goto 4, 3) := by decide +kernel
theorem d_HM_gives_28 : decode b_HM_gives 28 = .ok (.iconst 0, 1) := by decide +kernel
theorem d_HM_gives_29 : decode b_HM_gives 29 = .ok (.invokestatic 50, 3) := by decide +kernel
theorem d_HM_gives_32 : decode b_HM_gives 32 = .ok (.aload_n 0, 1) := by decide +kernel
theorem d_HM_gives_33 : decode b_HM_gives 33 = .ok (.getfield 20, 3) := by decide +kernel
theorem d_HM_gives_36 : decode b_HM_gives 36 = .ok (.getfield 80, 3) := by decide +kernel
theorem d_HM_gives_39 : decode b_HM_gives 39 = .ok (.iload_n 1, 1) := by decide +kernel
theorem d_HM_gives_40 : decode b_HM_gives 40 = .ok (.aaload, 1) := by decide +kernel
theorem d_HM_gives_41 : decode b_HM_gives 41 = .ok (.astore 4, 2) := by decide +kernel
theorem d_HM_gives_43 : decode b_HM_gives 43 = .ok (.iload_n 3, 1) := by decide +kernel
theorem d_HM_gives_44 : decode b_HM_gives 44 = .ok (.ifCond .ne 16, 3) := by decide +kernel
theorem d_HM_gives_47 : decode b_HM_gives 47 = .ok (.aload 4, 2) := by decide +kernel
theorem d_HM_gives_49 : decode b_HM_gives 49 = .ok (.getfield 84, 3) := by decide +kernel
theorem d_HM_gives_52 : decode b_HM_gives 52 = .ok (.iload_n 2, 1) := by decide +kernel
theorem d_HM_gives_53 : decode b_HM_gives 53 = .ok (.iconst 0, 1) := by decide +kernel
theorem d_HM_gives_54 : decode b_HM_gives 54 = .ok (.invokevirtual 122, 3) := by decide +kernel
theorem d_HM_gives_57 : decode b_HM_gives 57 = .ok (.goto 13, 3) := by decide +kernel
theorem d_HM_gives_60 : decode b_HM_gives 60 = .ok (.aload 4, 2) := by decide +kernel
theorem d_HM_gives_62 : decode b_HM_gives 62 = .ok (.getfield 96, 3) := by decide +kernel
theorem d_HM_gives_65 : decode b_HM_gives 65 = .ok (.iload_n 2, 1) := by decide +kernel
theorem d_HM_gives_66 : decode b_HM_gives 66 = .ok (.iconst 1, 1) := by decide +kernel
theorem d_HM_gives_67 : decode b_HM_gives 67 = .ok (.invokevirtual 122, 3) := by decide +kernel
theorem d_HM_gives_70 : decode b_HM_gives 70 = .ok (.ireturn, 1) := by decide +kernel
theorem d_HM_planned_0 : decode b_HM_planned 0 = .ok (.iload_n 1, 1) := by decide +kernel
theorem d_HM_planned_1 : decode b_HM_planned 1 = .ok (.invokestatic 105, 3) := by decide +kernel
theorem d_HM_planned_4 : decode b_HM_planned 4 = .ok (.invokestatic 50, 3) := by decide +kernel
theorem d_HM_planned_7 : decode b_HM_planned 7 = .ok (.aload_n 0, 1) := by decide +kernel
theorem d_HM_planned_8 : decode b_HM_planned 8 = .ok (.getfield 12, 3) := by decide +kernel
theorem d_HM_planned_11 : decode b_HM_planned 11 = .ok (.invokevirtual 126, 3) := by decide +kernel
theorem d_HM_planned_14 : decode b_HM_planned 14 = .ok (.iload_n 1, 1) := by decide +kernel
theorem d_HM_planned_15 : decode b_HM_planned 15 = .ok (.aload_n 0, 1) := by decide +kernel
theorem d_HM_planned_16 : decode b_HM_planned 16 = .ok (.getfield 12, 3) := by decide +kernel
theorem d_HM_planned_19 : decode b_HM_planned 19 = .ok (.getfield 60, 3) := by decide +kernel
theorem d_HM_planned_22 : decode b_HM_planned 22 = .ok (.if_icmp .ge 7, 3) := by decide +kernel
theorem d_HM_planned_25 : decode b_HM_planned 25 = .ok (.iconst (-1), 1) := by decide +kernel
theorem d_HM_planned_26 : decode b_HM_planned 26 = .ok (.goto 12, 3) := by decide +kernel
theorem d_HM_planned_29 : decode b_HM_planned 29 = .ok (.aload_n 0, 1) := by decide +kernel
theorem d_HM_planned_30 : decode b_HM_planned 30 = .ok (.getfield 12, 3) := by decide +kernel
theorem d_HM_planned_33 : decode b_HM_planned 33 = .ok (.getfield 133, 3) := by decide +kernel
theorem d_HM_planned_36 : decode b_HM_planned 36 = .ok (.iload_n 1, 1) := by decide +kernel
theorem d_HM_planned_37 : decode b_HM_planned 37 = .ok (.iaload, 1) := by decide +kernel
theorem d_HM_planned_38 : decode b_HM_planned 38 = .ok (.ireturn, 1) := by decide +kernel
theorem d_HM_starts_0 : decode b_HM_starts 0 = .ok (.aload_n 0, 1) := by decide +kernel
theorem d_HM_starts_1 : decode b_HM_starts 1 = .ok (.iload_n 1, 1) := by decide +kernel
theorem d_HM_starts_2 : decode b_HM_starts 2 = .ok (.invokevirtual 73, 3) := by decide +kernel
theorem d_HM_starts_5 : decode b_HM_starts 5 = .ok (.invokestatic 50, 3) := by decide +kernel
theorem d_HM_starts_8 : decode b_HM_starts 8 = .ok (.aload_n 0, 1) := by decide +kernel
theorem d_HM_starts_9 : decode b_HM_starts 9 = .ok (.getfield 12, 3) := by decide +kernel
theorem d_HM_starts_12 : decode b_HM_starts 12 = .ok (.invokevirtual 126, 3) := by decide +kernel
theorem d_HM_starts_15 : decode b_HM_starts 15 = .ok (.aload_n 0, 1) := by decide +kernel
theorem d_HM_starts_16 : decode b_HM_starts 16 = .ok (.getfield 12, 3) := by decide +kernel
theorem d_HM_starts_19 : decode b_HM_starts 19 = .ok (.invokevirtual 136, 3) := by decide +kernel
theorem d_HM_starts_22 : decode b_HM_starts 22 = .ok (.ifCond .eq 14, 3) := by decide +kernel
theorem d_HM_starts_25 : decode b_HM_starts 25 = .ok (.aload_n 0, 1) := by decide +kernel
theorem d_HM_starts_26 : decode b_HM_starts 26 = .ok (.getfield 12, 3) := by decide +kernel
theorem d_HM_starts_29 : decode b_HM_starts 29 = .ok (.iload_n 1, 1) := by decide +kernel
theorem d_HM_starts_30 : decode b_HM_starts 30 = .ok (.invokevirtual 140, 3) := by decide +kernel
theorem d_HM_starts_33 : decode b_HM_starts 33 = .ok (.goto 4, 3) := by decide +kernel
theorem d_HM_starts_36 : decode b_HM_starts 36 = .ok (.iconst (-1), 1) := by decide +kernel
theorem d_HM_starts_37 : decode b_HM_starts 37 = .ok (.ireturn, 1) := by decide +kernel
theorem d_Pl_countStarts_0 : decode b_Pl_countStarts 0 = .ok (.iconst 0, 1) := by decide +kernel
theorem d_Pl_countStarts_1 : decode b_Pl_countStarts 1 = .ok (.istore_n 2, 1) := by decide +kernel
theorem d_Pl_countStarts_2 : decode b_Pl_countStarts 2 = .ok (.aload_n 0, 1) := by decide +kernel
theorem d_Pl_countStarts_3 : decode b_Pl_countStarts 3 = .ok (.getfield 21, 3) := by decide +kernel
theorem d_Pl_countStarts_6 : decode b_Pl_countStarts 6 = .ok (.getfield 94, 3) := by decide +kernel
theorem d_Pl_countStarts_9 : decode b_Pl_countStarts 9 = .ok (.aload_n 0, 1) := by decide +kernel
theorem d_Pl_countStarts_10 : decode b_Pl_countStarts 10 = .ok (.getfield 29, 3) := by decide +kernel
theorem d_Pl_countStarts_13 : decode b_Pl_countStarts 13 = .ok (.iaload, 1) := by decide +kernel
theorem d_Pl_countStarts_14 : decode b_Pl_countStarts 14 = .ok (.istore_n 3, 1) := by decide +kernel
theorem d_Pl_countStarts_15 : decode b_Pl_countStarts 15 = .ok (.aload_n 0, 1) := by decide +kernel
theorem d_Pl_countStarts_16 : decode b_Pl_countStarts 16 = .ok (.getfield 25, 3) := by decide +kernel
theorem d_Pl_countStarts_19 : decode b_Pl_countStarts 19 = .ok (.istore 4, 2) := by decide +kernel
theorem d_Pl_countStarts_21 : decode b_Pl_countStarts 21 = .ok (.iload 4, 2) := by decide +kernel
theorem d_Pl_countStarts_23 : decode b_Pl_countStarts 23 = .ok (.bipush 36, 2) := by decide +kernel
theorem d_Pl_countStarts_25 : decode b_Pl_countStarts 25 = .ok (.if_icmp .ge 35, 3) := by decide +kernel
theorem d_Pl_countStarts_28 : decode b_Pl_countStarts 28 = .ok (.iload_n 2, 1) := by decide +kernel
theorem d_Pl_countStarts_29 : decode b_Pl_countStarts 29 = .ok (.aload_n 0, 1) := by decide +kernel
theorem d_Pl_countStarts_30 : decode b_Pl_countStarts 30 = .ok (.getfield 35, 3) := by decide +kernel
theorem d_Pl_countStarts_33 : decode b_Pl_countStarts 33 = .ok (.iload 4, 2) := by decide +kernel
theorem d_Pl_countStarts_35 : decode b_Pl_countStarts 35 = .ok (.iaload, 1) := by decide +kernel
theorem d_Pl_countStarts_36 : decode b_Pl_countStarts 36 = .ok (.iload_n 3, 1) := by decide +kernel
theorem d_Pl_countStarts_37 : decode b_Pl_countStarts 37 = .ok (.iconst (-1), 1) := by decide +kernel
theorem d_Pl_countStarts_38 : decode b_Pl_countStarts 38 = .ok (.ixor, 1) := by decide +kernel
theorem d_Pl_countStarts_39 : decode b_Pl_countStarts 39 = .ok (.iand, 1) := by decide +kernel
theorem d_Pl_countStarts_40 : decode b_Pl_countStarts 40 = .ok (.iload_n 1, 1) := by decide +kernel
theorem d_Pl_countStarts_41 : decode b_Pl_countStarts 41 = .ok (.ishr, 1) := by decide +kernel
theorem d_Pl_countStarts_42 : decode b_Pl_countStarts 42 = .ok (.iconst 1, 1) := by decide +kernel
theorem d_Pl_countStarts_43 : decode b_Pl_countStarts 43 = .ok (.iand, 1) := by decide +kernel
theorem d_Pl_countStarts_44 : decode b_Pl_countStarts 44 = .ok (.iadd, 1) := by decide +kernel
theorem d_Pl_countStarts_45 : decode b_Pl_countStarts 45 = .ok (.istore_n 2, 1) := by decide +kernel
theorem d_Pl_countStarts_46 : decode b_Pl_countStarts 46 = .ok (.aload_n 0, 1) := by decide +kernel
theorem d_Pl_countStarts_47 : decode b_Pl_countStarts 47 = .ok (.getfield 35, 3) := by decide +kernel
theorem d_Pl_countStarts_50 : decode b_Pl_countStarts 50 = .ok (.iload 4, 2) := by decide +kernel
theorem d_Pl_countStarts_52 : decode b_Pl_countStarts 52 = .ok (.iaload, 1) := by decide +kernel
theorem d_Pl_countStarts_53 : decode b_Pl_countStarts 53 = .ok (.istore_n 3, 1) := by decide +kernel
theorem d_Pl_countStarts_54 : decode b_Pl_countStarts 54 = .ok (.iinc 4 1, 3) := by decide +kernel
theorem d_Pl_countStarts_57 : decode b_Pl_countStarts 57 = .ok (.goto (-36), 3) := by decide +kernel
theorem d_Pl_countStarts_60 : decode b_Pl_countStarts 60 = .ok (.iload_n 2, 1) := by decide +kernel
theorem d_Pl_countStarts_61 : decode b_Pl_countStarts 61 = .ok (.ireturn, 1) := by decide +kernel
theorem d_HM_run_0 : decode b_HM_run 0 = .ok (.iload_n 1, 1) := by decide +kernel
theorem d_HM_run_1 : decode b_HM_run 1 = .ok (.iconst 1, 1) := by decide +kernel
theorem d_HM_run_2 : decode b_HM_run 2 = .ok (.bipush 36, 2) := by decide +kernel
theorem d_HM_run_4 : decode b_HM_run 4 = .ok (.invokestatic 45, 3) := by decide +kernel
theorem d_HM_run_7 : decode b_HM_run 7 = .ok (.invokestatic 50, 3) := by decide +kernel
theorem d_HM_run_10 : decode b_HM_run 10 = .ok (.aload_n 0, 1) := by decide +kernel
theorem d_HM_run_11 : decode b_HM_run 11 = .ok (.getfield 12, 3) := by decide +kernel
theorem d_HM_run_14 : decode b_HM_run 14 = .ok (.invokevirtual 126, 3) := by decide +kernel
theorem d_HM_run_17 : decode b_HM_run 17 = .ok (.iconst 0, 1) := by decide +kernel
theorem d_HM_run_18 : decode b_HM_run 18 = .ok (.istore_n 2, 1) := by decide +kernel
theorem d_HM_run_19 : decode b_HM_run 19 = .ok (.iload_n 2, 1) := by decide +kernel
theorem d_HM_run_20 : decode b_HM_run 20 = .ok (.iload_n 1, 1) := by decide +kernel
theorem d_HM_run_21 : decode b_HM_run 21 = .ok (.if_icmp .ge 42, 3) := by decide +kernel
theorem d_HM_run_24 : decode b_HM_run 24 = .ok (.aload_n 0, 1) := by decide +kernel
theorem d_HM_run_25 : decode b_HM_run 25 = .ok (.getfield 12, 3) := by decide +kernel
theorem d_HM_run_28 : decode b_HM_run 28 = .ok (.getfield 60, 3) := by decide +kernel
theorem d_HM_run_31 : decode b_HM_run 31 = .ok (.bipush 36, 2) := by decide +kernel
theorem d_HM_run_33 : decode b_HM_run 33 = .ok (.if_icmp .ge 30, 3) := by decide +kernel
theorem d_HM_run_36 : decode b_HM_run 36 = .ok (.aload_n 0, 1) := by decide +kernel
theorem d_HM_run_37 : decode b_HM_run 37 = .ok (.getfield 12, 3) := by decide +kernel
theorem d_HM_run_40 : decode b_HM_run 40 = .ok (.invokevirtual 136, 3) := by decide +kernel
theorem d_HM_run_43 : decode b_HM_run 43 = .ok (.ifCond .eq 20, 3) := by decide +kernel
theorem d_HM_run_46 : decode b_HM_run 46 = .ok (.aload_n 0, 1) := by decide +kernel
theorem d_HM_run_47 : decode b_HM_run 47 = .ok (.aload_n 0, 1) := by decide +kernel
theorem d_HM_run_48 : decode b_HM_run 48 = .ok (.getfield 12, 3) := by decide +kernel
theorem d_HM_run_51 : decode b_HM_run 51 = .ok (.getfield 60, 3) := by decide +kernel
theorem d_HM_run_54 : decode b_HM_run 54 = .ok (.invokevirtual 144, 3) := by decide +kernel
theorem d_HM_run_57 : decode b_HM_run 57 = .ok (.iinc 2 1, 3) := by decide +kernel
theorem d_HM_run_60 : decode b_HM_run 60 = .ok (.goto (-41), 3) := by decide +kernel
theorem d_HM_run_63 : decode b_HM_run 63 = .ok (.aload_n 0, 1) := by decide +kernel
theorem d_HM_run_64 : decode b_HM_run 64 = .ok (.getfield 12, 3) := by decide +kernel
theorem d_HM_run_67 : decode b_HM_run 67 = .ok (.getfield 60, 3) := by decide +kernel
theorem d_HM_run_70 : decode b_HM_run 70 = .ok (.ireturn, 1) := by decide +kernel
theorem d_HM_passHour_0 : decode b_HM_passHour 0 = .ok (.aload_n 0, 1) := by decide +kernel
theorem d_HM_passHour_1 : decode b_HM_passHour 1 = .ok (.getfield 12, 3) := by decide +kernel
theorem d_HM_passHour_4 : decode b_HM_passHour 4 = .ok (.getfield 133, 3) := by decide +kernel
theorem d_HM_passHour_7 : decode b_HM_passHour 7 = .ok (.iload_n 1, 1) := by decide +kernel
theorem d_HM_passHour_8 : decode b_HM_passHour 8 = .ok (.iaload, 1) := by decide +kernel
theorem d_HM_passHour_9 : decode b_HM_passHour 9 = .ok (.istore_n 2, 1) := by decide +kernel
theorem d_HM_passHour_10 : decode b_HM_passHour 10 = .ok (.aload_n 0, 1) := by decide +kernel
theorem d_HM_passHour_11 : decode b_HM_passHour 11 = .ok (.getfield 25, 3) := by decide +kernel
theorem d_HM_passHour_14 : decode b_HM_passHour 14 = .ok (.iconst 0, 1) := by decide +kernel
theorem d_HM_passHour_15 : decode b_HM_passHour 15 = .ok (.dup2, 1) := by decide +kernel
theorem d_HM_passHour_16 : decode b_HM_passHour 16 = .ok (.laload, 1) := by decide +kernel
theorem d_HM_passHour_17 : decode b_HM_passHour 17 = .ok (.aload_n 0, 1) := by decide +kernel
theorem d_HM_passHour_18 : decode b_HM_passHour 18 = .ok (.getfield 12, 3) := by decide +kernel
theorem d_HM_passHour_21 : decode b_HM_passHour 21 = .ok (.iload_n 1, 1) := by decide +kernel
theorem d_HM_passHour_22 : decode b_HM_passHour 22 = .ok (.aload_n 0, 1) := by decide +kernel
theorem d_HM_passHour_23 : decode b_HM_passHour 23 = .ok (.getfield 12, 3) := by decide +kernel
theorem d_HM_passHour_26 : decode b_HM_passHour 26 = .ok (.getfield 164, 3) := by decide +kernel
theorem d_HM_passHour_29 : decode b_HM_passHour 29 = .ok (.iload_n 2, 1) := by decide +kernel
theorem d_HM_passHour_30 : decode b_HM_passHour 30 = .ok (.invokevirtual 167, 3) := by decide +kernel
theorem d_HM_passHour_33 : decode b_HM_passHour 33 = .ok (.ladd, 1) := by decide +kernel
theorem d_HM_passHour_34 : decode b_HM_passHour 34 = .ok (.lastore, 1) := by decide +kernel
theorem d_HM_passHour_35 : decode b_HM_passHour 35 = .ok (.aload_n 0, 1) := by decide +kernel
theorem d_HM_passHour_36 : decode b_HM_passHour 36 = .ok (.getfield 25, 3) := by decide +kernel
theorem d_HM_passHour_39 : decode b_HM_passHour 39 = .ok (.iconst 1, 1) := by decide +kernel
theorem d_HM_passHour_40 : decode b_HM_passHour 40 = .ok (.dup2, 1) := by decide +kernel
theorem d_HM_passHour_41 : decode b_HM_passHour 41 = .ok (.laload, 1) := by decide +kernel
theorem d_HM_passHour_42 : decode b_HM_passHour 42 = .ok (.aload_n 0, 1) := by decide +kernel
theorem d_HM_passHour_43 : decode b_HM_passHour 43 = .ok (.getfield 12, 3) := by decide +kernel
theorem d_HM_passHour_46 : decode b_HM_passHour 46 = .ok (.iload_n 1, 1) := by decide +kernel
theorem d_HM_passHour_47 : decode b_HM_passHour 47 = .ok (.iload_n 2, 1) := by decide +kernel
theorem d_HM_passHour_48 : decode b_HM_passHour 48 = .ok (.invokevirtual 171, 3) := by decide +kernel
theorem d_HM_passHour_51 : decode b_HM_passHour 51 = .ok (.i2l, 1) := by decide +kernel
theorem d_HM_passHour_52 : decode b_HM_passHour 52 = .ok (.ladd, 1) := by decide +kernel
theorem d_HM_passHour_53 : decode b_HM_passHour 53 = .ok (.lastore, 1) := by decide +kernel
theorem d_HM_passHour_54 : decode b_HM_passHour 54 = .ok (.aload_n 0, 1) := by decide +kernel
theorem d_HM_passHour_55 : decode b_HM_passHour 55 = .ok (.getfield 25, 3) := by decide +kernel
theorem d_HM_passHour_58 : decode b_HM_passHour 58 = .ok (.iconst 2, 1) := by decide +kernel
theorem d_HM_passHour_59 : decode b_HM_passHour 59 = .ok (.dup2, 1) := by decide +kernel
theorem d_HM_passHour_60 : decode b_HM_passHour 60 = .ok (.laload, 1) := by decide +kernel
theorem d_HM_passHour_61 : decode b_HM_passHour 61 = .ok (.aload_n 0, 1) := by decide +kernel
theorem d_HM_passHour_62 : decode b_HM_passHour 62 = .ok (.getfield 20, 3) := by decide +kernel
theorem d_HM_passHour_65 : decode b_HM_passHour 65 = .ok (.getfield 114, 3) := by decide +kernel
theorem d_HM_passHour_68 : decode b_HM_passHour 68 = .ok (.iconst 2, 1) := by decide +kernel
theorem d_HM_passHour_69 : decode b_HM_passHour 69 = .ok (.aaload, 1) := by decide +kernel
theorem d_HM_passHour_70 : decode b_HM_passHour 70 = .ok (.iload_n 1, 1) := by decide +kernel
theorem d_HM_passHour_71 : decode b_HM_passHour 71 = .ok (.iaload, 1) := by decide +kernel
theorem d_HM_passHour_72 : decode b_HM_passHour 72 = .ok (.i2l, 1) := by decide +kernel
theorem d_HM_passHour_73 : decode b_HM_passHour 73 = .ok (.ladd, 1) := by decide +kernel
theorem d_HM_passHour_74 : decode b_HM_passHour 74 = .ok (.lastore, 1) := by decide +kernel
theorem d_HM_passHour_75 : decode b_HM_passHour 75 = .ok (.aload_n 0, 1) := by decide +kernel
theorem d_HM_passHour_76 : decode b_HM_passHour 76 = .ok (.getfield 25, 3) := by decide +kernel
theorem d_HM_passHour_79 : decode b_HM_passHour 79 = .ok (.iconst 3, 1) := by decide +kernel
theorem d_HM_passHour_80 : decode b_HM_passHour 80 = .ok (.dup2, 1) := by decide +kernel
theorem d_HM_passHour_81 : decode b_HM_passHour 81 = .ok (.laload, 1) := by decide +kernel
theorem d_HM_passHour_82 : decode b_HM_passHour 82 = .ok (.aload_n 0, 1) := by decide +kernel
theorem d_HM_passHour_83 : decode b_HM_passHour 83 = .ok (.getfield 12, 3) := by decide +kernel
theorem d_HM_passHour_86 : decode b_HM_passHour 86 = .ok (.iload_n 1, 1) := by decide +kernel
theorem d_HM_passHour_87 : decode b_HM_passHour 87 = .ok (.iload_n 2, 1) := by decide +kernel
theorem d_HM_passHour_88 : decode b_HM_passHour 88 = .ok (.invokevirtual 175, 3) := by decide +kernel
theorem d_HM_passHour_91 : decode b_HM_passHour 91 = .ok (.i2l, 1) := by decide +kernel
theorem d_HM_passHour_92 : decode b_HM_passHour 92 = .ok (.ladd, 1) := by decide +kernel
theorem d_HM_passHour_93 : decode b_HM_passHour 93 = .ok (.lastore, 1) := by decide +kernel
theorem d_HM_passHour_94 : decode b_HM_passHour 94 = .ok (.aload_n 0, 1) := by decide +kernel
theorem d_HM_passHour_95 : decode b_HM_passHour 95 = .ok (.getfield 21, 3) := by decide +kernel
theorem d_HM_passHour_98 : decode b_HM_passHour 98 = .ok (.iload_n 1, 1) := by decide +kernel
theorem d_HM_passHour_99 : decode b_HM_passHour 99 = .ok (.iload_n 2, 1) := by decide +kernel
theorem d_HM_passHour_100 : decode b_HM_passHour 100 = .ok (.iastore, 1) := by decide +kernel
theorem d_HM_passHour_101 : decode b_HM_passHour 101 = .ok (.aload_n 0, 1) := by decide +kernel
theorem d_HM_passHour_102 : decode b_HM_passHour 102 = .ok (.getfield 12, 3) := by decide +kernel
theorem d_HM_passHour_105 : decode b_HM_passHour 105 = .ok (.invokevirtual 178, 3) := by decide +kernel
theorem d_HM_passHour_108 : decode b_HM_passHour 108 = .ok (.return_, 1) := by decide +kernel
theorem d_Pl_heatOf_0 : decode b_Pl_heatOf 0 = .ok (.aload_n 0, 1) := by decide +kernel
theorem d_Pl_heatOf_1 : decode b_Pl_heatOf 1 = .ok (.getfield 42, 3) := by decide +kernel
theorem d_Pl_heatOf_4 : decode b_Pl_heatOf 4 = .ok (.iload_n 1, 1) := by decide +kernel
theorem d_Pl_heatOf_5 : decode b_Pl_heatOf 5 = .ok (.bipush 8, 2) := by decide +kernel
theorem d_Pl_heatOf_7 : decode b_Pl_heatOf 7 = .ok (.imul, 1) := by decide +kernel
theorem d_Pl_heatOf_8 : decode b_Pl_heatOf 8 = .ok (.iload_n 2, 1) := by decide +kernel
theorem d_Pl_heatOf_9 : decode b_Pl_heatOf 9 = .ok (.iadd, 1) := by decide +kernel
theorem d_Pl_heatOf_10 : decode b_Pl_heatOf 10 = .ok (.iaload, 1) := by decide +kernel
theorem d_Pl_heatOf_11 : decode b_Pl_heatOf 11 = .ok (.ireturn, 1) := by decide +kernel
theorem d_Pl_powerOf_0 : decode b_Pl_powerOf 0 = .ok (.aload_n 0, 1) := by decide +kernel
theorem d_Pl_powerOf_1 : decode b_Pl_powerOf 1 = .ok (.getfield 45, 3) := by decide +kernel
theorem d_Pl_powerOf_4 : decode b_Pl_powerOf 4 = .ok (.iload_n 1, 1) := by decide +kernel
theorem d_Pl_powerOf_5 : decode b_Pl_powerOf 5 = .ok (.bipush 8, 2) := by decide +kernel
theorem d_Pl_powerOf_7 : decode b_Pl_powerOf 7 = .ok (.imul, 1) := by decide +kernel
theorem d_Pl_powerOf_8 : decode b_Pl_powerOf 8 = .ok (.iload_n 2, 1) := by decide +kernel
theorem d_Pl_powerOf_9 : decode b_Pl_powerOf 9 = .ok (.iadd, 1) := by decide +kernel
theorem d_Pl_powerOf_10 : decode b_Pl_powerOf 10 = .ok (.iaload, 1) := by decide +kernel
theorem d_Pl_powerOf_11 : decode b_Pl_powerOf 11 = .ok (.ireturn, 1) := by decide +kernel
theorem d_Pl_advance_0 : decode b_Pl_advance 0 = .ok (.aload_n 0, 1) := by decide +kernel
theorem d_Pl_advance_1 : decode b_Pl_advance 1 = .ok (.getfield 25, 3) := by decide +kernel
theorem d_Pl_advance_4 : decode b_Pl_advance 4 = .ok (.bipush 36, 2) := by decide +kernel
theorem d_Pl_advance_6 : decode b_Pl_advance 6 = .ok (.if_icmp .ge 49, 3) := by decide +kernel
theorem d_Pl_advance_9 : decode b_Pl_advance 9 = .ok (.aload_n 0, 1) := by decide +kernel
theorem d_Pl_advance_10 : decode b_Pl_advance 10 = .ok (.invokevirtual 88, 3) := by decide +kernel
theorem d_Pl_advance_13 : decode b_Pl_advance 13 = .ok (.ifCond .eq 42, 3) := by decide +kernel
theorem d_Pl_advance_16 : decode b_Pl_advance 16 = .ok (.aload_n 0, 1) := by decide +kernel
theorem d_Pl_advance_17 : decode b_Pl_advance 17 = .ok (.aload_n 0, 1) := by decide +kernel
theorem d_Pl_advance_18 : decode b_Pl_advance 18 = .ok (.getfield 21, 3) := by decide +kernel
theorem d_Pl_advance_21 : decode b_Pl_advance 21 = .ok (.getfield 97, 3) := by decide +kernel
theorem d_Pl_advance_24 : decode b_Pl_advance 24 = .ok (.aload_n 0, 1) := by decide +kernel
theorem d_Pl_advance_25 : decode b_Pl_advance 25 = .ok (.getfield 29, 3) := by decide +kernel
theorem d_Pl_advance_28 : decode b_Pl_advance 28 = .ok (.bipush 8, 2) := by decide +kernel
theorem d_Pl_advance_30 : decode b_Pl_advance 30 = .ok (.imul, 1) := by decide +kernel
theorem d_Pl_advance_31 : decode b_Pl_advance 31 = .ok (.aload_n 0, 1) := by decide +kernel
theorem d_Pl_advance_32 : decode b_Pl_advance 32 = .ok (.getfield 35, 3) := by decide +kernel
theorem d_Pl_advance_35 : decode b_Pl_advance 35 = .ok (.aload_n 0, 1) := by decide +kernel
theorem d_Pl_advance_36 : decode b_Pl_advance 36 = .ok (.getfield 25, 3) := by decide +kernel
theorem d_Pl_advance_39 : decode b_Pl_advance 39 = .ok (.iaload, 1) := by decide +kernel
theorem d_Pl_advance_40 : decode b_Pl_advance 40 = .ok (.iadd, 1) := by decide +kernel
theorem d_Pl_advance_41 : decode b_Pl_advance 41 = .ok (.iaload, 1) := by decide +kernel
theorem d_Pl_advance_42 : decode b_Pl_advance 42 = .ok (.putfield 29, 3) := by decide +kernel
theorem d_Pl_advance_45 : decode b_Pl_advance 45 = .ok (.aload_n 0, 1) := by decide +kernel
theorem d_Pl_advance_46 : decode b_Pl_advance 46 = .ok (.dup, 1) := by decide +kernel
theorem d_Pl_advance_47 : decode b_Pl_advance 47 = .ok (.getfield 25, 3) := by decide +kernel
theorem d_Pl_advance_50 : decode b_Pl_advance 50 = .ok (.iconst 1, 1) := by decide +kernel
theorem d_Pl_advance_51 : decode b_Pl_advance 51 = .ok (.iadd, 1) := by decide +kernel
theorem d_Pl_advance_52 : decode b_Pl_advance 52 = .ok (.putfield 25, 3) := by decide +kernel
theorem d_Pl_advance_55 : decode b_Pl_advance 55 = .ok (.return_, 1) := by decide +kernel
theorem d_HM_ran_0 : decode b_HM_ran 0 = .ok (.iload_n 1, 1) := by decide +kernel
theorem d_HM_ran_1 : decode b_HM_ran 1 = .ok (.invokestatic 105, 3) := by decide +kernel
theorem d_HM_ran_4 : decode b_HM_ran 4 = .ok (.invokestatic 50, 3) := by decide +kernel
theorem d_HM_ran_7 : decode b_HM_ran 7 = .ok (.iload_n 1, 1) := by decide +kernel
theorem d_HM_ran_8 : decode b_HM_ran 8 = .ok (.aload_n 0, 1) := by decide +kernel
theorem d_HM_ran_9 : decode b_HM_ran 9 = .ok (.getfield 12, 3) := by decide +kernel
theorem d_HM_ran_12 : decode b_HM_ran 12 = .ok (.getfield 60, 3) := by decide +kernel
theorem d_HM_ran_15 : decode b_HM_ran 15 = .ok (.if_icmp .ge 12, 3) := by decide +kernel
theorem d_HM_ran_18 : decode b_HM_ran 18 = .ok (.aload_n 0, 1) := by decide +kernel
theorem d_HM_ran_19 : decode b_HM_ran 19 = .ok (.getfield 21, 3) := by decide +kernel
theorem d_HM_ran_22 : decode b_HM_ran 22 = .ok (.iload_n 1, 1) := by decide +kernel
theorem d_HM_ran_23 : decode b_HM_ran 23 = .ok (.iaload, 1) := by decide +kernel
theorem d_HM_ran_24 : decode b_HM_ran 24 = .ok (.goto 4, 3) := by decide +kernel
theorem d_HM_ran_27 : decode b_HM_ran 27 = .ok (.iconst (-1), 1) := by decide +kernel
theorem d_HM_ran_28 : decode b_HM_ran 28 = .ok (.ireturn, 1) := by decide +kernel
theorem d_HM_told_0 : decode b_HM_told 0 = .ok (.iload_n 1, 1) := by decide +kernel
theorem d_HM_told_1 : decode b_HM_told 1 = .ok (.iconst 0, 1) := by decide +kernel
theorem d_HM_told_2 : decode b_HM_told 2 = .ok (.iconst 3, 1) := by decide +kernel
theorem d_HM_told_3 : decode b_HM_told 3 = .ok (.invokestatic 45, 3) := by decide +kernel
theorem d_HM_told_6 : decode b_HM_told 6 = .ok (.invokestatic 50, 3) := by decide +kernel
theorem d_HM_told_9 : decode b_HM_told 9 = .ok (.aload_n 0, 1) := by decide +kernel
theorem d_HM_told_10 : decode b_HM_told 10 = .ok (.getfield 25, 3) := by decide +kernel
theorem d_HM_told_13 : decode b_HM_told 13 = .ok (.iload_n 1, 1) := by decide +kernel
theorem d_HM_told_14 : decode b_HM_told 14 = .ok (.laload, 1) := by decide +kernel
theorem d_HM_told_15 : decode b_HM_told 15 = .ok (.lreturn, 1) := by decide +kernel
theorem d_HM_corner_0 : decode b_HM_corner 0 = .ok (.iload_n 1, 1) := by decide +kernel
theorem d_HM_corner_1 : decode b_HM_corner 1 = .ok (.invokestatic 77, 3) := by decide +kernel
theorem d_HM_corner_4 : decode b_HM_corner 4 = .ok (.ifCond .eq 18, 3) := by decide +kernel
theorem d_HM_corner_7 : decode b_HM_corner 7 = .ok (.iload_n 2, 1) := by decide +kernel
theorem d_HM_corner_8 : decode b_HM_corner 8 = .ok (.iconst 0, 1) := by decide +kernel
theorem d_HM_corner_9 : decode b_HM_corner 9 = .ok (.sipush 10000, 3) := by decide +kernel
theorem d_HM_corner_12 : decode b_HM_corner 12 = .ok (.invokestatic 45, 3) := by decide +kernel
theorem d_HM_corner_15 : decode b_HM_corner 15 = .ok (.ifCond .eq 7, 3) := by decide +kernel
theorem d_HM_corner_18 : decode b_HM_corner 18 = .ok (.iconst 1, 1) := by decide +kernel
theorem d_HM_corner_19 : decode b_HM_corner 19 = .ok (.goto 4, 3) := by decide +kernel
theorem d_HM_corner_22 : decode b_HM_corner 22 = .ok (.iconst 0, 1) := by decide +kernel
theorem d_HM_corner_23 : decode b_HM_corner 23 = .ok (.invokestatic 50, 3) := by decide +kernel
theorem d_HM_corner_26 : decode b_HM_corner 26 = .ok (.aload_n 0, 1) := by decide +kernel
theorem d_HM_corner_27 : decode b_HM_corner 27 = .ok (.getfield 34, 3) := by decide +kernel
theorem d_HM_corner_30 : decode b_HM_corner 30 = .ok (.iload_n 1, 1) := by decide +kernel
theorem d_HM_corner_31 : decode b_HM_corner 31 = .ok (.invokevirtual 89, 3) := by decide +kernel
theorem d_HM_corner_34 : decode b_HM_corner 34 = .ok (.invokestatic 63, 3) := by decide +kernel
theorem d_HM_corner_37 : decode b_HM_corner 37 = .ok (.aload_n 0, 1) := by decide +kernel
theorem d_HM_corner_38 : decode b_HM_corner 38 = .ok (.getfield 34, 3) := by decide +kernel
theorem d_HM_corner_41 : decode b_HM_corner 41 = .ok (.iload_n 1, 1) := by decide +kernel
theorem d_HM_corner_42 : decode b_HM_corner 42 = .ok (.iload_n 2, 1) := by decide +kernel
theorem d_HM_corner_43 : decode b_HM_corner 43 = .ok (.invokevirtual 92, 3) := by decide +kernel
theorem d_HM_corner_46 : decode b_HM_corner 46 = .ok (.aload_n 0, 1) := by decide +kernel
theorem d_HM_corner_47 : decode b_HM_corner 47 = .ok (.getfield 34, 3) := by decide +kernel
theorem d_HM_corner_50 : decode b_HM_corner 50 = .ok (.getfield 102, 3) := by decide +kernel
theorem d_HM_corner_53 : decode b_HM_corner 53 = .ok (.ireturn, 1) := by decide +kernel
theorem d_HM_curve_0 : decode b_HM_curve 0 = .ok (.iload_n 1, 1) := by decide +kernel
theorem d_HM_curve_1 : decode b_HM_curve 1 = .ok (.invokestatic 77, 3) := by decide +kernel
theorem d_HM_curve_4 : decode b_HM_curve 4 = .ok (.invokestatic 50, 3) := by decide +kernel
theorem d_HM_curve_7 : decode b_HM_curve 7 = .ok (.aload_n 0, 1) := by decide +kernel
theorem d_HM_curve_8 : decode b_HM_curve 8 = .ok (.getfield 34, 3) := by decide +kernel
theorem d_HM_curve_11 : decode b_HM_curve 11 = .ok (.iload_n 1, 1) := by decide +kernel
theorem d_HM_curve_12 : decode b_HM_curve 12 = .ok (.invokevirtual 147, 3) := by decide +kernel
theorem d_HM_curve_15 : decode b_HM_curve 15 = .ok (.ireturn, 1) := by decide +kernel
theorem d_Ln_heldValueAt_0 : decode b_Ln_heldValueAt 0 = .ok (.aload_n 0, 1) := by decide +kernel
theorem d_Ln_heldValueAt_1 : decode b_Ln_heldValueAt 1 = .ok (.getfield 9, 3) := by decide +kernel
theorem d_Ln_heldValueAt_4 : decode b_Ln_heldValueAt 4 = .ok (.ifCond .ne 5, 3) := by decide +kernel
theorem d_Ln_heldValueAt_7 : decode b_Ln_heldValueAt 7 = .ok (.iconst (-1), 1) := by decide +kernel
theorem d_Ln_heldValueAt_8 : decode b_Ln_heldValueAt 8 = .ok (.ireturn, 1) := by decide +kernel
theorem d_Ln_heldValueAt_9 : decode b_Ln_heldValueAt 9 = .ok (.aload_n 0, 1) := by decide +kernel
theorem d_Ln_heldValueAt_10 : decode b_Ln_heldValueAt 10 = .ok (.iload_n 1, 1) := by decide +kernel
theorem d_Ln_heldValueAt_11 : decode b_Ln_heldValueAt 11 = .ok (.aload_n 0, 1) := by decide +kernel
theorem d_Ln_heldValueAt_12 : decode b_Ln_heldValueAt 12 = .ok (.getfield 21, 3) := by decide +kernel
theorem d_Ln_heldValueAt_15 : decode b_Ln_heldValueAt 15 = .ok (.iconst 0, 1) := by decide +kernel
theorem d_Ln_heldValueAt_16 : decode b_Ln_heldValueAt 16 = .ok (.iaload, 1) := by decide +kernel
theorem d_Ln_heldValueAt_17 : decode b_Ln_heldValueAt 17 = .ok (.invokestatic 15, 3) := by decide +kernel
theorem d_Ln_heldValueAt_20 : decode b_Ln_heldValueAt 20 = .ok (.aload_n 0, 1) := by decide +kernel
theorem d_Ln_heldValueAt_21 : decode b_Ln_heldValueAt 21 = .ok (.getfield 21, 3) := by decide +kernel
theorem d_Ln_heldValueAt_24 : decode b_Ln_heldValueAt 24 = .ok (.aload_n 0, 1) := by decide +kernel
theorem d_Ln_heldValueAt_25 : decode b_Ln_heldValueAt 25 = .ok (.getfield 9, 3) := by decide +kernel
theorem d_Ln_heldValueAt_28 : decode b_Ln_heldValueAt 28 = .ok (.iconst 1, 1) := by decide +kernel
theorem d_Ln_heldValueAt_29 : decode b_Ln_heldValueAt 29 = .ok (.isub, 1) := by decide +kernel
theorem d_Ln_heldValueAt_30 : decode b_Ln_heldValueAt 30 = .ok (.iaload, 1) := by decide +kernel
theorem d_Ln_heldValueAt_31 : decode b_Ln_heldValueAt 31 = .ok (.invokestatic 36, 3) := by decide +kernel
theorem d_Ln_heldValueAt_34 : decode b_Ln_heldValueAt 34 = .ok (.iconst 0, 1) := by decide +kernel
theorem d_Ln_heldValueAt_35 : decode b_Ln_heldValueAt 35 = .ok (.invokevirtual 39, 3) := by decide +kernel
theorem d_Ln_heldValueAt_38 : decode b_Ln_heldValueAt 38 = .ok (.ireturn, 1) := by decide +kernel
theorem d_Ma_min_0 : decode b_Ma_min 0 = .ok (.iload_n 0, 1) := by decide +kernel
theorem d_Ma_min_1 : decode b_Ma_min 1 = .ok (.iload_n 1, 1) := by decide +kernel
theorem d_Ma_min_2 : decode b_Ma_min 2 = .ok (.if_icmp .gt 7, 3) := by decide +kernel
theorem d_Ma_min_5 : decode b_Ma_min 5 = .ok (.iload_n 0, 1) := by decide +kernel
theorem d_Ma_min_6 : decode b_Ma_min 6 = .ok (.goto 4, 3) := by decide +kernel
theorem d_Ma_min_9 : decode b_Ma_min 9 = .ok (.iload_n 1, 1) := by decide +kernel
theorem d_Ma_min_10 : decode b_Ma_min 10 = .ok (.ireturn, 1) := by decide +kernel
theorem d_HM_ground_0 : decode b_HM_ground 0 = .ok (.iload_n 1, 1) := by decide +kernel
theorem d_HM_ground_1 : decode b_HM_ground 1 = .ok (.aload_n 0, 1) := by decide +kernel
theorem d_HM_ground_2 : decode b_HM_ground 2 = .ok (.getfield 41, 3) := by decide +kernel
theorem d_HM_ground_5 : decode b_HM_ground 5 = .ok (.invokevirtual 150, 3) := by decide +kernel
theorem d_HM_ground_8 : decode b_HM_ground 8 = .ok (.sipush 1000, 3) := by decide +kernel
theorem d_HM_ground_11 : decode b_HM_ground 11 = .ok (.invokestatic 45, 3) := by decide +kernel
theorem d_HM_ground_14 : decode b_HM_ground 14 = .ok (.invokestatic 50, 3) := by decide +kernel
theorem d_HM_ground_17 : decode b_HM_ground 17 = .ok (.aload_n 0, 1) := by decide +kernel
theorem d_HM_ground_18 : decode b_HM_ground 18 = .ok (.getfield 41, 3) := by decide +kernel
theorem d_HM_ground_21 : decode b_HM_ground 21 = .ok (.getfield 154, 3) := by decide +kernel
theorem d_HM_ground_24 : decode b_HM_ground 24 = .ok (.bipush 36, 2) := by decide +kernel
theorem d_HM_ground_26 : decode b_HM_ground 26 = .ok (.if_icmp .ge 7, 3) := by decide +kernel
theorem d_HM_ground_29 : decode b_HM_ground 29 = .ok (.iconst 1, 1) := by decide +kernel
theorem d_HM_ground_30 : decode b_HM_ground 30 = .ok (.goto 4, 3) := by decide +kernel
theorem d_HM_ground_33 : decode b_HM_ground 33 = .ok (.iconst 0, 1) := by decide +kernel
theorem d_HM_ground_34 : decode b_HM_ground 34 = .ok (.invokestatic 63, 3) := by decide +kernel
theorem d_HM_ground_37 : decode b_HM_ground 37 = .ok (.aload_n 0, 1) := by decide +kernel
theorem d_HM_ground_38 : decode b_HM_ground 38 = .ok (.getfield 41, 3) := by decide +kernel
theorem d_HM_ground_41 : decode b_HM_ground 41 = .ok (.iload_n 1, 1) := by decide +kernel
theorem d_HM_ground_42 : decode b_HM_ground 42 = .ok (.invokevirtual 155, 3) := by decide +kernel
theorem d_HM_ground_45 : decode b_HM_ground 45 = .ok (.aload_n 0, 1) := by decide +kernel
theorem d_HM_ground_46 : decode b_HM_ground 46 = .ok (.getfield 41, 3) := by decide +kernel
theorem d_HM_ground_49 : decode b_HM_ground 49 = .ok (.getfield 154, 3) := by decide +kernel
theorem d_HM_ground_52 : decode b_HM_ground 52 = .ok (.ireturn, 1) := by decide +kernel
theorem d_Bh_lastNumber_0 : decode b_Bh_lastNumber 0 = .ok (.aload_n 0, 1) := by decide +kernel
theorem d_Bh_lastNumber_1 : decode b_Bh_lastNumber 1 = .ok (.getfield 15, 3) := by decide +kernel
theorem d_Bh_lastNumber_4 : decode b_Bh_lastNumber 4 = .ok (.ifCond .ne 7, 3) := by decide +kernel
theorem d_Bh_lastNumber_7 : decode b_Bh_lastNumber 7 = .ok (.iconst 0, 1) := by decide +kernel
theorem d_Bh_lastNumber_8 : decode b_Bh_lastNumber 8 = .ok (.goto 14, 3) := by decide +kernel
theorem d_Bh_lastNumber_11 : decode b_Bh_lastNumber 11 = .ok (.aload_n 0, 1) := by decide +kernel
theorem d_Bh_lastNumber_12 : decode b_Bh_lastNumber 12 = .ok (.getfield 9, 3) := by decide +kernel
theorem d_Bh_lastNumber_15 : decode b_Bh_lastNumber 15 = .ok (.aload_n 0, 1) := by decide +kernel
theorem d_Bh_lastNumber_16 : decode b_Bh_lastNumber 16 = .ok (.getfield 15, 3) := by decide +kernel
theorem d_Bh_lastNumber_19 : decode b_Bh_lastNumber 19 = .ok (.iconst 1, 1) := by decide +kernel
theorem d_Bh_lastNumber_20 : decode b_Bh_lastNumber 20 = .ok (.isub, 1) := by decide +kernel
theorem d_Bh_lastNumber_21 : decode b_Bh_lastNumber 21 = .ok (.iaload, 1) := by decide +kernel
theorem d_Bh_lastNumber_22 : decode b_Bh_lastNumber 22 = .ok (.ireturn, 1) := by decide +kernel
theorem d_Bh_add_0 : decode b_Bh_add 0 = .ok (.aload_n 0, 1) := by decide +kernel
theorem d_Bh_add_1 : decode b_Bh_add 1 = .ok (.getfield 15, 3) := by decide +kernel
theorem d_Bh_add_4 : decode b_Bh_add 4 = .ok (.bipush 36, 2) := by decide +kernel
theorem d_Bh_add_6 : decode b_Bh_add 6 = .ok (.if_icmp .ge 23, 3) := by decide +kernel
theorem d_Bh_add_9 : decode b_Bh_add 9 = .ok (.aload_n 0, 1) := by decide +kernel
theorem d_Bh_add_10 : decode b_Bh_add 10 = .ok (.getfield 9, 3) := by decide +kernel
theorem d_Bh_add_13 : decode b_Bh_add 13 = .ok (.aload_n 0, 1) := by decide +kernel
theorem d_Bh_add_14 : decode b_Bh_add 14 = .ok (.getfield 15, 3) := by decide +kernel
theorem d_Bh_add_17 : decode b_Bh_add 17 = .ok (.iload_n 1, 1) := by decide +kernel
theorem d_Bh_add_18 : decode b_Bh_add 18 = .ok (.iastore, 1) := by decide +kernel
theorem d_Bh_add_19 : decode b_Bh_add 19 = .ok (.aload_n 0, 1) := by decide +kernel
theorem d_Bh_add_20 : decode b_Bh_add 20 = .ok (.dup, 1) := by decide +kernel
theorem d_Bh_add_21 : decode b_Bh_add 21 = .ok (.getfield 15, 3) := by decide +kernel
theorem d_Bh_add_24 : decode b_Bh_add 24 = .ok (.iconst 1, 1) := by decide +kernel
theorem d_Bh_add_25 : decode b_Bh_add 25 = .ok (.iadd, 1) := by decide +kernel
theorem d_Bh_add_26 : decode b_Bh_add 26 = .ok (.putfield 15, 3) := by decide +kernel
theorem d_Bh_add_29 : decode b_Bh_add 29 = .ok (.return_, 1) := by decide +kernel
theorem d_HM_load_0 : decode b_HM_load 0 = .ok (.iload_n 1, 1) := by decide +kernel
theorem d_HM_load_1 : decode b_HM_load 1 = .ok (.invokestatic 105, 3) := by decide +kernel
theorem d_HM_load_4 : decode b_HM_load 4 = .ok (.ifCond .eq 20, 3) := by decide +kernel
theorem d_HM_load_7 : decode b_HM_load 7 = .ok (.iload_n 2, 1) := by decide +kernel
theorem d_HM_load_8 : decode b_HM_load 8 = .ok (.sipush (-1000), 3) := by decide +kernel
theorem d_HM_load_11 : decode b_HM_load 11 = .ok (.sipush 1000, 3) := by decide +kernel
theorem d_HM_load_14 : decode b_HM_load 14 = .ok (.invokestatic 45, 3) := by decide +kernel
theorem d_HM_load_17 : decode b_HM_load 17 = .ok (.ifCond .eq 7, 3) := by decide +kernel
theorem d_HM_load_20 : decode b_HM_load 20 = .ok (.iconst 1, 1) := by decide +kernel
theorem d_HM_load_21 : decode b_HM_load 21 = .ok (.goto 4, 3) := by decide +kernel
theorem d_HM_load_24 : decode b_HM_load 24 = .ok (.iconst 0, 1) := by decide +kernel
theorem d_HM_load_25 : decode b_HM_load 25 = .ok (.invokestatic 50, 3) := by decide +kernel
theorem d_HM_load_28 : decode b_HM_load 28 = .ok (.aload_n 0, 1) := by decide +kernel
theorem d_HM_load_29 : decode b_HM_load 29 = .ok (.getfield 41, 3) := by decide +kernel
theorem d_HM_load_32 : decode b_HM_load 32 = .ok (.getfield 157, 3) := by decide +kernel
theorem d_HM_load_35 : decode b_HM_load 35 = .ok (.iload_n 1, 1) := by decide +kernel
theorem d_HM_load_36 : decode b_HM_load 36 = .ok (.iaload, 1) := by decide +kernel
theorem d_HM_load_37 : decode b_HM_load 37 = .ok (.istore_n 3, 1) := by decide +kernel
theorem d_HM_load_38 : decode b_HM_load 38 = .ok (.aload_n 0, 1) := by decide +kernel
theorem d_HM_load_39 : decode b_HM_load 39 = .ok (.getfield 41, 3) := by decide +kernel
theorem d_HM_load_42 : decode b_HM_load 42 = .ok (.getfield 157, 3) := by decide +kernel
theorem d_HM_load_45 : decode b_HM_load 45 = .ok (.iload_n 1, 1) := by decide +kernel
theorem d_HM_load_46 : decode b_HM_load 46 = .ok (.iload_n 2, 1) := by decide +kernel
theorem d_HM_load_47 : decode b_HM_load 47 = .ok (.iastore, 1) := by decide +kernel
theorem d_HM_load_48 : decode b_HM_load 48 = .ok (.iload_n 3, 1) := by decide +kernel
theorem d_HM_load_49 : decode b_HM_load 49 = .ok (.ireturn, 1) := by decide +kernel
theorem d_HM_fall_0 : decode b_HM_fall 0 = .ok (.iload_n 1, 1) := by decide +kernel
theorem d_HM_fall_1 : decode b_HM_fall 1 = .ok (.invokestatic 105, 3) := by decide +kernel
theorem d_HM_fall_4 : decode b_HM_fall 4 = .ok (.invokestatic 50, 3) := by decide +kernel
theorem d_HM_fall_7 : decode b_HM_fall 7 = .ok (.aload_n 0, 1) := by decide +kernel
theorem d_HM_fall_8 : decode b_HM_fall 8 = .ok (.getfield 41, 3) := by decide +kernel
theorem d_HM_fall_11 : decode b_HM_fall 11 = .ok (.iload_n 1, 1) := by decide +kernel
theorem d_HM_fall_12 : decode b_HM_fall 12 = .ok (.invokevirtual 160, 3) := by decide +kernel
theorem d_HM_fall_15 : decode b_HM_fall 15 = .ok (.lreturn, 1) := by decide +kernel
theorem d_Bh_fallIn_0 : decode b_Bh_fallIn 0 = .ok (.lconst 0, 1) := by decide +kernel
theorem d_Bh_fallIn_1 : decode b_Bh_fallIn 1 = .ok (.lstore_n 2, 1) := by decide +kernel
theorem d_Bh_fallIn_2 : decode b_Bh_fallIn 2 = .ok (.iconst 0, 1) := by decide +kernel
theorem d_Bh_fallIn_3 : decode b_Bh_fallIn 3 = .ok (.istore 4, 2) := by decide +kernel
theorem d_Bh_fallIn_5 : decode b_Bh_fallIn 5 = .ok (.iconst 0, 1) := by decide +kernel
theorem d_Bh_fallIn_6 : decode b_Bh_fallIn 6 = .ok (.istore 5, 2) := by decide +kernel
theorem d_Bh_fallIn_8 : decode b_Bh_fallIn 8 = .ok (.iload 5, 2) := by decide +kernel
theorem d_Bh_fallIn_10 : decode b_Bh_fallIn 10 = .ok (.iload_n 1, 1) := by decide +kernel
theorem d_Bh_fallIn_11 : decode b_Bh_fallIn 11 = .ok (.if_icmp .gt 49, 3) := by decide +kernel
theorem d_Bh_fallIn_14 : decode b_Bh_fallIn 14 = .ok (.iload 5, 2) := by decide +kernel
theorem d_Bh_fallIn_16 : decode b_Bh_fallIn 16 = .ok (.bipush 36, 2) := by decide +kernel
theorem d_Bh_fallIn_18 : decode b_Bh_fallIn 18 = .ok (.if_icmp .ge 42, 3) := by decide +kernel
theorem d_Bh_fallIn_21 : decode b_Bh_fallIn 21 = .ok (.lload_n 2, 1) := by decide +kernel
theorem d_Bh_fallIn_22 : decode b_Bh_fallIn 22 = .ok (.aload_n 0, 1) := by decide +kernel
theorem d_Bh_fallIn_23 : decode b_Bh_fallIn 23 = .ok (.getfield 19, 3) := by decide +kernel
theorem d_Bh_fallIn_26 : decode b_Bh_fallIn 26 = .ok (.iload 5, 2) := by decide +kernel
theorem d_Bh_fallIn_28 : decode b_Bh_fallIn 28 = .ok (.iaload, 1) := by decide +kernel
theorem d_Bh_fallIn_29 : decode b_Bh_fallIn 29 = .ok (.iload 4, 2) := by decide +kernel
theorem d_Bh_fallIn_31 : decode b_Bh_fallIn 31 = .ok (.isub, 1) := by decide +kernel
theorem d_Bh_fallIn_32 : decode b_Bh_fallIn 32 = .ok (.i2l, 1) := by decide +kernel
theorem d_Bh_fallIn_33 : decode b_Bh_fallIn 33 = .ok (.aload_n 0, 1) := by decide +kernel
theorem d_Bh_fallIn_34 : decode b_Bh_fallIn 34 = .ok (.iload_n 1, 1) := by decide +kernel
theorem d_Bh_fallIn_35 : decode b_Bh_fallIn 35 = .ok (.iload 5, 2) := by decide +kernel
theorem d_Bh_fallIn_37 : decode b_Bh_fallIn 37 = .ok (.isub, 1) := by decide +kernel
theorem d_Bh_fallIn_38 : decode b_Bh_fallIn 38 = .ok (.invokevirtual 22, 3) := by decide +kernel
theorem d_Bh_fallIn_41 : decode b_Bh_fallIn 41 = .ok (.i2l, 1) := by decide +kernel
theorem d_Bh_fallIn_42 : decode b_Bh_fallIn 42 = .ok (.lmul, 1) := by decide +kernel
theorem d_Bh_fallIn_43 : decode b_Bh_fallIn 43 = .ok (.ladd, 1) := by decide +kernel
theorem d_Bh_fallIn_44 : decode b_Bh_fallIn 44 = .ok (.lstore_n 2, 1) := by decide +kernel
theorem d_Bh_fallIn_45 : decode b_Bh_fallIn 45 = .ok (.aload_n 0, 1) := by decide +kernel
theorem d_Bh_fallIn_46 : decode b_Bh_fallIn 46 = .ok (.getfield 19, 3) := by decide +kernel
theorem d_Bh_fallIn_49 : decode b_Bh_fallIn 49 = .ok (.iload 5, 2) := by decide +kernel
theorem d_Bh_fallIn_51 : decode b_Bh_fallIn 51 = .ok (.iaload, 1) := by decide +kernel
theorem d_Bh_fallIn_52 : decode b_Bh_fallIn 52 = .ok (.istore 4, 2) := by decide +kernel
theorem d_Bh_fallIn_54 : decode b_Bh_fallIn 54 = .ok (.iinc 5 1, 3) := by decide +kernel
theorem d_Bh_fallIn_57 : decode b_Bh_fallIn 57 = .ok (.goto (-49), 3) := by decide +kernel
theorem d_Bh_fallIn_60 : decode b_Bh_fallIn 60 = .ok (.lload_n 2, 1) := by decide +kernel
theorem d_Bh_fallIn_61 : decode b_Bh_fallIn 61 = .ok (.lreturn, 1) := by decide +kernel
theorem d_Bh_numberAfter_0 : decode b_Bh_numberAfter 0 = .ok (.iload_n 1, 1) := by decide +kernel
theorem d_Bh_numberAfter_1 : decode b_Bh_numberAfter 1 = .ok (.aload_n 0, 1) := by decide +kernel
theorem d_Bh_numberAfter_2 : decode b_Bh_numberAfter 2 = .ok (.getfield 15, 3) := by decide +kernel
theorem d_Bh_numberAfter_5 : decode b_Bh_numberAfter 5 = .ok (.if_icmp .ge 12, 3) := by decide +kernel
theorem d_Bh_numberAfter_8 : decode b_Bh_numberAfter 8 = .ok (.aload_n 0, 1) := by decide +kernel
theorem d_Bh_numberAfter_9 : decode b_Bh_numberAfter 9 = .ok (.getfield 9, 3) := by decide +kernel
theorem d_Bh_numberAfter_12 : decode b_Bh_numberAfter 12 = .ok (.iload_n 1, 1) := by decide +kernel
theorem d_Bh_numberAfter_13 : decode b_Bh_numberAfter 13 = .ok (.iaload, 1) := by decide +kernel
theorem d_Bh_numberAfter_14 : decode b_Bh_numberAfter 14 = .ok (.goto 7, 3) := by decide +kernel
theorem d_Bh_numberAfter_17 : decode b_Bh_numberAfter 17 = .ok (.aload_n 0, 1) := by decide +kernel
theorem d_Bh_numberAfter_18 : decode b_Bh_numberAfter 18 = .ok (.invokevirtual 26, 3) := by decide +kernel
theorem d_Bh_numberAfter_21 : decode b_Bh_numberAfter 21 = .ok (.ireturn, 1) := by decide +kernel
