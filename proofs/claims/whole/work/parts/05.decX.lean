theorem d_E_init_0 : decode cE_init 0 = .ok (.aload_n 0, 1) := by decide +kernel
theorem d_E_init_1 : decode cE_init 1 = .ok (.invokespecial 3, 3) := by decide +kernel
theorem d_E_init_4 : decode cE_init 4 = .ok (.aload_n 0, 1) := by decide +kernel
theorem d_E_init_5 : decode cE_init 5 = .ok (.new 9, 3) := by decide +kernel
theorem d_E_init_8 : decode cE_init 8 = .ok (.dup, 1) := by decide +kernel
theorem d_E_init_9 : decode cE_init 9 = .ok (.invokespecial 11, 3) := by decide +kernel
theorem d_E_init_12 : decode cE_init 12 = .ok (.putfield 12, 3) := by decide +kernel
theorem d_E_init_15 : decode cE_init 15 = .ok (.aload_n 0, 1) := by decide +kernel
theorem d_E_init_16 : decode cE_init 16 = .ok (.new 16, 3) := by decide +kernel
theorem d_E_init_19 : decode cE_init 19 = .ok (.dup, 1) := by decide +kernel
theorem d_E_init_20 : decode cE_init 20 = .ok (.invokespecial 18, 3) := by decide +kernel
theorem d_E_init_23 : decode cE_init 23 = .ok (.putfield 19, 3) := by decide +kernel
theorem d_E_init_26 : decode cE_init 26 = .ok (.aload_n 0, 1) := by decide +kernel
theorem d_E_init_27 : decode cE_init 27 = .ok (.new 23, 3) := by decide +kernel
theorem d_E_init_30 : decode cE_init 30 = .ok (.dup, 1) := by decide +kernel
theorem d_E_init_31 : decode cE_init 31 = .ok (.invokespecial 25, 3) := by decide +kernel
theorem d_E_init_34 : decode cE_init 34 = .ok (.putfield 26, 3) := by decide +kernel
theorem d_E_init_37 : decode cE_init 37 = .ok (.return_, 1) := by decide +kernel
theorem d_T_init_0 : decode cT_init 0 = .ok (.aload_n 0, 1) := by decide +kernel
theorem d_T_init_1 : decode cT_init 1 = .ok (.invokespecial 3, 3) := by decide +kernel
theorem d_T_init_4 : decode cT_init 4 = .ok (.aload_n 0, 1) := by decide +kernel
theorem d_T_init_5 : decode cT_init 5 = .ok (.bipush 9, 2) := by decide +kernel
theorem d_T_init_7 : decode cT_init 7 = .ok (.newarray .int, 2) := by decide +kernel
theorem d_T_init_9 : decode cT_init 9 = .ok (.putfield 9, 3) := by decide +kernel
theorem d_T_init_12 : decode cT_init 12 = .ok (.aload_n 0, 1) := by decide +kernel
theorem d_T_init_13 : decode cT_init 13 = .ok (.bipush 6, 2) := by decide +kernel
theorem d_T_init_15 : decode cT_init 15 = .ok (.newarray .int, 2) := by decide +kernel
theorem d_T_init_17 : decode cT_init 17 = .ok (.putfield 15, 3) := by decide +kernel
theorem d_T_init_20 : decode cT_init 20 = .ok (.aload_n 0, 1) := by decide +kernel
theorem d_T_init_21 : decode cT_init 21 = .ok (.bipush 40, 2) := by decide +kernel
theorem d_T_init_23 : decode cT_init 23 = .ok (.newarray .int, 2) := by decide +kernel
theorem d_T_init_25 : decode cT_init 25 = .ok (.putfield 18, 3) := by decide +kernel
theorem d_T_init_28 : decode cT_init 28 = .ok (.aload_n 0, 1) := by decide +kernel
theorem d_T_init_29 : decode cT_init 29 = .ok (.bipush 40, 2) := by decide +kernel
theorem d_T_init_31 : decode cT_init 31 = .ok (.newarray .boolean, 2) := by decide +kernel
theorem d_T_init_33 : decode cT_init 33 = .ok (.putfield 21, 3) := by decide +kernel
theorem d_T_init_36 : decode cT_init 36 = .ok (.aload_n 0, 1) := by decide +kernel
theorem d_T_init_37 : decode cT_init 37 = .ok (.iconst 3, 1) := by decide +kernel
theorem d_T_init_38 : decode cT_init 38 = .ok (.bipush 9, 2) := by decide +kernel
theorem d_T_init_40 : decode cT_init 40 = .ok (.multianewarray 25 2, 4) := by decide +kernel
theorem d_T_init_44 : decode cT_init 44 = .ok (.putfield 27, 3) := by decide +kernel
theorem d_T_init_47 : decode cT_init 47 = .ok (.aload_n 0, 1) := by decide +kernel
theorem d_T_init_48 : decode cT_init 48 = .ok (.bipush 9, 2) := by decide +kernel
theorem d_T_init_50 : decode cT_init 50 = .ok (.newarray .int, 2) := by decide +kernel
theorem d_T_init_52 : decode cT_init 52 = .ok (.putfield 30, 3) := by decide +kernel
theorem d_T_init_55 : decode cT_init 55 = .ok (.aload_n 0, 1) := by decide +kernel
theorem d_T_init_56 : decode cT_init 56 = .ok (.bipush 9, 2) := by decide +kernel
theorem d_T_init_58 : decode cT_init 58 = .ok (.newarray .int, 2) := by decide +kernel
theorem d_T_init_60 : decode cT_init 60 = .ok (.putfield 33, 3) := by decide +kernel
theorem d_T_init_63 : decode cT_init 63 = .ok (.aload_n 0, 1) := by decide +kernel
theorem d_T_init_64 : decode cT_init 64 = .ok (.iconst 0, 1) := by decide +kernel
theorem d_T_init_65 : decode cT_init 65 = .ok (.putfield 36, 3) := by decide +kernel
theorem d_T_init_68 : decode cT_init 68 = .ok (.aload_n 0, 1) := by decide +kernel
theorem d_T_init_69 : decode cT_init 69 = .ok (.iconst 0, 1) := by decide +kernel
theorem d_T_init_70 : decode cT_init 70 = .ok (.putfield 40, 3) := by decide +kernel
theorem d_T_init_73 : decode cT_init 73 = .ok (.aload_n 0, 1) := by decide +kernel
theorem d_T_init_74 : decode cT_init 74 = .ok (.new 44, 3) := by decide +kernel
theorem d_T_init_77 : decode cT_init 77 = .ok (.dup, 1) := by decide +kernel
theorem d_T_init_78 : decode cT_init 78 = .ok (.invokespecial 46, 3) := by decide +kernel
theorem d_T_init_81 : decode cT_init 81 = .ok (.putfield 47, 3) := by decide +kernel
theorem d_T_init_84 : decode cT_init 84 = .ok (.aload_n 0, 1) := by decide +kernel
theorem d_T_init_85 : decode cT_init 85 = .ok (.getfield 30, 3) := by decide +kernel
theorem d_T_init_88 : decode cT_init 88 = .ok (.iconst (-1), 1) := by decide +kernel
theorem d_T_init_89 : decode cT_init 89 = .ok (.invokestatic 51, 3) := by decide +kernel
theorem d_T_init_92 : decode cT_init 92 = .ok (.aload_n 0, 1) := by decide +kernel
theorem d_T_init_93 : decode cT_init 93 = .ok (.getfield 33, 3) := by decide +kernel
theorem d_T_init_96 : decode cT_init 96 = .ok (.iconst (-1), 1) := by decide +kernel
theorem d_T_init_97 : decode cT_init 97 = .ok (.invokestatic 51, 3) := by decide +kernel
theorem d_T_init_100 : decode cT_init 100 = .ok (.return_, 1) := by decide +kernel
theorem d_P_init_0 : decode cP_init 0 = .ok (.aload_n 0, 1) := by decide +kernel
theorem d_P_init_1 : decode cP_init 1 = .ok (.invokespecial 3, 3) := by decide +kernel
theorem d_P_init_4 : decode cP_init 4 = .ok (.aload_n 0, 1) := by decide +kernel
theorem d_P_init_5 : decode cP_init 5 = .ok (.sipush 512, 3) := by decide +kernel
theorem d_P_init_8 : decode cP_init 8 = .ok (.newarray .int, 2) := by decide +kernel
theorem d_P_init_10 : decode cP_init 10 = .ok (.putfield 11, 3) := by decide +kernel
theorem d_P_init_13 : decode cP_init 13 = .ok (.aload_n 0, 1) := by decide +kernel
theorem d_P_init_14 : decode cP_init 14 = .ok (.sipush 512, 3) := by decide +kernel
theorem d_P_init_17 : decode cP_init 17 = .ok (.newarray .int, 2) := by decide +kernel
theorem d_P_init_19 : decode cP_init 19 = .ok (.putfield 15, 3) := by decide +kernel
theorem d_P_init_22 : decode cP_init 22 = .ok (.aload_n 0, 1) := by decide +kernel
theorem d_P_init_23 : decode cP_init 23 = .ok (.sipush 512, 3) := by decide +kernel
theorem d_P_init_26 : decode cP_init 26 = .ok (.newarray .int, 2) := by decide +kernel
theorem d_P_init_28 : decode cP_init 28 = .ok (.putfield 18, 3) := by decide +kernel
theorem d_P_init_31 : decode cP_init 31 = .ok (.aload_n 0, 1) := by decide +kernel
theorem d_P_init_32 : decode cP_init 32 = .ok (.sipush 512, 3) := by decide +kernel
theorem d_P_init_35 : decode cP_init 35 = .ok (.newarray .int, 2) := by decide +kernel
theorem d_P_init_37 : decode cP_init 37 = .ok (.putfield 21, 3) := by decide +kernel
theorem d_P_init_40 : decode cP_init 40 = .ok (.aload_n 0, 1) := by decide +kernel
theorem d_P_init_41 : decode cP_init 41 = .ok (.bipush 9, 2) := by decide +kernel
theorem d_P_init_43 : decode cP_init 43 = .ok (.newarray .int, 2) := by decide +kernel
theorem d_P_init_45 : decode cP_init 45 = .ok (.putfield 24, 3) := by decide +kernel
theorem d_P_init_48 : decode cP_init 48 = .ok (.aload_n 0, 1) := by decide +kernel
theorem d_P_init_49 : decode cP_init 49 = .ok (.iconst 0, 1) := by decide +kernel
theorem d_P_init_50 : decode cP_init 50 = .ok (.putfield 27, 3) := by decide +kernel
theorem d_P_init_53 : decode cP_init 53 = .ok (.ldc 31, 2) := by decide +kernel
theorem d_P_init_55 : decode cP_init 55 = .ok (.istore_n 1, 1) := by decide +kernel
theorem d_P_init_56 : decode cP_init 56 = .ok (.iconst 0, 1) := by decide +kernel
theorem d_P_init_57 : decode cP_init 57 = .ok (.istore_n 2, 1) := by decide +kernel
theorem d_P_init_58 : decode cP_init 58 = .ok (.iload_n 2, 1) := by decide +kernel
theorem d_P_init_59 : decode cP_init 59 = .ok (.bipush 9, 2) := by decide +kernel
theorem d_P_init_61 : decode cP_init 61 = .ok (.if_icmp .ge 47, 3) := by decide +kernel
theorem d_P_init_64 : decode cP_init 64 = .ok (.iload_n 1, 1) := by decide +kernel
theorem d_P_init_65 : decode cP_init 65 = .ok (.bipush 6, 2) := by decide +kernel
theorem d_P_init_67 : decode cP_init 67 = .ok (.idiv, 1) := by decide +kernel
theorem d_P_init_68 : decode cP_init 68 = .ok (.istore_n 1, 1) := by decide +kernel
theorem d_P_init_69 : decode cP_init 69 = .ok (.iconst 0, 1) := by decide +kernel
theorem d_P_init_70 : decode cP_init 70 = .ok (.istore_n 3, 1) := by decide +kernel
theorem d_P_init_71 : decode cP_init 71 = .ok (.iload_n 3, 1) := by decide +kernel
theorem d_P_init_72 : decode cP_init 72 = .ok (.iconst 1, 1) := by decide +kernel
theorem d_P_init_73 : decode cP_init 73 = .ok (.iload_n 2, 1) := by decide +kernel
theorem d_P_init_74 : decode cP_init 74 = .ok (.ishl, 1) := by decide +kernel
theorem d_P_init_75 : decode cP_init 75 = .ok (.if_icmp .ge 27, 3) := by decide +kernel
theorem d_P_init_78 : decode cP_init 78 = .ok (.aload_n 0, 1) := by decide +kernel
theorem d_P_init_79 : decode cP_init 79 = .ok (.getfield 11, 3) := by decide +kernel
theorem d_P_init_82 : decode cP_init 82 = .ok (.iload_n 3, 1) := by decide +kernel
theorem d_P_init_83 : decode cP_init 83 = .ok (.iconst 1, 1) := by decide +kernel
theorem d_P_init_84 : decode cP_init 84 = .ok (.iload_n 2, 1) := by decide +kernel
theorem d_P_init_85 : decode cP_init 85 = .ok (.ishl, 1) := by decide +kernel
theorem d_P_init_86 : decode cP_init 86 = .ok (.ior, 1) := by decide +kernel
theorem d_P_init_87 : decode cP_init 87 = .ok (.aload_n 0, 1) := by decide +kernel
theorem d_P_init_88 : decode cP_init 88 = .ok (.getfield 11, 3) := by decide +kernel
theorem d_P_init_91 : decode cP_init 91 = .ok (.iload_n 3, 1) := by decide +kernel
theorem d_P_init_92 : decode cP_init 92 = .ok (.iaload, 1) := by decide +kernel
theorem d_P_init_93 : decode cP_init 93 = .ok (.iload_n 1, 1) := by decide +kernel
theorem d_P_init_94 : decode cP_init 94 = .ok (.iadd, 1) := by decide +kernel
theorem d_P_init_95 : decode cP_init 95 = .ok (.iastore, 1) := by decide +kernel
theorem d_P_init_96 : decode cP_init 96 = .ok (.iinc 3 1, 3) := by decide +kernel
theorem d_P_init_99 : decode cP_init 99 = .ok (.goto (-28), 3) := by decide +kernel
theorem d_P_init_102 : decode cP_init 102 = .ok (.iinc 2 1, 3) := by decide +kernel
theorem d_P_init_105 : decode cP_init 105 = .ok (.goto (-47), 3) := by decide +kernel
theorem d_P_init_108 : decode cP_init 108 = .ok (.return_, 1) := by decide +kernel
theorem d_R_init_0 : decode cR_init 0 = .ok (.aload_n 0, 1) := by decide +kernel
theorem d_R_init_1 : decode cR_init 1 = .ok (.invokespecial 3, 3) := by decide +kernel
theorem d_R_init_4 : decode cR_init 4 = .ok (.aload_n 0, 1) := by decide +kernel
theorem d_R_init_5 : decode cR_init 5 = .ok (.iconst 4, 1) := by decide +kernel
theorem d_R_init_6 : decode cR_init 6 = .ok (.newarray .int, 2) := by decide +kernel
theorem d_R_init_8 : decode cR_init 8 = .ok (.putfield 9, 3) := by decide +kernel
theorem d_R_init_11 : decode cR_init 11 = .ok (.aload_n 0, 1) := by decide +kernel
theorem d_R_init_12 : decode cR_init 12 = .ok (.iconst 4, 1) := by decide +kernel
theorem d_R_init_13 : decode cR_init 13 = .ok (.newarray .int, 2) := by decide +kernel
theorem d_R_init_15 : decode cR_init 15 = .ok (.putfield 15, 3) := by decide +kernel
theorem d_R_init_18 : decode cR_init 18 = .ok (.aload_n 0, 1) := by decide +kernel
theorem d_R_init_19 : decode cR_init 19 = .ok (.iconst 4, 1) := by decide +kernel
theorem d_R_init_20 : decode cR_init 20 = .ok (.newarray .boolean, 2) := by decide +kernel
theorem d_R_init_22 : decode cR_init 22 = .ok (.putfield 18, 3) := by decide +kernel
theorem d_R_init_25 : decode cR_init 25 = .ok (.aload_n 0, 1) := by decide +kernel
theorem d_R_init_26 : decode cR_init 26 = .ok (.sipush 144, 3) := by decide +kernel
theorem d_R_init_29 : decode cR_init 29 = .ok (.newarray .boolean, 2) := by decide +kernel
theorem d_R_init_31 : decode cR_init 31 = .ok (.putfield 22, 3) := by decide +kernel
theorem d_R_init_34 : decode cR_init 34 = .ok (.aload_n 0, 1) := by decide +kernel
theorem d_R_init_35 : decode cR_init 35 = .ok (.bipush 6, 2) := by decide +kernel
theorem d_R_init_37 : decode cR_init 37 = .ok (.sipush 144, 3) := by decide +kernel
theorem d_R_init_40 : decode cR_init 40 = .ok (.multianewarray 25 2, 4) := by decide +kernel
theorem d_R_init_44 : decode cR_init 44 = .ok (.putfield 27, 3) := by decide +kernel
theorem d_R_init_47 : decode cR_init 47 = .ok (.aload_n 0, 1) := by decide +kernel
theorem d_R_init_48 : decode cR_init 48 = .ok (.bipush 6, 2) := by decide +kernel
theorem d_R_init_50 : decode cR_init 50 = .ok (.sipush 144, 3) := by decide +kernel
theorem d_R_init_53 : decode cR_init 53 = .ok (.multianewarray 25 2, 4) := by decide +kernel
theorem d_R_init_57 : decode cR_init 57 = .ok (.putfield 30, 3) := by decide +kernel
theorem d_R_init_60 : decode cR_init 60 = .ok (.aload_n 0, 1) := by decide +kernel
theorem d_R_init_61 : decode cR_init 61 = .ok (.bipush 6, 2) := by decide +kernel
theorem d_R_init_63 : decode cR_init 63 = .ok (.bipush 40, 2) := by decide +kernel
theorem d_R_init_65 : decode cR_init 65 = .ok (.multianewarray 25 2, 4) := by decide +kernel
theorem d_R_init_69 : decode cR_init 69 = .ok (.putfield 33, 3) := by decide +kernel
theorem d_R_init_72 : decode cR_init 72 = .ok (.iconst 0, 1) := by decide +kernel
theorem d_R_init_73 : decode cR_init 73 = .ok (.istore_n 1, 1) := by decide +kernel
theorem d_R_init_74 : decode cR_init 74 = .ok (.iload_n 1, 1) := by decide +kernel
theorem d_R_init_75 : decode cR_init 75 = .ok (.bipush 6, 2) := by decide +kernel
theorem d_R_init_77 : decode cR_init 77 = .ok (.if_icmp .ge 39, 3) := by decide +kernel
theorem d_R_init_80 : decode cR_init 80 = .ok (.aload_n 0, 1) := by decide +kernel
theorem d_R_init_81 : decode cR_init 81 = .ok (.getfield 27, 3) := by decide +kernel
theorem d_R_init_84 : decode cR_init 84 = .ok (.iload_n 1, 1) := by decide +kernel
theorem d_R_init_85 : decode cR_init 85 = .ok (.aaload, 1) := by decide +kernel
theorem d_R_init_86 : decode cR_init 86 = .ok (.iconst (-1), 1) := by decide +kernel
theorem d_R_init_87 : decode cR_init 87 = .ok (.invokestatic 36, 3) := by decide +kernel
theorem d_R_init_90 : decode cR_init 90 = .ok (.aload_n 0, 1) := by decide +kernel
theorem d_R_init_91 : decode cR_init 91 = .ok (.getfield 30, 3) := by decide +kernel
theorem d_R_init_94 : decode cR_init 94 = .ok (.iload_n 1, 1) := by decide +kernel
theorem d_R_init_95 : decode cR_init 95 = .ok (.aaload, 1) := by decide +kernel
theorem d_R_init_96 : decode cR_init 96 = .ok (.iconst (-1), 1) := by decide +kernel
theorem d_R_init_97 : decode cR_init 97 = .ok (.invokestatic 36, 3) := by decide +kernel
theorem d_R_init_100 : decode cR_init 100 = .ok (.aload_n 0, 1) := by decide +kernel
theorem d_R_init_101 : decode cR_init 101 = .ok (.getfield 33, 3) := by decide +kernel
theorem d_R_init_104 : decode cR_init 104 = .ok (.iload_n 1, 1) := by decide +kernel
theorem d_R_init_105 : decode cR_init 105 = .ok (.aaload, 1) := by decide +kernel
theorem d_R_init_106 : decode cR_init 106 = .ok (.iconst (-1), 1) := by decide +kernel
theorem d_R_init_107 : decode cR_init 107 = .ok (.invokestatic 36, 3) := by decide +kernel
theorem d_R_init_110 : decode cR_init 110 = .ok (.iinc 1 1, 3) := by decide +kernel
theorem d_R_init_113 : decode cR_init 113 = .ok (.goto (-39), 3) := by decide +kernel
theorem d_R_init_116 : decode cR_init 116 = .ok (.return_, 1) := by decide +kernel
theorem d_O_init_0 : decode cO_init 0 = .ok (.aload_n 0, 1) := by decide +kernel
theorem d_O_init_1 : decode cO_init 1 = .ok (.invokespecial 3, 3) := by decide +kernel
theorem d_O_init_4 : decode cO_init 4 = .ok (.aload_n 0, 1) := by decide +kernel
theorem d_O_init_5 : decode cO_init 5 = .ok (.bipush 10, 2) := by decide +kernel
theorem d_O_init_7 : decode cO_init 7 = .ok (.newarray .int, 2) := by decide +kernel
theorem d_O_init_9 : decode cO_init 9 = .ok (.putfield 9, 3) := by decide +kernel
theorem d_O_init_12 : decode cO_init 12 = .ok (.aload_n 0, 1) := by decide +kernel
theorem d_O_init_13 : decode cO_init 13 = .ok (.bipush 10, 2) := by decide +kernel
theorem d_O_init_15 : decode cO_init 15 = .ok (.newarray .int, 2) := by decide +kernel
theorem d_O_init_17 : decode cO_init 17 = .ok (.putfield 15, 3) := by decide +kernel
theorem d_O_init_20 : decode cO_init 20 = .ok (.aload_n 0, 1) := by decide +kernel
theorem d_O_init_21 : decode cO_init 21 = .ok (.bipush 6, 2) := by decide +kernel
theorem d_O_init_23 : decode cO_init 23 = .ok (.iconst 4, 1) := by decide +kernel
theorem d_O_init_24 : decode cO_init 24 = .ok (.multianewarray 18 2, 4) := by decide +kernel
theorem d_O_init_28 : decode cO_init 28 = .ok (.putfield 20, 3) := by decide +kernel
theorem d_O_init_31 : decode cO_init 31 = .ok (.aload_n 0, 1) := by decide +kernel
theorem d_O_init_32 : decode cO_init 32 = .ok (.iconst 4, 1) := by decide +kernel
theorem d_O_init_33 : decode cO_init 33 = .ok (.newarray .int, 2) := by decide +kernel
theorem d_O_init_35 : decode cO_init 35 = .ok (.putfield 23, 3) := by decide +kernel
theorem d_O_init_38 : decode cO_init 38 = .ok (.aload_n 0, 1) := by decide +kernel
theorem d_O_init_39 : decode cO_init 39 = .ok (.iconst 4, 1) := by decide +kernel
theorem d_O_init_40 : decode cO_init 40 = .ok (.newarray .int, 2) := by decide +kernel
theorem d_O_init_42 : decode cO_init 42 = .ok (.putfield 26, 3) := by decide +kernel
theorem d_O_init_45 : decode cO_init 45 = .ok (.return_, 1) := by decide +kernel
theorem d_E_plan_0 : decode cE_plan 0 = .ok (.aload_n 0, 1) := by decide +kernel
theorem d_E_plan_1 : decode cE_plan 1 = .ok (.invokevirtual 45, 3) := by decide +kernel
theorem d_E_plan_4 : decode cE_plan 4 = .ok (.aload_n 0, 1) := by decide +kernel
theorem d_E_plan_5 : decode cE_plan 5 = .ok (.getfield 12, 3) := by decide +kernel
theorem d_E_plan_8 : decode cE_plan 8 = .ok (.invokevirtual 93, 3) := by decide +kernel
theorem d_E_plan_11 : decode cE_plan 11 = .ok (.ireturn, 1) := by decide +kernel
theorem d_E_dropPlan_0 : decode cE_dropPlan 0 = .ok (.aload_n 0, 1) := by decide +kernel
theorem d_E_dropPlan_1 : decode cE_dropPlan 1 = .ok (.getfield 12, 3) := by decide +kernel
theorem d_E_dropPlan_4 : decode cE_dropPlan 4 = .ok (.getfield 132, 3) := by decide +kernel
theorem d_E_dropPlan_7 : decode cE_dropPlan 7 = .ok (.ifCond .eq 24, 3) := by decide +kernel
theorem d_E_dropPlan_10 : decode cE_dropPlan 10 = .ok (.aload_n 0, 1) := by decide +kernel
theorem d_E_dropPlan_11 : decode cE_dropPlan 11 = .ok (.getfield 12, 3) := by decide +kernel
theorem d_E_dropPlan_14 : decode cE_dropPlan 14 = .ok (.invokevirtual 202, 3) := by decide +kernel
theorem d_E_dropPlan_17 : decode cE_dropPlan 17 = .ok (.aload_n 0, 1) := by decide +kernel
theorem d_E_dropPlan_18 : decode cE_dropPlan 18 = .ok (.getfield 19, 3) := by decide +kernel
theorem d_E_dropPlan_21 : decode cE_dropPlan 21 = .ok (.invokevirtual 205, 3) := by decide +kernel
theorem d_E_dropPlan_24 : decode cE_dropPlan 24 = .ok (.aload_n 0, 1) := by decide +kernel
theorem d_E_dropPlan_25 : decode cE_dropPlan 25 = .ok (.getfield 26, 3) := by decide +kernel
theorem d_E_dropPlan_28 : decode cE_dropPlan 28 = .ok (.invokevirtual 109, 3) := by decide +kernel
theorem d_E_dropPlan_31 : decode cE_dropPlan 31 = .ok (.return_, 1) := by decide +kernel
theorem d_T_forgetPlan_0 : decode cT_forgetPlan 0 = .ok (.aload_n 0, 1) := by decide +kernel
theorem d_T_forgetPlan_1 : decode cT_forgetPlan 1 = .ok (.iconst 0, 1) := by decide +kernel
theorem d_T_forgetPlan_2 : decode cT_forgetPlan 2 = .ok (.putfield 36, 3) := by decide +kernel
theorem d_T_forgetPlan_5 : decode cT_forgetPlan 5 = .ok (.aload_n 0, 1) := by decide +kernel
theorem d_T_forgetPlan_6 : decode cT_forgetPlan 6 = .ok (.iconst 0, 1) := by decide +kernel
theorem d_T_forgetPlan_7 : decode cT_forgetPlan 7 = .ok (.putfield 40, 3) := by decide +kernel
theorem d_T_forgetPlan_10 : decode cT_forgetPlan 10 = .ok (.aload_n 0, 1) := by decide +kernel
theorem d_T_forgetPlan_11 : decode cT_forgetPlan 11 = .ok (.getfield 33, 3) := by decide +kernel
theorem d_T_forgetPlan_14 : decode cT_forgetPlan 14 = .ok (.iconst (-1), 1) := by decide +kernel
theorem d_T_forgetPlan_15 : decode cT_forgetPlan 15 = .ok (.invokestatic 51, 3) := by decide +kernel
theorem d_T_forgetPlan_18 : decode cT_forgetPlan 18 = .ok (.return_, 1) := by decide +kernel
theorem d_R_clear_0 : decode cR_clear 0 = .ok (.iconst 0, 1) := by decide +kernel
theorem d_R_clear_1 : decode cR_clear 1 = .ok (.istore_n 1, 1) := by decide +kernel
theorem d_R_clear_2 : decode cR_clear 2 = .ok (.iload_n 1, 1) := by decide +kernel
theorem d_R_clear_3 : decode cR_clear 3 = .ok (.bipush 6, 2) := by decide +kernel
theorem d_R_clear_5 : decode cR_clear 5 = .ok (.if_icmp .ge 36, 3) := by decide +kernel
theorem d_R_clear_8 : decode cR_clear 8 = .ok (.iconst 0, 1) := by decide +kernel
theorem d_R_clear_9 : decode cR_clear 9 = .ok (.istore_n 2, 1) := by decide +kernel
theorem d_R_clear_10 : decode cR_clear 10 = .ok (.iload_n 2, 1) := by decide +kernel
theorem d_R_clear_11 : decode cR_clear 11 = .ok (.bipush 40, 2) := by decide +kernel
theorem d_R_clear_13 : decode cR_clear 13 = .ok (.if_icmp .ge 22, 3) := by decide +kernel
theorem d_R_clear_16 : decode cR_clear 16 = .ok (.aload_n 0, 1) := by decide +kernel
theorem d_R_clear_17 : decode cR_clear 17 = .ok (.iload_n 1, 1) := by decide +kernel
theorem d_R_clear_18 : decode cR_clear 18 = .ok (.aload_n 0, 1) := by decide +kernel
theorem d_R_clear_19 : decode cR_clear 19 = .ok (.getfield 33, 3) := by decide +kernel
theorem d_R_clear_22 : decode cR_clear 22 = .ok (.iload_n 1, 1) := by decide +kernel
theorem d_R_clear_23 : decode cR_clear 23 = .ok (.aaload, 1) := by decide +kernel
theorem d_R_clear_24 : decode cR_clear 24 = .ok (.iload_n 2, 1) := by decide +kernel
theorem d_R_clear_25 : decode cR_clear 25 = .ok (.iaload, 1) := by decide +kernel
theorem d_R_clear_26 : decode cR_clear 26 = .ok (.invokevirtual 42, 3) := by decide +kernel
theorem d_R_clear_29 : decode cR_clear 29 = .ok (.iinc 2 1, 3) := by decide +kernel
theorem d_R_clear_32 : decode cR_clear 32 = .ok (.goto (-22), 3) := by decide +kernel
theorem d_R_clear_35 : decode cR_clear 35 = .ok (.iinc 1 1, 3) := by decide +kernel
theorem d_R_clear_38 : decode cR_clear 38 = .ok (.goto (-36), 3) := by decide +kernel
theorem d_R_clear_41 : decode cR_clear 41 = .ok (.return_, 1) := by decide +kernel
theorem d_R_vacate_0 : decode cR_vacate 0 = .ok (.iload_n 2, 1) := by decide +kernel
theorem d_R_vacate_1 : decode cR_vacate 1 = .ok (.iconst (-1), 1) := by decide +kernel
theorem d_R_vacate_2 : decode cR_vacate 2 = .ok (.if_icmp .eq 49, 3) := by decide +kernel
theorem d_R_vacate_5 : decode cR_vacate 5 = .ok (.aload_n 0, 1) := by decide +kernel
theorem d_R_vacate_6 : decode cR_vacate 6 = .ok (.getfield 27, 3) := by decide +kernel
theorem d_R_vacate_9 : decode cR_vacate 9 = .ok (.iload_n 1, 1) := by decide +kernel
theorem d_R_vacate_10 : decode cR_vacate 10 = .ok (.aaload, 1) := by decide +kernel
theorem d_R_vacate_11 : decode cR_vacate 11 = .ok (.iload_n 2, 1) := by decide +kernel
theorem d_R_vacate_12 : decode cR_vacate 12 = .ok (.iaload, 1) := by decide +kernel
theorem d_R_vacate_13 : decode cR_vacate 13 = .ok (.iconst (-1), 1) := by decide +kernel
theorem d_R_vacate_14 : decode cR_vacate 14 = .ok (.if_icmp .eq 37, 3) := by decide +kernel
theorem d_R_vacate_17 : decode cR_vacate 17 = .ok (.aload_n 0, 1) := by decide +kernel
theorem d_R_vacate_18 : decode cR_vacate 18 = .ok (.getfield 33, 3) := by decide +kernel
theorem d_R_vacate_21 : decode cR_vacate 21 = .ok (.iload_n 1, 1) := by decide +kernel
theorem d_R_vacate_22 : decode cR_vacate 22 = .ok (.aaload, 1) := by decide +kernel
theorem d_R_vacate_23 : decode cR_vacate 23 = .ok (.aload_n 0, 1) := by decide +kernel
theorem d_R_vacate_24 : decode cR_vacate 24 = .ok (.getfield 27, 3) := by decide +kernel
theorem d_R_vacate_27 : decode cR_vacate 27 = .ok (.iload_n 1, 1) := by decide +kernel
theorem d_R_vacate_28 : decode cR_vacate 28 = .ok (.aaload, 1) := by decide +kernel
theorem d_R_vacate_29 : decode cR_vacate 29 = .ok (.iload_n 2, 1) := by decide +kernel
theorem d_R_vacate_30 : decode cR_vacate 30 = .ok (.iaload, 1) := by decide +kernel
theorem d_R_vacate_31 : decode cR_vacate 31 = .ok (.iconst (-1), 1) := by decide +kernel
theorem d_R_vacate_32 : decode cR_vacate 32 = .ok (.iastore, 1) := by decide +kernel
theorem d_R_vacate_33 : decode cR_vacate 33 = .ok (.aload_n 0, 1) := by decide +kernel
theorem d_R_vacate_34 : decode cR_vacate 34 = .ok (.getfield 27, 3) := by decide +kernel
theorem d_R_vacate_37 : decode cR_vacate 37 = .ok (.iload_n 1, 1) := by decide +kernel
theorem d_R_vacate_38 : decode cR_vacate 38 = .ok (.aaload, 1) := by decide +kernel
theorem d_R_vacate_39 : decode cR_vacate 39 = .ok (.iload_n 2, 1) := by decide +kernel
theorem d_R_vacate_40 : decode cR_vacate 40 = .ok (.iconst (-1), 1) := by decide +kernel
theorem d_R_vacate_41 : decode cR_vacate 41 = .ok (.iastore, 1) := by decide +kernel
theorem d_R_vacate_42 : decode cR_vacate 42 = .ok (.aload_n 0, 1) := by decide +kernel
theorem d_R_vacate_43 : decode cR_vacate 43 = .ok (.getfield 30, 3) := by decide +kernel
theorem d_R_vacate_46 : decode cR_vacate 46 = .ok (.iload_n 1, 1) := by decide +kernel
theorem d_R_vacate_47 : decode cR_vacate 47 = .ok (.aaload, 1) := by decide +kernel
theorem d_R_vacate_48 : decode cR_vacate 48 = .ok (.iload_n 2, 1) := by decide +kernel
theorem d_R_vacate_49 : decode cR_vacate 49 = .ok (.iconst (-1), 1) := by decide +kernel
theorem d_R_vacate_50 : decode cR_vacate 50 = .ok (.iastore, 1) := by decide +kernel
theorem d_R_vacate_51 : decode cR_vacate 51 = .ok (.return_, 1) := by decide +kernel
theorem d_O_clear_0 : decode cO_clear 0 = .ok (.iconst 0, 1) := by decide +kernel
theorem d_O_clear_1 : decode cO_clear 1 = .ok (.istore_n 1, 1) := by decide +kernel
theorem d_O_clear_2 : decode cO_clear 2 = .ok (.iload_n 1, 1) := by decide +kernel
theorem d_O_clear_3 : decode cO_clear 3 = .ok (.bipush 6, 2) := by decide +kernel
theorem d_O_clear_5 : decode cO_clear 5 = .ok (.if_icmp .ge 19, 3) := by decide +kernel
theorem d_O_clear_8 : decode cO_clear 8 = .ok (.aload_n 0, 1) := by decide +kernel
theorem d_O_clear_9 : decode cO_clear 9 = .ok (.getfield 20, 3) := by decide +kernel
theorem d_O_clear_12 : decode cO_clear 12 = .ok (.iload_n 1, 1) := by decide +kernel
theorem d_O_clear_13 : decode cO_clear 13 = .ok (.aaload, 1) := by decide +kernel
theorem d_O_clear_14 : decode cO_clear 14 = .ok (.iconst 0, 1) := by decide +kernel
theorem d_O_clear_15 : decode cO_clear 15 = .ok (.invokestatic 29, 3) := by decide +kernel
theorem d_O_clear_18 : decode cO_clear 18 = .ok (.iinc 1 1, 3) := by decide +kernel
theorem d_O_clear_21 : decode cO_clear 21 = .ok (.goto (-19), 3) := by decide +kernel
theorem d_O_clear_24 : decode cO_clear 24 = .ok (.return_, 1) := by decide +kernel
theorem d_T_makePlan_0 : decode cT_makePlan 0 = .ok (.aload_n 0, 1) := by decide +kernel
theorem d_T_makePlan_1 : decode cT_makePlan 1 = .ok (.getfield 47, 3) := by decide +kernel
theorem d_T_makePlan_4 : decode cT_makePlan 4 = .ok (.aload_n 0, 1) := by decide +kernel
theorem d_T_makePlan_5 : decode cT_makePlan 5 = .ok (.invokevirtual 75, 3) := by decide +kernel
theorem d_T_makePlan_8 : decode cT_makePlan 8 = .ok (.istore_n 1, 1) := by decide +kernel
theorem d_T_makePlan_9 : decode cT_makePlan 9 = .ok (.iload_n 1, 1) := by decide +kernel
theorem d_T_makePlan_10 : decode cT_makePlan 10 = .ok (.ldc 79, 2) := by decide +kernel
theorem d_T_makePlan_12 : decode cT_makePlan 12 = .ok (.if_icmp .ne 5, 3) := by decide +kernel
theorem d_T_makePlan_15 : decode cT_makePlan 15 = .ok (.iconst (-1), 1) := by decide +kernel
theorem d_T_makePlan_16 : decode cT_makePlan 16 = .ok (.ireturn, 1) := by decide +kernel
theorem d_T_makePlan_17 : decode cT_makePlan 17 = .ok (.aload_n 0, 1) := by decide +kernel
theorem d_T_makePlan_18 : decode cT_makePlan 18 = .ok (.iconst 1, 1) := by decide +kernel
theorem d_T_makePlan_19 : decode cT_makePlan 19 = .ok (.putfield 36, 3) := by decide +kernel
theorem d_T_makePlan_22 : decode cT_makePlan 22 = .ok (.aload_n 0, 1) := by decide +kernel
theorem d_T_makePlan_23 : decode cT_makePlan 23 = .ok (.iload_n 1, 1) := by decide +kernel
theorem d_T_makePlan_24 : decode cT_makePlan 24 = .ok (.ldc 80, 2) := by decide +kernel
theorem d_T_makePlan_26 : decode cT_makePlan 26 = .ok (.idiv, 1) := by decide +kernel
theorem d_T_makePlan_27 : decode cT_makePlan 27 = .ok (.putfield 40, 3) := by decide +kernel
theorem d_T_makePlan_30 : decode cT_makePlan 30 = .ok (.aload_n 0, 1) := by decide +kernel
theorem d_T_makePlan_31 : decode cT_makePlan 31 = .ok (.iload_n 1, 1) := by decide +kernel
theorem d_T_makePlan_32 : decode cT_makePlan 32 = .ok (.ldc 80, 2) := by decide +kernel
theorem d_T_makePlan_34 : decode cT_makePlan 34 = .ok (.irem, 1) := by decide +kernel
theorem d_T_makePlan_35 : decode cT_makePlan 35 = .ok (.invokevirtual 81, 3) := by decide +kernel
theorem d_T_makePlan_38 : decode cT_makePlan 38 = .ok (.aload_n 0, 1) := by decide +kernel
theorem d_T_makePlan_39 : decode cT_makePlan 39 = .ok (.getfield 40, 3) := by decide +kernel
theorem d_T_makePlan_42 : decode cT_makePlan 42 = .ok (.ireturn, 1) := by decide +kernel
theorem d_P_leastCost_0 : decode cP_leastCost 0 = .ok (.aload_n 0, 1) := by decide +kernel
theorem d_P_leastCost_1 : decode cP_leastCost 1 = .ok (.aload_n 1, 1) := by decide +kernel
theorem d_P_leastCost_2 : decode cP_leastCost 2 = .ok (.invokevirtual 32, 3) := by decide +kernel
theorem d_P_leastCost_5 : decode cP_leastCost 5 = .ok (.putfield 27, 3) := by decide +kernel
theorem d_P_leastCost_8 : decode cP_leastCost 8 = .ok (.aload_n 0, 1) := by decide +kernel
theorem d_P_leastCost_9 : decode cP_leastCost 9 = .ok (.aload_n 1, 1) := by decide +kernel
theorem d_P_leastCost_10 : decode cP_leastCost 10 = .ok (.invokevirtual 38, 3) := by decide +kernel
theorem d_P_leastCost_13 : decode cP_leastCost 13 = .ok (.aload_n 0, 1) := by decide +kernel
theorem d_P_leastCost_14 : decode cP_leastCost 14 = .ok (.getfield 15, 3) := by decide +kernel
theorem d_P_leastCost_17 : decode cP_leastCost 17 = .ok (.ldc 42, 2) := by decide +kernel
theorem d_P_leastCost_19 : decode cP_leastCost 19 = .ok (.invokestatic 43, 3) := by decide +kernel
theorem d_P_leastCost_22 : decode cP_leastCost 22 = .ok (.aload_n 0, 1) := by decide +kernel
theorem d_P_leastCost_23 : decode cP_leastCost 23 = .ok (.getfield 15, 3) := by decide +kernel
theorem d_P_leastCost_26 : decode cP_leastCost 26 = .ok (.iconst 0, 1) := by decide +kernel
theorem d_P_leastCost_27 : decode cP_leastCost 27 = .ok (.iconst 0, 1) := by decide +kernel
theorem d_P_leastCost_28 : decode cP_leastCost 28 = .ok (.iastore, 1) := by decide +kernel
theorem d_P_leastCost_29 : decode cP_leastCost 29 = .ok (.iconst 0, 1) := by decide +kernel
theorem d_P_leastCost_30 : decode cP_leastCost 30 = .ok (.istore_n 2, 1) := by decide +kernel
theorem d_P_leastCost_31 : decode cP_leastCost 31 = .ok (.iload_n 2, 1) := by decide +kernel
theorem d_P_leastCost_32 : decode cP_leastCost 32 = .ok (.bipush 6, 2) := by decide +kernel
theorem d_P_leastCost_34 : decode cP_leastCost 34 = .ok (.if_icmp .ge 19, 3) := by decide +kernel
theorem d_P_leastCost_37 : decode cP_leastCost 37 = .ok (.aload_n 0, 1) := by decide +kernel
theorem d_P_leastCost_38 : decode cP_leastCost 38 = .ok (.iload_n 2, 1) := by decide +kernel
theorem d_P_leastCost_39 : decode cP_leastCost 39 = .ok (.aload_n 1, 1) := by decide +kernel
theorem d_P_leastCost_40 : decode cP_leastCost 40 = .ok (.iload_n 2, 1) := by decide +kernel
theorem d_P_leastCost_41 : decode cP_leastCost 41 = .ok (.invokevirtual 49, 3) := by decide +kernel
theorem d_P_leastCost_44 : decode cP_leastCost 44 = .ok (.invokevirtual 53, 3) := by decide +kernel
theorem d_P_leastCost_47 : decode cP_leastCost 47 = .ok (.iinc 2 1, 3) := by decide +kernel
theorem d_P_leastCost_50 : decode cP_leastCost 50 = .ok (.goto (-19), 3) := by decide +kernel
theorem d_P_leastCost_53 : decode cP_leastCost 53 = .ok (.aload_n 0, 1) := by decide +kernel
theorem d_P_leastCost_54 : decode cP_leastCost 54 = .ok (.getfield 15, 3) := by decide +kernel
theorem d_P_leastCost_57 : decode cP_leastCost 57 = .ok (.aload_n 0, 1) := by decide +kernel
theorem d_P_leastCost_58 : decode cP_leastCost 58 = .ok (.getfield 27, 3) := by decide +kernel
theorem d_P_leastCost_61 : decode cP_leastCost 61 = .ok (.iaload, 1) := by decide +kernel
theorem d_P_leastCost_62 : decode cP_leastCost 62 = .ok (.ireturn, 1) := by decide +kernel
theorem d_T_heldPapers_0 : decode cT_heldPapers 0 = .ok (.iconst 0, 1) := by decide +kernel
theorem d_T_heldPapers_1 : decode cT_heldPapers 1 = .ok (.istore_n 1, 1) := by decide +kernel
theorem d_T_heldPapers_2 : decode cT_heldPapers 2 = .ok (.iconst 0, 1) := by decide +kernel
theorem d_T_heldPapers_3 : decode cT_heldPapers 3 = .ok (.istore_n 2, 1) := by decide +kernel
theorem d_T_heldPapers_4 : decode cT_heldPapers 4 = .ok (.iload_n 2, 1) := by decide +kernel
theorem d_T_heldPapers_5 : decode cT_heldPapers 5 = .ok (.bipush 9, 2) := by decide +kernel
theorem d_T_heldPapers_7 : decode cT_heldPapers 7 = .ok (.if_icmp .ge 29, 3) := by decide +kernel
theorem d_T_heldPapers_10 : decode cT_heldPapers 10 = .ok (.iload_n 1, 1) := by decide +kernel
theorem d_T_heldPapers_11 : decode cT_heldPapers 11 = .ok (.iload_n 2, 1) := by decide +kernel
theorem d_T_heldPapers_12 : decode cT_heldPapers 12 = .ok (.aload_n 0, 1) := by decide +kernel
theorem d_T_heldPapers_13 : decode cT_heldPapers 13 = .ok (.getfield 9, 3) := by decide +kernel
theorem d_T_heldPapers_16 : decode cT_heldPapers 16 = .ok (.iload_n 2, 1) := by decide +kernel
theorem d_T_heldPapers_17 : decode cT_heldPapers 17 = .ok (.iaload, 1) := by decide +kernel
theorem d_T_heldPapers_18 : decode cT_heldPapers 18 = .ok (.ifCond .le 7, 3) := by decide +kernel
theorem d_T_heldPapers_21 : decode cT_heldPapers 21 = .ok (.iconst 1, 1) := by decide +kernel
theorem d_T_heldPapers_22 : decode cT_heldPapers 22 = .ok (.goto 4, 3) := by decide +kernel
theorem d_T_heldPapers_25 : decode cT_heldPapers 25 = .ok (.iconst 0, 1) := by decide +kernel
theorem d_T_heldPapers_26 : decode cT_heldPapers 26 = .ok (.invokestatic 61, 3) := by decide +kernel
theorem d_T_heldPapers_29 : decode cT_heldPapers 29 = .ok (.istore_n 1, 1) := by decide +kernel
theorem d_T_heldPapers_30 : decode cT_heldPapers 30 = .ok (.iinc 2 1, 3) := by decide +kernel
theorem d_T_heldPapers_33 : decode cT_heldPapers 33 = .ok (.goto (-29), 3) := by decide +kernel
theorem d_T_heldPapers_36 : decode cT_heldPapers 36 = .ok (.iload_n 1, 1) := by decide +kernel
theorem d_T_heldPapers_37 : decode cT_heldPapers 37 = .ok (.ireturn, 1) := by decide +kernel
theorem d_E_with_0 : decode cE_with 0 = .ok (.iload_n 2, 1) := by decide +kernel
theorem d_E_with_1 : decode cE_with 1 = .ok (.ifCond .eq 11, 3) := by decide +kernel
theorem d_E_with_4 : decode cE_with 4 = .ok (.iload_n 0, 1) := by decide +kernel
theorem d_E_with_5 : decode cE_with 5 = .ok (.iconst 1, 1) := by decide +kernel
theorem d_E_with_6 : decode cE_with 6 = .ok (.iload_n 1, 1) := by decide +kernel
theorem d_E_with_7 : decode cE_with 7 = .ok (.ishl, 1) := by decide +kernel
theorem d_E_with_8 : decode cE_with 8 = .ok (.ior, 1) := by decide +kernel
theorem d_E_with_9 : decode cE_with 9 = .ok (.goto 10, 3) := by decide +kernel
theorem d_E_with_12 : decode cE_with 12 = .ok (.iload_n 0, 1) := by decide +kernel
theorem d_E_with_13 : decode cE_with 13 = .ok (.iconst 1, 1) := by decide +kernel
theorem d_E_with_14 : decode cE_with 14 = .ok (.iload_n 1, 1) := by decide +kernel
theorem d_E_with_15 : decode cE_with 15 = .ok (.ishl, 1) := by decide +kernel
theorem d_E_with_16 : decode cE_with 16 = .ok (.iconst (-1), 1) := by decide +kernel
theorem d_E_with_17 : decode cE_with 17 = .ok (.ixor, 1) := by decide +kernel
theorem d_E_with_18 : decode cE_with 18 = .ok (.iand, 1) := by decide +kernel
theorem d_E_with_19 : decode cE_with 19 = .ok (.ireturn, 1) := by decide +kernel
theorem d_P_gatherRules_0 : decode cP_gatherRules 0 = .ok (.iconst 0, 1) := by decide +kernel
theorem d_P_gatherRules_1 : decode cP_gatherRules 1 = .ok (.istore_n 2, 1) := by decide +kernel
theorem d_P_gatherRules_2 : decode cP_gatherRules 2 = .ok (.iload_n 2, 1) := by decide +kernel
theorem d_P_gatherRules_3 : decode cP_gatherRules 3 = .ok (.bipush 9, 2) := by decide +kernel
theorem d_P_gatherRules_5 : decode cP_gatherRules 5 = .ok (.if_icmp .ge 107, 3) := by decide +kernel
theorem d_P_gatherRules_8 : decode cP_gatherRules 8 = .ok (.aload_n 1, 1) := by decide +kernel
theorem d_P_gatherRules_9 : decode cP_gatherRules 9 = .ok (.iload_n 2, 1) := by decide +kernel
theorem d_P_gatherRules_10 : decode cP_gatherRules 10 = .ok (.invokevirtual 57, 3) := by decide +kernel
theorem d_P_gatherRules_13 : decode cP_gatherRules 13 = .ok (.istore_n 3, 1) := by decide +kernel
theorem d_P_gatherRules_14 : decode cP_gatherRules 14 = .ok (.aload_n 1, 1) := by decide +kernel
theorem d_P_gatherRules_15 : decode cP_gatherRules 15 = .ok (.getfield 60, 3) := by decide +kernel
theorem d_P_gatherRules_18 : decode cP_gatherRules 18 = .ok (.iconst 0, 1) := by decide +kernel
theorem d_P_gatherRules_19 : decode cP_gatherRules 19 = .ok (.aaload, 1) := by decide +kernel
theorem d_P_gatherRules_20 : decode cP_gatherRules 20 = .ok (.iload_n 2, 1) := by decide +kernel
theorem d_P_gatherRules_21 : decode cP_gatherRules 21 = .ok (.iaload, 1) := by decide +kernel
theorem d_P_gatherRules_22 : decode cP_gatherRules 22 = .ok (.aload_n 0, 1) := by decide +kernel
theorem d_P_gatherRules_23 : decode cP_gatherRules 23 = .ok (.getfield 27, 3) := by decide +kernel
theorem d_P_gatherRules_26 : decode cP_gatherRules 26 = .ok (.iand, 1) := by decide +kernel
theorem d_P_gatherRules_27 : decode cP_gatherRules 27 = .ok (.istore 4, 2) := by decide +kernel
theorem d_P_gatherRules_29 : decode cP_gatherRules 29 = .ok (.aload_n 0, 1) := by decide +kernel
theorem d_P_gatherRules_30 : decode cP_gatherRules 30 = .ok (.getfield 24, 3) := by decide +kernel
theorem d_P_gatherRules_33 : decode cP_gatherRules 33 = .ok (.iload_n 2, 1) := by decide +kernel
theorem d_P_gatherRules_34 : decode cP_gatherRules 34 = .ok (.aload_n 1, 1) := by decide +kernel
theorem d_P_gatherRules_35 : decode cP_gatherRules 35 = .ok (.getfield 60, 3) := by decide +kernel
theorem d_P_gatherRules_38 : decode cP_gatherRules 38 = .ok (.iconst 2, 1) := by decide +kernel
theorem d_P_gatherRules_39 : decode cP_gatherRules 39 = .ok (.aaload, 1) := by decide +kernel
theorem d_P_gatherRules_40 : decode cP_gatherRules 40 = .ok (.iload_n 2, 1) := by decide +kernel
theorem d_P_gatherRules_41 : decode cP_gatherRules 41 = .ok (.iaload, 1) := by decide +kernel
theorem d_P_gatherRules_42 : decode cP_gatherRules 42 = .ok (.aload_n 0, 1) := by decide +kernel
theorem d_P_gatherRules_43 : decode cP_gatherRules 43 = .ok (.getfield 27, 3) := by decide +kernel
theorem d_P_gatherRules_46 : decode cP_gatherRules 46 = .ok (.iand, 1) := by decide +kernel
theorem d_P_gatherRules_47 : decode cP_gatherRules 47 = .ok (.iastore, 1) := by decide +kernel
theorem d_P_gatherRules_48 : decode cP_gatherRules 48 = .ok (.iconst 0, 1) := by decide +kernel
theorem d_P_gatherRules_49 : decode cP_gatherRules 49 = .ok (.istore 5, 2) := by decide +kernel
theorem d_P_gatherRules_51 : decode cP_gatherRules 51 = .ok (.iload 5, 2) := by decide +kernel
theorem d_P_gatherRules_53 : decode cP_gatherRules 53 = .ok (.iconst 1, 1) := by decide +kernel
theorem d_P_gatherRules_54 : decode cP_gatherRules 54 = .ok (.iload_n 2, 1) := by decide +kernel
theorem d_P_gatherRules_55 : decode cP_gatherRules 55 = .ok (.ishl, 1) := by decide +kernel
theorem d_P_gatherRules_56 : decode cP_gatherRules 56 = .ok (.if_icmp .ge 50, 3) := by decide +kernel
theorem d_P_gatherRules_59 : decode cP_gatherRules 59 = .ok (.aload_n 0, 1) := by decide +kernel
theorem d_P_gatherRules_60 : decode cP_gatherRules 60 = .ok (.getfield 18, 3) := by decide +kernel
theorem d_P_gatherRules_63 : decode cP_gatherRules 63 = .ok (.iload 5, 2) := by decide +kernel
theorem d_P_gatherRules_65 : decode cP_gatherRules 65 = .ok (.iconst 1, 1) := by decide +kernel
theorem d_P_gatherRules_66 : decode cP_gatherRules 66 = .ok (.iload_n 2, 1) := by decide +kernel
theorem d_P_gatherRules_67 : decode cP_gatherRules 67 = .ok (.ishl, 1) := by decide +kernel
theorem d_P_gatherRules_68 : decode cP_gatherRules 68 = .ok (.ior, 1) := by decide +kernel
theorem d_P_gatherRules_69 : decode cP_gatherRules 69 = .ok (.aload_n 0, 1) := by decide +kernel
theorem d_P_gatherRules_70 : decode cP_gatherRules 70 = .ok (.getfield 18, 3) := by decide +kernel
theorem d_P_gatherRules_73 : decode cP_gatherRules 73 = .ok (.iload 5, 2) := by decide +kernel
theorem d_P_gatherRules_75 : decode cP_gatherRules 75 = .ok (.iaload, 1) := by decide +kernel
theorem d_P_gatherRules_76 : decode cP_gatherRules 76 = .ok (.iload_n 3, 1) := by decide +kernel
theorem d_P_gatherRules_77 : decode cP_gatherRules 77 = .ok (.ior, 1) := by decide +kernel
theorem d_P_gatherRules_78 : decode cP_gatherRules 78 = .ok (.iastore, 1) := by decide +kernel
theorem d_P_gatherRules_79 : decode cP_gatherRules 79 = .ok (.aload_n 0, 1) := by decide +kernel
theorem d_P_gatherRules_80 : decode cP_gatherRules 80 = .ok (.getfield 21, 3) := by decide +kernel
theorem d_P_gatherRules_83 : decode cP_gatherRules 83 = .ok (.iload 5, 2) := by decide +kernel
theorem d_P_gatherRules_85 : decode cP_gatherRules 85 = .ok (.iconst 1, 1) := by decide +kernel
theorem d_P_gatherRules_86 : decode cP_gatherRules 86 = .ok (.iload_n 2, 1) := by decide +kernel
theorem d_P_gatherRules_87 : decode cP_gatherRules 87 = .ok (.ishl, 1) := by decide +kernel
theorem d_P_gatherRules_88 : decode cP_gatherRules 88 = .ok (.ior, 1) := by decide +kernel
theorem d_P_gatherRules_89 : decode cP_gatherRules 89 = .ok (.aload_n 0, 1) := by decide +kernel
theorem d_P_gatherRules_90 : decode cP_gatherRules 90 = .ok (.getfield 21, 3) := by decide +kernel
theorem d_P_gatherRules_93 : decode cP_gatherRules 93 = .ok (.iload 5, 2) := by decide +kernel
theorem d_P_gatherRules_95 : decode cP_gatherRules 95 = .ok (.iaload, 1) := by decide +kernel
theorem d_P_gatherRules_96 : decode cP_gatherRules 96 = .ok (.iload 4, 2) := by decide +kernel
theorem d_P_gatherRules_98 : decode cP_gatherRules 98 = .ok (.ior, 1) := by decide +kernel
theorem d_P_gatherRules_99 : decode cP_gatherRules 99 = .ok (.iastore, 1) := by decide +kernel
theorem d_P_gatherRules_100 : decode cP_gatherRules 100 = .ok (.iinc 5 1, 3) := by decide +kernel
theorem d_P_gatherRules_103 : decode cP_gatherRules 103 = .ok (.goto (-52), 3) := by decide +kernel
theorem d_P_gatherRules_106 : decode cP_gatherRules 106 = .ok (.iinc 2 1, 3) := by decide +kernel
theorem d_P_gatherRules_109 : decode cP_gatherRules 109 = .ok (.goto (-107), 3) := by decide +kernel
theorem d_P_gatherRules_112 : decode cP_gatherRules 112 = .ok (.return_, 1) := by decide +kernel
theorem d_T_foesOf_0 : decode cT_foesOf 0 = .ok (.aload_n 0, 1) := by decide +kernel
theorem d_T_foesOf_1 : decode cT_foesOf 1 = .ok (.getfield 27, 3) := by decide +kernel
theorem d_T_foesOf_4 : decode cT_foesOf 4 = .ok (.iconst 1, 1) := by decide +kernel
theorem d_T_foesOf_5 : decode cT_foesOf 5 = .ok (.aaload, 1) := by decide +kernel
theorem d_T_foesOf_6 : decode cT_foesOf 6 = .ok (.iload_n 1, 1) := by decide +kernel
theorem d_T_foesOf_7 : decode cT_foesOf 7 = .ok (.iaload, 1) := by decide +kernel
theorem d_T_foesOf_8 : decode cT_foesOf 8 = .ok (.istore_n 2, 1) := by decide +kernel
theorem d_T_foesOf_9 : decode cT_foesOf 9 = .ok (.iconst 0, 1) := by decide +kernel
theorem d_T_foesOf_10 : decode cT_foesOf 10 = .ok (.istore_n 3, 1) := by decide +kernel
theorem d_T_foesOf_11 : decode cT_foesOf 11 = .ok (.iload_n 3, 1) := by decide +kernel
theorem d_T_foesOf_12 : decode cT_foesOf 12 = .ok (.bipush 40, 2) := by decide +kernel
theorem d_T_foesOf_14 : decode cT_foesOf 14 = .ok (.if_icmp .ge 31, 3) := by decide +kernel
theorem d_T_foesOf_17 : decode cT_foesOf 17 = .ok (.aload_n 0, 1) := by decide +kernel
theorem d_T_foesOf_18 : decode cT_foesOf 18 = .ok (.getfield 18, 3) := by decide +kernel
theorem d_T_foesOf_21 : decode cT_foesOf 21 = .ok (.iload_n 3, 1) := by decide +kernel
theorem d_T_foesOf_22 : decode cT_foesOf 22 = .ok (.iaload, 1) := by decide +kernel
theorem d_T_foesOf_23 : decode cT_foesOf 23 = .ok (.iload_n 1, 1) := by decide +kernel
theorem d_T_foesOf_24 : decode cT_foesOf 24 = .ok (.invokestatic 57, 3) := by decide +kernel
theorem d_T_foesOf_27 : decode cT_foesOf 27 = .ok (.ifCond .eq 12, 3) := by decide +kernel
theorem d_T_foesOf_30 : decode cT_foesOf 30 = .ok (.iload_n 2, 1) := by decide +kernel
theorem d_T_foesOf_31 : decode cT_foesOf 31 = .ok (.aload_n 0, 1) := by decide +kernel
theorem d_T_foesOf_32 : decode cT_foesOf 32 = .ok (.getfield 18, 3) := by decide +kernel
theorem d_T_foesOf_35 : decode cT_foesOf 35 = .ok (.iload_n 3, 1) := by decide +kernel
theorem d_T_foesOf_36 : decode cT_foesOf 36 = .ok (.iaload, 1) := by decide +kernel
theorem d_T_foesOf_37 : decode cT_foesOf 37 = .ok (.ior, 1) := by decide +kernel
theorem d_T_foesOf_38 : decode cT_foesOf 38 = .ok (.istore_n 2, 1) := by decide +kernel
theorem d_T_foesOf_39 : decode cT_foesOf 39 = .ok (.iinc 3 1, 3) := by decide +kernel
theorem d_T_foesOf_42 : decode cT_foesOf 42 = .ok (.goto (-31), 3) := by decide +kernel
theorem d_T_foesOf_45 : decode cT_foesOf 45 = .ok (.iload_n 2, 1) := by decide +kernel
theorem d_T_foesOf_46 : decode cT_foesOf 46 = .ok (.iload_n 1, 1) := by decide +kernel
theorem d_T_foesOf_47 : decode cT_foesOf 47 = .ok (.iconst 0, 1) := by decide +kernel
theorem d_T_foesOf_48 : decode cT_foesOf 48 = .ok (.invokestatic 61, 3) := by decide +kernel
theorem d_T_foesOf_51 : decode cT_foesOf 51 = .ok (.ireturn, 1) := by decide +kernel
theorem d_E_has_0 : decode cE_has 0 = .ok (.iload_n 0, 1) := by decide +kernel
theorem d_E_has_1 : decode cE_has 1 = .ok (.iconst 1, 1) := by decide +kernel
theorem d_E_has_2 : decode cE_has 2 = .ok (.iload_n 1, 1) := by decide +kernel
theorem d_E_has_3 : decode cE_has 3 = .ok (.ishl, 1) := by decide +kernel
theorem d_E_has_4 : decode cE_has 4 = .ok (.iand, 1) := by decide +kernel
theorem d_E_has_5 : decode cE_has 5 = .ok (.ifCond .eq 7, 3) := by decide +kernel
theorem d_E_has_8 : decode cE_has 8 = .ok (.iconst 1, 1) := by decide +kernel
theorem d_E_has_9 : decode cE_has 9 = .ok (.goto 4, 3) := by decide +kernel
theorem d_E_has_12 : decode cE_has 12 = .ok (.iconst 0, 1) := by decide +kernel
theorem d_E_has_13 : decode cE_has 13 = .ok (.ireturn, 1) := by decide +kernel
theorem d_T_papersFitting_0 : decode cT_papersFitting 0 = .ok (.aload_n 0, 1) := by decide +kernel
theorem d_T_papersFitting_1 : decode cT_papersFitting 1 = .ok (.invokevirtual 71, 3) := by decide +kernel
theorem d_T_papersFitting_4 : decode cT_papersFitting 4 = .ok (.istore_n 2, 1) := by decide +kernel
theorem d_T_papersFitting_5 : decode cT_papersFitting 5 = .ok (.iconst 0, 1) := by decide +kernel
theorem d_T_papersFitting_6 : decode cT_papersFitting 6 = .ok (.istore_n 3, 1) := by decide +kernel
theorem d_T_papersFitting_7 : decode cT_papersFitting 7 = .ok (.iload_n 3, 1) := by decide +kernel
theorem d_T_papersFitting_8 : decode cT_papersFitting 8 = .ok (.bipush 9, 2) := by decide +kernel
theorem d_T_papersFitting_10 : decode cT_papersFitting 10 = .ok (.if_icmp .ge 63, 3) := by decide +kernel
theorem d_T_papersFitting_13 : decode cT_papersFitting 13 = .ok (.aload_n 0, 1) := by decide +kernel
theorem d_T_papersFitting_14 : decode cT_papersFitting 14 = .ok (.getfield 30, 3) := by decide +kernel
theorem d_T_papersFitting_17 : decode cT_papersFitting 17 = .ok (.iload_n 3, 1) := by decide +kernel
theorem d_T_papersFitting_18 : decode cT_papersFitting 18 = .ok (.iaload, 1) := by decide +kernel
theorem d_T_papersFitting_19 : decode cT_papersFitting 19 = .ok (.iconst (-1), 1) := by decide +kernel
theorem d_T_papersFitting_20 : decode cT_papersFitting 20 = .ok (.if_icmp .eq 17, 3) := by decide +kernel
theorem d_T_papersFitting_23 : decode cT_papersFitting 23 = .ok (.aload_n 0, 1) := by decide +kernel
theorem d_T_papersFitting_24 : decode cT_papersFitting 24 = .ok (.getfield 30, 3) := by decide +kernel
theorem d_T_papersFitting_27 : decode cT_papersFitting 27 = .ok (.iload_n 3, 1) := by decide +kernel
theorem d_T_papersFitting_28 : decode cT_papersFitting 28 = .ok (.iaload, 1) := by decide +kernel
theorem d_T_papersFitting_29 : decode cT_papersFitting 29 = .ok (.iload_n 1, 1) := by decide +kernel
theorem d_T_papersFitting_30 : decode cT_papersFitting 30 = .ok (.if_icmp .eq 7, 3) := by decide +kernel
theorem d_T_papersFitting_33 : decode cT_papersFitting 33 = .ok (.iconst 1, 1) := by decide +kernel
theorem d_T_papersFitting_34 : decode cT_papersFitting 34 = .ok (.goto 4, 3) := by decide +kernel
theorem d_T_papersFitting_37 : decode cT_papersFitting 37 = .ok (.iconst 0, 1) := by decide +kernel
theorem d_T_papersFitting_38 : decode cT_papersFitting 38 = .ok (.istore 4, 2) := by decide +kernel
theorem d_T_papersFitting_40 : decode cT_papersFitting 40 = .ok (.iload 4, 2) := by decide +kernel
theorem d_T_papersFitting_42 : decode cT_papersFitting 42 = .ok (.ifCond .ne 18, 3) := by decide +kernel
theorem d_T_papersFitting_45 : decode cT_papersFitting 45 = .ok (.aload_n 0, 1) := by decide +kernel
theorem d_T_papersFitting_46 : decode cT_papersFitting 46 = .ok (.getfield 9, 3) := by decide +kernel
theorem d_T_papersFitting_49 : decode cT_papersFitting 49 = .ok (.iload_n 3, 1) := by decide +kernel
theorem d_T_papersFitting_50 : decode cT_papersFitting 50 = .ok (.iaload, 1) := by decide +kernel
theorem d_T_papersFitting_51 : decode cT_papersFitting 51 = .ok (.aload_n 0, 1) := by decide +kernel
theorem d_T_papersFitting_52 : decode cT_papersFitting 52 = .ok (.getfield 15, 3) := by decide +kernel
theorem d_T_papersFitting_55 : decode cT_papersFitting 55 = .ok (.iload_n 1, 1) := by decide +kernel
theorem d_T_papersFitting_56 : decode cT_papersFitting 56 = .ok (.iaload, 1) := by decide +kernel
theorem d_T_papersFitting_57 : decode cT_papersFitting 57 = .ok (.if_icmp .le 10, 3) := by decide +kernel
theorem d_T_papersFitting_60 : decode cT_papersFitting 60 = .ok (.iload_n 2, 1) := by decide +kernel
theorem d_T_papersFitting_61 : decode cT_papersFitting 61 = .ok (.iload_n 3, 1) := by decide +kernel
theorem d_T_papersFitting_62 : decode cT_papersFitting 62 = .ok (.iconst 0, 1) := by decide +kernel
theorem d_T_papersFitting_63 : decode cT_papersFitting 63 = .ok (.invokestatic 61, 3) := by decide +kernel
theorem d_T_papersFitting_66 : decode cT_papersFitting 66 = .ok (.istore_n 2, 1) := by decide +kernel
theorem d_T_papersFitting_67 : decode cT_papersFitting 67 = .ok (.iinc 3 1, 3) := by decide +kernel
theorem d_T_papersFitting_70 : decode cT_papersFitting 70 = .ok (.goto (-63), 3) := by decide +kernel
theorem d_T_papersFitting_73 : decode cT_papersFitting 73 = .ok (.iload_n 2, 1) := by decide +kernel
theorem d_T_papersFitting_74 : decode cT_papersFitting 74 = .ok (.ireturn, 1) := by decide +kernel
theorem d_P_useSession_0 : decode cP_useSession 0 = .ok (.aload_n 0, 1) := by decide +kernel
theorem d_P_useSession_1 : decode cP_useSession 1 = .ok (.getfield 27, 3) := by decide +kernel
theorem d_P_useSession_4 : decode cP_useSession 4 = .ok (.istore_n 3, 1) := by decide +kernel
theorem d_P_useSession_5 : decode cP_useSession 5 = .ok (.iload_n 3, 1) := by decide +kernel
theorem d_P_useSession_6 : decode cP_useSession 6 = .ok (.ifCond .lt 47, 3) := by decide +kernel
theorem d_P_useSession_9 : decode cP_useSession 9 = .ok (.aload_n 0, 1) := by decide +kernel
theorem d_P_useSession_10 : decode cP_useSession 10 = .ok (.getfield 15, 3) := by decide +kernel
theorem d_P_useSession_13 : decode cP_useSession 13 = .ok (.iload_n 3, 1) := by decide +kernel
theorem d_P_useSession_14 : decode cP_useSession 14 = .ok (.iaload, 1) := by decide +kernel
theorem d_P_useSession_15 : decode cP_useSession 15 = .ok (.ldc 31, 2) := by decide +kernel
theorem d_P_useSession_17 : decode cP_useSession 17 = .ok (.iadd, 1) := by decide +kernel
theorem d_P_useSession_18 : decode cP_useSession 18 = .ok (.aload_n 0, 1) := by decide +kernel
theorem d_P_useSession_19 : decode cP_useSession 19 = .ok (.getfield 15, 3) := by decide +kernel
theorem d_P_useSession_22 : decode cP_useSession 22 = .ok (.aload_n 0, 1) := by decide +kernel
theorem d_P_useSession_23 : decode cP_useSession 23 = .ok (.getfield 27, 3) := by decide +kernel
theorem d_P_useSession_26 : decode cP_useSession 26 = .ok (.iaload, 1) := by decide +kernel
theorem d_P_useSession_27 : decode cP_useSession 27 = .ok (.if_icmp .ge 20, 3) := by decide +kernel
theorem d_P_useSession_30 : decode cP_useSession 30 = .ok (.aload_n 0, 1) := by decide +kernel
theorem d_P_useSession_31 : decode cP_useSession 31 = .ok (.iload_n 3, 1) := by decide +kernel
theorem d_P_useSession_32 : decode cP_useSession 32 = .ok (.iload_n 1, 1) := by decide +kernel
theorem d_P_useSession_33 : decode cP_useSession 33 = .ok (.iload_n 2, 1) := by decide +kernel
theorem d_P_useSession_34 : decode cP_useSession 34 = .ok (.iload_n 3, 1) := by decide +kernel
theorem d_P_useSession_35 : decode cP_useSession 35 = .ok (.iconst (-1), 1) := by decide +kernel
theorem d_P_useSession_36 : decode cP_useSession 36 = .ok (.ixor, 1) := by decide +kernel
theorem d_P_useSession_37 : decode cP_useSession 37 = .ok (.iand, 1) := by decide +kernel
theorem d_P_useSession_38 : decode cP_useSession 38 = .ok (.aload_n 0, 1) := by decide +kernel
theorem d_P_useSession_39 : decode cP_useSession 39 = .ok (.iload_n 3, 1) := by decide +kernel
theorem d_P_useSession_40 : decode cP_useSession 40 = .ok (.invokevirtual 64, 3) := by decide +kernel
theorem d_P_useSession_43 : decode cP_useSession 43 = .ok (.iand, 1) := by decide +kernel
theorem d_P_useSession_44 : decode cP_useSession 44 = .ok (.invokevirtual 67, 3) := by decide +kernel
theorem d_P_useSession_47 : decode cP_useSession 47 = .ok (.iinc 3 (-1), 3) := by decide +kernel
theorem d_P_useSession_50 : decode cP_useSession 50 = .ok (.goto (-45), 3) := by decide +kernel
theorem d_P_useSession_53 : decode cP_useSession 53 = .ok (.return_, 1) := by decide +kernel
theorem d_P_papersReady_0 : decode cP_papersReady 0 = .ok (.iconst 0, 1) := by decide +kernel
theorem d_P_papersReady_1 : decode cP_papersReady 1 = .ok (.istore_n 2, 1) := by decide +kernel
theorem d_P_papersReady_2 : decode cP_papersReady 2 = .ok (.iconst 0, 1) := by decide +kernel
theorem d_P_papersReady_3 : decode cP_papersReady 3 = .ok (.istore_n 3, 1) := by decide +kernel
theorem d_P_papersReady_4 : decode cP_papersReady 4 = .ok (.iload_n 3, 1) := by decide +kernel
theorem d_P_papersReady_5 : decode cP_papersReady 5 = .ok (.bipush 9, 2) := by decide +kernel
theorem d_P_papersReady_7 : decode cP_papersReady 7 = .ok (.if_icmp .ge 33, 3) := by decide +kernel
theorem d_P_papersReady_10 : decode cP_papersReady 10 = .ok (.iload_n 2, 1) := by decide +kernel
theorem d_P_papersReady_11 : decode cP_papersReady 11 = .ok (.iload_n 3, 1) := by decide +kernel
theorem d_P_papersReady_12 : decode cP_papersReady 12 = .ok (.aload_n 0, 1) := by decide +kernel
theorem d_P_papersReady_13 : decode cP_papersReady 13 = .ok (.getfield 24, 3) := by decide +kernel
theorem d_P_papersReady_16 : decode cP_papersReady 16 = .ok (.iload_n 3, 1) := by decide +kernel
theorem d_P_papersReady_17 : decode cP_papersReady 17 = .ok (.iaload, 1) := by decide +kernel
theorem d_P_papersReady_18 : decode cP_papersReady 18 = .ok (.iload_n 1, 1) := by decide +kernel
theorem d_P_papersReady_19 : decode cP_papersReady 19 = .ok (.iconst (-1), 1) := by decide +kernel
theorem d_P_papersReady_20 : decode cP_papersReady 20 = .ok (.ixor, 1) := by decide +kernel
theorem d_P_papersReady_21 : decode cP_papersReady 21 = .ok (.iand, 1) := by decide +kernel
theorem d_P_papersReady_22 : decode cP_papersReady 22 = .ok (.ifCond .ne 7, 3) := by decide +kernel
theorem d_P_papersReady_25 : decode cP_papersReady 25 = .ok (.iconst 1, 1) := by decide +kernel
theorem d_P_papersReady_26 : decode cP_papersReady 26 = .ok (.goto 4, 3) := by decide +kernel
theorem d_P_papersReady_29 : decode cP_papersReady 29 = .ok (.iconst 0, 1) := by decide +kernel
theorem d_P_papersReady_30 : decode cP_papersReady 30 = .ok (.invokestatic 71, 3) := by decide +kernel
theorem d_P_papersReady_33 : decode cP_papersReady 33 = .ok (.istore_n 2, 1) := by decide +kernel
theorem d_P_papersReady_34 : decode cP_papersReady 34 = .ok (.iinc 3 1, 3) := by decide +kernel
theorem d_P_papersReady_37 : decode cP_papersReady 37 = .ok (.goto (-33), 3) := by decide +kernel
theorem d_P_papersReady_40 : decode cP_papersReady 40 = .ok (.iload_n 2, 1) := by decide +kernel
theorem d_P_papersReady_41 : decode cP_papersReady 41 = .ok (.ireturn, 1) := by decide +kernel
theorem d_P_addMeetings_0 : decode cP_addMeetings 0 = .ok (.iload_n 3, 1) := by decide +kernel
theorem d_P_addMeetings_1 : decode cP_addMeetings 1 = .ok (.istore 4, 2) := by decide +kernel
theorem d_P_addMeetings_3 : decode cP_addMeetings 3 = .ok (.iconst 1, 1) := by decide +kernel
theorem d_P_addMeetings_4 : decode cP_addMeetings 4 = .ok (.iload_n 3, 1) := by decide +kernel
theorem d_P_addMeetings_5 : decode cP_addMeetings 5 = .ok (.invokestatic 75, 3) := by decide +kernel
theorem d_P_addMeetings_8 : decode cP_addMeetings 8 = .ok (.ishl, 1) := by decide +kernel
theorem d_P_addMeetings_9 : decode cP_addMeetings 9 = .ok (.iconst 1, 1) := by decide +kernel
theorem d_P_addMeetings_10 : decode cP_addMeetings 10 = .ok (.isub, 1) := by decide +kernel
theorem d_P_addMeetings_11 : decode cP_addMeetings 11 = .ok (.istore 5, 2) := by decide +kernel
theorem d_P_addMeetings_13 : decode cP_addMeetings 13 = .ok (.iload 5, 2) := by decide +kernel
theorem d_P_addMeetings_15 : decode cP_addMeetings 15 = .ok (.ifCond .le 72, 3) := by decide +kernel
theorem d_P_addMeetings_18 : decode cP_addMeetings 18 = .ok (.aload_n 0, 1) := by decide +kernel
theorem d_P_addMeetings_19 : decode cP_addMeetings 19 = .ok (.getfield 15, 3) := by decide +kernel
theorem d_P_addMeetings_22 : decode cP_addMeetings 22 = .ok (.iload_n 1, 1) := by decide +kernel
theorem d_P_addMeetings_23 : decode cP_addMeetings 23 = .ok (.iaload, 1) := by decide +kernel
theorem d_P_addMeetings_24 : decode cP_addMeetings 24 = .ok (.ldc 31, 2) := by decide +kernel
theorem d_P_addMeetings_26 : decode cP_addMeetings 26 = .ok (.iadd, 1) := by decide +kernel
theorem d_P_addMeetings_27 : decode cP_addMeetings 27 = .ok (.iload_n 2, 1) := by decide +kernel
theorem d_P_addMeetings_28 : decode cP_addMeetings 28 = .ok (.aload_n 0, 1) := by decide +kernel
theorem d_P_addMeetings_29 : decode cP_addMeetings 29 = .ok (.getfield 11, 3) := by decide +kernel
theorem d_P_addMeetings_32 : decode cP_addMeetings 32 = .ok (.iload 4, 2) := by decide +kernel
theorem d_P_addMeetings_34 : decode cP_addMeetings 34 = .ok (.iaload, 1) := by decide +kernel
theorem d_P_addMeetings_35 : decode cP_addMeetings 35 = .ok (.imul, 1) := by decide +kernel
theorem d_P_addMeetings_36 : decode cP_addMeetings 36 = .ok (.iadd, 1) := by decide +kernel
theorem d_P_addMeetings_37 : decode cP_addMeetings 37 = .ok (.istore 6, 2) := by decide +kernel
theorem d_P_addMeetings_39 : decode cP_addMeetings 39 = .ok (.aload_n 0, 1) := by decide +kernel
theorem d_P_addMeetings_40 : decode cP_addMeetings 40 = .ok (.iload 4, 2) := by decide +kernel
theorem d_P_addMeetings_42 : decode cP_addMeetings 42 = .ok (.invokevirtual 80, 3) := by decide +kernel
theorem d_P_addMeetings_45 : decode cP_addMeetings 45 = .ok (.ifCond .eq 28, 3) := by decide +kernel
theorem d_P_addMeetings_48 : decode cP_addMeetings 48 = .ok (.iload 6, 2) := by decide +kernel
theorem d_P_addMeetings_50 : decode cP_addMeetings 50 = .ok (.aload_n 0, 1) := by decide +kernel
theorem d_P_addMeetings_51 : decode cP_addMeetings 51 = .ok (.getfield 15, 3) := by decide +kernel
theorem d_P_addMeetings_54 : decode cP_addMeetings 54 = .ok (.iload_n 1, 1) := by decide +kernel
theorem d_P_addMeetings_55 : decode cP_addMeetings 55 = .ok (.iload 4, 2) := by decide +kernel
theorem d_P_addMeetings_57 : decode cP_addMeetings 57 = .ok (.ior, 1) := by decide +kernel
theorem d_P_addMeetings_58 : decode cP_addMeetings 58 = .ok (.iaload, 1) := by decide +kernel
theorem d_P_addMeetings_59 : decode cP_addMeetings 59 = .ok (.if_icmp .ge 14, 3) := by decide +kernel
theorem d_P_addMeetings_62 : decode cP_addMeetings 62 = .ok (.aload_n 0, 1) := by decide +kernel
theorem d_P_addMeetings_63 : decode cP_addMeetings 63 = .ok (.getfield 15, 3) := by decide +kernel
theorem d_P_addMeetings_66 : decode cP_addMeetings 66 = .ok (.iload_n 1, 1) := by decide +kernel
theorem d_P_addMeetings_67 : decode cP_addMeetings 67 = .ok (.iload 4, 2) := by decide +kernel
theorem d_P_addMeetings_69 : decode cP_addMeetings 69 = .ok (.ior, 1) := by decide +kernel
theorem d_P_addMeetings_70 : decode cP_addMeetings 70 = .ok (.iload 6, 2) := by decide +kernel
theorem d_P_addMeetings_72 : decode cP_addMeetings 72 = .ok (.iastore, 1) := by decide +kernel
theorem d_P_addMeetings_73 : decode cP_addMeetings 73 = .ok (.iload 4, 2) := by decide +kernel
theorem d_P_addMeetings_75 : decode cP_addMeetings 75 = .ok (.iconst 1, 1) := by decide +kernel
theorem d_P_addMeetings_76 : decode cP_addMeetings 76 = .ok (.isub, 1) := by decide +kernel
theorem d_P_addMeetings_77 : decode cP_addMeetings 77 = .ok (.iload_n 3, 1) := by decide +kernel
theorem d_P_addMeetings_78 : decode cP_addMeetings 78 = .ok (.iand, 1) := by decide +kernel
theorem d_P_addMeetings_79 : decode cP_addMeetings 79 = .ok (.istore 4, 2) := by decide +kernel
theorem d_P_addMeetings_81 : decode cP_addMeetings 81 = .ok (.iinc 5 (-1), 3) := by decide +kernel
theorem d_P_addMeetings_84 : decode cP_addMeetings 84 = .ok (.goto (-71), 3) := by decide +kernel
theorem d_P_addMeetings_87 : decode cP_addMeetings 87 = .ok (.return_, 1) := by decide +kernel
theorem d_P_mayMeet_0 : decode cP_mayMeet 0 = .ok (.aload_n 0, 1) := by decide +kernel
theorem d_P_mayMeet_1 : decode cP_mayMeet 1 = .ok (.getfield 18, 3) := by decide +kernel
theorem d_P_mayMeet_4 : decode cP_mayMeet 4 = .ok (.iload_n 1, 1) := by decide +kernel
theorem d_P_mayMeet_5 : decode cP_mayMeet 5 = .ok (.iaload, 1) := by decide +kernel
theorem d_P_mayMeet_6 : decode cP_mayMeet 6 = .ok (.iload_n 1, 1) := by decide +kernel
theorem d_P_mayMeet_7 : decode cP_mayMeet 7 = .ok (.iand, 1) := by decide +kernel
theorem d_P_mayMeet_8 : decode cP_mayMeet 8 = .ok (.ifCond .ne 20, 3) := by decide +kernel
theorem d_P_mayMeet_11 : decode cP_mayMeet 11 = .ok (.aload_n 0, 1) := by decide +kernel
theorem d_P_mayMeet_12 : decode cP_mayMeet 12 = .ok (.getfield 21, 3) := by decide +kernel
theorem d_P_mayMeet_15 : decode cP_mayMeet 15 = .ok (.iload_n 1, 1) := by decide +kernel
theorem d_P_mayMeet_16 : decode cP_mayMeet 16 = .ok (.iaload, 1) := by decide +kernel
theorem d_P_mayMeet_17 : decode cP_mayMeet 17 = .ok (.iload_n 1, 1) := by decide +kernel
theorem d_P_mayMeet_18 : decode cP_mayMeet 18 = .ok (.iconst (-1), 1) := by decide +kernel
theorem d_P_mayMeet_19 : decode cP_mayMeet 19 = .ok (.ixor, 1) := by decide +kernel
theorem d_P_mayMeet_20 : decode cP_mayMeet 20 = .ok (.iand, 1) := by decide +kernel
theorem d_P_mayMeet_21 : decode cP_mayMeet 21 = .ok (.ifCond .ne 7, 3) := by decide +kernel
theorem d_P_mayMeet_24 : decode cP_mayMeet 24 = .ok (.iconst 1, 1) := by decide +kernel
theorem d_P_mayMeet_25 : decode cP_mayMeet 25 = .ok (.goto 4, 3) := by decide +kernel
theorem d_P_mayMeet_28 : decode cP_mayMeet 28 = .ok (.iconst 0, 1) := by decide +kernel
theorem d_P_mayMeet_29 : decode cP_mayMeet 29 = .ok (.ireturn, 1) := by decide +kernel
theorem d_T_readPlan_0 : decode cT_readPlan 0 = .ok (.aload_n 0, 1) := by decide +kernel
theorem d_T_readPlan_1 : decode cT_readPlan 1 = .ok (.invokevirtual 71, 3) := by decide +kernel
theorem d_T_readPlan_4 : decode cT_readPlan 4 = .ok (.istore_n 2, 1) := by decide +kernel
theorem d_T_readPlan_5 : decode cT_readPlan 5 = .ok (.iload_n 1, 1) := by decide +kernel
theorem d_T_readPlan_6 : decode cT_readPlan 6 = .ok (.istore_n 3, 1) := by decide +kernel
theorem d_T_readPlan_7 : decode cT_readPlan 7 = .ok (.bipush 8, 2) := by decide +kernel
theorem d_T_readPlan_9 : decode cT_readPlan 9 = .ok (.istore 4, 2) := by decide +kernel
theorem d_T_readPlan_11 : decode cT_readPlan 11 = .ok (.iload 4, 2) := by decide +kernel
theorem d_T_readPlan_13 : decode cT_readPlan 13 = .ok (.ifCond .lt 38, 3) := by decide +kernel
theorem d_T_readPlan_16 : decode cT_readPlan 16 = .ok (.aload_n 0, 1) := by decide +kernel
theorem d_T_readPlan_17 : decode cT_readPlan 17 = .ok (.getfield 33, 3) := by decide +kernel
theorem d_T_readPlan_20 : decode cT_readPlan 20 = .ok (.iload 4, 2) := by decide +kernel
theorem d_T_readPlan_22 : decode cT_readPlan 22 = .ok (.iload_n 2, 1) := by decide +kernel
theorem d_T_readPlan_23 : decode cT_readPlan 23 = .ok (.iload 4, 2) := by decide +kernel
theorem d_T_readPlan_25 : decode cT_readPlan 25 = .ok (.invokestatic 57, 3) := by decide +kernel
theorem d_T_readPlan_28 : decode cT_readPlan 28 = .ok (.ifCond .eq 10, 3) := by decide +kernel
theorem d_T_readPlan_31 : decode cT_readPlan 31 = .ok (.iload_n 3, 1) := by decide +kernel
theorem d_T_readPlan_32 : decode cT_readPlan 32 = .ok (.bipush 6, 2) := by decide +kernel
theorem d_T_readPlan_34 : decode cT_readPlan 34 = .ok (.irem, 1) := by decide +kernel
theorem d_T_readPlan_35 : decode cT_readPlan 35 = .ok (.goto 4, 3) := by decide +kernel
theorem d_T_readPlan_38 : decode cT_readPlan 38 = .ok (.iconst (-1), 1) := by decide +kernel
theorem d_T_readPlan_39 : decode cT_readPlan 39 = .ok (.iastore, 1) := by decide +kernel
theorem d_T_readPlan_40 : decode cT_readPlan 40 = .ok (.iload_n 3, 1) := by decide +kernel
theorem d_T_readPlan_41 : decode cT_readPlan 41 = .ok (.bipush 6, 2) := by decide +kernel
theorem d_T_readPlan_43 : decode cT_readPlan 43 = .ok (.idiv, 1) := by decide +kernel
theorem d_T_readPlan_44 : decode cT_readPlan 44 = .ok (.istore_n 3, 1) := by decide +kernel
theorem d_T_readPlan_45 : decode cT_readPlan 45 = .ok (.iinc 4 (-1), 3) := by decide +kernel
theorem d_T_readPlan_48 : decode cT_readPlan 48 = .ok (.goto (-37), 3) := by decide +kernel
theorem d_T_readPlan_51 : decode cT_readPlan 51 = .ok (.return_, 1) := by decide +kernel
theorem d_E_strain_0 : decode cE_strain 0 = .ok (.aload_n 0, 1) := by decide +kernel
theorem d_E_strain_1 : decode cE_strain 1 = .ok (.getfield 12, 3) := by decide +kernel
theorem d_E_strain_4 : decode cE_strain 4 = .ok (.invokevirtual 100, 3) := by decide +kernel
theorem d_E_strain_7 : decode cE_strain 7 = .ok (.ireturn, 1) := by decide +kernel
theorem d_T_sessionsInARow_0 : decode cT_sessionsInARow 0 = .ok (.iconst 0, 1) := by decide +kernel
theorem d_T_sessionsInARow_1 : decode cT_sessionsInARow 1 = .ok (.istore_n 1, 1) := by decide +kernel
theorem d_T_sessionsInARow_2 : decode cT_sessionsInARow 2 = .ok (.iconst 0, 1) := by decide +kernel
theorem d_T_sessionsInARow_3 : decode cT_sessionsInARow 3 = .ok (.istore_n 2, 1) := by decide +kernel
theorem d_T_sessionsInARow_4 : decode cT_sessionsInARow 4 = .ok (.iload_n 2, 1) := by decide +kernel
theorem d_T_sessionsInARow_5 : decode cT_sessionsInARow 5 = .ok (.bipush 40, 2) := by decide +kernel
theorem d_T_sessionsInARow_7 : decode cT_sessionsInARow 7 = .ok (.if_icmp .ge 26, 3) := by decide +kernel
theorem d_T_sessionsInARow_10 : decode cT_sessionsInARow 10 = .ok (.aload_n 0, 1) := by decide +kernel
theorem d_T_sessionsInARow_11 : decode cT_sessionsInARow 11 = .ok (.iload_n 2, 1) := by decide +kernel
theorem d_T_sessionsInARow_12 : decode cT_sessionsInARow 12 = .ok (.invokevirtual 85, 3) := by decide +kernel
theorem d_T_sessionsInARow_15 : decode cT_sessionsInARow 15 = .ok (.istore_n 3, 1) := by decide +kernel
theorem d_T_sessionsInARow_16 : decode cT_sessionsInARow 16 = .ok (.iload_n 1, 1) := by decide +kernel
theorem d_T_sessionsInARow_17 : decode cT_sessionsInARow 17 = .ok (.iload_n 3, 1) := by decide +kernel
theorem d_T_sessionsInARow_18 : decode cT_sessionsInARow 18 = .ok (.iload_n 3, 1) := by decide +kernel
theorem d_T_sessionsInARow_19 : decode cT_sessionsInARow 19 = .ok (.iconst 1, 1) := by decide +kernel
theorem d_T_sessionsInARow_20 : decode cT_sessionsInARow 20 = .ok (.ishr, 1) := by decide +kernel
theorem d_T_sessionsInARow_21 : decode cT_sessionsInARow 21 = .ok (.iand, 1) := by decide +kernel
theorem d_T_sessionsInARow_22 : decode cT_sessionsInARow 22 = .ok (.invokestatic 65, 3) := by decide +kernel
theorem d_T_sessionsInARow_25 : decode cT_sessionsInARow 25 = .ok (.iadd, 1) := by decide +kernel
theorem d_T_sessionsInARow_26 : decode cT_sessionsInARow 26 = .ok (.istore_n 1, 1) := by decide +kernel
theorem d_T_sessionsInARow_27 : decode cT_sessionsInARow 27 = .ok (.iinc 2 1, 3) := by decide +kernel
theorem d_T_sessionsInARow_30 : decode cT_sessionsInARow 30 = .ok (.goto (-26), 3) := by decide +kernel
theorem d_T_sessionsInARow_33 : decode cT_sessionsInARow 33 = .ok (.iload_n 1, 1) := by decide +kernel
theorem d_T_sessionsInARow_34 : decode cT_sessionsInARow 34 = .ok (.ireturn, 1) := by decide +kernel
theorem d_T_sessionsOf_0 : decode cT_sessionsOf 0 = .ok (.iconst 0, 1) := by decide +kernel
theorem d_T_sessionsOf_1 : decode cT_sessionsOf 1 = .ok (.istore_n 2, 1) := by decide +kernel
theorem d_T_sessionsOf_2 : decode cT_sessionsOf 2 = .ok (.iconst 0, 1) := by decide +kernel
theorem d_T_sessionsOf_3 : decode cT_sessionsOf 3 = .ok (.istore_n 3, 1) := by decide +kernel
theorem d_T_sessionsOf_4 : decode cT_sessionsOf 4 = .ok (.iload_n 3, 1) := by decide +kernel
theorem d_T_sessionsOf_5 : decode cT_sessionsOf 5 = .ok (.bipush 9, 2) := by decide +kernel
theorem d_T_sessionsOf_7 : decode cT_sessionsOf 7 = .ok (.if_icmp .ge 43, 3) := by decide +kernel
theorem d_T_sessionsOf_10 : decode cT_sessionsOf 10 = .ok (.aload_n 0, 1) := by decide +kernel
theorem d_T_sessionsOf_11 : decode cT_sessionsOf 11 = .ok (.getfield 33, 3) := by decide +kernel
theorem d_T_sessionsOf_14 : decode cT_sessionsOf 14 = .ok (.iload_n 3, 1) := by decide +kernel
theorem d_T_sessionsOf_15 : decode cT_sessionsOf 15 = .ok (.iaload, 1) := by decide +kernel
theorem d_T_sessionsOf_16 : decode cT_sessionsOf 16 = .ok (.iconst (-1), 1) := by decide +kernel
theorem d_T_sessionsOf_17 : decode cT_sessionsOf 17 = .ok (.if_icmp .eq 27, 3) := by decide +kernel
theorem d_T_sessionsOf_20 : decode cT_sessionsOf 20 = .ok (.aload_n 0, 1) := by decide +kernel
theorem d_T_sessionsOf_21 : decode cT_sessionsOf 21 = .ok (.getfield 18, 3) := by decide +kernel
theorem d_T_sessionsOf_24 : decode cT_sessionsOf 24 = .ok (.iload_n 1, 1) := by decide +kernel
theorem d_T_sessionsOf_25 : decode cT_sessionsOf 25 = .ok (.iaload, 1) := by decide +kernel
theorem d_T_sessionsOf_26 : decode cT_sessionsOf 26 = .ok (.iload_n 3, 1) := by decide +kernel
theorem d_T_sessionsOf_27 : decode cT_sessionsOf 27 = .ok (.invokestatic 57, 3) := by decide +kernel
theorem d_T_sessionsOf_30 : decode cT_sessionsOf 30 = .ok (.ifCond .eq 14, 3) := by decide +kernel
theorem d_T_sessionsOf_33 : decode cT_sessionsOf 33 = .ok (.iload_n 2, 1) := by decide +kernel
theorem d_T_sessionsOf_34 : decode cT_sessionsOf 34 = .ok (.iconst 1, 1) := by decide +kernel
theorem d_T_sessionsOf_35 : decode cT_sessionsOf 35 = .ok (.aload_n 0, 1) := by decide +kernel
theorem d_T_sessionsOf_36 : decode cT_sessionsOf 36 = .ok (.getfield 33, 3) := by decide +kernel
theorem d_T_sessionsOf_39 : decode cT_sessionsOf 39 = .ok (.iload_n 3, 1) := by decide +kernel
theorem d_T_sessionsOf_40 : decode cT_sessionsOf 40 = .ok (.iaload, 1) := by decide +kernel
theorem d_T_sessionsOf_41 : decode cT_sessionsOf 41 = .ok (.ishl, 1) := by decide +kernel
theorem d_T_sessionsOf_42 : decode cT_sessionsOf 42 = .ok (.ior, 1) := by decide +kernel
theorem d_T_sessionsOf_43 : decode cT_sessionsOf 43 = .ok (.istore_n 2, 1) := by decide +kernel
theorem d_T_sessionsOf_44 : decode cT_sessionsOf 44 = .ok (.iinc 3 1, 3) := by decide +kernel
theorem d_T_sessionsOf_47 : decode cT_sessionsOf 47 = .ok (.goto (-43), 3) := by decide +kernel
theorem d_T_sessionsOf_50 : decode cT_sessionsOf 50 = .ok (.iload_n 2, 1) := by decide +kernel
theorem d_T_sessionsOf_51 : decode cT_sessionsOf 51 = .ok (.ireturn, 1) := by decide +kernel
theorem d_E_paper_0 : decode cE_paper 0 = .ok (.iload_n 1, 1) := by decide +kernel
theorem d_E_paper_1 : decode cE_paper 1 = .ok (.invokestatic 30, 3) := by decide +kernel
theorem d_E_paper_4 : decode cE_paper 4 = .ok (.invokestatic 34, 3) := by decide +kernel
theorem d_E_paper_7 : decode cE_paper 7 = .ok (.iload_n 2, 1) := by decide +kernel
theorem d_E_paper_8 : decode cE_paper 8 = .ok (.sipush 300, 3) := by decide +kernel
theorem d_E_paper_11 : decode cE_paper 11 = .ok (.invokestatic 38, 3) := by decide +kernel
theorem d_E_paper_14 : decode cE_paper 14 = .ok (.invokestatic 42, 3) := by decide +kernel
theorem d_E_paper_17 : decode cE_paper 17 = .ok (.aload_n 0, 1) := by decide +kernel
theorem d_E_paper_18 : decode cE_paper 18 = .ok (.invokevirtual 45, 3) := by decide +kernel
theorem d_E_paper_21 : decode cE_paper 21 = .ok (.aload_n 0, 1) := by decide +kernel
theorem d_E_paper_22 : decode cE_paper 22 = .ok (.getfield 12, 3) := by decide +kernel
theorem d_E_paper_25 : decode cE_paper 25 = .ok (.getfield 48, 3) := by decide +kernel
theorem d_E_paper_28 : decode cE_paper 28 = .ok (.iload_n 1, 1) := by decide +kernel
theorem d_E_paper_29 : decode cE_paper 29 = .ok (.iaload, 1) := by decide +kernel
theorem d_E_paper_30 : decode cE_paper 30 = .ok (.istore_n 3, 1) := by decide +kernel
theorem d_E_paper_31 : decode cE_paper 31 = .ok (.aload_n 0, 1) := by decide +kernel
theorem d_E_paper_32 : decode cE_paper 32 = .ok (.getfield 12, 3) := by decide +kernel
theorem d_E_paper_35 : decode cE_paper 35 = .ok (.getfield 48, 3) := by decide +kernel
theorem d_E_paper_38 : decode cE_paper 38 = .ok (.iload_n 1, 1) := by decide +kernel
theorem d_E_paper_39 : decode cE_paper 39 = .ok (.iload_n 2, 1) := by decide +kernel
theorem d_E_paper_40 : decode cE_paper 40 = .ok (.iastore, 1) := by decide +kernel
theorem d_E_paper_41 : decode cE_paper 41 = .ok (.iload_n 3, 1) := by decide +kernel
theorem d_E_paper_42 : decode cE_paper 42 = .ok (.ireturn, 1) := by decide +kernel
theorem d_E_isPaper_0 : decode cE_isPaper 0 = .ok (.iload_n 0, 1) := by decide +kernel
theorem d_E_isPaper_1 : decode cE_isPaper 1 = .ok (.bipush 9, 2) := by decide +kernel
theorem d_E_isPaper_3 : decode cE_isPaper 3 = .ok (.invokestatic 75, 3) := by decide +kernel
theorem d_E_isPaper_6 : decode cE_isPaper 6 = .ok (.ireturn, 1) := by decide +kernel
theorem d_E_isBelow_0 : decode cE_isBelow 0 = .ok (.iload_n 0, 1) := by decide +kernel
theorem d_E_isBelow_1 : decode cE_isBelow 1 = .ok (.ifCond .lt 12, 3) := by decide +kernel
theorem d_E_isBelow_4 : decode cE_isBelow 4 = .ok (.iload_n 0, 1) := by decide +kernel
theorem d_E_isBelow_5 : decode cE_isBelow 5 = .ok (.iload_n 1, 1) := by decide +kernel
theorem d_E_isBelow_6 : decode cE_isBelow 6 = .ok (.if_icmp .ge 7, 3) := by decide +kernel
theorem d_E_isBelow_9 : decode cE_isBelow 9 = .ok (.iconst 1, 1) := by decide +kernel
theorem d_E_isBelow_10 : decode cE_isBelow 10 = .ok (.goto 4, 3) := by decide +kernel
theorem d_E_isBelow_13 : decode cE_isBelow 13 = .ok (.iconst 0, 1) := by decide +kernel
theorem d_E_isBelow_14 : decode cE_isBelow 14 = .ok (.ireturn, 1) := by decide +kernel
theorem d_E_mustExist_0 : decode cE_mustExist 0 = .ok (.iload_n 0, 1) := by decide +kernel
theorem d_E_mustExist_1 : decode cE_mustExist 1 = .ok (.ifCond .ne 13, 3) := by decide +kernel
theorem d_E_mustExist_4 : decode cE_mustExist 4 = .ok (.new 206, 3) := by decide +kernel
theorem d_E_mustExist_7 : decode cE_mustExist 7 = .ok (.dup, 1) := by decide +kernel
theorem d_E_mustExist_8 : decode cE_mustExist 8 = .ok (.ldc 208, 2) := by decide +kernel
theorem d_E_mustExist_10 : decode cE_mustExist 10 = .ok (.invokespecial 210, 3) := by decide +kernel
theorem d_E_mustExist_13 : decode cE_mustExist 13 = .ok (.athrow, 1) := by decide +kernel
theorem d_E_mustExist_14 : decode cE_mustExist 14 = .ok (.return_, 1) := by decide +kernel
theorem d_E_isUpTo_0 : decode cE_isUpTo 0 = .ok (.iload_n 0, 1) := by decide +kernel
theorem d_E_isUpTo_1 : decode cE_isUpTo 1 = .ok (.ifCond .lt 12, 3) := by decide +kernel
theorem d_E_isUpTo_4 : decode cE_isUpTo 4 = .ok (.iload_n 0, 1) := by decide +kernel
theorem d_E_isUpTo_5 : decode cE_isUpTo 5 = .ok (.iload_n 1, 1) := by decide +kernel
theorem d_E_isUpTo_6 : decode cE_isUpTo 6 = .ok (.if_icmp .gt 7, 3) := by decide +kernel
theorem d_E_isUpTo_9 : decode cE_isUpTo 9 = .ok (.iconst 1, 1) := by decide +kernel
theorem d_E_isUpTo_10 : decode cE_isUpTo 10 = .ok (.goto 4, 3) := by decide +kernel
theorem d_E_isUpTo_13 : decode cE_isUpTo 13 = .ok (.iconst 0, 1) := by decide +kernel
theorem d_E_isUpTo_14 : decode cE_isUpTo 14 = .ok (.ireturn, 1) := by decide +kernel
theorem d_E_mustBeAllowed_0 : decode cE_mustBeAllowed 0 = .ok (.iload_n 0, 1) := by decide +kernel
theorem d_E_mustBeAllowed_1 : decode cE_mustBeAllowed 1 = .ok (.ifCond .ne 13, 3) := by decide +kernel
theorem d_E_mustBeAllowed_4 : decode cE_mustBeAllowed 4 = .ok (.new 197, 3) := by decide +kernel
theorem d_E_mustBeAllowed_7 : decode cE_mustBeAllowed 7 = .ok (.dup, 1) := by decide +kernel
theorem d_E_mustBeAllowed_8 : decode cE_mustBeAllowed 8 = .ok (.ldc 211, 2) := by decide +kernel
theorem d_E_mustBeAllowed_10 : decode cE_mustBeAllowed 10 = .ok (.invokespecial 201, 3) := by decide +kernel
theorem d_E_mustBeAllowed_13 : decode cE_mustBeAllowed 13 = .ok (.athrow, 1) := by decide +kernel
theorem d_E_mustBeAllowed_14 : decode cE_mustBeAllowed 14 = .ok (.return_, 1) := by decide +kernel
theorem d_E_session_0 : decode cE_session 0 = .ok (.iload_n 1, 1) := by decide +kernel
theorem d_E_session_1 : decode cE_session 1 = .ok (.invokestatic 52, 3) := by decide +kernel
theorem d_E_session_4 : decode cE_session 4 = .ok (.invokestatic 34, 3) := by decide +kernel
theorem d_E_session_7 : decode cE_session 7 = .ok (.iload_n 2, 1) := by decide +kernel
theorem d_E_session_8 : decode cE_session 8 = .ok (.sipush 300, 3) := by decide +kernel
theorem d_E_session_11 : decode cE_session 11 = .ok (.invokestatic 38, 3) := by decide +kernel
theorem d_E_session_14 : decode cE_session 14 = .ok (.invokestatic 42, 3) := by decide +kernel
theorem d_E_session_17 : decode cE_session 17 = .ok (.aload_n 0, 1) := by decide +kernel
theorem d_E_session_18 : decode cE_session 18 = .ok (.invokevirtual 45, 3) := by decide +kernel
theorem d_E_session_21 : decode cE_session 21 = .ok (.aload_n 0, 1) := by decide +kernel
theorem d_E_session_22 : decode cE_session 22 = .ok (.getfield 12, 3) := by decide +kernel
theorem d_E_session_25 : decode cE_session 25 = .ok (.getfield 55, 3) := by decide +kernel
theorem d_E_session_28 : decode cE_session 28 = .ok (.iload_n 1, 1) := by decide +kernel
theorem d_E_session_29 : decode cE_session 29 = .ok (.iaload, 1) := by decide +kernel
theorem d_E_session_30 : decode cE_session 30 = .ok (.istore_n 3, 1) := by decide +kernel
theorem d_E_session_31 : decode cE_session 31 = .ok (.aload_n 0, 1) := by decide +kernel
theorem d_E_session_32 : decode cE_session 32 = .ok (.getfield 12, 3) := by decide +kernel
theorem d_E_session_35 : decode cE_session 35 = .ok (.getfield 55, 3) := by decide +kernel
theorem d_E_session_38 : decode cE_session 38 = .ok (.iload_n 1, 1) := by decide +kernel
theorem d_E_session_39 : decode cE_session 39 = .ok (.iload_n 2, 1) := by decide +kernel
theorem d_E_session_40 : decode cE_session 40 = .ok (.iastore, 1) := by decide +kernel
theorem d_E_session_41 : decode cE_session 41 = .ok (.iload_n 3, 1) := by decide +kernel
theorem d_E_session_42 : decode cE_session 42 = .ok (.ireturn, 1) := by decide +kernel
theorem d_E_isSession_0 : decode cE_isSession 0 = .ok (.iload_n 0, 1) := by decide +kernel
theorem d_E_isSession_1 : decode cE_isSession 1 = .ok (.bipush 6, 2) := by decide +kernel
theorem d_E_isSession_3 : decode cE_isSession 3 = .ok (.invokestatic 75, 3) := by decide +kernel
theorem d_E_isSession_6 : decode cE_isSession 6 = .ok (.ireturn, 1) := by decide +kernel
theorem d_E_enrol_0 : decode cE_enrol 0 = .ok (.iload_n 1, 1) := by decide +kernel
theorem d_E_enrol_1 : decode cE_enrol 1 = .ok (.invokestatic 58, 3) := by decide +kernel
theorem d_E_enrol_4 : decode cE_enrol 4 = .ok (.ifCond .eq 14, 3) := by decide +kernel
theorem d_E_enrol_7 : decode cE_enrol 7 = .ok (.iload_n 2, 1) := by decide +kernel
theorem d_E_enrol_8 : decode cE_enrol 8 = .ok (.invokestatic 30, 3) := by decide +kernel
theorem d_E_enrol_11 : decode cE_enrol 11 = .ok (.ifCond .eq 7, 3) := by decide +kernel
theorem d_E_enrol_14 : decode cE_enrol 14 = .ok (.iconst 1, 1) := by decide +kernel
theorem d_E_enrol_15 : decode cE_enrol 15 = .ok (.goto 4, 3) := by decide +kernel
theorem d_E_enrol_18 : decode cE_enrol 18 = .ok (.iconst 0, 1) := by decide +kernel
theorem d_E_enrol_19 : decode cE_enrol 19 = .ok (.invokestatic 34, 3) := by decide +kernel
theorem d_E_enrol_22 : decode cE_enrol 22 = .ok (.aload_n 0, 1) := by decide +kernel
theorem d_E_enrol_23 : decode cE_enrol 23 = .ok (.getfield 12, 3) := by decide +kernel
theorem d_E_enrol_26 : decode cE_enrol 26 = .ok (.getfield 61, 3) := by decide +kernel
theorem d_E_enrol_29 : decode cE_enrol 29 = .ok (.iload_n 1, 1) := by decide +kernel
theorem d_E_enrol_30 : decode cE_enrol 30 = .ok (.iaload, 1) := by decide +kernel
theorem d_E_enrol_31 : decode cE_enrol 31 = .ok (.istore 4, 2) := by decide +kernel
theorem d_E_enrol_33 : decode cE_enrol 33 = .ok (.iload 4, 2) := by decide +kernel
theorem d_E_enrol_35 : decode cE_enrol 35 = .ok (.iload_n 2, 1) := by decide +kernel
theorem d_E_enrol_36 : decode cE_enrol 36 = .ok (.invokestatic 64, 3) := by decide +kernel
theorem d_E_enrol_39 : decode cE_enrol 39 = .ok (.iload_n 3, 1) := by decide +kernel
theorem d_E_enrol_40 : decode cE_enrol 40 = .ok (.if_icmp .ne 5, 3) := by decide +kernel
theorem d_E_enrol_43 : decode cE_enrol 43 = .ok (.iconst 0, 1) := by decide +kernel
theorem d_E_enrol_44 : decode cE_enrol 44 = .ok (.ireturn, 1) := by decide +kernel
theorem d_E_enrol_45 : decode cE_enrol 45 = .ok (.aload_n 0, 1) := by decide +kernel
theorem d_E_enrol_46 : decode cE_enrol 46 = .ok (.invokevirtual 45, 3) := by decide +kernel
theorem d_E_enrol_49 : decode cE_enrol 49 = .ok (.aload_n 0, 1) := by decide +kernel
theorem d_E_enrol_50 : decode cE_enrol 50 = .ok (.getfield 12, 3) := by decide +kernel
theorem d_E_enrol_53 : decode cE_enrol 53 = .ok (.getfield 61, 3) := by decide +kernel
theorem d_E_enrol_56 : decode cE_enrol 56 = .ok (.iload_n 1, 1) := by decide +kernel
theorem d_E_enrol_57 : decode cE_enrol 57 = .ok (.iload 4, 2) := by decide +kernel
theorem d_E_enrol_59 : decode cE_enrol 59 = .ok (.iload_n 2, 1) := by decide +kernel
theorem d_E_enrol_60 : decode cE_enrol 60 = .ok (.iload_n 3, 1) := by decide +kernel
theorem d_E_enrol_61 : decode cE_enrol 61 = .ok (.invokestatic 67, 3) := by decide +kernel
theorem d_E_enrol_64 : decode cE_enrol 64 = .ok (.iastore, 1) := by decide +kernel
theorem d_E_enrol_65 : decode cE_enrol 65 = .ok (.iconst 1, 1) := by decide +kernel
theorem d_E_enrol_66 : decode cE_enrol 66 = .ok (.ireturn, 1) := by decide +kernel
theorem d_E_isCandidate_0 : decode cE_isCandidate 0 = .ok (.iload_n 0, 1) := by decide +kernel
theorem d_E_isCandidate_1 : decode cE_isCandidate 1 = .ok (.bipush 40, 2) := by decide +kernel
theorem d_E_isCandidate_3 : decode cE_isCandidate 3 = .ok (.invokestatic 75, 3) := by decide +kernel
theorem d_E_isCandidate_6 : decode cE_isCandidate 6 = .ok (.ireturn, 1) := by decide +kernel
theorem d_E_extra_0 : decode cE_extra 0 = .ok (.iload_n 1, 1) := by decide +kernel
theorem d_E_extra_1 : decode cE_extra 1 = .ok (.invokestatic 58, 3) := by decide +kernel
theorem d_E_extra_4 : decode cE_extra 4 = .ok (.invokestatic 34, 3) := by decide +kernel
theorem d_E_extra_7 : decode cE_extra 7 = .ok (.aload_n 0, 1) := by decide +kernel
theorem d_E_extra_8 : decode cE_extra 8 = .ok (.getfield 12, 3) := by decide +kernel
theorem d_E_extra_11 : decode cE_extra 11 = .ok (.getfield 71, 3) := by decide +kernel
theorem d_E_extra_14 : decode cE_extra 14 = .ok (.iload_n 1, 1) := by decide +kernel
theorem d_E_extra_15 : decode cE_extra 15 = .ok (.baload, 1) := by decide +kernel
theorem d_E_extra_16 : decode cE_extra 16 = .ok (.iload_n 2, 1) := by decide +kernel
theorem d_E_extra_17 : decode cE_extra 17 = .ok (.if_icmp .eq 7, 3) := by decide +kernel
theorem d_E_extra_20 : decode cE_extra 20 = .ok (.iconst 1, 1) := by decide +kernel
theorem d_E_extra_21 : decode cE_extra 21 = .ok (.goto 4, 3) := by decide +kernel
theorem d_E_extra_24 : decode cE_extra 24 = .ok (.iconst 0, 1) := by decide +kernel
theorem d_E_extra_25 : decode cE_extra 25 = .ok (.istore_n 3, 1) := by decide +kernel
theorem d_E_extra_26 : decode cE_extra 26 = .ok (.aload_n 0, 1) := by decide +kernel
theorem d_E_extra_27 : decode cE_extra 27 = .ok (.getfield 12, 3) := by decide +kernel
theorem d_E_extra_30 : decode cE_extra 30 = .ok (.getfield 71, 3) := by decide +kernel
theorem d_E_extra_33 : decode cE_extra 33 = .ok (.iload_n 1, 1) := by decide +kernel
theorem d_E_extra_34 : decode cE_extra 34 = .ok (.iload_n 2, 1) := by decide +kernel
theorem d_E_extra_35 : decode cE_extra 35 = .ok (.bastore, 1) := by decide +kernel
theorem d_E_extra_36 : decode cE_extra 36 = .ok (.iload_n 3, 1) := by decide +kernel
theorem d_E_extra_37 : decode cE_extra 37 = .ok (.ireturn, 1) := by decide +kernel
theorem d_E_rule_0 : decode cE_rule 0 = .ok (.iload_n 1, 1) := by decide +kernel
theorem d_E_rule_1 : decode cE_rule 1 = .ok (.iconst 3, 1) := by decide +kernel
theorem d_E_rule_2 : decode cE_rule 2 = .ok (.invokestatic 75, 3) := by decide +kernel
theorem d_E_rule_5 : decode cE_rule 5 = .ok (.ifCond .eq 21, 3) := by decide +kernel
theorem d_E_rule_8 : decode cE_rule 8 = .ok (.iload_n 2, 1) := by decide +kernel
theorem d_E_rule_9 : decode cE_rule 9 = .ok (.invokestatic 30, 3) := by decide +kernel
theorem d_E_rule_12 : decode cE_rule 12 = .ok (.ifCond .eq 14, 3) := by decide +kernel
theorem d_E_rule_15 : decode cE_rule 15 = .ok (.iload_n 3, 1) := by decide +kernel
theorem d_E_rule_16 : decode cE_rule 16 = .ok (.invokestatic 30, 3) := by decide +kernel
theorem d_E_rule_19 : decode cE_rule 19 = .ok (.ifCond .eq 7, 3) := by decide +kernel
theorem d_E_rule_22 : decode cE_rule 22 = .ok (.iconst 1, 1) := by decide +kernel
theorem d_E_rule_23 : decode cE_rule 23 = .ok (.goto 4, 3) := by decide +kernel
theorem d_E_rule_26 : decode cE_rule 26 = .ok (.iconst 0, 1) := by decide +kernel
theorem d_E_rule_27 : decode cE_rule 27 = .ok (.invokestatic 34, 3) := by decide +kernel
theorem d_E_rule_30 : decode cE_rule 30 = .ok (.iload_n 2, 1) := by decide +kernel
theorem d_E_rule_31 : decode cE_rule 31 = .ok (.iload_n 3, 1) := by decide +kernel
theorem d_E_rule_32 : decode cE_rule 32 = .ok (.if_icmp .eq 7, 3) := by decide +kernel
theorem d_E_rule_35 : decode cE_rule 35 = .ok (.iconst 1, 1) := by decide +kernel
theorem d_E_rule_36 : decode cE_rule 36 = .ok (.goto 4, 3) := by decide +kernel
theorem d_E_rule_39 : decode cE_rule 39 = .ok (.iconst 0, 1) := by decide +kernel
theorem d_E_rule_40 : decode cE_rule 40 = .ok (.invokestatic 42, 3) := by decide +kernel
theorem d_E_rule_43 : decode cE_rule 43 = .ok (.aload_n 0, 1) := by decide +kernel
theorem d_E_rule_44 : decode cE_rule 44 = .ok (.getfield 12, 3) := by decide +kernel
theorem d_E_rule_47 : decode cE_rule 47 = .ok (.iload_n 1, 1) := by decide +kernel
theorem d_E_rule_48 : decode cE_rule 48 = .ok (.iload_n 2, 1) := by decide +kernel
theorem d_E_rule_49 : decode cE_rule 49 = .ok (.iload_n 3, 1) := by decide +kernel
theorem d_E_rule_50 : decode cE_rule 50 = .ok (.invokevirtual 78, 3) := by decide +kernel
theorem d_E_rule_53 : decode cE_rule 53 = .ok (.iload 4, 2) := by decide +kernel
theorem d_E_rule_55 : decode cE_rule 55 = .ok (.if_icmp .ne 5, 3) := by decide +kernel
theorem d_E_rule_58 : decode cE_rule 58 = .ok (.iconst 0, 1) := by decide +kernel
theorem d_E_rule_59 : decode cE_rule 59 = .ok (.ireturn, 1) := by decide +kernel
theorem d_E_rule_60 : decode cE_rule 60 = .ok (.aload_n 0, 1) := by decide +kernel
theorem d_E_rule_61 : decode cE_rule 61 = .ok (.invokevirtual 45, 3) := by decide +kernel
theorem d_E_rule_64 : decode cE_rule 64 = .ok (.aload_n 0, 1) := by decide +kernel
theorem d_E_rule_65 : decode cE_rule 65 = .ok (.getfield 12, 3) := by decide +kernel
theorem d_E_rule_68 : decode cE_rule 68 = .ok (.iload_n 1, 1) := by decide +kernel
theorem d_E_rule_69 : decode cE_rule 69 = .ok (.iload_n 2, 1) := by decide +kernel
theorem d_E_rule_70 : decode cE_rule 70 = .ok (.iload_n 3, 1) := by decide +kernel
theorem d_E_rule_71 : decode cE_rule 71 = .ok (.iload 4, 2) := by decide +kernel
theorem d_E_rule_73 : decode cE_rule 73 = .ok (.invokevirtual 82, 3) := by decide +kernel
theorem d_E_rule_76 : decode cE_rule 76 = .ok (.iconst 1, 1) := by decide +kernel
theorem d_E_rule_77 : decode cE_rule 77 = .ok (.ireturn, 1) := by decide +kernel
theorem d_T_hasRule_0 : decode cT_hasRule 0 = .ok (.aload_n 0, 1) := by decide +kernel
theorem d_T_hasRule_1 : decode cT_hasRule 1 = .ok (.getfield 27, 3) := by decide +kernel
theorem d_T_hasRule_4 : decode cT_hasRule 4 = .ok (.iload_n 1, 1) := by decide +kernel
theorem d_T_hasRule_5 : decode cT_hasRule 5 = .ok (.aaload, 1) := by decide +kernel
theorem d_T_hasRule_6 : decode cT_hasRule 6 = .ok (.iload_n 3, 1) := by decide +kernel
theorem d_T_hasRule_7 : decode cT_hasRule 7 = .ok (.iaload, 1) := by decide +kernel
theorem d_T_hasRule_8 : decode cT_hasRule 8 = .ok (.iload_n 2, 1) := by decide +kernel
theorem d_T_hasRule_9 : decode cT_hasRule 9 = .ok (.invokestatic 57, 3) := by decide +kernel
theorem d_T_hasRule_12 : decode cT_hasRule 12 = .ok (.ireturn, 1) := by decide +kernel
theorem d_T_setRule_0 : decode cT_setRule 0 = .ok (.aload_n 0, 1) := by decide +kernel
theorem d_T_setRule_1 : decode cT_setRule 1 = .ok (.getfield 27, 3) := by decide +kernel
theorem d_T_setRule_4 : decode cT_setRule 4 = .ok (.iload_n 1, 1) := by decide +kernel
theorem d_T_setRule_5 : decode cT_setRule 5 = .ok (.aaload, 1) := by decide +kernel
theorem d_T_setRule_6 : decode cT_setRule 6 = .ok (.iload_n 3, 1) := by decide +kernel
theorem d_T_setRule_7 : decode cT_setRule 7 = .ok (.aload_n 0, 1) := by decide +kernel
theorem d_T_setRule_8 : decode cT_setRule 8 = .ok (.getfield 27, 3) := by decide +kernel
theorem d_T_setRule_11 : decode cT_setRule 11 = .ok (.iload_n 1, 1) := by decide +kernel
theorem d_T_setRule_12 : decode cT_setRule 12 = .ok (.aaload, 1) := by decide +kernel
theorem d_T_setRule_13 : decode cT_setRule 13 = .ok (.iload_n 3, 1) := by decide +kernel
theorem d_T_setRule_14 : decode cT_setRule 14 = .ok (.iaload, 1) := by decide +kernel
theorem d_T_setRule_15 : decode cT_setRule 15 = .ok (.iload_n 2, 1) := by decide +kernel
theorem d_T_setRule_16 : decode cT_setRule 16 = .ok (.iload 4, 2) := by decide +kernel
theorem d_T_setRule_18 : decode cT_setRule 18 = .ok (.invokestatic 61, 3) := by decide +kernel
theorem d_T_setRule_21 : decode cT_setRule 21 = .ok (.iastore, 1) := by decide +kernel
theorem d_T_setRule_22 : decode cT_setRule 22 = .ok (.iload_n 1, 1) := by decide +kernel
theorem d_T_setRule_23 : decode cT_setRule 23 = .ok (.iconst 2, 1) := by decide +kernel
theorem d_T_setRule_24 : decode cT_setRule 24 = .ok (.if_icmp .eq 25, 3) := by decide +kernel
theorem d_T_setRule_27 : decode cT_setRule 27 = .ok (.aload_n 0, 1) := by decide +kernel
theorem d_T_setRule_28 : decode cT_setRule 28 = .ok (.getfield 27, 3) := by decide +kernel
theorem d_T_setRule_31 : decode cT_setRule 31 = .ok (.iload_n 1, 1) := by decide +kernel
theorem d_T_setRule_32 : decode cT_setRule 32 = .ok (.aaload, 1) := by decide +kernel
theorem d_T_setRule_33 : decode cT_setRule 33 = .ok (.iload_n 2, 1) := by decide +kernel
theorem d_T_setRule_34 : decode cT_setRule 34 = .ok (.aload_n 0, 1) := by decide +kernel
theorem d_T_setRule_35 : decode cT_setRule 35 = .ok (.getfield 27, 3) := by decide +kernel
theorem d_T_setRule_38 : decode cT_setRule 38 = .ok (.iload_n 1, 1) := by decide +kernel
theorem d_T_setRule_39 : decode cT_setRule 39 = .ok (.aaload, 1) := by decide +kernel
theorem d_T_setRule_40 : decode cT_setRule 40 = .ok (.iload_n 2, 1) := by decide +kernel
theorem d_T_setRule_41 : decode cT_setRule 41 = .ok (.iaload, 1) := by decide +kernel
theorem d_T_setRule_42 : decode cT_setRule 42 = .ok (.iload_n 3, 1) := by decide +kernel
theorem d_T_setRule_43 : decode cT_setRule 43 = .ok (.iload 4, 2) := by decide +kernel
theorem d_T_setRule_45 : decode cT_setRule 45 = .ok (.invokestatic 61, 3) := by decide +kernel
theorem d_T_setRule_48 : decode cT_setRule 48 = .ok (.iastore, 1) := by decide +kernel
theorem d_T_setRule_49 : decode cT_setRule 49 = .ok (.return_, 1) := by decide +kernel
theorem d_E_fix_0 : decode cE_fix 0 = .ok (.iload_n 1, 1) := by decide +kernel
theorem d_E_fix_1 : decode cE_fix 1 = .ok (.invokestatic 30, 3) := by decide +kernel
theorem d_E_fix_4 : decode cE_fix 4 = .ok (.ifCond .eq 19, 3) := by decide +kernel
theorem d_E_fix_7 : decode cE_fix 7 = .ok (.iload_n 2, 1) := by decide +kernel
theorem d_E_fix_8 : decode cE_fix 8 = .ok (.iconst (-1), 1) := by decide +kernel
theorem d_E_fix_9 : decode cE_fix 9 = .ok (.if_icmp .eq 10, 3) := by decide +kernel
theorem d_E_fix_12 : decode cE_fix 12 = .ok (.iload_n 2, 1) := by decide +kernel
theorem d_E_fix_13 : decode cE_fix 13 = .ok (.invokestatic 52, 3) := by decide +kernel
theorem d_E_fix_16 : decode cE_fix 16 = .ok (.ifCond .eq 7, 3) := by decide +kernel
theorem d_E_fix_19 : decode cE_fix 19 = .ok (.iconst 1, 1) := by decide +kernel
theorem d_E_fix_20 : decode cE_fix 20 = .ok (.goto 4, 3) := by decide +kernel
theorem d_E_fix_23 : decode cE_fix 23 = .ok (.iconst 0, 1) := by decide +kernel
theorem d_E_fix_24 : decode cE_fix 24 = .ok (.invokestatic 34, 3) := by decide +kernel
theorem d_E_fix_27 : decode cE_fix 27 = .ok (.aload_n 0, 1) := by decide +kernel
theorem d_E_fix_28 : decode cE_fix 28 = .ok (.invokevirtual 45, 3) := by decide +kernel
theorem d_E_fix_31 : decode cE_fix 31 = .ok (.aload_n 0, 1) := by decide +kernel
theorem d_E_fix_32 : decode cE_fix 32 = .ok (.getfield 12, 3) := by decide +kernel
theorem d_E_fix_35 : decode cE_fix 35 = .ok (.getfield 86, 3) := by decide +kernel
theorem d_E_fix_38 : decode cE_fix 38 = .ok (.iload_n 1, 1) := by decide +kernel
theorem d_E_fix_39 : decode cE_fix 39 = .ok (.iaload, 1) := by decide +kernel
theorem d_E_fix_40 : decode cE_fix 40 = .ok (.istore_n 3, 1) := by decide +kernel
theorem d_E_fix_41 : decode cE_fix 41 = .ok (.aload_n 0, 1) := by decide +kernel
theorem d_E_fix_42 : decode cE_fix 42 = .ok (.getfield 12, 3) := by decide +kernel
theorem d_E_fix_45 : decode cE_fix 45 = .ok (.getfield 86, 3) := by decide +kernel
theorem d_E_fix_48 : decode cE_fix 48 = .ok (.iload_n 1, 1) := by decide +kernel
theorem d_E_fix_49 : decode cE_fix 49 = .ok (.iload_n 2, 1) := by decide +kernel
theorem d_E_fix_50 : decode cE_fix 50 = .ok (.iastore, 1) := by decide +kernel
theorem d_E_fix_51 : decode cE_fix 51 = .ok (.iload_n 3, 1) := by decide +kernel
theorem d_E_fix_52 : decode cE_fix 52 = .ok (.ireturn, 1) := by decide +kernel
theorem d_E_clash_0 : decode cE_clash 0 = .ok (.iload_n 1, 1) := by decide +kernel
theorem d_E_clash_1 : decode cE_clash 1 = .ok (.invokestatic 30, 3) := by decide +kernel
theorem d_E_clash_4 : decode cE_clash 4 = .ok (.ifCond .eq 14, 3) := by decide +kernel
theorem d_E_clash_7 : decode cE_clash 7 = .ok (.iload_n 2, 1) := by decide +kernel
theorem d_E_clash_8 : decode cE_clash 8 = .ok (.invokestatic 30, 3) := by decide +kernel
theorem d_E_clash_11 : decode cE_clash 11 = .ok (.ifCond .eq 7, 3) := by decide +kernel
theorem d_E_clash_14 : decode cE_clash 14 = .ok (.iconst 1, 1) := by decide +kernel
theorem d_E_clash_15 : decode cE_clash 15 = .ok (.goto 4, 3) := by decide +kernel
theorem d_E_clash_18 : decode cE_clash 18 = .ok (.iconst 0, 1) := by decide +kernel
theorem d_E_clash_19 : decode cE_clash 19 = .ok (.invokestatic 34, 3) := by decide +kernel
theorem d_E_clash_22 : decode cE_clash 22 = .ok (.aload_n 0, 1) := by decide +kernel
theorem d_E_clash_23 : decode cE_clash 23 = .ok (.getfield 12, 3) := by decide +kernel
theorem d_E_clash_26 : decode cE_clash 26 = .ok (.iload_n 1, 1) := by decide +kernel
theorem d_E_clash_27 : decode cE_clash 27 = .ok (.iload_n 2, 1) := by decide +kernel
theorem d_E_clash_28 : decode cE_clash 28 = .ok (.invokevirtual 89, 3) := by decide +kernel
theorem d_E_clash_31 : decode cE_clash 31 = .ok (.ireturn, 1) := by decide +kernel
theorem d_T_enrolledForBoth_0 : decode cT_enrolledForBoth 0 = .ok (.iconst 0, 1) := by decide +kernel
theorem d_T_enrolledForBoth_1 : decode cT_enrolledForBoth 1 = .ok (.istore_n 3, 1) := by decide +kernel
theorem d_T_enrolledForBoth_2 : decode cT_enrolledForBoth 2 = .ok (.iconst 0, 1) := by decide +kernel
theorem d_T_enrolledForBoth_3 : decode cT_enrolledForBoth 3 = .ok (.istore 4, 2) := by decide +kernel
theorem d_T_enrolledForBoth_5 : decode cT_enrolledForBoth 5 = .ok (.iload 4, 2) := by decide +kernel
theorem d_T_enrolledForBoth_7 : decode cT_enrolledForBoth 7 = .ok (.bipush 40, 2) := by decide +kernel
theorem d_T_enrolledForBoth_9 : decode cT_enrolledForBoth 9 = .ok (.if_icmp .ge 40, 3) := by decide +kernel
theorem d_T_enrolledForBoth_12 : decode cT_enrolledForBoth 12 = .ok (.aload_n 0, 1) := by decide +kernel
theorem d_T_enrolledForBoth_13 : decode cT_enrolledForBoth 13 = .ok (.getfield 18, 3) := by decide +kernel
theorem d_T_enrolledForBoth_16 : decode cT_enrolledForBoth 16 = .ok (.iload 4, 2) := by decide +kernel
theorem d_T_enrolledForBoth_18 : decode cT_enrolledForBoth 18 = .ok (.iaload, 1) := by decide +kernel
theorem d_T_enrolledForBoth_19 : decode cT_enrolledForBoth 19 = .ok (.iload_n 1, 1) := by decide +kernel
theorem d_T_enrolledForBoth_20 : decode cT_enrolledForBoth 20 = .ok (.invokestatic 57, 3) := by decide +kernel
theorem d_T_enrolledForBoth_23 : decode cT_enrolledForBoth 23 = .ok (.ifCond .eq 20, 3) := by decide +kernel
theorem d_T_enrolledForBoth_26 : decode cT_enrolledForBoth 26 = .ok (.aload_n 0, 1) := by decide +kernel
theorem d_T_enrolledForBoth_27 : decode cT_enrolledForBoth 27 = .ok (.getfield 18, 3) := by decide +kernel
theorem d_T_enrolledForBoth_30 : decode cT_enrolledForBoth 30 = .ok (.iload 4, 2) := by decide +kernel
theorem d_T_enrolledForBoth_32 : decode cT_enrolledForBoth 32 = .ok (.iaload, 1) := by decide +kernel
theorem d_T_enrolledForBoth_33 : decode cT_enrolledForBoth 33 = .ok (.iload_n 2, 1) := by decide +kernel
theorem d_T_enrolledForBoth_34 : decode cT_enrolledForBoth 34 = .ok (.invokestatic 57, 3) := by decide +kernel
theorem d_T_enrolledForBoth_37 : decode cT_enrolledForBoth 37 = .ok (.ifCond .eq 6, 3) := by decide +kernel
theorem d_T_enrolledForBoth_40 : decode cT_enrolledForBoth 40 = .ok (.iinc 3 1, 3) := by decide +kernel
theorem d_T_enrolledForBoth_43 : decode cT_enrolledForBoth 43 = .ok (.iinc 4 1, 3) := by decide +kernel
theorem d_T_enrolledForBoth_46 : decode cT_enrolledForBoth 46 = .ok (.goto (-41), 3) := by decide +kernel
theorem d_T_enrolledForBoth_49 : decode cT_enrolledForBoth 49 = .ok (.iload_n 3, 1) := by decide +kernel
theorem d_T_enrolledForBoth_50 : decode cT_enrolledForBoth 50 = .ok (.ireturn, 1) := by decide +kernel
theorem d_E_planned_0 : decode cE_planned 0 = .ok (.iload_n 1, 1) := by decide +kernel
theorem d_E_planned_1 : decode cE_planned 1 = .ok (.invokestatic 30, 3) := by decide +kernel
theorem d_E_planned_4 : decode cE_planned 4 = .ok (.invokestatic 34, 3) := by decide +kernel
theorem d_E_planned_7 : decode cE_planned 7 = .ok (.aload_n 0, 1) := by decide +kernel
theorem d_E_planned_8 : decode cE_planned 8 = .ok (.getfield 12, 3) := by decide +kernel
theorem d_E_planned_11 : decode cE_planned 11 = .ok (.getfield 97, 3) := by decide +kernel
theorem d_E_planned_14 : decode cE_planned 14 = .ok (.iload_n 1, 1) := by decide +kernel
theorem d_E_planned_15 : decode cE_planned 15 = .ok (.iaload, 1) := by decide +kernel
theorem d_E_planned_16 : decode cE_planned 16 = .ok (.ireturn, 1) := by decide +kernel
theorem d_E_room_0 : decode cE_room 0 = .ok (.iload_n 1, 1) := by decide +kernel
theorem d_E_room_1 : decode cE_room 1 = .ok (.invokestatic 103, 3) := by decide +kernel
theorem d_E_room_4 : decode cE_room 4 = .ok (.invokestatic 34, 3) := by decide +kernel
theorem d_E_room_7 : decode cE_room 7 = .ok (.iload_n 2, 1) := by decide +kernel
theorem d_E_room_8 : decode cE_room 8 = .ok (.bipush 6, 2) := by decide +kernel
theorem d_E_room_10 : decode cE_room 10 = .ok (.invokestatic 38, 3) := by decide +kernel
theorem d_E_room_13 : decode cE_room 13 = .ok (.ifCond .eq 16, 3) := by decide +kernel
theorem d_E_room_16 : decode cE_room 16 = .ok (.iload_n 3, 1) := by decide +kernel
theorem d_E_room_17 : decode cE_room 17 = .ok (.bipush 6, 2) := by decide +kernel
theorem d_E_room_19 : decode cE_room 19 = .ok (.invokestatic 38, 3) := by decide +kernel
theorem d_E_room_22 : decode cE_room 22 = .ok (.ifCond .eq 7, 3) := by decide +kernel
theorem d_E_room_25 : decode cE_room 25 = .ok (.iconst 1, 1) := by decide +kernel
theorem d_E_room_26 : decode cE_room 26 = .ok (.goto 4, 3) := by decide +kernel
theorem d_E_room_29 : decode cE_room 29 = .ok (.iconst 0, 1) := by decide +kernel
theorem d_E_room_30 : decode cE_room 30 = .ok (.invokestatic 42, 3) := by decide +kernel
theorem d_E_room_33 : decode cE_room 33 = .ok (.aload_n 0, 1) := by decide +kernel
theorem d_E_room_34 : decode cE_room 34 = .ok (.getfield 19, 3) := by decide +kernel
theorem d_E_room_37 : decode cE_room 37 = .ok (.iload_n 1, 1) := by decide +kernel
theorem d_E_room_38 : decode cE_room 38 = .ok (.iload_n 2, 1) := by decide +kernel
theorem d_E_room_39 : decode cE_room 39 = .ok (.iload_n 3, 1) := by decide +kernel
theorem d_E_room_40 : decode cE_room 40 = .ok (.iload 4, 2) := by decide +kernel
theorem d_E_room_42 : decode cE_room 42 = .ok (.invokevirtual 106, 3) := by decide +kernel
theorem d_E_room_45 : decode cE_room 45 = .ok (.aload_n 0, 1) := by decide +kernel
theorem d_E_room_46 : decode cE_room 46 = .ok (.getfield 26, 3) := by decide +kernel
theorem d_E_room_49 : decode cE_room 49 = .ok (.invokevirtual 109, 3) := by decide +kernel
theorem d_E_room_52 : decode cE_room 52 = .ok (.return_, 1) := by decide +kernel
theorem d_E_isRoom_0 : decode cE_isRoom 0 = .ok (.iload_n 0, 1) := by decide +kernel
theorem d_E_isRoom_1 : decode cE_isRoom 1 = .ok (.iconst 4, 1) := by decide +kernel
theorem d_E_isRoom_2 : decode cE_isRoom 2 = .ok (.invokestatic 75, 3) := by decide +kernel
theorem d_E_isRoom_5 : decode cE_isRoom 5 = .ok (.ireturn, 1) := by decide +kernel
theorem d_R_furnish_0 : decode cR_furnish 0 = .ok (.iload_n 1, 1) := by decide +kernel
theorem d_R_furnish_1 : decode cR_furnish 1 = .ok (.bipush 36, 2) := by decide +kernel
theorem d_R_furnish_3 : decode cR_furnish 3 = .ok (.imul, 1) := by decide +kernel
theorem d_R_furnish_4 : decode cR_furnish 4 = .ok (.istore 5, 2) := by decide +kernel
theorem d_R_furnish_6 : decode cR_furnish 6 = .ok (.iload 5, 2) := by decide +kernel
theorem d_R_furnish_8 : decode cR_furnish 8 = .ok (.iload_n 1, 1) := by decide +kernel
theorem d_R_furnish_9 : decode cR_furnish 9 = .ok (.iconst 1, 1) := by decide +kernel
theorem d_R_furnish_10 : decode cR_furnish 10 = .ok (.iadd, 1) := by decide +kernel
theorem d_R_furnish_11 : decode cR_furnish 11 = .ok (.bipush 36, 2) := by decide +kernel
theorem d_R_furnish_13 : decode cR_furnish 13 = .ok (.imul, 1) := by decide +kernel
theorem d_R_furnish_14 : decode cR_furnish 14 = .ok (.if_icmp .ge 41, 3) := by decide +kernel
theorem d_R_furnish_17 : decode cR_furnish 17 = .ok (.aload_n 0, 1) := by decide +kernel
theorem d_R_furnish_18 : decode cR_furnish 18 = .ok (.getfield 22, 3) := by decide +kernel
theorem d_R_furnish_21 : decode cR_furnish 21 = .ok (.iload 5, 2) := by decide +kernel
theorem d_R_furnish_23 : decode cR_furnish 23 = .ok (.iconst 0, 1) := by decide +kernel
theorem d_R_furnish_24 : decode cR_furnish 24 = .ok (.bastore, 1) := by decide +kernel
theorem d_R_furnish_25 : decode cR_furnish 25 = .ok (.iconst 0, 1) := by decide +kernel
theorem d_R_furnish_26 : decode cR_furnish 26 = .ok (.istore 6, 2) := by decide +kernel
theorem d_R_furnish_28 : decode cR_furnish 28 = .ok (.iload 6, 2) := by decide +kernel
theorem d_R_furnish_30 : decode cR_furnish 30 = .ok (.bipush 6, 2) := by decide +kernel
theorem d_R_furnish_32 : decode cR_furnish 32 = .ok (.if_icmp .ge 17, 3) := by decide +kernel
theorem d_R_furnish_35 : decode cR_furnish 35 = .ok (.aload_n 0, 1) := by decide +kernel
theorem d_R_furnish_36 : decode cR_furnish 36 = .ok (.iload 6, 2) := by decide +kernel
theorem d_R_furnish_38 : decode cR_furnish 38 = .ok (.iload 5, 2) := by decide +kernel
theorem d_R_furnish_40 : decode cR_furnish 40 = .ok (.invokevirtual 42, 3) := by decide +kernel
theorem d_R_furnish_43 : decode cR_furnish 43 = .ok (.iinc 6 1, 3) := by decide +kernel
theorem d_R_furnish_46 : decode cR_furnish 46 = .ok (.goto (-18), 3) := by decide +kernel
theorem d_R_furnish_49 : decode cR_furnish 49 = .ok (.iinc 5 1, 3) := by decide +kernel
theorem d_R_furnish_52 : decode cR_furnish 52 = .ok (.goto (-46), 3) := by decide +kernel
theorem d_R_furnish_55 : decode cR_furnish 55 = .ok (.aload_n 0, 1) := by decide +kernel
theorem d_R_furnish_56 : decode cR_furnish 56 = .ok (.getfield 9, 3) := by decide +kernel
theorem d_R_furnish_59 : decode cR_furnish 59 = .ok (.iload_n 1, 1) := by decide +kernel
theorem d_R_furnish_60 : decode cR_furnish 60 = .ok (.iload_n 2, 1) := by decide +kernel
theorem d_R_furnish_61 : decode cR_furnish 61 = .ok (.iastore, 1) := by decide +kernel
theorem d_R_furnish_62 : decode cR_furnish 62 = .ok (.aload_n 0, 1) := by decide +kernel
theorem d_R_furnish_63 : decode cR_furnish 63 = .ok (.getfield 15, 3) := by decide +kernel
theorem d_R_furnish_66 : decode cR_furnish 66 = .ok (.iload_n 1, 1) := by decide +kernel
theorem d_R_furnish_67 : decode cR_furnish 67 = .ok (.iload_n 3, 1) := by decide +kernel
theorem d_R_furnish_68 : decode cR_furnish 68 = .ok (.iastore, 1) := by decide +kernel
theorem d_R_furnish_69 : decode cR_furnish 69 = .ok (.aload_n 0, 1) := by decide +kernel
theorem d_R_furnish_70 : decode cR_furnish 70 = .ok (.getfield 18, 3) := by decide +kernel
theorem d_R_furnish_73 : decode cR_furnish 73 = .ok (.iload_n 1, 1) := by decide +kernel
theorem d_R_furnish_74 : decode cR_furnish 74 = .ok (.iload 4, 2) := by decide +kernel
theorem d_R_furnish_76 : decode cR_furnish 76 = .ok (.bastore, 1) := by decide +kernel
theorem d_R_furnish_77 : decode cR_furnish 77 = .ok (.return_, 1) := by decide +kernel
theorem d_E_block_0 : decode cE_block 0 = .ok (.iload_n 1, 1) := by decide +kernel
theorem d_E_block_1 : decode cE_block 1 = .ok (.invokestatic 103, 3) := by decide +kernel
theorem d_E_block_4 : decode cE_block 4 = .ok (.ifCond .eq 20, 3) := by decide +kernel
theorem d_E_block_7 : decode cE_block 7 = .ok (.aload_n 0, 1) := by decide +kernel
theorem d_E_block_8 : decode cE_block 8 = .ok (.getfield 19, 3) := by decide +kernel
theorem d_E_block_11 : decode cE_block 11 = .ok (.iload_n 1, 1) := by decide +kernel
theorem d_E_block_12 : decode cE_block 12 = .ok (.iload_n 2, 1) := by decide +kernel
theorem d_E_block_13 : decode cE_block 13 = .ok (.iload_n 3, 1) := by decide +kernel
theorem d_E_block_14 : decode cE_block 14 = .ok (.invokevirtual 112, 3) := by decide +kernel
theorem d_E_block_17 : decode cE_block 17 = .ok (.ifCond .eq 7, 3) := by decide +kernel
theorem d_E_block_20 : decode cE_block 20 = .ok (.iconst 1, 1) := by decide +kernel
theorem d_E_block_21 : decode cE_block 21 = .ok (.goto 4, 3) := by decide +kernel
theorem d_E_block_24 : decode cE_block 24 = .ok (.iconst 0, 1) := by decide +kernel
theorem d_E_block_25 : decode cE_block 25 = .ok (.invokestatic 34, 3) := by decide +kernel
theorem d_E_block_28 : decode cE_block 28 = .ok (.iload_n 1, 1) := by decide +kernel
theorem d_E_block_29 : decode cE_block 29 = .ok (.iload_n 2, 1) := by decide +kernel
theorem d_E_block_30 : decode cE_block 30 = .ok (.iload_n 3, 1) := by decide +kernel
theorem d_E_block_31 : decode cE_block 31 = .ok (.invokestatic 115, 3) := by decide +kernel
theorem d_E_block_34 : decode cE_block 34 = .ok (.istore 5, 2) := by decide +kernel
theorem d_E_block_36 : decode cE_block 36 = .ok (.aload_n 0, 1) := by decide +kernel
theorem d_E_block_37 : decode cE_block 37 = .ok (.getfield 19, 3) := by decide +kernel
theorem d_E_block_40 : decode cE_block 40 = .ok (.iload 5, 2) := by decide +kernel
theorem d_E_block_42 : decode cE_block 42 = .ok (.invokevirtual 119, 3) := by decide +kernel
theorem d_E_block_45 : decode cE_block 45 = .ok (.ifCond .eq 13, 3) := by decide +kernel
theorem d_E_block_48 : decode cE_block 48 = .ok (.new 122, 3) := by decide +kernel
theorem d_E_block_51 : decode cE_block 51 = .ok (.dup, 1) := by decide +kernel
theorem d_E_block_52 : decode cE_block 52 = .ok (.ldc 124, 2) := by decide +kernel
theorem d_E_block_54 : decode cE_block 54 = .ok (.invokespecial 126, 3) := by decide +kernel
theorem d_E_block_57 : decode cE_block 57 = .ok (.athrow, 1) := by decide +kernel
theorem d_E_block_58 : decode cE_block 58 = .ok (.aload_n 0, 1) := by decide +kernel
theorem d_E_block_59 : decode cE_block 59 = .ok (.getfield 19, 3) := by decide +kernel
theorem d_E_block_62 : decode cE_block 62 = .ok (.getfield 129, 3) := by decide +kernel
theorem d_E_block_65 : decode cE_block 65 = .ok (.iload 5, 2) := by decide +kernel
theorem d_E_block_67 : decode cE_block 67 = .ok (.baload, 1) := by decide +kernel
theorem d_E_block_68 : decode cE_block 68 = .ok (.iload 4, 2) := by decide +kernel
theorem d_E_block_70 : decode cE_block 70 = .ok (.if_icmp .eq 7, 3) := by decide +kernel
theorem d_E_block_73 : decode cE_block 73 = .ok (.iconst 1, 1) := by decide +kernel
theorem d_E_block_74 : decode cE_block 74 = .ok (.goto 4, 3) := by decide +kernel
theorem d_E_block_77 : decode cE_block 77 = .ok (.iconst 0, 1) := by decide +kernel
theorem d_E_block_78 : decode cE_block 78 = .ok (.istore 6, 2) := by decide +kernel
theorem d_E_block_80 : decode cE_block 80 = .ok (.aload_n 0, 1) := by decide +kernel
theorem d_E_block_81 : decode cE_block 81 = .ok (.getfield 19, 3) := by decide +kernel
theorem d_E_block_84 : decode cE_block 84 = .ok (.getfield 129, 3) := by decide +kernel
theorem d_E_block_87 : decode cE_block 87 = .ok (.iload 5, 2) := by decide +kernel
theorem d_E_block_89 : decode cE_block 89 = .ok (.iload 4, 2) := by decide +kernel
theorem d_E_block_91 : decode cE_block 91 = .ok (.bastore, 1) := by decide +kernel
theorem d_E_block_92 : decode cE_block 92 = .ok (.iload 6, 2) := by decide +kernel
theorem d_E_block_94 : decode cE_block 94 = .ok (.ireturn, 1) := by decide +kernel
theorem d_R_hasPlace_0 : decode cR_hasPlace 0 = .ok (.iload_n 2, 1) := by decide +kernel
theorem d_R_hasPlace_1 : decode cR_hasPlace 1 = .ok (.aload_n 0, 1) := by decide +kernel
theorem d_R_hasPlace_2 : decode cR_hasPlace 2 = .ok (.getfield 9, 3) := by decide +kernel
theorem d_R_hasPlace_5 : decode cR_hasPlace 5 = .ok (.iload_n 1, 1) := by decide +kernel
theorem d_R_hasPlace_6 : decode cR_hasPlace 6 = .ok (.iaload, 1) := by decide +kernel
theorem d_R_hasPlace_7 : decode cR_hasPlace 7 = .ok (.invokestatic 46, 3) := by decide +kernel
theorem d_R_hasPlace_10 : decode cR_hasPlace 10 = .ok (.ifCond .eq 20, 3) := by decide +kernel
theorem d_R_hasPlace_13 : decode cR_hasPlace 13 = .ok (.iload_n 3, 1) := by decide +kernel
theorem d_R_hasPlace_14 : decode cR_hasPlace 14 = .ok (.aload_n 0, 1) := by decide +kernel
theorem d_R_hasPlace_15 : decode cR_hasPlace 15 = .ok (.getfield 15, 3) := by decide +kernel
theorem d_R_hasPlace_18 : decode cR_hasPlace 18 = .ok (.iload_n 1, 1) := by decide +kernel
theorem d_R_hasPlace_19 : decode cR_hasPlace 19 = .ok (.iaload, 1) := by decide +kernel
theorem d_R_hasPlace_20 : decode cR_hasPlace 20 = .ok (.invokestatic 46, 3) := by decide +kernel
theorem d_R_hasPlace_23 : decode cR_hasPlace 23 = .ok (.ifCond .eq 7, 3) := by decide +kernel
theorem d_R_hasPlace_26 : decode cR_hasPlace 26 = .ok (.iconst 1, 1) := by decide +kernel
theorem d_R_hasPlace_27 : decode cR_hasPlace 27 = .ok (.goto 4, 3) := by decide +kernel
theorem d_R_hasPlace_30 : decode cR_hasPlace 30 = .ok (.iconst 0, 1) := by decide +kernel
theorem d_R_hasPlace_31 : decode cR_hasPlace 31 = .ok (.ireturn, 1) := by decide +kernel
theorem d_E_placeAt_0 : decode cE_placeAt 0 = .ok (.iload_n 0, 1) := by decide +kernel
theorem d_E_placeAt_1 : decode cE_placeAt 1 = .ok (.bipush 36, 2) := by decide +kernel
theorem d_E_placeAt_3 : decode cE_placeAt 3 = .ok (.imul, 1) := by decide +kernel
theorem d_E_placeAt_4 : decode cE_placeAt 4 = .ok (.iload_n 1, 1) := by decide +kernel
theorem d_E_placeAt_5 : decode cE_placeAt 5 = .ok (.bipush 6, 2) := by decide +kernel
theorem d_E_placeAt_7 : decode cE_placeAt 7 = .ok (.imul, 1) := by decide +kernel
theorem d_E_placeAt_8 : decode cE_placeAt 8 = .ok (.iadd, 1) := by decide +kernel
theorem d_E_placeAt_9 : decode cE_placeAt 9 = .ok (.iload_n 2, 1) := by decide +kernel
theorem d_E_placeAt_10 : decode cE_placeAt 10 = .ok (.iadd, 1) := by decide +kernel
theorem d_E_placeAt_11 : decode cE_placeAt 11 = .ok (.ireturn, 1) := by decide +kernel
theorem d_R_isTaken_0 : decode cR_isTaken 0 = .ok (.iconst 0, 1) := by decide +kernel
theorem d_R_isTaken_1 : decode cR_isTaken 1 = .ok (.istore_n 2, 1) := by decide +kernel
theorem d_R_isTaken_2 : decode cR_isTaken 2 = .ok (.iload_n 2, 1) := by decide +kernel
theorem d_R_isTaken_3 : decode cR_isTaken 3 = .ok (.bipush 6, 2) := by decide +kernel
theorem d_R_isTaken_5 : decode cR_isTaken 5 = .ok (.if_icmp .ge 23, 3) := by decide +kernel
theorem d_R_isTaken_8 : decode cR_isTaken 8 = .ok (.aload_n 0, 1) := by decide +kernel
theorem d_R_isTaken_9 : decode cR_isTaken 9 = .ok (.getfield 27, 3) := by decide +kernel
theorem d_R_isTaken_12 : decode cR_isTaken 12 = .ok (.iload_n 2, 1) := by decide +kernel
theorem d_R_isTaken_13 : decode cR_isTaken 13 = .ok (.aaload, 1) := by decide +kernel
theorem d_R_isTaken_14 : decode cR_isTaken 14 = .ok (.iload_n 1, 1) := by decide +kernel
theorem d_R_isTaken_15 : decode cR_isTaken 15 = .ok (.iaload, 1) := by decide +kernel
theorem d_R_isTaken_16 : decode cR_isTaken 16 = .ok (.iconst (-1), 1) := by decide +kernel
theorem d_R_isTaken_17 : decode cR_isTaken 17 = .ok (.if_icmp .eq 5, 3) := by decide +kernel
theorem d_R_isTaken_20 : decode cR_isTaken 20 = .ok (.iconst 1, 1) := by decide +kernel
theorem d_R_isTaken_21 : decode cR_isTaken 21 = .ok (.ireturn, 1) := by decide +kernel
theorem d_R_isTaken_22 : decode cR_isTaken 22 = .ok (.iinc 2 1, 3) := by decide +kernel
theorem d_R_isTaken_25 : decode cR_isTaken 25 = .ok (.goto (-23), 3) := by decide +kernel
theorem d_R_isTaken_28 : decode cR_isTaken 28 = .ok (.iconst 0, 1) := by decide +kernel
theorem d_R_isTaken_29 : decode cR_isTaken 29 = .ok (.ireturn, 1) := by decide +kernel
theorem d_E_seat_0 : decode cE_seat 0 = .ok (.iload_n 1, 1) := by decide +kernel
theorem d_E_seat_1 : decode cE_seat 1 = .ok (.invokestatic 52, 3) := by decide +kernel
theorem d_E_seat_4 : decode cE_seat 4 = .ok (.invokestatic 34, 3) := by decide +kernel
theorem d_E_seat_7 : decode cE_seat 7 = .ok (.aload_n 0, 1) := by decide +kernel
theorem d_E_seat_8 : decode cE_seat 8 = .ok (.getfield 12, 3) := by decide +kernel
theorem d_E_seat_11 : decode cE_seat 11 = .ok (.getfield 132, 3) := by decide +kernel
theorem d_E_seat_14 : decode cE_seat 14 = .ok (.ifCond .ne 13, 3) := by decide +kernel
theorem d_E_seat_17 : decode cE_seat 17 = .ok (.new 122, 3) := by decide +kernel
theorem d_E_seat_20 : decode cE_seat 20 = .ok (.dup, 1) := by decide +kernel
theorem d_E_seat_21 : decode cE_seat 21 = .ok (.ldc 136, 2) := by decide +kernel
theorem d_E_seat_23 : decode cE_seat 23 = .ok (.invokespecial 126, 3) := by decide +kernel
theorem d_E_seat_26 : decode cE_seat 26 = .ok (.athrow, 1) := by decide +kernel
theorem d_E_seat_27 : decode cE_seat 27 = .ok (.iconst 0, 1) := by decide +kernel
theorem d_E_seat_28 : decode cE_seat 28 = .ok (.istore_n 2, 1) := by decide +kernel
theorem d_E_seat_29 : decode cE_seat 29 = .ok (.iconst 0, 1) := by decide +kernel
theorem d_E_seat_30 : decode cE_seat 30 = .ok (.istore_n 3, 1) := by decide +kernel
theorem d_E_seat_31 : decode cE_seat 31 = .ok (.iload_n 3, 1) := by decide +kernel
theorem d_E_seat_32 : decode cE_seat 32 = .ok (.bipush 40, 2) := by decide +kernel
theorem d_E_seat_34 : decode cE_seat 34 = .ok (.if_icmp .ge 52, 3) := by decide +kernel
theorem d_E_seat_37 : decode cE_seat 37 = .ok (.aload_n 0, 1) := by decide +kernel
theorem d_E_seat_38 : decode cE_seat 38 = .ok (.getfield 12, 3) := by decide +kernel
theorem d_E_seat_41 : decode cE_seat 41 = .ok (.iload_n 3, 1) := by decide +kernel
theorem d_E_seat_42 : decode cE_seat 42 = .ok (.iload_n 1, 1) := by decide +kernel
theorem d_E_seat_43 : decode cE_seat 43 = .ok (.invokevirtual 138, 3) := by decide +kernel
theorem d_E_seat_46 : decode cE_seat 46 = .ok (.istore 4, 2) := by decide +kernel
theorem d_E_seat_48 : decode cE_seat 48 = .ok (.iload 4, 2) := by decide +kernel
theorem d_E_seat_50 : decode cE_seat 50 = .ok (.iconst (-1), 1) := by decide +kernel
theorem d_E_seat_51 : decode cE_seat 51 = .ok (.if_icmp .eq 29, 3) := by decide +kernel
theorem d_E_seat_54 : decode cE_seat 54 = .ok (.aload_n 0, 1) := by decide +kernel
theorem d_E_seat_55 : decode cE_seat 55 = .ok (.getfield 19, 3) := by decide +kernel
theorem d_E_seat_58 : decode cE_seat 58 = .ok (.iload_n 1, 1) := by decide +kernel
theorem d_E_seat_59 : decode cE_seat 59 = .ok (.iload_n 3, 1) := by decide +kernel
theorem d_E_seat_60 : decode cE_seat 60 = .ok (.iload 4, 2) := by decide +kernel
theorem d_E_seat_62 : decode cE_seat 62 = .ok (.aload_n 0, 1) := by decide +kernel
theorem d_E_seat_63 : decode cE_seat 63 = .ok (.getfield 12, 3) := by decide +kernel
theorem d_E_seat_66 : decode cE_seat 66 = .ok (.getfield 71, 3) := by decide +kernel
theorem d_E_seat_69 : decode cE_seat 69 = .ok (.iload_n 3, 1) := by decide +kernel
theorem d_E_seat_70 : decode cE_seat 70 = .ok (.baload, 1) := by decide +kernel
theorem d_E_seat_71 : decode cE_seat 71 = .ok (.invokevirtual 141, 3) := by decide +kernel
theorem d_E_seat_74 : decode cE_seat 74 = .ok (.ifCond .ne 6, 3) := by decide +kernel
theorem d_E_seat_77 : decode cE_seat 77 = .ok (.iinc 2 1, 3) := by decide +kernel
theorem d_E_seat_80 : decode cE_seat 80 = .ok (.iinc 3 1, 3) := by decide +kernel
theorem d_E_seat_83 : decode cE_seat 83 = .ok (.goto (-52), 3) := by decide +kernel
theorem d_E_seat_86 : decode cE_seat 86 = .ok (.iload_n 2, 1) := by decide +kernel
theorem d_E_seat_87 : decode cE_seat 87 = .ok (.ireturn, 1) := by decide +kernel
theorem d_T_paperOf_0 : decode cT_paperOf 0 = .ok (.iconst 0, 1) := by decide +kernel
theorem d_T_paperOf_1 : decode cT_paperOf 1 = .ok (.istore_n 3, 1) := by decide +kernel
theorem d_T_paperOf_2 : decode cT_paperOf 2 = .ok (.iload_n 3, 1) := by decide +kernel
theorem d_T_paperOf_3 : decode cT_paperOf 3 = .ok (.bipush 9, 2) := by decide +kernel
theorem d_T_paperOf_5 : decode cT_paperOf 5 = .ok (.if_icmp .ge 34, 3) := by decide +kernel
theorem d_T_paperOf_8 : decode cT_paperOf 8 = .ok (.aload_n 0, 1) := by decide +kernel
theorem d_T_paperOf_9 : decode cT_paperOf 9 = .ok (.getfield 33, 3) := by decide +kernel
theorem d_T_paperOf_12 : decode cT_paperOf 12 = .ok (.iload_n 3, 1) := by decide +kernel
theorem d_T_paperOf_13 : decode cT_paperOf 13 = .ok (.iaload, 1) := by decide +kernel
theorem d_T_paperOf_14 : decode cT_paperOf 14 = .ok (.iload_n 2, 1) := by decide +kernel
theorem d_T_paperOf_15 : decode cT_paperOf 15 = .ok (.if_icmp .ne 18, 3) := by decide +kernel
theorem d_T_paperOf_18 : decode cT_paperOf 18 = .ok (.aload_n 0, 1) := by decide +kernel
theorem d_T_paperOf_19 : decode cT_paperOf 19 = .ok (.getfield 18, 3) := by decide +kernel
theorem d_T_paperOf_22 : decode cT_paperOf 22 = .ok (.iload_n 1, 1) := by decide +kernel
theorem d_T_paperOf_23 : decode cT_paperOf 23 = .ok (.iaload, 1) := by decide +kernel
theorem d_T_paperOf_24 : decode cT_paperOf 24 = .ok (.iload_n 3, 1) := by decide +kernel
theorem d_T_paperOf_25 : decode cT_paperOf 25 = .ok (.invokestatic 57, 3) := by decide +kernel
theorem d_T_paperOf_28 : decode cT_paperOf 28 = .ok (.ifCond .eq 5, 3) := by decide +kernel
theorem d_T_paperOf_31 : decode cT_paperOf 31 = .ok (.iload_n 3, 1) := by decide +kernel
theorem d_T_paperOf_32 : decode cT_paperOf 32 = .ok (.ireturn, 1) := by decide +kernel
theorem d_T_paperOf_33 : decode cT_paperOf 33 = .ok (.iinc 3 1, 3) := by decide +kernel
theorem d_T_paperOf_36 : decode cT_paperOf 36 = .ok (.goto (-34), 3) := by decide +kernel
theorem d_T_paperOf_39 : decode cT_paperOf 39 = .ok (.iconst (-1), 1) := by decide +kernel
theorem d_T_paperOf_40 : decode cT_paperOf 40 = .ok (.ireturn, 1) := by decide +kernel
theorem d_R_giveSeat_0 : decode cR_giveSeat 0 = .ok (.aload_n 0, 1) := by decide +kernel
theorem d_R_giveSeat_1 : decode cR_giveSeat 1 = .ok (.getfield 33, 3) := by decide +kernel
theorem d_R_giveSeat_4 : decode cR_giveSeat 4 = .ok (.iload_n 1, 1) := by decide +kernel
theorem d_R_giveSeat_5 : decode cR_giveSeat 5 = .ok (.aaload, 1) := by decide +kernel
theorem d_R_giveSeat_6 : decode cR_giveSeat 6 = .ok (.iload_n 2, 1) := by decide +kernel
theorem d_R_giveSeat_7 : decode cR_giveSeat 7 = .ok (.iaload, 1) := by decide +kernel
theorem d_R_giveSeat_8 : decode cR_giveSeat 8 = .ok (.iconst (-1), 1) := by decide +kernel
theorem d_R_giveSeat_9 : decode cR_giveSeat 9 = .ok (.if_icmp .eq 5, 3) := by decide +kernel
theorem d_R_giveSeat_12 : decode cR_giveSeat 12 = .ok (.iconst 1, 1) := by decide +kernel
theorem d_R_giveSeat_13 : decode cR_giveSeat 13 = .ok (.ireturn, 1) := by decide +kernel
theorem d_R_giveSeat_14 : decode cR_giveSeat 14 = .ok (.iconst 0, 1) := by decide +kernel
theorem d_R_giveSeat_15 : decode cR_giveSeat 15 = .ok (.istore 5, 2) := by decide +kernel
theorem d_R_giveSeat_17 : decode cR_giveSeat 17 = .ok (.iload 5, 2) := by decide +kernel
theorem d_R_giveSeat_19 : decode cR_giveSeat 19 = .ok (.iconst 4, 1) := by decide +kernel
theorem d_R_giveSeat_20 : decode cR_giveSeat 20 = .ok (.if_icmp .ge 73, 3) := by decide +kernel
theorem d_R_giveSeat_23 : decode cR_giveSeat 23 = .ok (.aload_n 0, 1) := by decide +kernel
theorem d_R_giveSeat_24 : decode cR_giveSeat 24 = .ok (.getfield 18, 3) := by decide +kernel
theorem d_R_giveSeat_27 : decode cR_giveSeat 27 = .ok (.iload 5, 2) := by decide +kernel
theorem d_R_giveSeat_29 : decode cR_giveSeat 29 = .ok (.baload, 1) := by decide +kernel
theorem d_R_giveSeat_30 : decode cR_giveSeat 30 = .ok (.iload 4, 2) := by decide +kernel
theorem d_R_giveSeat_32 : decode cR_giveSeat 32 = .ok (.if_icmp .ne 14, 3) := by decide +kernel
theorem d_R_giveSeat_35 : decode cR_giveSeat 35 = .ok (.aload_n 0, 1) := by decide +kernel
theorem d_R_giveSeat_36 : decode cR_giveSeat 36 = .ok (.iload_n 1, 1) := by decide +kernel
theorem d_R_giveSeat_37 : decode cR_giveSeat 37 = .ok (.iload 5, 2) := by decide +kernel
theorem d_R_giveSeat_39 : decode cR_giveSeat 39 = .ok (.iload_n 3, 1) := by decide +kernel
theorem d_R_giveSeat_40 : decode cR_giveSeat 40 = .ok (.invokevirtual 50, 3) := by decide +kernel
theorem d_R_giveSeat_43 : decode cR_giveSeat 43 = .ok (.goto 4, 3) := by decide +kernel
theorem d_R_giveSeat_46 : decode cR_giveSeat 46 = .ok (.iconst (-1), 1) := by decide +kernel
theorem d_R_giveSeat_47 : decode cR_giveSeat 47 = .ok (.istore 6, 2) := by decide +kernel
theorem d_R_giveSeat_49 : decode cR_giveSeat 49 = .ok (.iload 6, 2) := by decide +kernel
theorem d_R_giveSeat_51 : decode cR_giveSeat 51 = .ok (.iconst (-1), 1) := by decide +kernel
theorem d_R_giveSeat_52 : decode cR_giveSeat 52 = .ok (.if_icmp .eq 35, 3) := by decide +kernel
theorem d_R_giveSeat_55 : decode cR_giveSeat 55 = .ok (.aload_n 0, 1) := by decide +kernel
theorem d_R_giveSeat_56 : decode cR_giveSeat 56 = .ok (.getfield 27, 3) := by decide +kernel
theorem d_R_giveSeat_59 : decode cR_giveSeat 59 = .ok (.iload_n 1, 1) := by decide +kernel
theorem d_R_giveSeat_60 : decode cR_giveSeat 60 = .ok (.aaload, 1) := by decide +kernel
theorem d_R_giveSeat_61 : decode cR_giveSeat 61 = .ok (.iload 6, 2) := by decide +kernel
theorem d_R_giveSeat_63 : decode cR_giveSeat 63 = .ok (.iload_n 2, 1) := by decide +kernel
theorem d_R_giveSeat_64 : decode cR_giveSeat 64 = .ok (.iastore, 1) := by decide +kernel
theorem d_R_giveSeat_65 : decode cR_giveSeat 65 = .ok (.aload_n 0, 1) := by decide +kernel
theorem d_R_giveSeat_66 : decode cR_giveSeat 66 = .ok (.getfield 30, 3) := by decide +kernel
theorem d_R_giveSeat_69 : decode cR_giveSeat 69 = .ok (.iload_n 1, 1) := by decide +kernel
theorem d_R_giveSeat_70 : decode cR_giveSeat 70 = .ok (.aaload, 1) := by decide +kernel
theorem d_R_giveSeat_71 : decode cR_giveSeat 71 = .ok (.iload 6, 2) := by decide +kernel
theorem d_R_giveSeat_73 : decode cR_giveSeat 73 = .ok (.iload_n 3, 1) := by decide +kernel
theorem d_R_giveSeat_74 : decode cR_giveSeat 74 = .ok (.iastore, 1) := by decide +kernel
theorem d_R_giveSeat_75 : decode cR_giveSeat 75 = .ok (.aload_n 0, 1) := by decide +kernel
theorem d_R_giveSeat_76 : decode cR_giveSeat 76 = .ok (.getfield 33, 3) := by decide +kernel
theorem d_R_giveSeat_79 : decode cR_giveSeat 79 = .ok (.iload_n 1, 1) := by decide +kernel
theorem d_R_giveSeat_80 : decode cR_giveSeat 80 = .ok (.aaload, 1) := by decide +kernel
theorem d_R_giveSeat_81 : decode cR_giveSeat 81 = .ok (.iload_n 2, 1) := by decide +kernel
theorem d_R_giveSeat_82 : decode cR_giveSeat 82 = .ok (.iload 6, 2) := by decide +kernel
theorem d_R_giveSeat_84 : decode cR_giveSeat 84 = .ok (.iastore, 1) := by decide +kernel
theorem d_R_giveSeat_85 : decode cR_giveSeat 85 = .ok (.iconst 1, 1) := by decide +kernel
theorem d_R_giveSeat_86 : decode cR_giveSeat 86 = .ok (.ireturn, 1) := by decide +kernel
theorem d_R_giveSeat_87 : decode cR_giveSeat 87 = .ok (.iinc 5 1, 3) := by decide +kernel
theorem d_R_giveSeat_90 : decode cR_giveSeat 90 = .ok (.goto (-73), 3) := by decide +kernel
theorem d_R_giveSeat_93 : decode cR_giveSeat 93 = .ok (.iconst 0, 1) := by decide +kernel
theorem d_R_giveSeat_94 : decode cR_giveSeat 94 = .ok (.ireturn, 1) := by decide +kernel
theorem d_R_firstPlace_0 : decode cR_firstPlace 0 = .ok (.iconst 0, 1) := by decide +kernel
theorem d_R_firstPlace_1 : decode cR_firstPlace 1 = .ok (.istore 4, 2) := by decide +kernel
theorem d_R_firstPlace_3 : decode cR_firstPlace 3 = .ok (.iload 4, 2) := by decide +kernel
theorem d_R_firstPlace_5 : decode cR_firstPlace 5 = .ok (.aload_n 0, 1) := by decide +kernel
theorem d_R_firstPlace_6 : decode cR_firstPlace 6 = .ok (.getfield 9, 3) := by decide +kernel
theorem d_R_firstPlace_9 : decode cR_firstPlace 9 = .ok (.iload_n 2, 1) := by decide +kernel
theorem d_R_firstPlace_10 : decode cR_firstPlace 10 = .ok (.iaload, 1) := by decide +kernel
theorem d_R_firstPlace_11 : decode cR_firstPlace 11 = .ok (.if_icmp .ge 79, 3) := by decide +kernel
theorem d_R_firstPlace_14 : decode cR_firstPlace 14 = .ok (.iconst 0, 1) := by decide +kernel
theorem d_R_firstPlace_15 : decode cR_firstPlace 15 = .ok (.istore 5, 2) := by decide +kernel
theorem d_R_firstPlace_17 : decode cR_firstPlace 17 = .ok (.iload 5, 2) := by decide +kernel
theorem d_R_firstPlace_19 : decode cR_firstPlace 19 = .ok (.aload_n 0, 1) := by decide +kernel
theorem d_R_firstPlace_20 : decode cR_firstPlace 20 = .ok (.getfield 15, 3) := by decide +kernel
theorem d_R_firstPlace_23 : decode cR_firstPlace 23 = .ok (.iload_n 2, 1) := by decide +kernel
theorem d_R_firstPlace_24 : decode cR_firstPlace 24 = .ok (.iaload, 1) := by decide +kernel
theorem d_R_firstPlace_25 : decode cR_firstPlace 25 = .ok (.if_icmp .ge 59, 3) := by decide +kernel
theorem d_R_firstPlace_28 : decode cR_firstPlace 28 = .ok (.iload_n 2, 1) := by decide +kernel
theorem d_R_firstPlace_29 : decode cR_firstPlace 29 = .ok (.iload 4, 2) := by decide +kernel
theorem d_R_firstPlace_31 : decode cR_firstPlace 31 = .ok (.iload 5, 2) := by decide +kernel
theorem d_R_firstPlace_33 : decode cR_firstPlace 33 = .ok (.invokestatic 54, 3) := by decide +kernel
theorem d_R_firstPlace_36 : decode cR_firstPlace 36 = .ok (.istore 6, 2) := by decide +kernel
theorem d_R_firstPlace_38 : decode cR_firstPlace 38 = .ok (.aload_n 0, 1) := by decide +kernel
theorem d_R_firstPlace_39 : decode cR_firstPlace 39 = .ok (.getfield 22, 3) := by decide +kernel
theorem d_R_firstPlace_42 : decode cR_firstPlace 42 = .ok (.iload 6, 2) := by decide +kernel
theorem d_R_firstPlace_44 : decode cR_firstPlace 44 = .ok (.baload, 1) := by decide +kernel
theorem d_R_firstPlace_45 : decode cR_firstPlace 45 = .ok (.ifCond .ne 33, 3) := by decide +kernel
theorem d_R_firstPlace_48 : decode cR_firstPlace 48 = .ok (.aload_n 0, 1) := by decide +kernel
theorem d_R_firstPlace_49 : decode cR_firstPlace 49 = .ok (.getfield 27, 3) := by decide +kernel
theorem d_R_firstPlace_52 : decode cR_firstPlace 52 = .ok (.iload_n 1, 1) := by decide +kernel
theorem d_R_firstPlace_53 : decode cR_firstPlace 53 = .ok (.aaload, 1) := by decide +kernel
theorem d_R_firstPlace_54 : decode cR_firstPlace 54 = .ok (.iload 6, 2) := by decide +kernel
theorem d_R_firstPlace_56 : decode cR_firstPlace 56 = .ok (.iaload, 1) := by decide +kernel
theorem d_R_firstPlace_57 : decode cR_firstPlace 57 = .ok (.iconst (-1), 1) := by decide +kernel
theorem d_R_firstPlace_58 : decode cR_firstPlace 58 = .ok (.if_icmp .ne 20, 3) := by decide +kernel
theorem d_R_firstPlace_61 : decode cR_firstPlace 61 = .ok (.aload_n 0, 1) := by decide +kernel
theorem d_R_firstPlace_62 : decode cR_firstPlace 62 = .ok (.iload_n 1, 1) := by decide +kernel
theorem d_R_firstPlace_63 : decode cR_firstPlace 63 = .ok (.iload_n 2, 1) := by decide +kernel
theorem d_R_firstPlace_64 : decode cR_firstPlace 64 = .ok (.iload 4, 2) := by decide +kernel
theorem d_R_firstPlace_66 : decode cR_firstPlace 66 = .ok (.iload 5, 2) := by decide +kernel
theorem d_R_firstPlace_68 : decode cR_firstPlace 68 = .ok (.iload_n 3, 1) := by decide +kernel
theorem d_R_firstPlace_69 : decode cR_firstPlace 69 = .ok (.invokevirtual 57, 3) := by decide +kernel
theorem d_R_firstPlace_72 : decode cR_firstPlace 72 = .ok (.ifCond .ne 6, 3) := by decide +kernel
theorem d_R_firstPlace_75 : decode cR_firstPlace 75 = .ok (.iload 6, 2) := by decide +kernel
theorem d_R_firstPlace_77 : decode cR_firstPlace 77 = .ok (.ireturn, 1) := by decide +kernel
theorem d_R_firstPlace_78 : decode cR_firstPlace 78 = .ok (.iinc 5 1, 3) := by decide +kernel
theorem d_R_firstPlace_81 : decode cR_firstPlace 81 = .ok (.goto (-64), 3) := by decide +kernel
theorem d_R_firstPlace_84 : decode cR_firstPlace 84 = .ok (.iinc 4 1, 3) := by decide +kernel
theorem d_R_firstPlace_87 : decode cR_firstPlace 87 = .ok (.goto (-84), 3) := by decide +kernel
theorem d_R_firstPlace_90 : decode cR_firstPlace 90 = .ok (.iconst (-1), 1) := by decide +kernel
theorem d_R_firstPlace_91 : decode cR_firstPlace 91 = .ok (.ireturn, 1) := by decide +kernel
theorem d_R_hasNeighbour_0 : decode cR_hasNeighbour 0 = .ok (.aload_n 0, 1) := by decide +kernel
theorem d_R_hasNeighbour_1 : decode cR_hasNeighbour 1 = .ok (.iload_n 1, 1) := by decide +kernel
theorem d_R_hasNeighbour_2 : decode cR_hasNeighbour 2 = .ok (.iload_n 2, 1) := by decide +kernel
theorem d_R_hasNeighbour_3 : decode cR_hasNeighbour 3 = .ok (.iload_n 3, 1) := by decide +kernel
theorem d_R_hasNeighbour_4 : decode cR_hasNeighbour 4 = .ok (.iload 4, 2) := by decide +kernel
theorem d_R_hasNeighbour_6 : decode cR_hasNeighbour 6 = .ok (.iconst 1, 1) := by decide +kernel
theorem d_R_hasNeighbour_7 : decode cR_hasNeighbour 7 = .ok (.isub, 1) := by decide +kernel
theorem d_R_hasNeighbour_8 : decode cR_hasNeighbour 8 = .ok (.iload 5, 2) := by decide +kernel
theorem d_R_hasNeighbour_10 : decode cR_hasNeighbour 10 = .ok (.invokevirtual 61, 3) := by decide +kernel
theorem d_R_hasNeighbour_13 : decode cR_hasNeighbour 13 = .ok (.ifCond .ne 51, 3) := by decide +kernel
theorem d_R_hasNeighbour_16 : decode cR_hasNeighbour 16 = .ok (.aload_n 0, 1) := by decide +kernel
theorem d_R_hasNeighbour_17 : decode cR_hasNeighbour 17 = .ok (.iload_n 1, 1) := by decide +kernel
theorem d_R_hasNeighbour_18 : decode cR_hasNeighbour 18 = .ok (.iload_n 2, 1) := by decide +kernel
theorem d_R_hasNeighbour_19 : decode cR_hasNeighbour 19 = .ok (.iload_n 3, 1) := by decide +kernel
theorem d_R_hasNeighbour_20 : decode cR_hasNeighbour 20 = .ok (.iload 4, 2) := by decide +kernel
theorem d_R_hasNeighbour_22 : decode cR_hasNeighbour 22 = .ok (.iconst 1, 1) := by decide +kernel
theorem d_R_hasNeighbour_23 : decode cR_hasNeighbour 23 = .ok (.iadd, 1) := by decide +kernel
theorem d_R_hasNeighbour_24 : decode cR_hasNeighbour 24 = .ok (.iload 5, 2) := by decide +kernel
theorem d_R_hasNeighbour_26 : decode cR_hasNeighbour 26 = .ok (.invokevirtual 61, 3) := by decide +kernel
theorem d_R_hasNeighbour_29 : decode cR_hasNeighbour 29 = .ok (.ifCond .ne 35, 3) := by decide +kernel
theorem d_R_hasNeighbour_32 : decode cR_hasNeighbour 32 = .ok (.aload_n 0, 1) := by decide +kernel
theorem d_R_hasNeighbour_33 : decode cR_hasNeighbour 33 = .ok (.iload_n 1, 1) := by decide +kernel
theorem d_R_hasNeighbour_34 : decode cR_hasNeighbour 34 = .ok (.iload_n 2, 1) := by decide +kernel
theorem d_R_hasNeighbour_35 : decode cR_hasNeighbour 35 = .ok (.iload_n 3, 1) := by decide +kernel
theorem d_R_hasNeighbour_36 : decode cR_hasNeighbour 36 = .ok (.iconst 1, 1) := by decide +kernel
theorem d_R_hasNeighbour_37 : decode cR_hasNeighbour 37 = .ok (.isub, 1) := by decide +kernel
theorem d_R_hasNeighbour_38 : decode cR_hasNeighbour 38 = .ok (.iload 4, 2) := by decide +kernel
theorem d_R_hasNeighbour_40 : decode cR_hasNeighbour 40 = .ok (.iload 5, 2) := by decide +kernel
theorem d_R_hasNeighbour_42 : decode cR_hasNeighbour 42 = .ok (.invokevirtual 61, 3) := by decide +kernel
theorem d_R_hasNeighbour_45 : decode cR_hasNeighbour 45 = .ok (.ifCond .ne 19, 3) := by decide +kernel
theorem d_R_hasNeighbour_48 : decode cR_hasNeighbour 48 = .ok (.aload_n 0, 1) := by decide +kernel
theorem d_R_hasNeighbour_49 : decode cR_hasNeighbour 49 = .ok (.iload_n 1, 1) := by decide +kernel
theorem d_R_hasNeighbour_50 : decode cR_hasNeighbour 50 = .ok (.iload_n 2, 1) := by decide +kernel
theorem d_R_hasNeighbour_51 : decode cR_hasNeighbour 51 = .ok (.iload_n 3, 1) := by decide +kernel
theorem d_R_hasNeighbour_52 : decode cR_hasNeighbour 52 = .ok (.iconst 1, 1) := by decide +kernel
theorem d_R_hasNeighbour_53 : decode cR_hasNeighbour 53 = .ok (.iadd, 1) := by decide +kernel
theorem d_R_hasNeighbour_54 : decode cR_hasNeighbour 54 = .ok (.iload 4, 2) := by decide +kernel
theorem d_R_hasNeighbour_56 : decode cR_hasNeighbour 56 = .ok (.iload 5, 2) := by decide +kernel
theorem d_R_hasNeighbour_58 : decode cR_hasNeighbour 58 = .ok (.invokevirtual 61, 3) := by decide +kernel
theorem d_R_hasNeighbour_61 : decode cR_hasNeighbour 61 = .ok (.ifCond .eq 7, 3) := by decide +kernel
theorem d_R_hasNeighbour_64 : decode cR_hasNeighbour 64 = .ok (.iconst 1, 1) := by decide +kernel
theorem d_R_hasNeighbour_65 : decode cR_hasNeighbour 65 = .ok (.goto 4, 3) := by decide +kernel
theorem d_R_hasNeighbour_68 : decode cR_hasNeighbour 68 = .ok (.iconst 0, 1) := by decide +kernel
theorem d_R_hasNeighbour_69 : decode cR_hasNeighbour 69 = .ok (.ireturn, 1) := by decide +kernel
theorem d_R_isWritten_0 : decode cR_isWritten 0 = .ok (.aload_n 0, 1) := by decide +kernel
theorem d_R_isWritten_1 : decode cR_isWritten 1 = .ok (.iload_n 2, 1) := by decide +kernel
theorem d_R_isWritten_2 : decode cR_isWritten 2 = .ok (.iload_n 3, 1) := by decide +kernel
theorem d_R_isWritten_3 : decode cR_isWritten 3 = .ok (.iload 4, 2) := by decide +kernel
theorem d_R_isWritten_5 : decode cR_isWritten 5 = .ok (.invokevirtual 64, 3) := by decide +kernel
theorem d_R_isWritten_8 : decode cR_isWritten 8 = .ok (.ifCond .eq 26, 3) := by decide +kernel
theorem d_R_isWritten_11 : decode cR_isWritten 11 = .ok (.aload_n 0, 1) := by decide +kernel
theorem d_R_isWritten_12 : decode cR_isWritten 12 = .ok (.getfield 30, 3) := by decide +kernel
theorem d_R_isWritten_15 : decode cR_isWritten 15 = .ok (.iload_n 1, 1) := by decide +kernel
theorem d_R_isWritten_16 : decode cR_isWritten 16 = .ok (.aaload, 1) := by decide +kernel
theorem d_R_isWritten_17 : decode cR_isWritten 17 = .ok (.iload_n 2, 1) := by decide +kernel
theorem d_R_isWritten_18 : decode cR_isWritten 18 = .ok (.iload_n 3, 1) := by decide +kernel
theorem d_R_isWritten_19 : decode cR_isWritten 19 = .ok (.iload 4, 2) := by decide +kernel
theorem d_R_isWritten_21 : decode cR_isWritten 21 = .ok (.invokestatic 54, 3) := by decide +kernel
theorem d_R_isWritten_24 : decode cR_isWritten 24 = .ok (.iaload, 1) := by decide +kernel
theorem d_R_isWritten_25 : decode cR_isWritten 25 = .ok (.iload 5, 2) := by decide +kernel
theorem d_R_isWritten_27 : decode cR_isWritten 27 = .ok (.if_icmp .ne 7, 3) := by decide +kernel
theorem d_R_isWritten_30 : decode cR_isWritten 30 = .ok (.iconst 1, 1) := by decide +kernel
theorem d_R_isWritten_31 : decode cR_isWritten 31 = .ok (.goto 4, 3) := by decide +kernel
theorem d_R_isWritten_34 : decode cR_isWritten 34 = .ok (.iconst 0, 1) := by decide +kernel
theorem d_R_isWritten_35 : decode cR_isWritten 35 = .ok (.ireturn, 1) := by decide +kernel
theorem d_E_leave_0 : decode cE_leave 0 = .ok (.iload_n 1, 1) := by decide +kernel
theorem d_E_leave_1 : decode cE_leave 1 = .ok (.invokestatic 58, 3) := by decide +kernel
theorem d_E_leave_4 : decode cE_leave 4 = .ok (.ifCond .eq 14, 3) := by decide +kernel
theorem d_E_leave_7 : decode cE_leave 7 = .ok (.iload_n 2, 1) := by decide +kernel
theorem d_E_leave_8 : decode cE_leave 8 = .ok (.invokestatic 52, 3) := by decide +kernel
theorem d_E_leave_11 : decode cE_leave 11 = .ok (.ifCond .eq 7, 3) := by decide +kernel
theorem d_E_leave_14 : decode cE_leave 14 = .ok (.iconst 1, 1) := by decide +kernel
theorem d_E_leave_15 : decode cE_leave 15 = .ok (.goto 4, 3) := by decide +kernel
theorem d_E_leave_18 : decode cE_leave 18 = .ok (.iconst 0, 1) := by decide +kernel
theorem d_E_leave_19 : decode cE_leave 19 = .ok (.invokestatic 34, 3) := by decide +kernel
theorem d_E_leave_22 : decode cE_leave 22 = .ok (.aload_n 0, 1) := by decide +kernel
theorem d_E_leave_23 : decode cE_leave 23 = .ok (.getfield 19, 3) := by decide +kernel
theorem d_E_leave_26 : decode cE_leave 26 = .ok (.getfield 145, 3) := by decide +kernel
theorem d_E_leave_29 : decode cE_leave 29 = .ok (.iload_n 2, 1) := by decide +kernel
theorem d_E_leave_30 : decode cE_leave 30 = .ok (.aaload, 1) := by decide +kernel
theorem d_E_leave_31 : decode cE_leave 31 = .ok (.iload_n 1, 1) := by decide +kernel
theorem d_E_leave_32 : decode cE_leave 32 = .ok (.iaload, 1) := by decide +kernel
theorem d_E_leave_33 : decode cE_leave 33 = .ok (.istore_n 3, 1) := by decide +kernel
theorem d_E_leave_34 : decode cE_leave 34 = .ok (.aload_n 0, 1) := by decide +kernel
theorem d_E_leave_35 : decode cE_leave 35 = .ok (.getfield 19, 3) := by decide +kernel
theorem d_E_leave_38 : decode cE_leave 38 = .ok (.iload_n 2, 1) := by decide +kernel
theorem d_E_leave_39 : decode cE_leave 39 = .ok (.iload_n 3, 1) := by decide +kernel
theorem d_E_leave_40 : decode cE_leave 40 = .ok (.invokevirtual 149, 3) := by decide +kernel
theorem d_E_leave_43 : decode cE_leave 43 = .ok (.iload_n 3, 1) := by decide +kernel
theorem d_E_leave_44 : decode cE_leave 44 = .ok (.invokestatic 153, 3) := by decide +kernel
theorem d_E_leave_47 : decode cE_leave 47 = .ok (.ireturn, 1) := by decide +kernel
theorem d_E_seatNumber_0 : decode cE_seatNumber 0 = .ok (.iload_n 0, 1) := by decide +kernel
theorem d_E_seatNumber_1 : decode cE_seatNumber 1 = .ok (.iconst (-1), 1) := by decide +kernel
theorem d_E_seatNumber_2 : decode cE_seatNumber 2 = .ok (.if_icmp .ne 5, 3) := by decide +kernel
theorem d_E_seatNumber_5 : decode cE_seatNumber 5 = .ok (.iconst (-1), 1) := by decide +kernel
theorem d_E_seatNumber_6 : decode cE_seatNumber 6 = .ok (.ireturn, 1) := by decide +kernel
theorem d_E_seatNumber_7 : decode cE_seatNumber 7 = .ok (.iload_n 0, 1) := by decide +kernel
theorem d_E_seatNumber_8 : decode cE_seatNumber 8 = .ok (.bipush 36, 2) := by decide +kernel
theorem d_E_seatNumber_10 : decode cE_seatNumber 10 = .ok (.irem, 1) := by decide +kernel
theorem d_E_seatNumber_11 : decode cE_seatNumber 11 = .ok (.istore_n 1, 1) := by decide +kernel
theorem d_E_seatNumber_12 : decode cE_seatNumber 12 = .ok (.bipush 100, 2) := by decide +kernel
theorem d_E_seatNumber_14 : decode cE_seatNumber 14 = .ok (.iload_n 0, 1) := by decide +kernel
theorem d_E_seatNumber_15 : decode cE_seatNumber 15 = .ok (.bipush 36, 2) := by decide +kernel
theorem d_E_seatNumber_17 : decode cE_seatNumber 17 = .ok (.idiv, 1) := by decide +kernel
theorem d_E_seatNumber_18 : decode cE_seatNumber 18 = .ok (.imul, 1) := by decide +kernel
theorem d_E_seatNumber_19 : decode cE_seatNumber 19 = .ok (.bipush 10, 2) := by decide +kernel
theorem d_E_seatNumber_21 : decode cE_seatNumber 21 = .ok (.iload_n 1, 1) := by decide +kernel
theorem d_E_seatNumber_22 : decode cE_seatNumber 22 = .ok (.bipush 6, 2) := by decide +kernel
theorem d_E_seatNumber_24 : decode cE_seatNumber 24 = .ok (.idiv, 1) := by decide +kernel
theorem d_E_seatNumber_25 : decode cE_seatNumber 25 = .ok (.imul, 1) := by decide +kernel
theorem d_E_seatNumber_26 : decode cE_seatNumber 26 = .ok (.iadd, 1) := by decide +kernel
theorem d_E_seatNumber_27 : decode cE_seatNumber 27 = .ok (.iload_n 1, 1) := by decide +kernel
theorem d_E_seatNumber_28 : decode cE_seatNumber 28 = .ok (.bipush 6, 2) := by decide +kernel
theorem d_E_seatNumber_30 : decode cE_seatNumber 30 = .ok (.irem, 1) := by decide +kernel
theorem d_E_seatNumber_31 : decode cE_seatNumber 31 = .ok (.iadd, 1) := by decide +kernel
theorem d_E_seatNumber_32 : decode cE_seatNumber 32 = .ok (.ireturn, 1) := by decide +kernel
theorem d_E_where_0 : decode cE_where 0 = .ok (.iload_n 1, 1) := by decide +kernel
theorem d_E_where_1 : decode cE_where 1 = .ok (.invokestatic 58, 3) := by decide +kernel
theorem d_E_where_4 : decode cE_where 4 = .ok (.ifCond .eq 14, 3) := by decide +kernel
theorem d_E_where_7 : decode cE_where 7 = .ok (.iload_n 2, 1) := by decide +kernel
theorem d_E_where_8 : decode cE_where 8 = .ok (.invokestatic 52, 3) := by decide +kernel
theorem d_E_where_11 : decode cE_where 11 = .ok (.ifCond .eq 7, 3) := by decide +kernel
theorem d_E_where_14 : decode cE_where 14 = .ok (.iconst 1, 1) := by decide +kernel
theorem d_E_where_15 : decode cE_where 15 = .ok (.goto 4, 3) := by decide +kernel
theorem d_E_where_18 : decode cE_where 18 = .ok (.iconst 0, 1) := by decide +kernel
theorem d_E_where_19 : decode cE_where 19 = .ok (.invokestatic 34, 3) := by decide +kernel
theorem d_E_where_22 : decode cE_where 22 = .ok (.aload_n 0, 1) := by decide +kernel
theorem d_E_where_23 : decode cE_where 23 = .ok (.getfield 19, 3) := by decide +kernel
theorem d_E_where_26 : decode cE_where 26 = .ok (.getfield 145, 3) := by decide +kernel
theorem d_E_where_29 : decode cE_where 29 = .ok (.iload_n 2, 1) := by decide +kernel
theorem d_E_where_30 : decode cE_where 30 = .ok (.aaload, 1) := by decide +kernel
theorem d_E_where_31 : decode cE_where 31 = .ok (.iload_n 1, 1) := by decide +kernel
theorem d_E_where_32 : decode cE_where 32 = .ok (.iaload, 1) := by decide +kernel
theorem d_E_where_33 : decode cE_where 33 = .ok (.invokestatic 153, 3) := by decide +kernel
theorem d_E_where_36 : decode cE_where 36 = .ok (.ireturn, 1) := by decide +kernel
theorem d_E_who_0 : decode cE_who 0 = .ok (.iload_n 1, 1) := by decide +kernel
theorem d_E_who_1 : decode cE_who 1 = .ok (.invokestatic 52, 3) := by decide +kernel
theorem d_E_who_4 : decode cE_who 4 = .ok (.ifCond .eq 28, 3) := by decide +kernel
theorem d_E_who_7 : decode cE_who 7 = .ok (.iload_n 2, 1) := by decide +kernel
theorem d_E_who_8 : decode cE_who 8 = .ok (.invokestatic 103, 3) := by decide +kernel
theorem d_E_who_11 : decode cE_who 11 = .ok (.ifCond .eq 21, 3) := by decide +kernel
theorem d_E_who_14 : decode cE_who 14 = .ok (.aload_n 0, 1) := by decide +kernel
theorem d_E_who_15 : decode cE_who 15 = .ok (.getfield 19, 3) := by decide +kernel
theorem d_E_who_18 : decode cE_who 18 = .ok (.iload_n 2, 1) := by decide +kernel
theorem d_E_who_19 : decode cE_who 19 = .ok (.iload_n 3, 1) := by decide +kernel
theorem d_E_who_20 : decode cE_who 20 = .ok (.iload 4, 2) := by decide +kernel
theorem d_E_who_22 : decode cE_who 22 = .ok (.invokevirtual 112, 3) := by decide +kernel
theorem d_E_who_25 : decode cE_who 25 = .ok (.ifCond .eq 7, 3) := by decide +kernel
theorem d_E_who_28 : decode cE_who 28 = .ok (.iconst 1, 1) := by decide +kernel
theorem d_E_who_29 : decode cE_who 29 = .ok (.goto 4, 3) := by decide +kernel
theorem d_E_who_32 : decode cE_who 32 = .ok (.iconst 0, 1) := by decide +kernel
theorem d_E_who_33 : decode cE_who 33 = .ok (.invokestatic 34, 3) := by decide +kernel
theorem d_E_who_36 : decode cE_who 36 = .ok (.aload_n 0, 1) := by decide +kernel
theorem d_E_who_37 : decode cE_who 37 = .ok (.getfield 19, 3) := by decide +kernel
theorem d_E_who_40 : decode cE_who 40 = .ok (.getfield 157, 3) := by decide +kernel
theorem d_E_who_43 : decode cE_who 43 = .ok (.iload_n 1, 1) := by decide +kernel
theorem d_E_who_44 : decode cE_who 44 = .ok (.aaload, 1) := by decide +kernel
theorem d_E_who_45 : decode cE_who 45 = .ok (.iload_n 2, 1) := by decide +kernel
theorem d_E_who_46 : decode cE_who 46 = .ok (.iload_n 3, 1) := by decide +kernel
theorem d_E_who_47 : decode cE_who 47 = .ok (.iload 4, 2) := by decide +kernel
theorem d_E_who_49 : decode cE_who 49 = .ok (.invokestatic 115, 3) := by decide +kernel
theorem d_E_who_52 : decode cE_who 52 = .ok (.iaload, 1) := by decide +kernel
theorem d_E_who_53 : decode cE_who 53 = .ok (.ireturn, 1) := by decide +kernel
theorem d_E_most_0 : decode cE_most 0 = .ok (.iload_n 1, 1) := by decide +kernel
theorem d_E_most_1 : decode cE_most 1 = .ok (.invokestatic 160, 3) := by decide +kernel
theorem d_E_most_4 : decode cE_most 4 = .ok (.invokestatic 34, 3) := by decide +kernel
theorem d_E_most_7 : decode cE_most 7 = .ok (.iload_n 2, 1) := by decide +kernel
theorem d_E_most_8 : decode cE_most 8 = .ok (.bipush 6, 2) := by decide +kernel
theorem d_E_most_10 : decode cE_most 10 = .ok (.invokestatic 38, 3) := by decide +kernel
theorem d_E_most_13 : decode cE_most 13 = .ok (.invokestatic 42, 3) := by decide +kernel
theorem d_E_most_16 : decode cE_most 16 = .ok (.aload_n 0, 1) := by decide +kernel
theorem d_E_most_17 : decode cE_most 17 = .ok (.getfield 26, 3) := by decide +kernel
theorem d_E_most_20 : decode cE_most 20 = .ok (.getfield 163, 3) := by decide +kernel
theorem d_E_most_23 : decode cE_most 23 = .ok (.iload_n 1, 1) := by decide +kernel
theorem d_E_most_24 : decode cE_most 24 = .ok (.iaload, 1) := by decide +kernel
theorem d_E_most_25 : decode cE_most 25 = .ok (.istore_n 3, 1) := by decide +kernel
theorem d_E_most_26 : decode cE_most 26 = .ok (.aload_n 0, 1) := by decide +kernel
theorem d_E_most_27 : decode cE_most 27 = .ok (.getfield 26, 3) := by decide +kernel
theorem d_E_most_30 : decode cE_most 30 = .ok (.getfield 163, 3) := by decide +kernel
theorem d_E_most_33 : decode cE_most 33 = .ok (.iload_n 1, 1) := by decide +kernel
theorem d_E_most_34 : decode cE_most 34 = .ok (.iload_n 2, 1) := by decide +kernel
theorem d_E_most_35 : decode cE_most 35 = .ok (.iastore, 1) := by decide +kernel
theorem d_E_most_36 : decode cE_most 36 = .ok (.iload_n 3, 1) := by decide +kernel
theorem d_E_most_37 : decode cE_most 37 = .ok (.ireturn, 1) := by decide +kernel
theorem d_E_isInvigilator_0 : decode cE_isInvigilator 0 = .ok (.iload_n 0, 1) := by decide +kernel
theorem d_E_isInvigilator_1 : decode cE_isInvigilator 1 = .ok (.bipush 10, 2) := by decide +kernel
theorem d_E_isInvigilator_3 : decode cE_isInvigilator 3 = .ok (.invokestatic 75, 3) := by decide +kernel
theorem d_E_isInvigilator_6 : decode cE_isInvigilator 6 = .ok (.ireturn, 1) := by decide +kernel
theorem d_E_own_0 : decode cE_own 0 = .ok (.iload_n 1, 1) := by decide +kernel
theorem d_E_own_1 : decode cE_own 1 = .ok (.invokestatic 160, 3) := by decide +kernel
theorem d_E_own_4 : decode cE_own 4 = .ok (.ifCond .eq 14, 3) := by decide +kernel
theorem d_E_own_7 : decode cE_own 7 = .ok (.iload_n 2, 1) := by decide +kernel
theorem d_E_own_8 : decode cE_own 8 = .ok (.invokestatic 30, 3) := by decide +kernel
theorem d_E_own_11 : decode cE_own 11 = .ok (.ifCond .eq 7, 3) := by decide +kernel
theorem d_E_own_14 : decode cE_own 14 = .ok (.iconst 1, 1) := by decide +kernel
theorem d_E_own_15 : decode cE_own 15 = .ok (.goto 4, 3) := by decide +kernel
theorem d_E_own_18 : decode cE_own 18 = .ok (.iconst 0, 1) := by decide +kernel
theorem d_E_own_19 : decode cE_own 19 = .ok (.invokestatic 34, 3) := by decide +kernel
theorem d_E_own_22 : decode cE_own 22 = .ok (.aload_n 0, 1) := by decide +kernel
theorem d_E_own_23 : decode cE_own 23 = .ok (.getfield 26, 3) := by decide +kernel
theorem d_E_own_26 : decode cE_own 26 = .ok (.getfield 166, 3) := by decide +kernel
theorem d_E_own_29 : decode cE_own 29 = .ok (.iload_n 1, 1) := by decide +kernel
theorem d_E_own_30 : decode cE_own 30 = .ok (.iaload, 1) := by decide +kernel
theorem d_E_own_31 : decode cE_own 31 = .ok (.istore 4, 2) := by decide +kernel
theorem d_E_own_33 : decode cE_own 33 = .ok (.aload_n 0, 1) := by decide +kernel
theorem d_E_own_34 : decode cE_own 34 = .ok (.getfield 26, 3) := by decide +kernel
theorem d_E_own_37 : decode cE_own 37 = .ok (.getfield 166, 3) := by decide +kernel
theorem d_E_own_40 : decode cE_own 40 = .ok (.iload_n 1, 1) := by decide +kernel
theorem d_E_own_41 : decode cE_own 41 = .ok (.iload 4, 2) := by decide +kernel
theorem d_E_own_43 : decode cE_own 43 = .ok (.iload_n 2, 1) := by decide +kernel
theorem d_E_own_44 : decode cE_own 44 = .ok (.iload_n 3, 1) := by decide +kernel
theorem d_E_own_45 : decode cE_own 45 = .ok (.invokestatic 67, 3) := by decide +kernel
theorem d_E_own_48 : decode cE_own 48 = .ok (.iastore, 1) := by decide +kernel
theorem d_E_own_49 : decode cE_own 49 = .ok (.iload 4, 2) := by decide +kernel
theorem d_E_own_51 : decode cE_own 51 = .ok (.iload_n 2, 1) := by decide +kernel
theorem d_E_own_52 : decode cE_own 52 = .ok (.invokestatic 64, 3) := by decide +kernel
theorem d_E_own_55 : decode cE_own 55 = .ok (.iload_n 3, 1) := by decide +kernel
theorem d_E_own_56 : decode cE_own 56 = .ok (.if_icmp .eq 7, 3) := by decide +kernel
theorem d_E_own_59 : decode cE_own 59 = .ok (.iconst 1, 1) := by decide +kernel
theorem d_E_own_60 : decode cE_own 60 = .ok (.goto 4, 3) := by decide +kernel
theorem d_E_own_63 : decode cE_own 63 = .ok (.iconst 0, 1) := by decide +kernel
theorem d_E_own_64 : decode cE_own 64 = .ok (.ireturn, 1) := by decide +kernel
theorem d_E_watch_0 : decode cE_watch 0 = .ok (.iload_n 1, 1) := by decide +kernel
theorem d_E_watch_1 : decode cE_watch 1 = .ok (.invokestatic 52, 3) := by decide +kernel
theorem d_E_watch_4 : decode cE_watch 4 = .ok (.invokestatic 34, 3) := by decide +kernel
theorem d_E_watch_7 : decode cE_watch 7 = .ok (.aload_n 0, 1) := by decide +kernel
theorem d_E_watch_8 : decode cE_watch 8 = .ok (.getfield 26, 3) := by decide +kernel
theorem d_E_watch_11 : decode cE_watch 11 = .ok (.iload_n 1, 1) := by decide +kernel
theorem d_E_watch_12 : decode cE_watch 12 = .ok (.aload_n 0, 1) := by decide +kernel
theorem d_E_watch_13 : decode cE_watch 13 = .ok (.getfield 19, 3) := by decide +kernel
theorem d_E_watch_16 : decode cE_watch 16 = .ok (.invokevirtual 169, 3) := by decide +kernel
theorem d_E_watch_19 : decode cE_watch 19 = .ok (.ireturn, 1) := by decide +kernel
theorem d_O_staff_0 : decode cO_staff 0 = .ok (.aload_n 0, 1) := by decide +kernel
theorem d_O_staff_1 : decode cO_staff 1 = .ok (.getfield 20, 3) := by decide +kernel
theorem d_O_staff_4 : decode cO_staff 4 = .ok (.iload_n 1, 1) := by decide +kernel
theorem d_O_staff_5 : decode cO_staff 5 = .ok (.aaload, 1) := by decide +kernel
theorem d_O_staff_6 : decode cO_staff 6 = .ok (.iconst 0, 1) := by decide +kernel
theorem d_O_staff_7 : decode cO_staff 7 = .ok (.invokestatic 29, 3) := by decide +kernel
theorem d_O_staff_10 : decode cO_staff 10 = .ok (.aload_n 0, 1) := by decide +kernel
theorem d_O_staff_11 : decode cO_staff 11 = .ok (.invokevirtual 35, 3) := by decide +kernel
theorem d_O_staff_14 : decode cO_staff 14 = .ok (.istore_n 3, 1) := by decide +kernel
theorem d_O_staff_15 : decode cO_staff 15 = .ok (.iconst 0, 1) := by decide +kernel
theorem d_O_staff_16 : decode cO_staff 16 = .ok (.istore 4, 2) := by decide +kernel
theorem d_O_staff_18 : decode cO_staff 18 = .ok (.iload 4, 2) := by decide +kernel
theorem d_O_staff_20 : decode cO_staff 20 = .ok (.iconst 4, 1) := by decide +kernel
theorem d_O_staff_21 : decode cO_staff 21 = .ok (.if_icmp .ge 44, 3) := by decide +kernel
theorem d_O_staff_24 : decode cO_staff 24 = .ok (.aload_n 0, 1) := by decide +kernel
theorem d_O_staff_25 : decode cO_staff 25 = .ok (.getfield 23, 3) := by decide +kernel
theorem d_O_staff_28 : decode cO_staff 28 = .ok (.iload 4, 2) := by decide +kernel
theorem d_O_staff_30 : decode cO_staff 30 = .ok (.aload_n 2, 1) := by decide +kernel
theorem d_O_staff_31 : decode cO_staff 31 = .ok (.iload_n 1, 1) := by decide +kernel
theorem d_O_staff_32 : decode cO_staff 32 = .ok (.iload 4, 2) := by decide +kernel
theorem d_O_staff_34 : decode cO_staff 34 = .ok (.invokevirtual 39, 3) := by decide +kernel
theorem d_O_staff_37 : decode cO_staff 37 = .ok (.invokestatic 45, 3) := by decide +kernel
theorem d_O_staff_40 : decode cO_staff 40 = .ok (.iastore, 1) := by decide +kernel
theorem d_O_staff_41 : decode cO_staff 41 = .ok (.aload_n 0, 1) := by decide +kernel
theorem d_O_staff_42 : decode cO_staff 42 = .ok (.getfield 26, 3) := by decide +kernel
theorem d_O_staff_45 : decode cO_staff 45 = .ok (.iload 4, 2) := by decide +kernel
theorem d_O_staff_47 : decode cO_staff 47 = .ok (.aload_n 0, 1) := by decide +kernel
theorem d_O_staff_48 : decode cO_staff 48 = .ok (.aload_n 2, 1) := by decide +kernel
theorem d_O_staff_49 : decode cO_staff 49 = .ok (.iload_n 1, 1) := by decide +kernel
theorem d_O_staff_50 : decode cO_staff 50 = .ok (.iload 4, 2) := by decide +kernel
theorem d_O_staff_52 : decode cO_staff 52 = .ok (.invokevirtual 49, 3) := by decide +kernel
theorem d_O_staff_55 : decode cO_staff 55 = .ok (.invokevirtual 52, 3) := by decide +kernel
theorem d_O_staff_58 : decode cO_staff 58 = .ok (.iastore, 1) := by decide +kernel
theorem d_O_staff_59 : decode cO_staff 59 = .ok (.iinc 4 1, 3) := by decide +kernel
theorem d_O_staff_62 : decode cO_staff 62 = .ok (.goto (-44), 3) := by decide +kernel
theorem d_O_staff_65 : decode cO_staff 65 = .ok (.aload_n 0, 1) := by decide +kernel
theorem d_O_staff_66 : decode cO_staff 66 = .ok (.iload_n 3, 1) := by decide +kernel
theorem d_O_staff_67 : decode cO_staff 67 = .ok (.invokevirtual 55, 3) := by decide +kernel
theorem d_O_staff_70 : decode cO_staff 70 = .ok (.ifCond .ne 5, 3) := by decide +kernel
theorem d_O_staff_73 : decode cO_staff 73 = .ok (.iconst 0, 1) := by decide +kernel
theorem d_O_staff_74 : decode cO_staff 74 = .ok (.ireturn, 1) := by decide +kernel
theorem d_O_staff_75 : decode cO_staff 75 = .ok (.iconst 0, 1) := by decide +kernel
theorem d_O_staff_76 : decode cO_staff 76 = .ok (.istore 4, 2) := by decide +kernel
theorem d_O_staff_78 : decode cO_staff 78 = .ok (.iload 4, 2) := by decide +kernel
theorem d_O_staff_80 : decode cO_staff 80 = .ok (.iconst 4, 1) := by decide +kernel
theorem d_O_staff_81 : decode cO_staff 81 = .ok (.if_icmp .ge 18, 3) := by decide +kernel
theorem d_O_staff_84 : decode cO_staff 84 = .ok (.aload_n 0, 1) := by decide +kernel
theorem d_O_staff_85 : decode cO_staff 85 = .ok (.iload_n 1, 1) := by decide +kernel
theorem d_O_staff_86 : decode cO_staff 86 = .ok (.iload 4, 2) := by decide +kernel
theorem d_O_staff_88 : decode cO_staff 88 = .ok (.iload_n 3, 1) := by decide +kernel
theorem d_O_staff_89 : decode cO_staff 89 = .ok (.invokevirtual 59, 3) := by decide +kernel
theorem d_O_staff_92 : decode cO_staff 92 = .ok (.istore_n 3, 1) := by decide +kernel
theorem d_O_staff_93 : decode cO_staff 93 = .ok (.iinc 4 1, 3) := by decide +kernel
theorem d_O_staff_96 : decode cO_staff 96 = .ok (.goto (-18), 3) := by decide +kernel
theorem d_O_staff_99 : decode cO_staff 99 = .ok (.iconst 1, 1) := by decide +kernel
theorem d_O_staff_100 : decode cO_staff 100 = .ok (.ireturn, 1) := by decide +kernel
theorem d_O_thoseWithTime_0 : decode cO_thoseWithTime 0 = .ok (.iconst 0, 1) := by decide +kernel
theorem d_O_thoseWithTime_1 : decode cO_thoseWithTime 1 = .ok (.istore_n 1, 1) := by decide +kernel
theorem d_O_thoseWithTime_2 : decode cO_thoseWithTime 2 = .ok (.iconst 0, 1) := by decide +kernel
theorem d_O_thoseWithTime_3 : decode cO_thoseWithTime 3 = .ok (.istore_n 2, 1) := by decide +kernel
theorem d_O_thoseWithTime_4 : decode cO_thoseWithTime 4 = .ok (.iload_n 2, 1) := by decide +kernel
theorem d_O_thoseWithTime_5 : decode cO_thoseWithTime 5 = .ok (.bipush 10, 2) := by decide +kernel
theorem d_O_thoseWithTime_7 : decode cO_thoseWithTime 7 = .ok (.if_icmp .ge 34, 3) := by decide +kernel
theorem d_O_thoseWithTime_10 : decode cO_thoseWithTime 10 = .ok (.iload_n 1, 1) := by decide +kernel
theorem d_O_thoseWithTime_11 : decode cO_thoseWithTime 11 = .ok (.iload_n 2, 1) := by decide +kernel
theorem d_O_thoseWithTime_12 : decode cO_thoseWithTime 12 = .ok (.aload_n 0, 1) := by decide +kernel
theorem d_O_thoseWithTime_13 : decode cO_thoseWithTime 13 = .ok (.iload_n 2, 1) := by decide +kernel
theorem d_O_thoseWithTime_14 : decode cO_thoseWithTime 14 = .ok (.invokevirtual 63, 3) := by decide +kernel
theorem d_O_thoseWithTime_17 : decode cO_thoseWithTime 17 = .ok (.aload_n 0, 1) := by decide +kernel
theorem d_O_thoseWithTime_18 : decode cO_thoseWithTime 18 = .ok (.getfield 9, 3) := by decide +kernel
theorem d_O_thoseWithTime_21 : decode cO_thoseWithTime 21 = .ok (.iload_n 2, 1) := by decide +kernel
theorem d_O_thoseWithTime_22 : decode cO_thoseWithTime 22 = .ok (.iaload, 1) := by decide +kernel
theorem d_O_thoseWithTime_23 : decode cO_thoseWithTime 23 = .ok (.if_icmp .ge 7, 3) := by decide +kernel
theorem d_O_thoseWithTime_26 : decode cO_thoseWithTime 26 = .ok (.iconst 1, 1) := by decide +kernel
theorem d_O_thoseWithTime_27 : decode cO_thoseWithTime 27 = .ok (.goto 4, 3) := by decide +kernel
theorem d_O_thoseWithTime_30 : decode cO_thoseWithTime 30 = .ok (.iconst 0, 1) := by decide +kernel
theorem d_O_thoseWithTime_31 : decode cO_thoseWithTime 31 = .ok (.invokestatic 66, 3) := by decide +kernel
theorem d_O_thoseWithTime_34 : decode cO_thoseWithTime 34 = .ok (.istore_n 1, 1) := by decide +kernel
theorem d_O_thoseWithTime_35 : decode cO_thoseWithTime 35 = .ok (.iinc 2 1, 3) := by decide +kernel
theorem d_O_thoseWithTime_38 : decode cO_thoseWithTime 38 = .ok (.goto (-34), 3) := by decide +kernel
theorem d_O_thoseWithTime_41 : decode cO_thoseWithTime 41 = .ok (.iload_n 1, 1) := by decide +kernel
theorem d_O_thoseWithTime_42 : decode cO_thoseWithTime 42 = .ok (.ireturn, 1) := by decide +kernel
theorem d_O_watchesOf_0 : decode cO_watchesOf 0 = .ok (.iconst 0, 1) := by decide +kernel
theorem d_O_watchesOf_1 : decode cO_watchesOf 1 = .ok (.istore_n 2, 1) := by decide +kernel
theorem d_O_watchesOf_2 : decode cO_watchesOf 2 = .ok (.iconst 0, 1) := by decide +kernel
theorem d_O_watchesOf_3 : decode cO_watchesOf 3 = .ok (.istore_n 3, 1) := by decide +kernel
theorem d_O_watchesOf_4 : decode cO_watchesOf 4 = .ok (.iload_n 3, 1) := by decide +kernel
theorem d_O_watchesOf_5 : decode cO_watchesOf 5 = .ok (.bipush 6, 2) := by decide +kernel
theorem d_O_watchesOf_7 : decode cO_watchesOf 7 = .ok (.if_icmp .ge 48, 3) := by decide +kernel
theorem d_O_watchesOf_10 : decode cO_watchesOf 10 = .ok (.iconst 0, 1) := by decide +kernel
theorem d_O_watchesOf_11 : decode cO_watchesOf 11 = .ok (.istore 4, 2) := by decide +kernel
theorem d_O_watchesOf_13 : decode cO_watchesOf 13 = .ok (.iload 4, 2) := by decide +kernel
theorem d_O_watchesOf_15 : decode cO_watchesOf 15 = .ok (.iconst 4, 1) := by decide +kernel
theorem d_O_watchesOf_16 : decode cO_watchesOf 16 = .ok (.if_icmp .ge 33, 3) := by decide +kernel
theorem d_O_watchesOf_19 : decode cO_watchesOf 19 = .ok (.iload_n 2, 1) := by decide +kernel
theorem d_O_watchesOf_20 : decode cO_watchesOf 20 = .ok (.aload_n 0, 1) := by decide +kernel
theorem d_O_watchesOf_21 : decode cO_watchesOf 21 = .ok (.getfield 20, 3) := by decide +kernel
theorem d_O_watchesOf_24 : decode cO_watchesOf 24 = .ok (.iload_n 3, 1) := by decide +kernel
theorem d_O_watchesOf_25 : decode cO_watchesOf 25 = .ok (.aaload, 1) := by decide +kernel
theorem d_O_watchesOf_26 : decode cO_watchesOf 26 = .ok (.iload 4, 2) := by decide +kernel
theorem d_O_watchesOf_28 : decode cO_watchesOf 28 = .ok (.iaload, 1) := by decide +kernel
theorem d_O_watchesOf_29 : decode cO_watchesOf 29 = .ok (.iload_n 1, 1) := by decide +kernel
theorem d_O_watchesOf_30 : decode cO_watchesOf 30 = .ok (.invokestatic 70, 3) := by decide +kernel
theorem d_O_watchesOf_33 : decode cO_watchesOf 33 = .ok (.ifCond .eq 7, 3) := by decide +kernel
theorem d_O_watchesOf_36 : decode cO_watchesOf 36 = .ok (.iconst 1, 1) := by decide +kernel
theorem d_O_watchesOf_37 : decode cO_watchesOf 37 = .ok (.goto 4, 3) := by decide +kernel
theorem d_O_watchesOf_40 : decode cO_watchesOf 40 = .ok (.iconst 0, 1) := by decide +kernel
theorem d_O_watchesOf_41 : decode cO_watchesOf 41 = .ok (.iadd, 1) := by decide +kernel
theorem d_O_watchesOf_42 : decode cO_watchesOf 42 = .ok (.istore_n 2, 1) := by decide +kernel
theorem d_O_watchesOf_43 : decode cO_watchesOf 43 = .ok (.iinc 4 1, 3) := by decide +kernel
theorem d_O_watchesOf_46 : decode cO_watchesOf 46 = .ok (.goto (-33), 3) := by decide +kernel
theorem d_O_watchesOf_49 : decode cO_watchesOf 49 = .ok (.iinc 3 1, 3) := by decide +kernel
theorem d_O_watchesOf_52 : decode cO_watchesOf 52 = .ok (.goto (-48), 3) := by decide +kernel
theorem d_O_watchesOf_55 : decode cO_watchesOf 55 = .ok (.iload_n 2, 1) := by decide +kernel
theorem d_O_watchesOf_56 : decode cO_watchesOf 56 = .ok (.ireturn, 1) := by decide +kernel
theorem d_R_sittersIn_0 : decode cR_sittersIn 0 = .ok (.iconst 0, 1) := by decide +kernel
theorem d_R_sittersIn_1 : decode cR_sittersIn 1 = .ok (.istore_n 3, 1) := by decide +kernel
theorem d_R_sittersIn_2 : decode cR_sittersIn 2 = .ok (.iload_n 2, 1) := by decide +kernel
theorem d_R_sittersIn_3 : decode cR_sittersIn 3 = .ok (.bipush 36, 2) := by decide +kernel
theorem d_R_sittersIn_5 : decode cR_sittersIn 5 = .ok (.imul, 1) := by decide +kernel
theorem d_R_sittersIn_6 : decode cR_sittersIn 6 = .ok (.istore 4, 2) := by decide +kernel
theorem d_R_sittersIn_8 : decode cR_sittersIn 8 = .ok (.iload 4, 2) := by decide +kernel
theorem d_R_sittersIn_10 : decode cR_sittersIn 10 = .ok (.iload_n 2, 1) := by decide +kernel
theorem d_R_sittersIn_11 : decode cR_sittersIn 11 = .ok (.iconst 1, 1) := by decide +kernel
theorem d_R_sittersIn_12 : decode cR_sittersIn 12 = .ok (.iadd, 1) := by decide +kernel
theorem d_R_sittersIn_13 : decode cR_sittersIn 13 = .ok (.bipush 36, 2) := by decide +kernel
theorem d_R_sittersIn_15 : decode cR_sittersIn 15 = .ok (.imul, 1) := by decide +kernel
theorem d_R_sittersIn_16 : decode cR_sittersIn 16 = .ok (.if_icmp .ge 25, 3) := by decide +kernel
theorem d_R_sittersIn_19 : decode cR_sittersIn 19 = .ok (.aload_n 0, 1) := by decide +kernel
theorem d_R_sittersIn_20 : decode cR_sittersIn 20 = .ok (.getfield 27, 3) := by decide +kernel
theorem d_R_sittersIn_23 : decode cR_sittersIn 23 = .ok (.iload_n 1, 1) := by decide +kernel
theorem d_R_sittersIn_24 : decode cR_sittersIn 24 = .ok (.aaload, 1) := by decide +kernel
theorem d_R_sittersIn_25 : decode cR_sittersIn 25 = .ok (.iload 4, 2) := by decide +kernel
theorem d_R_sittersIn_27 : decode cR_sittersIn 27 = .ok (.iaload, 1) := by decide +kernel
theorem d_R_sittersIn_28 : decode cR_sittersIn 28 = .ok (.iconst (-1), 1) := by decide +kernel
theorem d_R_sittersIn_29 : decode cR_sittersIn 29 = .ok (.if_icmp .eq 6, 3) := by decide +kernel
theorem d_R_sittersIn_32 : decode cR_sittersIn 32 = .ok (.iinc 3 1, 3) := by decide +kernel
theorem d_R_sittersIn_35 : decode cR_sittersIn 35 = .ok (.iinc 4 1, 3) := by decide +kernel
theorem d_R_sittersIn_38 : decode cR_sittersIn 38 = .ok (.goto (-30), 3) := by decide +kernel
theorem d_R_sittersIn_41 : decode cR_sittersIn 41 = .ok (.iload_n 3, 1) := by decide +kernel
theorem d_R_sittersIn_42 : decode cR_sittersIn 42 = .ok (.ireturn, 1) := by decide +kernel
theorem d_O_needed_0 : decode cO_needed 0 = .ok (.iload_n 0, 1) := by decide +kernel
theorem d_O_needed_1 : decode cO_needed 1 = .ok (.bipush 8, 2) := by decide +kernel
theorem d_O_needed_3 : decode cO_needed 3 = .ok (.iadd, 1) := by decide +kernel
theorem d_O_needed_4 : decode cO_needed 4 = .ok (.iconst 1, 1) := by decide +kernel
theorem d_O_needed_5 : decode cO_needed 5 = .ok (.isub, 1) := by decide +kernel
theorem d_O_needed_6 : decode cO_needed 6 = .ok (.bipush 8, 2) := by decide +kernel
theorem d_O_needed_8 : decode cO_needed 8 = .ok (.idiv, 1) := by decide +kernel
theorem d_O_needed_9 : decode cO_needed 9 = .ok (.ireturn, 1) := by decide +kernel
theorem d_R_papersIn_0 : decode cR_papersIn 0 = .ok (.iconst 0, 1) := by decide +kernel
theorem d_R_papersIn_1 : decode cR_papersIn 1 = .ok (.istore_n 3, 1) := by decide +kernel
theorem d_R_papersIn_2 : decode cR_papersIn 2 = .ok (.iload_n 2, 1) := by decide +kernel
theorem d_R_papersIn_3 : decode cR_papersIn 3 = .ok (.bipush 36, 2) := by decide +kernel
theorem d_R_papersIn_5 : decode cR_papersIn 5 = .ok (.imul, 1) := by decide +kernel
theorem d_R_papersIn_6 : decode cR_papersIn 6 = .ok (.istore 4, 2) := by decide +kernel
theorem d_R_papersIn_8 : decode cR_papersIn 8 = .ok (.iload 4, 2) := by decide +kernel
theorem d_R_papersIn_10 : decode cR_papersIn 10 = .ok (.iload_n 2, 1) := by decide +kernel
theorem d_R_papersIn_11 : decode cR_papersIn 11 = .ok (.iconst 1, 1) := by decide +kernel
theorem d_R_papersIn_12 : decode cR_papersIn 12 = .ok (.iadd, 1) := by decide +kernel
theorem d_R_papersIn_13 : decode cR_papersIn 13 = .ok (.bipush 36, 2) := by decide +kernel
theorem d_R_papersIn_15 : decode cR_papersIn 15 = .ok (.imul, 1) := by decide +kernel
theorem d_R_papersIn_16 : decode cR_papersIn 16 = .ok (.if_icmp .ge 36, 3) := by decide +kernel
theorem d_R_papersIn_19 : decode cR_papersIn 19 = .ok (.aload_n 0, 1) := by decide +kernel
theorem d_R_papersIn_20 : decode cR_papersIn 20 = .ok (.getfield 30, 3) := by decide +kernel
theorem d_R_papersIn_23 : decode cR_papersIn 23 = .ok (.iload_n 1, 1) := by decide +kernel
theorem d_R_papersIn_24 : decode cR_papersIn 24 = .ok (.aaload, 1) := by decide +kernel
theorem d_R_papersIn_25 : decode cR_papersIn 25 = .ok (.iload 4, 2) := by decide +kernel
theorem d_R_papersIn_27 : decode cR_papersIn 27 = .ok (.iaload, 1) := by decide +kernel
theorem d_R_papersIn_28 : decode cR_papersIn 28 = .ok (.iconst (-1), 1) := by decide +kernel
theorem d_R_papersIn_29 : decode cR_papersIn 29 = .ok (.if_icmp .eq 17, 3) := by decide +kernel
theorem d_R_papersIn_32 : decode cR_papersIn 32 = .ok (.iload_n 3, 1) := by decide +kernel
theorem d_R_papersIn_33 : decode cR_papersIn 33 = .ok (.iconst 1, 1) := by decide +kernel
theorem d_R_papersIn_34 : decode cR_papersIn 34 = .ok (.aload_n 0, 1) := by decide +kernel
theorem d_R_papersIn_35 : decode cR_papersIn 35 = .ok (.getfield 30, 3) := by decide +kernel
theorem d_R_papersIn_38 : decode cR_papersIn 38 = .ok (.iload_n 1, 1) := by decide +kernel
theorem d_R_papersIn_39 : decode cR_papersIn 39 = .ok (.aaload, 1) := by decide +kernel
theorem d_R_papersIn_40 : decode cR_papersIn 40 = .ok (.iload 4, 2) := by decide +kernel
theorem d_R_papersIn_42 : decode cR_papersIn 42 = .ok (.iaload, 1) := by decide +kernel
theorem d_R_papersIn_43 : decode cR_papersIn 43 = .ok (.ishl, 1) := by decide +kernel
theorem d_R_papersIn_44 : decode cR_papersIn 44 = .ok (.ior, 1) := by decide +kernel
theorem d_R_papersIn_45 : decode cR_papersIn 45 = .ok (.istore_n 3, 1) := by decide +kernel
theorem d_R_papersIn_46 : decode cR_papersIn 46 = .ok (.iinc 4 1, 3) := by decide +kernel
theorem d_R_papersIn_49 : decode cR_papersIn 49 = .ok (.goto (-41), 3) := by decide +kernel
theorem d_R_papersIn_52 : decode cR_papersIn 52 = .ok (.iload_n 3, 1) := by decide +kernel
theorem d_R_papersIn_53 : decode cR_papersIn 53 = .ok (.ireturn, 1) := by decide +kernel
theorem d_O_thoseWithout_0 : decode cO_thoseWithout 0 = .ok (.iconst 0, 1) := by decide +kernel
theorem d_O_thoseWithout_1 : decode cO_thoseWithout 1 = .ok (.istore_n 2, 1) := by decide +kernel
theorem d_O_thoseWithout_2 : decode cO_thoseWithout 2 = .ok (.iconst 0, 1) := by decide +kernel
theorem d_O_thoseWithout_3 : decode cO_thoseWithout 3 = .ok (.istore_n 3, 1) := by decide +kernel
theorem d_O_thoseWithout_4 : decode cO_thoseWithout 4 = .ok (.iload_n 3, 1) := by decide +kernel
theorem d_O_thoseWithout_5 : decode cO_thoseWithout 5 = .ok (.bipush 10, 2) := by decide +kernel
theorem d_O_thoseWithout_7 : decode cO_thoseWithout 7 = .ok (.if_icmp .ge 31, 3) := by decide +kernel
theorem d_O_thoseWithout_10 : decode cO_thoseWithout 10 = .ok (.iload_n 2, 1) := by decide +kernel
theorem d_O_thoseWithout_11 : decode cO_thoseWithout 11 = .ok (.iload_n 3, 1) := by decide +kernel
theorem d_O_thoseWithout_12 : decode cO_thoseWithout 12 = .ok (.aload_n 0, 1) := by decide +kernel
theorem d_O_thoseWithout_13 : decode cO_thoseWithout 13 = .ok (.getfield 15, 3) := by decide +kernel
theorem d_O_thoseWithout_16 : decode cO_thoseWithout 16 = .ok (.iload_n 3, 1) := by decide +kernel
theorem d_O_thoseWithout_17 : decode cO_thoseWithout 17 = .ok (.iaload, 1) := by decide +kernel
theorem d_O_thoseWithout_18 : decode cO_thoseWithout 18 = .ok (.iload_n 1, 1) := by decide +kernel
theorem d_O_thoseWithout_19 : decode cO_thoseWithout 19 = .ok (.iand, 1) := by decide +kernel
theorem d_O_thoseWithout_20 : decode cO_thoseWithout 20 = .ok (.ifCond .ne 7, 3) := by decide +kernel
theorem d_O_thoseWithout_23 : decode cO_thoseWithout 23 = .ok (.iconst 1, 1) := by decide +kernel
theorem d_O_thoseWithout_24 : decode cO_thoseWithout 24 = .ok (.goto 4, 3) := by decide +kernel
theorem d_O_thoseWithout_27 : decode cO_thoseWithout 27 = .ok (.iconst 0, 1) := by decide +kernel
theorem d_O_thoseWithout_28 : decode cO_thoseWithout 28 = .ok (.invokestatic 66, 3) := by decide +kernel
theorem d_O_thoseWithout_31 : decode cO_thoseWithout 31 = .ok (.istore_n 2, 1) := by decide +kernel
theorem d_O_thoseWithout_32 : decode cO_thoseWithout 32 = .ok (.iinc 3 1, 3) := by decide +kernel
theorem d_O_thoseWithout_35 : decode cO_thoseWithout 35 = .ok (.goto (-31), 3) := by decide +kernel
theorem d_O_thoseWithout_38 : decode cO_thoseWithout 38 = .ok (.iload_n 2, 1) := by decide +kernel
theorem d_O_thoseWithout_39 : decode cO_thoseWithout 39 = .ok (.ireturn, 1) := by decide +kernel
theorem d_O_areEnough_0 : decode cO_areEnough 0 = .ok (.iconst 1, 1) := by decide +kernel
theorem d_O_areEnough_1 : decode cO_areEnough 1 = .ok (.istore_n 2, 1) := by decide +kernel
theorem d_O_areEnough_2 : decode cO_areEnough 2 = .ok (.iload_n 2, 1) := by decide +kernel
theorem d_O_areEnough_3 : decode cO_areEnough 3 = .ok (.bipush 16, 2) := by decide +kernel
theorem d_O_areEnough_5 : decode cO_areEnough 5 = .ok (.if_icmp .ge 73, 3) := by decide +kernel
theorem d_O_areEnough_8 : decode cO_areEnough 8 = .ok (.iconst 0, 1) := by decide +kernel
theorem d_O_areEnough_9 : decode cO_areEnough 9 = .ok (.istore_n 3, 1) := by decide +kernel
theorem d_O_areEnough_10 : decode cO_areEnough 10 = .ok (.iconst 0, 1) := by decide +kernel
theorem d_O_areEnough_11 : decode cO_areEnough 11 = .ok (.istore 4, 2) := by decide +kernel
theorem d_O_areEnough_13 : decode cO_areEnough 13 = .ok (.iconst 0, 1) := by decide +kernel
theorem d_O_areEnough_14 : decode cO_areEnough 14 = .ok (.istore 5, 2) := by decide +kernel
theorem d_O_areEnough_16 : decode cO_areEnough 16 = .ok (.iload 5, 2) := by decide +kernel
theorem d_O_areEnough_18 : decode cO_areEnough 18 = .ok (.iconst 4, 1) := by decide +kernel
theorem d_O_areEnough_19 : decode cO_areEnough 19 = .ok (.if_icmp .ge 42, 3) := by decide +kernel
theorem d_O_areEnough_22 : decode cO_areEnough 22 = .ok (.iload_n 2, 1) := by decide +kernel
theorem d_O_areEnough_23 : decode cO_areEnough 23 = .ok (.iload 5, 2) := by decide +kernel
theorem d_O_areEnough_25 : decode cO_areEnough 25 = .ok (.invokestatic 70, 3) := by decide +kernel
theorem d_O_areEnough_28 : decode cO_areEnough 28 = .ok (.ifCond .eq 27, 3) := by decide +kernel
theorem d_O_areEnough_31 : decode cO_areEnough 31 = .ok (.iload_n 3, 1) := by decide +kernel
theorem d_O_areEnough_32 : decode cO_areEnough 32 = .ok (.aload_n 0, 1) := by decide +kernel
theorem d_O_areEnough_33 : decode cO_areEnough 33 = .ok (.getfield 26, 3) := by decide +kernel
theorem d_O_areEnough_36 : decode cO_areEnough 36 = .ok (.iload 5, 2) := by decide +kernel
theorem d_O_areEnough_38 : decode cO_areEnough 38 = .ok (.iaload, 1) := by decide +kernel
theorem d_O_areEnough_39 : decode cO_areEnough 39 = .ok (.iload_n 1, 1) := by decide +kernel
theorem d_O_areEnough_40 : decode cO_areEnough 40 = .ok (.iand, 1) := by decide +kernel
theorem d_O_areEnough_41 : decode cO_areEnough 41 = .ok (.ior, 1) := by decide +kernel
theorem d_O_areEnough_42 : decode cO_areEnough 42 = .ok (.istore_n 3, 1) := by decide +kernel
theorem d_O_areEnough_43 : decode cO_areEnough 43 = .ok (.iload 4, 2) := by decide +kernel
theorem d_O_areEnough_45 : decode cO_areEnough 45 = .ok (.aload_n 0, 1) := by decide +kernel
theorem d_O_areEnough_46 : decode cO_areEnough 46 = .ok (.getfield 23, 3) := by decide +kernel
theorem d_O_areEnough_49 : decode cO_areEnough 49 = .ok (.iload 5, 2) := by decide +kernel
theorem d_O_areEnough_51 : decode cO_areEnough 51 = .ok (.iaload, 1) := by decide +kernel
theorem d_O_areEnough_52 : decode cO_areEnough 52 = .ok (.iadd, 1) := by decide +kernel
theorem d_O_areEnough_53 : decode cO_areEnough 53 = .ok (.istore 4, 2) := by decide +kernel
theorem d_O_areEnough_55 : decode cO_areEnough 55 = .ok (.iinc 5 1, 3) := by decide +kernel
theorem d_O_areEnough_58 : decode cO_areEnough 58 = .ok (.goto (-42), 3) := by decide +kernel
theorem d_O_areEnough_61 : decode cO_areEnough 61 = .ok (.iload_n 3, 1) := by decide +kernel
theorem d_O_areEnough_62 : decode cO_areEnough 62 = .ok (.invokestatic 74, 3) := by decide +kernel
theorem d_O_areEnough_65 : decode cO_areEnough 65 = .ok (.iload 4, 2) := by decide +kernel
theorem d_O_areEnough_67 : decode cO_areEnough 67 = .ok (.if_icmp .ge 5, 3) := by decide +kernel
theorem d_O_areEnough_70 : decode cO_areEnough 70 = .ok (.iconst 0, 1) := by decide +kernel
theorem d_O_areEnough_71 : decode cO_areEnough 71 = .ok (.ireturn, 1) := by decide +kernel
theorem d_O_areEnough_72 : decode cO_areEnough 72 = .ok (.iinc 2 1, 3) := by decide +kernel
theorem d_O_areEnough_75 : decode cO_areEnough 75 = .ok (.goto (-73), 3) := by decide +kernel
theorem d_O_areEnough_78 : decode cO_areEnough 78 = .ok (.iconst 1, 1) := by decide +kernel
theorem d_O_areEnough_79 : decode cO_areEnough 79 = .ok (.ireturn, 1) := by decide +kernel
theorem d_O_staffRoom_0 : decode cO_staffRoom 0 = .ok (.iload_n 3, 1) := by decide +kernel
theorem d_O_staffRoom_1 : decode cO_staffRoom 1 = .ok (.istore 4, 2) := by decide +kernel
theorem d_O_staffRoom_3 : decode cO_staffRoom 3 = .ok (.iconst 0, 1) := by decide +kernel
theorem d_O_staffRoom_4 : decode cO_staffRoom 4 = .ok (.istore 5, 2) := by decide +kernel
theorem d_O_staffRoom_6 : decode cO_staffRoom 6 = .ok (.iload 5, 2) := by decide +kernel
theorem d_O_staffRoom_8 : decode cO_staffRoom 8 = .ok (.bipush 10, 2) := by decide +kernel
theorem d_O_staffRoom_10 : decode cO_staffRoom 10 = .ok (.if_icmp .ge 105, 3) := by decide +kernel
theorem d_O_staffRoom_13 : decode cO_staffRoom 13 = .ok (.aload_n 0, 1) := by decide +kernel
theorem d_O_staffRoom_14 : decode cO_staffRoom 14 = .ok (.getfield 23, 3) := by decide +kernel
theorem d_O_staffRoom_17 : decode cO_staffRoom 17 = .ok (.iload_n 2, 1) := by decide +kernel
theorem d_O_staffRoom_18 : decode cO_staffRoom 18 = .ok (.iaload, 1) := by decide +kernel
theorem d_O_staffRoom_19 : decode cO_staffRoom 19 = .ok (.ifCond .le 96, 3) := by decide +kernel
theorem d_O_staffRoom_22 : decode cO_staffRoom 22 = .ok (.iload 4, 2) := by decide +kernel
theorem d_O_staffRoom_24 : decode cO_staffRoom 24 = .ok (.aload_n 0, 1) := by decide +kernel
theorem d_O_staffRoom_25 : decode cO_staffRoom 25 = .ok (.getfield 26, 3) := by decide +kernel
theorem d_O_staffRoom_28 : decode cO_staffRoom 28 = .ok (.iload_n 2, 1) := by decide +kernel
theorem d_O_staffRoom_29 : decode cO_staffRoom 29 = .ok (.iaload, 1) := by decide +kernel
theorem d_O_staffRoom_30 : decode cO_staffRoom 30 = .ok (.iand, 1) := by decide +kernel
theorem d_O_staffRoom_31 : decode cO_staffRoom 31 = .ok (.iload 5, 2) := by decide +kernel
theorem d_O_staffRoom_33 : decode cO_staffRoom 33 = .ok (.invokestatic 70, 3) := by decide +kernel
theorem d_O_staffRoom_36 : decode cO_staffRoom 36 = .ok (.ifCond .eq 73, 3) := by decide +kernel
theorem d_O_staffRoom_39 : decode cO_staffRoom 39 = .ok (.aload_n 0, 1) := by decide +kernel
theorem d_O_staffRoom_40 : decode cO_staffRoom 40 = .ok (.getfield 23, 3) := by decide +kernel
theorem d_O_staffRoom_43 : decode cO_staffRoom 43 = .ok (.iload_n 2, 1) := by decide +kernel
theorem d_O_staffRoom_44 : decode cO_staffRoom 44 = .ok (.dup2, 1) := by decide +kernel
theorem d_O_staffRoom_45 : decode cO_staffRoom 45 = .ok (.iaload, 1) := by decide +kernel
theorem d_O_staffRoom_46 : decode cO_staffRoom 46 = .ok (.iconst 1, 1) := by decide +kernel
theorem d_O_staffRoom_47 : decode cO_staffRoom 47 = .ok (.isub, 1) := by decide +kernel
theorem d_O_staffRoom_48 : decode cO_staffRoom 48 = .ok (.iastore, 1) := by decide +kernel
theorem d_O_staffRoom_49 : decode cO_staffRoom 49 = .ok (.aload_n 0, 1) := by decide +kernel
theorem d_O_staffRoom_50 : decode cO_staffRoom 50 = .ok (.iload 4, 2) := by decide +kernel
theorem d_O_staffRoom_52 : decode cO_staffRoom 52 = .ok (.iload 5, 2) := by decide +kernel
theorem d_O_staffRoom_54 : decode cO_staffRoom 54 = .ok (.iconst 0, 1) := by decide +kernel
theorem d_O_staffRoom_55 : decode cO_staffRoom 55 = .ok (.invokestatic 66, 3) := by decide +kernel
theorem d_O_staffRoom_58 : decode cO_staffRoom 58 = .ok (.invokevirtual 55, 3) := by decide +kernel
theorem d_O_staffRoom_61 : decode cO_staffRoom 61 = .ok (.ifCond .eq 38, 3) := by decide +kernel
theorem d_O_staffRoom_64 : decode cO_staffRoom 64 = .ok (.iload 4, 2) := by decide +kernel
theorem d_O_staffRoom_66 : decode cO_staffRoom 66 = .ok (.iload 5, 2) := by decide +kernel
theorem d_O_staffRoom_68 : decode cO_staffRoom 68 = .ok (.iconst 0, 1) := by decide +kernel
theorem d_O_staffRoom_69 : decode cO_staffRoom 69 = .ok (.invokestatic 66, 3) := by decide +kernel
theorem d_O_staffRoom_72 : decode cO_staffRoom 72 = .ok (.istore 4, 2) := by decide +kernel
theorem d_O_staffRoom_74 : decode cO_staffRoom 74 = .ok (.aload_n 0, 1) := by decide +kernel
theorem d_O_staffRoom_75 : decode cO_staffRoom 75 = .ok (.getfield 20, 3) := by decide +kernel
theorem d_O_staffRoom_78 : decode cO_staffRoom 78 = .ok (.iload_n 1, 1) := by decide +kernel
theorem d_O_staffRoom_79 : decode cO_staffRoom 79 = .ok (.aaload, 1) := by decide +kernel
theorem d_O_staffRoom_80 : decode cO_staffRoom 80 = .ok (.iload_n 2, 1) := by decide +kernel
theorem d_O_staffRoom_81 : decode cO_staffRoom 81 = .ok (.aload_n 0, 1) := by decide +kernel
theorem d_O_staffRoom_82 : decode cO_staffRoom 82 = .ok (.getfield 20, 3) := by decide +kernel
theorem d_O_staffRoom_85 : decode cO_staffRoom 85 = .ok (.iload_n 1, 1) := by decide +kernel
theorem d_O_staffRoom_86 : decode cO_staffRoom 86 = .ok (.aaload, 1) := by decide +kernel
theorem d_O_staffRoom_87 : decode cO_staffRoom 87 = .ok (.iload_n 2, 1) := by decide +kernel
theorem d_O_staffRoom_88 : decode cO_staffRoom 88 = .ok (.iaload, 1) := by decide +kernel
theorem d_O_staffRoom_89 : decode cO_staffRoom 89 = .ok (.iload 5, 2) := by decide +kernel
theorem d_O_staffRoom_91 : decode cO_staffRoom 91 = .ok (.iconst 1, 1) := by decide +kernel
theorem d_O_staffRoom_92 : decode cO_staffRoom 92 = .ok (.invokestatic 66, 3) := by decide +kernel
theorem d_O_staffRoom_95 : decode cO_staffRoom 95 = .ok (.iastore, 1) := by decide +kernel
theorem d_O_staffRoom_96 : decode cO_staffRoom 96 = .ok (.goto 13, 3) := by decide +kernel
theorem d_O_staffRoom_99 : decode cO_staffRoom 99 = .ok (.aload_n 0, 1) := by decide +kernel
theorem d_O_staffRoom_100 : decode cO_staffRoom 100 = .ok (.getfield 23, 3) := by decide +kernel
theorem d_O_staffRoom_103 : decode cO_staffRoom 103 = .ok (.iload_n 2, 1) := by decide +kernel
theorem d_O_staffRoom_104 : decode cO_staffRoom 104 = .ok (.dup2, 1) := by decide +kernel
theorem d_O_staffRoom_105 : decode cO_staffRoom 105 = .ok (.iaload, 1) := by decide +kernel
theorem d_O_staffRoom_106 : decode cO_staffRoom 106 = .ok (.iconst 1, 1) := by decide +kernel
theorem d_O_staffRoom_107 : decode cO_staffRoom 107 = .ok (.iadd, 1) := by decide +kernel
theorem d_O_staffRoom_108 : decode cO_staffRoom 108 = .ok (.iastore, 1) := by decide +kernel
theorem d_O_staffRoom_109 : decode cO_staffRoom 109 = .ok (.iinc 5 1, 3) := by decide +kernel
theorem d_O_staffRoom_112 : decode cO_staffRoom 112 = .ok (.goto (-106), 3) := by decide +kernel
theorem d_O_staffRoom_115 : decode cO_staffRoom 115 = .ok (.iload 4, 2) := by decide +kernel
theorem d_O_staffRoom_117 : decode cO_staffRoom 117 = .ok (.ireturn, 1) := by decide +kernel
theorem d_E_watcher_0 : decode cE_watcher 0 = .ok (.iload_n 1, 1) := by decide +kernel
theorem d_E_watcher_1 : decode cE_watcher 1 = .ok (.invokestatic 52, 3) := by decide +kernel
theorem d_E_watcher_4 : decode cE_watcher 4 = .ok (.ifCond .eq 18, 3) := by decide +kernel
theorem d_E_watcher_7 : decode cE_watcher 7 = .ok (.iload_n 2, 1) := by decide +kernel
theorem d_E_watcher_8 : decode cE_watcher 8 = .ok (.invokestatic 103, 3) := by decide +kernel
theorem d_E_watcher_11 : decode cE_watcher 11 = .ok (.ifCond .eq 11, 3) := by decide +kernel
theorem d_E_watcher_14 : decode cE_watcher 14 = .ok (.iload_n 3, 1) := by decide +kernel
theorem d_E_watcher_15 : decode cE_watcher 15 = .ok (.ifCond .lt 7, 3) := by decide +kernel
theorem d_E_watcher_18 : decode cE_watcher 18 = .ok (.iconst 1, 1) := by decide +kernel
theorem d_E_watcher_19 : decode cE_watcher 19 = .ok (.goto 4, 3) := by decide +kernel
theorem d_E_watcher_22 : decode cE_watcher 22 = .ok (.iconst 0, 1) := by decide +kernel
theorem d_E_watcher_23 : decode cE_watcher 23 = .ok (.invokestatic 34, 3) := by decide +kernel
theorem d_E_watcher_26 : decode cE_watcher 26 = .ok (.aload_n 0, 1) := by decide +kernel
theorem d_E_watcher_27 : decode cE_watcher 27 = .ok (.getfield 26, 3) := by decide +kernel
theorem d_E_watcher_30 : decode cE_watcher 30 = .ok (.iload_n 1, 1) := by decide +kernel
theorem d_E_watcher_31 : decode cE_watcher 31 = .ok (.iload_n 2, 1) := by decide +kernel
theorem d_E_watcher_32 : decode cE_watcher 32 = .ok (.iload_n 3, 1) := by decide +kernel
theorem d_E_watcher_33 : decode cE_watcher 33 = .ok (.invokevirtual 173, 3) := by decide +kernel
theorem d_E_watcher_36 : decode cE_watcher 36 = .ok (.ireturn, 1) := by decide +kernel
theorem d_O_watcherAt_0 : decode cO_watcherAt 0 = .ok (.iconst 0, 1) := by decide +kernel
theorem d_O_watcherAt_1 : decode cO_watcherAt 1 = .ok (.istore 4, 2) := by decide +kernel
theorem d_O_watcherAt_3 : decode cO_watcherAt 3 = .ok (.iconst 0, 1) := by decide +kernel
theorem d_O_watcherAt_4 : decode cO_watcherAt 4 = .ok (.istore 5, 2) := by decide +kernel
theorem d_O_watcherAt_6 : decode cO_watcherAt 6 = .ok (.iload 5, 2) := by decide +kernel
theorem d_O_watcherAt_8 : decode cO_watcherAt 8 = .ok (.bipush 10, 2) := by decide +kernel
theorem d_O_watcherAt_10 : decode cO_watcherAt 10 = .ok (.if_icmp .ge 37, 3) := by decide +kernel
theorem d_O_watcherAt_13 : decode cO_watcherAt 13 = .ok (.aload_n 0, 1) := by decide +kernel
theorem d_O_watcherAt_14 : decode cO_watcherAt 14 = .ok (.getfield 20, 3) := by decide +kernel
theorem d_O_watcherAt_17 : decode cO_watcherAt 17 = .ok (.iload_n 1, 1) := by decide +kernel
theorem d_O_watcherAt_18 : decode cO_watcherAt 18 = .ok (.aaload, 1) := by decide +kernel
theorem d_O_watcherAt_19 : decode cO_watcherAt 19 = .ok (.iload_n 2, 1) := by decide +kernel
theorem d_O_watcherAt_20 : decode cO_watcherAt 20 = .ok (.iaload, 1) := by decide +kernel
theorem d_O_watcherAt_21 : decode cO_watcherAt 21 = .ok (.iload 5, 2) := by decide +kernel
theorem d_O_watcherAt_23 : decode cO_watcherAt 23 = .ok (.invokestatic 70, 3) := by decide +kernel
theorem d_O_watcherAt_26 : decode cO_watcherAt 26 = .ok (.ifCond .eq 15, 3) := by decide +kernel
theorem d_O_watcherAt_29 : decode cO_watcherAt 29 = .ok (.iload 4, 2) := by decide +kernel
theorem d_O_watcherAt_31 : decode cO_watcherAt 31 = .ok (.iload_n 3, 1) := by decide +kernel
theorem d_O_watcherAt_32 : decode cO_watcherAt 32 = .ok (.if_icmp .ne 6, 3) := by decide +kernel
theorem d_O_watcherAt_35 : decode cO_watcherAt 35 = .ok (.iload 5, 2) := by decide +kernel
theorem d_O_watcherAt_37 : decode cO_watcherAt 37 = .ok (.ireturn, 1) := by decide +kernel
theorem d_O_watcherAt_38 : decode cO_watcherAt 38 = .ok (.iinc 4 1, 3) := by decide +kernel
theorem d_O_watcherAt_41 : decode cO_watcherAt 41 = .ok (.iinc 5 1, 3) := by decide +kernel
theorem d_O_watcherAt_44 : decode cO_watcherAt 44 = .ok (.goto (-38), 3) := by decide +kernel
theorem d_O_watcherAt_47 : decode cO_watcherAt 47 = .ok (.iconst (-1), 1) := by decide +kernel
theorem d_O_watcherAt_48 : decode cO_watcherAt 48 = .ok (.ireturn, 1) := by decide +kernel
theorem d_E_count_0 : decode cE_count 0 = .ok (.iload_n 1, 1) := by decide +kernel
theorem d_E_count_1 : decode cE_count 1 = .ok (.tableswitch 78 0 4 #[35, 46, 54, 62, 70], 35) := by decide +kernel
theorem d_E_count_36 : decode cE_count 36 = .ok (.aload_n 0, 1) := by decide +kernel
theorem d_E_count_37 : decode cE_count 37 = .ok (.getfield 12, 3) := by decide +kernel
theorem d_E_count_40 : decode cE_count 40 = .ok (.invokevirtual 176, 3) := by decide +kernel
theorem d_E_count_43 : decode cE_count 43 = .ok (.invokestatic 179, 3) := by decide +kernel
theorem d_E_count_46 : decode cE_count 46 = .ok (.ireturn, 1) := by decide +kernel
theorem d_E_count_47 : decode cE_count 47 = .ok (.aload_n 0, 1) := by decide +kernel
theorem d_E_count_48 : decode cE_count 48 = .ok (.getfield 12, 3) := by decide +kernel
theorem d_E_count_51 : decode cE_count 51 = .ok (.invokevirtual 184, 3) := by decide +kernel
theorem d_E_count_54 : decode cE_count 54 = .ok (.ireturn, 1) := by decide +kernel
theorem d_E_count_55 : decode cE_count 55 = .ok (.aload_n 0, 1) := by decide +kernel
theorem d_E_count_56 : decode cE_count 56 = .ok (.getfield 12, 3) := by decide +kernel
theorem d_E_count_59 : decode cE_count 59 = .ok (.getfield 187, 3) := by decide +kernel
theorem d_E_count_62 : decode cE_count 62 = .ok (.ireturn, 1) := by decide +kernel
theorem d_E_count_63 : decode cE_count 63 = .ok (.aload_n 0, 1) := by decide +kernel
theorem d_E_count_64 : decode cE_count 64 = .ok (.getfield 19, 3) := by decide +kernel
theorem d_E_count_67 : decode cE_count 67 = .ok (.invokevirtual 191, 3) := by decide +kernel
theorem d_E_count_70 : decode cE_count 70 = .ok (.ireturn, 1) := by decide +kernel
theorem d_E_count_71 : decode cE_count 71 = .ok (.aload_n 0, 1) := by decide +kernel
theorem d_E_count_72 : decode cE_count 72 = .ok (.getfield 26, 3) := by decide +kernel
theorem d_E_count_75 : decode cE_count 75 = .ok (.invokevirtual 194, 3) := by decide +kernel
theorem d_E_count_78 : decode cE_count 78 = .ok (.ireturn, 1) := by decide +kernel
theorem d_E_count_79 : decode cE_count 79 = .ok (.new 197, 3) := by decide +kernel
theorem d_E_count_82 : decode cE_count 82 = .ok (.dup, 1) := by decide +kernel
theorem d_E_count_83 : decode cE_count 83 = .ok (.ldc 199, 2) := by decide +kernel
theorem d_E_count_85 : decode cE_count 85 = .ok (.invokespecial 201, 3) := by decide +kernel
theorem d_E_count_88 : decode cE_count 88 = .ok (.athrow, 1) := by decide +kernel
theorem d_T_enrolments_0 : decode cT_enrolments 0 = .ok (.iconst 0, 1) := by decide +kernel
theorem d_T_enrolments_1 : decode cT_enrolments 1 = .ok (.istore_n 1, 1) := by decide +kernel
theorem d_T_enrolments_2 : decode cT_enrolments 2 = .ok (.iconst 0, 1) := by decide +kernel
theorem d_T_enrolments_3 : decode cT_enrolments 3 = .ok (.istore_n 2, 1) := by decide +kernel
theorem d_T_enrolments_4 : decode cT_enrolments 4 = .ok (.iload_n 2, 1) := by decide +kernel
theorem d_T_enrolments_5 : decode cT_enrolments 5 = .ok (.bipush 40, 2) := by decide +kernel
theorem d_T_enrolments_7 : decode cT_enrolments 7 = .ok (.if_icmp .ge 21, 3) := by decide +kernel
theorem d_T_enrolments_10 : decode cT_enrolments 10 = .ok (.iload_n 1, 1) := by decide +kernel
theorem d_T_enrolments_11 : decode cT_enrolments 11 = .ok (.aload_n 0, 1) := by decide +kernel
theorem d_T_enrolments_12 : decode cT_enrolments 12 = .ok (.getfield 18, 3) := by decide +kernel
theorem d_T_enrolments_15 : decode cT_enrolments 15 = .ok (.iload_n 2, 1) := by decide +kernel
theorem d_T_enrolments_16 : decode cT_enrolments 16 = .ok (.iaload, 1) := by decide +kernel
theorem d_T_enrolments_17 : decode cT_enrolments 17 = .ok (.invokestatic 65, 3) := by decide +kernel
theorem d_T_enrolments_20 : decode cT_enrolments 20 = .ok (.iadd, 1) := by decide +kernel
theorem d_T_enrolments_21 : decode cT_enrolments 21 = .ok (.istore_n 1, 1) := by decide +kernel
theorem d_T_enrolments_22 : decode cT_enrolments 22 = .ok (.iinc 2 1, 3) := by decide +kernel
theorem d_T_enrolments_25 : decode cT_enrolments 25 = .ok (.goto (-21), 3) := by decide +kernel
theorem d_T_enrolments_28 : decode cT_enrolments 28 = .ok (.iload_n 1, 1) := by decide +kernel
theorem d_T_enrolments_29 : decode cT_enrolments 29 = .ok (.ireturn, 1) := by decide +kernel
theorem d_R_seatsTaken_0 : decode cR_seatsTaken 0 = .ok (.iconst 0, 1) := by decide +kernel
theorem d_R_seatsTaken_1 : decode cR_seatsTaken 1 = .ok (.istore_n 1, 1) := by decide +kernel
theorem d_R_seatsTaken_2 : decode cR_seatsTaken 2 = .ok (.iconst 0, 1) := by decide +kernel
theorem d_R_seatsTaken_3 : decode cR_seatsTaken 3 = .ok (.istore_n 2, 1) := by decide +kernel
theorem d_R_seatsTaken_4 : decode cR_seatsTaken 4 = .ok (.iload_n 2, 1) := by decide +kernel
theorem d_R_seatsTaken_5 : decode cR_seatsTaken 5 = .ok (.bipush 6, 2) := by decide +kernel
theorem d_R_seatsTaken_7 : decode cR_seatsTaken 7 = .ok (.if_icmp .ge 31, 3) := by decide +kernel
theorem d_R_seatsTaken_10 : decode cR_seatsTaken 10 = .ok (.iconst 0, 1) := by decide +kernel
theorem d_R_seatsTaken_11 : decode cR_seatsTaken 11 = .ok (.istore_n 3, 1) := by decide +kernel
theorem d_R_seatsTaken_12 : decode cR_seatsTaken 12 = .ok (.iload_n 3, 1) := by decide +kernel
theorem d_R_seatsTaken_13 : decode cR_seatsTaken 13 = .ok (.iconst 4, 1) := by decide +kernel
theorem d_R_seatsTaken_14 : decode cR_seatsTaken 14 = .ok (.if_icmp .ge 18, 3) := by decide +kernel
theorem d_R_seatsTaken_17 : decode cR_seatsTaken 17 = .ok (.iload_n 1, 1) := by decide +kernel
theorem d_R_seatsTaken_18 : decode cR_seatsTaken 18 = .ok (.aload_n 0, 1) := by decide +kernel
theorem d_R_seatsTaken_19 : decode cR_seatsTaken 19 = .ok (.iload_n 2, 1) := by decide +kernel
theorem d_R_seatsTaken_20 : decode cR_seatsTaken 20 = .ok (.iload_n 3, 1) := by decide +kernel
theorem d_R_seatsTaken_21 : decode cR_seatsTaken 21 = .ok (.invokevirtual 68, 3) := by decide +kernel
theorem d_R_seatsTaken_24 : decode cR_seatsTaken 24 = .ok (.iadd, 1) := by decide +kernel
theorem d_R_seatsTaken_25 : decode cR_seatsTaken 25 = .ok (.istore_n 1, 1) := by decide +kernel
theorem d_R_seatsTaken_26 : decode cR_seatsTaken 26 = .ok (.iinc 3 1, 3) := by decide +kernel
theorem d_R_seatsTaken_29 : decode cR_seatsTaken 29 = .ok (.goto (-17), 3) := by decide +kernel
theorem d_R_seatsTaken_32 : decode cR_seatsTaken 32 = .ok (.iinc 2 1, 3) := by decide +kernel
theorem d_R_seatsTaken_35 : decode cR_seatsTaken 35 = .ok (.goto (-31), 3) := by decide +kernel
theorem d_R_seatsTaken_38 : decode cR_seatsTaken 38 = .ok (.iload_n 1, 1) := by decide +kernel
theorem d_R_seatsTaken_39 : decode cR_seatsTaken 39 = .ok (.ireturn, 1) := by decide +kernel
theorem d_O_watches_0 : decode cO_watches 0 = .ok (.iconst 0, 1) := by decide +kernel
theorem d_O_watches_1 : decode cO_watches 1 = .ok (.istore_n 1, 1) := by decide +kernel
theorem d_O_watches_2 : decode cO_watches 2 = .ok (.iconst 0, 1) := by decide +kernel
theorem d_O_watches_3 : decode cO_watches 3 = .ok (.istore_n 2, 1) := by decide +kernel
theorem d_O_watches_4 : decode cO_watches 4 = .ok (.iload_n 2, 1) := by decide +kernel
theorem d_O_watches_5 : decode cO_watches 5 = .ok (.bipush 6, 2) := by decide +kernel
theorem d_O_watches_7 : decode cO_watches 7 = .ok (.if_icmp .ge 36, 3) := by decide +kernel
theorem d_O_watches_10 : decode cO_watches 10 = .ok (.iconst 0, 1) := by decide +kernel
theorem d_O_watches_11 : decode cO_watches 11 = .ok (.istore_n 3, 1) := by decide +kernel
theorem d_O_watches_12 : decode cO_watches 12 = .ok (.iload_n 3, 1) := by decide +kernel
theorem d_O_watches_13 : decode cO_watches 13 = .ok (.iconst 4, 1) := by decide +kernel
theorem d_O_watches_14 : decode cO_watches 14 = .ok (.if_icmp .ge 23, 3) := by decide +kernel
theorem d_O_watches_17 : decode cO_watches 17 = .ok (.iload_n 1, 1) := by decide +kernel
theorem d_O_watches_18 : decode cO_watches 18 = .ok (.aload_n 0, 1) := by decide +kernel
theorem d_O_watches_19 : decode cO_watches 19 = .ok (.getfield 20, 3) := by decide +kernel
theorem d_O_watches_22 : decode cO_watches 22 = .ok (.iload_n 2, 1) := by decide +kernel
theorem d_O_watches_23 : decode cO_watches 23 = .ok (.aaload, 1) := by decide +kernel
theorem d_O_watches_24 : decode cO_watches 24 = .ok (.iload_n 3, 1) := by decide +kernel
theorem d_O_watches_25 : decode cO_watches 25 = .ok (.iaload, 1) := by decide +kernel
theorem d_O_watches_26 : decode cO_watches 26 = .ok (.invokestatic 74, 3) := by decide +kernel
theorem d_O_watches_29 : decode cO_watches 29 = .ok (.iadd, 1) := by decide +kernel
theorem d_O_watches_30 : decode cO_watches 30 = .ok (.istore_n 1, 1) := by decide +kernel
theorem d_O_watches_31 : decode cO_watches 31 = .ok (.iinc 3 1, 3) := by decide +kernel
theorem d_O_watches_34 : decode cO_watches 34 = .ok (.goto (-22), 3) := by decide +kernel
theorem d_O_watches_37 : decode cO_watches 37 = .ok (.iinc 2 1, 3) := by decide +kernel
theorem d_O_watches_40 : decode cO_watches 40 = .ok (.goto (-36), 3) := by decide +kernel
theorem d_O_watches_43 : decode cO_watches 43 = .ok (.iload_n 1, 1) := by decide +kernel
theorem d_O_watches_44 : decode cO_watches 44 = .ok (.ireturn, 1) := by decide +kernel
theorem d_JA_fill_0 : decode cJA_fill 0 = .ok (.iconst 0, 1) := by decide +kernel
theorem d_JA_fill_1 : decode cJA_fill 1 = .ok (.istore_n 2, 1) := by decide +kernel
theorem d_JA_fill_2 : decode cJA_fill 2 = .ok (.aload_n 0, 1) := by decide +kernel
theorem d_JA_fill_3 : decode cJA_fill 3 = .ok (.arraylength, 1) := by decide +kernel
theorem d_JA_fill_4 : decode cJA_fill 4 = .ok (.istore_n 3, 1) := by decide +kernel
theorem d_JA_fill_5 : decode cJA_fill 5 = .ok (.iload_n 2, 1) := by decide +kernel
theorem d_JA_fill_6 : decode cJA_fill 6 = .ok (.iload_n 3, 1) := by decide +kernel
theorem d_JA_fill_7 : decode cJA_fill 7 = .ok (.if_icmp .ge 13, 3) := by decide +kernel
theorem d_JA_fill_10 : decode cJA_fill 10 = .ok (.aload_n 0, 1) := by decide +kernel
theorem d_JA_fill_11 : decode cJA_fill 11 = .ok (.iload_n 2, 1) := by decide +kernel
theorem d_JA_fill_12 : decode cJA_fill 12 = .ok (.iload_n 1, 1) := by decide +kernel
theorem d_JA_fill_13 : decode cJA_fill 13 = .ok (.iastore, 1) := by decide +kernel
theorem d_JA_fill_14 : decode cJA_fill 14 = .ok (.iinc 2 1, 3) := by decide +kernel
theorem d_JA_fill_17 : decode cJA_fill 17 = .ok (.goto (-12), 3) := by decide +kernel
theorem d_JA_fill_20 : decode cJA_fill 20 = .ok (.return_, 1) := by decide +kernel
theorem d_JI_bitCount_0 : decode cJI_bitCount 0 = .ok (.iload_n 0, 1) := by decide +kernel
theorem d_JI_bitCount_1 : decode cJI_bitCount 1 = .ok (.iload_n 0, 1) := by decide +kernel
theorem d_JI_bitCount_2 : decode cJI_bitCount 2 = .ok (.iconst 1, 1) := by decide +kernel
theorem d_JI_bitCount_3 : decode cJI_bitCount 3 = .ok (.iushr, 1) := by decide +kernel
theorem d_JI_bitCount_4 : decode cJI_bitCount 4 = .ok (.ldc_w 265, 3) := by decide +kernel
theorem d_JI_bitCount_7 : decode cJI_bitCount 7 = .ok (.iand, 1) := by decide +kernel
theorem d_JI_bitCount_8 : decode cJI_bitCount 8 = .ok (.isub, 1) := by decide +kernel
theorem d_JI_bitCount_9 : decode cJI_bitCount 9 = .ok (.istore_n 0, 1) := by decide +kernel
theorem d_JI_bitCount_10 : decode cJI_bitCount 10 = .ok (.iload_n 0, 1) := by decide +kernel
theorem d_JI_bitCount_11 : decode cJI_bitCount 11 = .ok (.ldc_w 266, 3) := by decide +kernel
theorem d_JI_bitCount_14 : decode cJI_bitCount 14 = .ok (.iand, 1) := by decide +kernel
theorem d_JI_bitCount_15 : decode cJI_bitCount 15 = .ok (.iload_n 0, 1) := by decide +kernel
theorem d_JI_bitCount_16 : decode cJI_bitCount 16 = .ok (.iconst 2, 1) := by decide +kernel
theorem d_JI_bitCount_17 : decode cJI_bitCount 17 = .ok (.iushr, 1) := by decide +kernel
theorem d_JI_bitCount_18 : decode cJI_bitCount 18 = .ok (.ldc_w 266, 3) := by decide +kernel
theorem d_JI_bitCount_21 : decode cJI_bitCount 21 = .ok (.iand, 1) := by decide +kernel
theorem d_JI_bitCount_22 : decode cJI_bitCount 22 = .ok (.iadd, 1) := by decide +kernel
theorem d_JI_bitCount_23 : decode cJI_bitCount 23 = .ok (.istore_n 0, 1) := by decide +kernel
theorem d_JI_bitCount_24 : decode cJI_bitCount 24 = .ok (.iload_n 0, 1) := by decide +kernel
theorem d_JI_bitCount_25 : decode cJI_bitCount 25 = .ok (.iload_n 0, 1) := by decide +kernel
theorem d_JI_bitCount_26 : decode cJI_bitCount 26 = .ok (.iconst 4, 1) := by decide +kernel
theorem d_JI_bitCount_27 : decode cJI_bitCount 27 = .ok (.iushr, 1) := by decide +kernel
theorem d_JI_bitCount_28 : decode cJI_bitCount 28 = .ok (.iadd, 1) := by decide +kernel
theorem d_JI_bitCount_29 : decode cJI_bitCount 29 = .ok (.ldc_w 267, 3) := by decide +kernel
theorem d_JI_bitCount_32 : decode cJI_bitCount 32 = .ok (.iand, 1) := by decide +kernel
theorem d_JI_bitCount_33 : decode cJI_bitCount 33 = .ok (.istore_n 0, 1) := by decide +kernel
theorem d_JI_bitCount_34 : decode cJI_bitCount 34 = .ok (.iload_n 0, 1) := by decide +kernel
theorem d_JI_bitCount_35 : decode cJI_bitCount 35 = .ok (.iload_n 0, 1) := by decide +kernel
theorem d_JI_bitCount_36 : decode cJI_bitCount 36 = .ok (.bipush 8, 2) := by decide +kernel
theorem d_JI_bitCount_38 : decode cJI_bitCount 38 = .ok (.iushr, 1) := by decide +kernel
theorem d_JI_bitCount_39 : decode cJI_bitCount 39 = .ok (.iadd, 1) := by decide +kernel
theorem d_JI_bitCount_40 : decode cJI_bitCount 40 = .ok (.istore_n 0, 1) := by decide +kernel
theorem d_JI_bitCount_41 : decode cJI_bitCount 41 = .ok (.iload_n 0, 1) := by decide +kernel
theorem d_JI_bitCount_42 : decode cJI_bitCount 42 = .ok (.iload_n 0, 1) := by decide +kernel
theorem d_JI_bitCount_43 : decode cJI_bitCount 43 = .ok (.bipush 16, 2) := by decide +kernel
theorem d_JI_bitCount_45 : decode cJI_bitCount 45 = .ok (.iushr, 1) := by decide +kernel
theorem d_JI_bitCount_46 : decode cJI_bitCount 46 = .ok (.iadd, 1) := by decide +kernel
theorem d_JI_bitCount_47 : decode cJI_bitCount 47 = .ok (.istore_n 0, 1) := by decide +kernel
theorem d_JI_bitCount_48 : decode cJI_bitCount 48 = .ok (.iload_n 0, 1) := by decide +kernel
theorem d_JI_bitCount_49 : decode cJI_bitCount 49 = .ok (.bipush 63, 2) := by decide +kernel
theorem d_JI_bitCount_51 : decode cJI_bitCount 51 = .ok (.iand, 1) := by decide +kernel
theorem d_JI_bitCount_52 : decode cJI_bitCount 52 = .ok (.ireturn, 1) := by decide +kernel
