theorem dX2_init_0 : decode cX2_init 0 = .ok (.aload_n 0, 1) := by decide +kernel
theorem dX2_init_1 : decode cX2_init 1 = .ok (.invokespecial 3, 3) := by decide +kernel
theorem dX2_init_4 : decode cX2_init 4 = .ok (.aload_n 0, 1) := by decide +kernel
theorem dX2_init_5 : decode cX2_init 5 = .ok (.bipush 12, 2) := by decide +kernel
theorem dX2_init_7 : decode cX2_init 7 = .ok (.newarray .int, 2) := by decide +kernel
theorem dX2_init_9 : decode cX2_init 9 = .ok (.putfield 9, 3) := by decide +kernel
theorem dX2_init_12 : decode cX2_init 12 = .ok (.aload_n 0, 1) := by decide +kernel
theorem dX2_init_13 : decode cX2_init 13 = .ok (.bipush 12, 2) := by decide +kernel
theorem dX2_init_15 : decode cX2_init 15 = .ok (.newarray .int, 2) := by decide +kernel
theorem dX2_init_17 : decode cX2_init 17 = .ok (.putfield 15, 3) := by decide +kernel
theorem dX2_init_20 : decode cX2_init 20 = .ok (.aload_n 0, 1) := by decide +kernel
theorem dX2_init_21 : decode cX2_init 21 = .ok (.bipush 12, 2) := by decide +kernel
theorem dX2_init_23 : decode cX2_init 23 = .ok (.newarray .int, 2) := by decide +kernel
theorem dX2_init_25 : decode cX2_init 25 = .ok (.putfield 18, 3) := by decide +kernel
theorem dX2_init_28 : decode cX2_init 28 = .ok (.aload_n 0, 1) := by decide +kernel
theorem dX2_init_29 : decode cX2_init 29 = .ok (.bipush 12, 2) := by decide +kernel
theorem dX2_init_31 : decode cX2_init 31 = .ok (.newarray .int, 2) := by decide +kernel
theorem dX2_init_33 : decode cX2_init 33 = .ok (.putfield 21, 3) := by decide +kernel
theorem dX2_init_36 : decode cX2_init 36 = .ok (.aload_n 0, 1) := by decide +kernel
theorem dX2_init_37 : decode cX2_init 37 = .ok (.bipush 6, 2) := by decide +kernel
theorem dX2_init_39 : decode cX2_init 39 = .ok (.newarray .int, 2) := by decide +kernel
theorem dX2_init_41 : decode cX2_init 41 = .ok (.putfield 24, 3) := by decide +kernel
theorem dX2_init_44 : decode cX2_init 44 = .ok (.aload_n 0, 1) := by decide +kernel
theorem dX2_init_45 : decode cX2_init 45 = .ok (.bipush 6, 2) := by decide +kernel
theorem dX2_init_47 : decode cX2_init 47 = .ok (.anewarray 27, 3) := by decide +kernel
theorem dX2_init_50 : decode cX2_init 50 = .ok (.putfield 29, 3) := by decide +kernel
theorem dX2_init_53 : decode cX2_init 53 = .ok (.iconst 0, 1) := by decide +kernel
theorem dX2_init_54 : decode cX2_init 54 = .ok (.istore_n 1, 1) := by decide +kernel
theorem dX2_init_55 : decode cX2_init 55 = .ok (.iload_n 1, 1) := by decide +kernel
theorem dX2_init_56 : decode cX2_init 56 = .ok (.bipush 6, 2) := by decide +kernel
theorem dX2_init_58 : decode cX2_init 58 = .ok (.if_icmp .ge 22, 3) := by decide +kernel
theorem dX2_init_61 : decode cX2_init 61 = .ok (.aload_n 0, 1) := by decide +kernel
theorem dX2_init_62 : decode cX2_init 62 = .ok (.getfield 29, 3) := by decide +kernel
theorem dX2_init_65 : decode cX2_init 65 = .ok (.iload_n 1, 1) := by decide +kernel
theorem dX2_init_66 : decode cX2_init 66 = .ok (.new 27, 3) := by decide +kernel
theorem dX2_init_69 : decode cX2_init 69 = .ok (.dup, 1) := by decide +kernel
theorem dX2_init_70 : decode cX2_init 70 = .ok (.invokespecial 33, 3) := by decide +kernel
theorem dX2_init_73 : decode cX2_init 73 = .ok (.aastore, 1) := by decide +kernel
theorem dX2_init_74 : decode cX2_init 74 = .ok (.iinc 1 1, 3) := by decide +kernel
theorem dX2_init_77 : decode cX2_init 77 = .ok (.goto (-22), 3) := by decide +kernel
theorem dX2_init_80 : decode cX2_init 80 = .ok (.return_, 1) := by decide +kernel
theorem dX2_copyFrom_0 : decode cX2_copyFrom 0 = .ok (.aload_n 0, 1) := by decide +kernel
theorem dX2_copyFrom_1 : decode cX2_copyFrom 1 = .ok (.aload_n 1, 1) := by decide +kernel
theorem dX2_copyFrom_2 : decode cX2_copyFrom 2 = .ok (.getfield 34, 3) := by decide +kernel
theorem dX2_copyFrom_5 : decode cX2_copyFrom 5 = .ok (.putfield 34, 3) := by decide +kernel
theorem dX2_copyFrom_8 : decode cX2_copyFrom 8 = .ok (.aload_n 1, 1) := by decide +kernel
theorem dX2_copyFrom_9 : decode cX2_copyFrom 9 = .ok (.getfield 9, 3) := by decide +kernel
theorem dX2_copyFrom_12 : decode cX2_copyFrom 12 = .ok (.iconst 0, 1) := by decide +kernel
theorem dX2_copyFrom_13 : decode cX2_copyFrom 13 = .ok (.aload_n 0, 1) := by decide +kernel
theorem dX2_copyFrom_14 : decode cX2_copyFrom 14 = .ok (.getfield 9, 3) := by decide +kernel
theorem dX2_copyFrom_17 : decode cX2_copyFrom 17 = .ok (.iconst 0, 1) := by decide +kernel
theorem dX2_copyFrom_18 : decode cX2_copyFrom 18 = .ok (.bipush 12, 2) := by decide +kernel
theorem dX2_copyFrom_20 : decode cX2_copyFrom 20 = .ok (.invokestatic 38, 3) := by decide +kernel
theorem dX2_copyFrom_23 : decode cX2_copyFrom 23 = .ok (.aload_n 1, 1) := by decide +kernel
theorem dX2_copyFrom_24 : decode cX2_copyFrom 24 = .ok (.getfield 15, 3) := by decide +kernel
theorem dX2_copyFrom_27 : decode cX2_copyFrom 27 = .ok (.iconst 0, 1) := by decide +kernel
theorem dX2_copyFrom_28 : decode cX2_copyFrom 28 = .ok (.aload_n 0, 1) := by decide +kernel
theorem dX2_copyFrom_29 : decode cX2_copyFrom 29 = .ok (.getfield 15, 3) := by decide +kernel
theorem dX2_copyFrom_32 : decode cX2_copyFrom 32 = .ok (.iconst 0, 1) := by decide +kernel
theorem dX2_copyFrom_33 : decode cX2_copyFrom 33 = .ok (.bipush 12, 2) := by decide +kernel
theorem dX2_copyFrom_35 : decode cX2_copyFrom 35 = .ok (.invokestatic 38, 3) := by decide +kernel
theorem dX2_copyFrom_38 : decode cX2_copyFrom 38 = .ok (.aload_n 1, 1) := by decide +kernel
theorem dX2_copyFrom_39 : decode cX2_copyFrom 39 = .ok (.getfield 18, 3) := by decide +kernel
theorem dX2_copyFrom_42 : decode cX2_copyFrom 42 = .ok (.iconst 0, 1) := by decide +kernel
theorem dX2_copyFrom_43 : decode cX2_copyFrom 43 = .ok (.aload_n 0, 1) := by decide +kernel
theorem dX2_copyFrom_44 : decode cX2_copyFrom 44 = .ok (.getfield 18, 3) := by decide +kernel
theorem dX2_copyFrom_47 : decode cX2_copyFrom 47 = .ok (.iconst 0, 1) := by decide +kernel
theorem dX2_copyFrom_48 : decode cX2_copyFrom 48 = .ok (.bipush 12, 2) := by decide +kernel
theorem dX2_copyFrom_50 : decode cX2_copyFrom 50 = .ok (.invokestatic 38, 3) := by decide +kernel
theorem dX2_copyFrom_53 : decode cX2_copyFrom 53 = .ok (.aload_n 1, 1) := by decide +kernel
theorem dX2_copyFrom_54 : decode cX2_copyFrom 54 = .ok (.getfield 21, 3) := by decide +kernel
theorem dX2_copyFrom_57 : decode cX2_copyFrom 57 = .ok (.iconst 0, 1) := by decide +kernel
theorem dX2_copyFrom_58 : decode cX2_copyFrom 58 = .ok (.aload_n 0, 1) := by decide +kernel
theorem dX2_copyFrom_59 : decode cX2_copyFrom 59 = .ok (.getfield 21, 3) := by decide +kernel
theorem dX2_copyFrom_62 : decode cX2_copyFrom 62 = .ok (.iconst 0, 1) := by decide +kernel
theorem dX2_copyFrom_63 : decode cX2_copyFrom 63 = .ok (.bipush 12, 2) := by decide +kernel
theorem dX2_copyFrom_65 : decode cX2_copyFrom 65 = .ok (.invokestatic 38, 3) := by decide +kernel
theorem dX2_copyFrom_68 : decode cX2_copyFrom 68 = .ok (.aload_n 0, 1) := by decide +kernel
theorem dX2_copyFrom_69 : decode cX2_copyFrom 69 = .ok (.aload_n 1, 1) := by decide +kernel
theorem dX2_copyFrom_70 : decode cX2_copyFrom 70 = .ok (.getfield 44, 3) := by decide +kernel
theorem dX2_copyFrom_73 : decode cX2_copyFrom 73 = .ok (.putfield 44, 3) := by decide +kernel
theorem dX2_copyFrom_76 : decode cX2_copyFrom 76 = .ok (.aload_n 0, 1) := by decide +kernel
theorem dX2_copyFrom_77 : decode cX2_copyFrom 77 = .ok (.aload_n 1, 1) := by decide +kernel
theorem dX2_copyFrom_78 : decode cX2_copyFrom 78 = .ok (.getfield 47, 3) := by decide +kernel
theorem dX2_copyFrom_81 : decode cX2_copyFrom 81 = .ok (.putfield 47, 3) := by decide +kernel
theorem dX2_copyFrom_84 : decode cX2_copyFrom 84 = .ok (.aload_n 1, 1) := by decide +kernel
theorem dX2_copyFrom_85 : decode cX2_copyFrom 85 = .ok (.getfield 24, 3) := by decide +kernel
theorem dX2_copyFrom_88 : decode cX2_copyFrom 88 = .ok (.iconst 0, 1) := by decide +kernel
theorem dX2_copyFrom_89 : decode cX2_copyFrom 89 = .ok (.aload_n 0, 1) := by decide +kernel
theorem dX2_copyFrom_90 : decode cX2_copyFrom 90 = .ok (.getfield 24, 3) := by decide +kernel
theorem dX2_copyFrom_93 : decode cX2_copyFrom 93 = .ok (.iconst 0, 1) := by decide +kernel
theorem dX2_copyFrom_94 : decode cX2_copyFrom 94 = .ok (.bipush 6, 2) := by decide +kernel
theorem dX2_copyFrom_96 : decode cX2_copyFrom 96 = .ok (.invokestatic 38, 3) := by decide +kernel
theorem dX2_copyFrom_99 : decode cX2_copyFrom 99 = .ok (.aload_n 0, 1) := by decide +kernel
theorem dX2_copyFrom_100 : decode cX2_copyFrom 100 = .ok (.aload_n 1, 1) := by decide +kernel
theorem dX2_copyFrom_101 : decode cX2_copyFrom 101 = .ok (.getfield 50, 3) := by decide +kernel
theorem dX2_copyFrom_104 : decode cX2_copyFrom 104 = .ok (.putfield 50, 3) := by decide +kernel
theorem dX2_copyFrom_107 : decode cX2_copyFrom 107 = .ok (.iconst 0, 1) := by decide +kernel
theorem dX2_copyFrom_108 : decode cX2_copyFrom 108 = .ok (.istore_n 2, 1) := by decide +kernel
theorem dX2_copyFrom_109 : decode cX2_copyFrom 109 = .ok (.iload_n 2, 1) := by decide +kernel
theorem dX2_copyFrom_110 : decode cX2_copyFrom 110 = .ok (.bipush 6, 2) := by decide +kernel
theorem dX2_copyFrom_112 : decode cX2_copyFrom 112 = .ok (.if_icmp .ge 24, 3) := by decide +kernel
theorem dX2_copyFrom_115 : decode cX2_copyFrom 115 = .ok (.aload_n 0, 1) := by decide +kernel
theorem dX2_copyFrom_116 : decode cX2_copyFrom 116 = .ok (.getfield 29, 3) := by decide +kernel
theorem dX2_copyFrom_119 : decode cX2_copyFrom 119 = .ok (.iload_n 2, 1) := by decide +kernel
theorem dX2_copyFrom_120 : decode cX2_copyFrom 120 = .ok (.aaload, 1) := by decide +kernel
theorem dX2_copyFrom_121 : decode cX2_copyFrom 121 = .ok (.aload_n 1, 1) := by decide +kernel
theorem dX2_copyFrom_122 : decode cX2_copyFrom 122 = .ok (.getfield 29, 3) := by decide +kernel
theorem dX2_copyFrom_125 : decode cX2_copyFrom 125 = .ok (.iload_n 2, 1) := by decide +kernel
theorem dX2_copyFrom_126 : decode cX2_copyFrom 126 = .ok (.aaload, 1) := by decide +kernel
theorem dX2_copyFrom_127 : decode cX2_copyFrom 127 = .ok (.invokevirtual 53, 3) := by decide +kernel
theorem dX2_copyFrom_130 : decode cX2_copyFrom 130 = .ok (.iinc 2 1, 3) := by decide +kernel
theorem dX2_copyFrom_133 : decode cX2_copyFrom 133 = .ok (.goto (-24), 3) := by decide +kernel
theorem dX2_copyFrom_136 : decode cX2_copyFrom 136 = .ok (.aload_n 0, 1) := by decide +kernel
theorem dX2_copyFrom_137 : decode cX2_copyFrom 137 = .ok (.aload_n 1, 1) := by decide +kernel
theorem dX2_copyFrom_138 : decode cX2_copyFrom 138 = .ok (.getfield 57, 3) := by decide +kernel
theorem dX2_copyFrom_141 : decode cX2_copyFrom 141 = .ok (.putfield 57, 3) := by decide +kernel
theorem dX2_copyFrom_144 : decode cX2_copyFrom 144 = .ok (.aload_n 0, 1) := by decide +kernel
theorem dX2_copyFrom_145 : decode cX2_copyFrom 145 = .ok (.aload_n 1, 1) := by decide +kernel
theorem dX2_copyFrom_146 : decode cX2_copyFrom 146 = .ok (.getfield 60, 3) := by decide +kernel
theorem dX2_copyFrom_149 : decode cX2_copyFrom 149 = .ok (.putfield 60, 3) := by decide +kernel
theorem dX2_copyFrom_152 : decode cX2_copyFrom 152 = .ok (.return_, 1) := by decide +kernel
theorem dX2_hasFrog_0 : decode cX2_hasFrog 0 = .ok (.iload_n 1, 1) := by decide +kernel
theorem dX2_hasFrog_1 : decode cX2_hasFrog 1 = .ok (.ifCond .lt 15, 3) := by decide +kernel
theorem dX2_hasFrog_4 : decode cX2_hasFrog 4 = .ok (.iload_n 1, 1) := by decide +kernel
theorem dX2_hasFrog_5 : decode cX2_hasFrog 5 = .ok (.aload_n 0, 1) := by decide +kernel
theorem dX2_hasFrog_6 : decode cX2_hasFrog 6 = .ok (.getfield 34, 3) := by decide +kernel
theorem dX2_hasFrog_9 : decode cX2_hasFrog 9 = .ok (.if_icmp .ge 7, 3) := by decide +kernel
theorem dX2_hasFrog_12 : decode cX2_hasFrog 12 = .ok (.iconst 1, 1) := by decide +kernel
theorem dX2_hasFrog_13 : decode cX2_hasFrog 13 = .ok (.goto 4, 3) := by decide +kernel
theorem dX2_hasFrog_16 : decode cX2_hasFrog 16 = .ok (.iconst 0, 1) := by decide +kernel
theorem dX2_hasFrog_17 : decode cX2_hasFrog 17 = .ok (.ireturn, 1) := by decide +kernel
theorem dX2_hasPad_0 : decode cX2_hasPad 0 = .ok (.iload_n 1, 1) := by decide +kernel
theorem dX2_hasPad_1 : decode cX2_hasPad 1 = .ok (.ifCond .lt 15, 3) := by decide +kernel
theorem dX2_hasPad_4 : decode cX2_hasPad 4 = .ok (.iload_n 1, 1) := by decide +kernel
theorem dX2_hasPad_5 : decode cX2_hasPad 5 = .ok (.aload_n 0, 1) := by decide +kernel
theorem dX2_hasPad_6 : decode cX2_hasPad 6 = .ok (.getfield 47, 3) := by decide +kernel
theorem dX2_hasPad_9 : decode cX2_hasPad 9 = .ok (.if_icmp .ge 7, 3) := by decide +kernel
theorem dX2_hasPad_12 : decode cX2_hasPad 12 = .ok (.iconst 1, 1) := by decide +kernel
theorem dX2_hasPad_13 : decode cX2_hasPad 13 = .ok (.goto 4, 3) := by decide +kernel
theorem dX2_hasPad_16 : decode cX2_hasPad 16 = .ok (.iconst 0, 1) := by decide +kernel
theorem dX2_hasPad_17 : decode cX2_hasPad 17 = .ok (.ireturn, 1) := by decide +kernel
theorem dX2_hasMotion_0 : decode cX2_hasMotion 0 = .ok (.iload_n 1, 1) := by decide +kernel
theorem dX2_hasMotion_1 : decode cX2_hasMotion 1 = .ok (.ifCond .lt 15, 3) := by decide +kernel
theorem dX2_hasMotion_4 : decode cX2_hasMotion 4 = .ok (.iload_n 1, 1) := by decide +kernel
theorem dX2_hasMotion_5 : decode cX2_hasMotion 5 = .ok (.aload_n 0, 1) := by decide +kernel
theorem dX2_hasMotion_6 : decode cX2_hasMotion 6 = .ok (.getfield 50, 3) := by decide +kernel
theorem dX2_hasMotion_9 : decode cX2_hasMotion 9 = .ok (.if_icmp .ge 7, 3) := by decide +kernel
theorem dX2_hasMotion_12 : decode cX2_hasMotion 12 = .ok (.iconst 1, 1) := by decide +kernel
theorem dX2_hasMotion_13 : decode cX2_hasMotion 13 = .ok (.goto 4, 3) := by decide +kernel
theorem dX2_hasMotion_16 : decode cX2_hasMotion 16 = .ok (.iconst 0, 1) := by decide +kernel
theorem dX2_hasMotion_17 : decode cX2_hasMotion 17 = .ok (.ireturn, 1) := by decide +kernel
theorem dX2_refusalOfPair_0 : decode cX2_refusalOfPair 0 = .ok (.aload_n 0, 1) := by decide +kernel
theorem dX2_refusalOfPair_1 : decode cX2_refusalOfPair 1 = .ok (.iload_n 1, 1) := by decide +kernel
theorem dX2_refusalOfPair_2 : decode cX2_refusalOfPair 2 = .ok (.invokevirtual 63, 3) := by decide +kernel
theorem dX2_refusalOfPair_5 : decode cX2_refusalOfPair 5 = .ok (.ifCond .ne 7, 3) := by decide +kernel
theorem dX2_refusalOfPair_8 : decode cX2_refusalOfPair 8 = .ok (.getstatic 67, 3) := by decide +kernel
theorem dX2_refusalOfPair_11 : decode cX2_refusalOfPair 11 = .ok (.areturn, 1) := by decide +kernel
theorem dX2_refusalOfPair_12 : decode cX2_refusalOfPair 12 = .ok (.aload_n 0, 1) := by decide +kernel
theorem dX2_refusalOfPair_13 : decode cX2_refusalOfPair 13 = .ok (.iload_n 2, 1) := by decide +kernel
theorem dX2_refusalOfPair_14 : decode cX2_refusalOfPair 14 = .ok (.invokevirtual 73, 3) := by decide +kernel
theorem dX2_refusalOfPair_17 : decode cX2_refusalOfPair 17 = .ok (.ifCond .eq 9, 3) := by decide +kernel
theorem dX2_refusalOfPair_20 : decode cX2_refusalOfPair 20 = .ok (.getstatic 76, 3) := by decide +kernel
theorem dX2_refusalOfPair_23 : decode cX2_refusalOfPair 23 = .ok (.goto 6, 3) := by decide +kernel
theorem dX2_refusalOfPair_26 : decode cX2_refusalOfPair 26 = .ok (.getstatic 79, 3) := by decide +kernel
theorem dX2_refusalOfPair_29 : decode cX2_refusalOfPair 29 = .ok (.areturn, 1) := by decide +kernel
theorem dX2_refusalToAdmit_0 : decode cX2_refusalToAdmit 0 = .ok (.iload_n 1, 1) := by decide +kernel
theorem dX2_refusalToAdmit_1 : decode cX2_refusalToAdmit 1 = .ok (.ifCond .lt 8, 3) := by decide +kernel
theorem dX2_refusalToAdmit_4 : decode cX2_refusalToAdmit 4 = .ok (.iload_n 1, 1) := by decide +kernel
theorem dX2_refusalToAdmit_5 : decode cX2_refusalToAdmit 5 = .ok (.iconst 4, 1) := by decide +kernel
theorem dX2_refusalToAdmit_6 : decode cX2_refusalToAdmit 6 = .ok (.if_icmp .lt 7, 3) := by decide +kernel
theorem dX2_refusalToAdmit_9 : decode cX2_refusalToAdmit 9 = .ok (.getstatic 82, 3) := by decide +kernel
theorem dX2_refusalToAdmit_12 : decode cX2_refusalToAdmit 12 = .ok (.areturn, 1) := by decide +kernel
theorem dX2_refusalToAdmit_13 : decode cX2_refusalToAdmit 13 = .ok (.iload_n 2, 1) := by decide +kernel
theorem dX2_refusalToAdmit_14 : decode cX2_refusalToAdmit 14 = .ok (.iconst 1, 1) := by decide +kernel
theorem dX2_refusalToAdmit_15 : decode cX2_refusalToAdmit 15 = .ok (.if_icmp .lt 9, 3) := by decide +kernel
theorem dX2_refusalToAdmit_18 : decode cX2_refusalToAdmit 18 = .ok (.iload_n 2, 1) := by decide +kernel
theorem dX2_refusalToAdmit_19 : decode cX2_refusalToAdmit 19 = .ok (.bipush 9, 2) := by decide +kernel
theorem dX2_refusalToAdmit_21 : decode cX2_refusalToAdmit 21 = .ok (.if_icmp .le 7, 3) := by decide +kernel
theorem dX2_refusalToAdmit_24 : decode cX2_refusalToAdmit 24 = .ok (.getstatic 85, 3) := by decide +kernel
theorem dX2_refusalToAdmit_27 : decode cX2_refusalToAdmit 27 = .ok (.areturn, 1) := by decide +kernel
theorem dX2_refusalToAdmit_28 : decode cX2_refusalToAdmit 28 = .ok (.aload_n 0, 1) := by decide +kernel
theorem dX2_refusalToAdmit_29 : decode cX2_refusalToAdmit 29 = .ok (.getfield 34, 3) := by decide +kernel
theorem dX2_refusalToAdmit_32 : decode cX2_refusalToAdmit 32 = .ok (.bipush 12, 2) := by decide +kernel
theorem dX2_refusalToAdmit_34 : decode cX2_refusalToAdmit 34 = .ok (.if_icmp .ge 9, 3) := by decide +kernel
theorem dX2_refusalToAdmit_37 : decode cX2_refusalToAdmit 37 = .ok (.getstatic 76, 3) := by decide +kernel
theorem dX2_refusalToAdmit_40 : decode cX2_refusalToAdmit 40 = .ok (.goto 6, 3) := by decide +kernel
theorem dX2_refusalToAdmit_43 : decode cX2_refusalToAdmit 43 = .ok (.getstatic 88, 3) := by decide +kernel
theorem dX2_refusalToAdmit_46 : decode cX2_refusalToAdmit 46 = .ok (.areturn, 1) := by decide +kernel
theorem dX2_admit_0 : decode cX2_admit 0 = .ok (.aload_n 0, 1) := by decide +kernel
theorem dX2_admit_1 : decode cX2_admit 1 = .ok (.getfield 34, 3) := by decide +kernel
theorem dX2_admit_4 : decode cX2_admit 4 = .ok (.istore_n 3, 1) := by decide +kernel
theorem dX2_admit_5 : decode cX2_admit 5 = .ok (.aload_n 0, 1) := by decide +kernel
theorem dX2_admit_6 : decode cX2_admit 6 = .ok (.getfield 9, 3) := by decide +kernel
theorem dX2_admit_9 : decode cX2_admit 9 = .ok (.iload_n 3, 1) := by decide +kernel
theorem dX2_admit_10 : decode cX2_admit 10 = .ok (.iload_n 1, 1) := by decide +kernel
theorem dX2_admit_11 : decode cX2_admit 11 = .ok (.iastore, 1) := by decide +kernel
theorem dX2_admit_12 : decode cX2_admit 12 = .ok (.aload_n 0, 1) := by decide +kernel
theorem dX2_admit_13 : decode cX2_admit 13 = .ok (.getfield 15, 3) := by decide +kernel
theorem dX2_admit_16 : decode cX2_admit 16 = .ok (.iload_n 3, 1) := by decide +kernel
theorem dX2_admit_17 : decode cX2_admit 17 = .ok (.iload_n 2, 1) := by decide +kernel
theorem dX2_admit_18 : decode cX2_admit 18 = .ok (.iastore, 1) := by decide +kernel
theorem dX2_admit_19 : decode cX2_admit 19 = .ok (.aload_n 0, 1) := by decide +kernel
theorem dX2_admit_20 : decode cX2_admit 20 = .ok (.getfield 18, 3) := by decide +kernel
theorem dX2_admit_23 : decode cX2_admit 23 = .ok (.iload_n 3, 1) := by decide +kernel
theorem dX2_admit_24 : decode cX2_admit 24 = .ok (.iconst (-1), 1) := by decide +kernel
theorem dX2_admit_25 : decode cX2_admit 25 = .ok (.iastore, 1) := by decide +kernel
theorem dX2_admit_26 : decode cX2_admit 26 = .ok (.aload_n 0, 1) := by decide +kernel
theorem dX2_admit_27 : decode cX2_admit 27 = .ok (.dup, 1) := by decide +kernel
theorem dX2_admit_28 : decode cX2_admit 28 = .ok (.getfield 34, 3) := by decide +kernel
theorem dX2_admit_31 : decode cX2_admit 31 = .ok (.iconst 1, 1) := by decide +kernel
theorem dX2_admit_32 : decode cX2_admit 32 = .ok (.iadd, 1) := by decide +kernel
theorem dX2_admit_33 : decode cX2_admit 33 = .ok (.putfield 34, 3) := by decide +kernel
theorem dX2_admit_36 : decode cX2_admit 36 = .ok (.iload_n 3, 1) := by decide +kernel
theorem dX2_admit_37 : decode cX2_admit 37 = .ok (.ireturn, 1) := by decide +kernel
theorem dX2_refusalToLay_0 : decode cX2_refusalToLay 0 = .ok (.iload_n 1, 1) := by decide +kernel
theorem dX2_refusalToLay_1 : decode cX2_refusalToLay 1 = .ok (.iconst 1, 1) := by decide +kernel
theorem dX2_refusalToLay_2 : decode cX2_refusalToLay 2 = .ok (.if_icmp .lt 8, 3) := by decide +kernel
theorem dX2_refusalToLay_5 : decode cX2_refusalToLay 5 = .ok (.iload_n 1, 1) := by decide +kernel
theorem dX2_refusalToLay_6 : decode cX2_refusalToLay 6 = .ok (.iconst 4, 1) := by decide +kernel
theorem dX2_refusalToLay_7 : decode cX2_refusalToLay 7 = .ok (.if_icmp .le 7, 3) := by decide +kernel
theorem dX2_refusalToLay_10 : decode cX2_refusalToLay 10 = .ok (.getstatic 91, 3) := by decide +kernel
theorem dX2_refusalToLay_13 : decode cX2_refusalToLay 13 = .ok (.areturn, 1) := by decide +kernel
theorem dX2_refusalToLay_14 : decode cX2_refusalToLay 14 = .ok (.aload_n 0, 1) := by decide +kernel
theorem dX2_refusalToLay_15 : decode cX2_refusalToLay 15 = .ok (.getfield 47, 3) := by decide +kernel
theorem dX2_refusalToLay_18 : decode cX2_refusalToLay 18 = .ok (.bipush 6, 2) := by decide +kernel
theorem dX2_refusalToLay_20 : decode cX2_refusalToLay 20 = .ok (.if_icmp .ge 9, 3) := by decide +kernel
theorem dX2_refusalToLay_23 : decode cX2_refusalToLay 23 = .ok (.getstatic 76, 3) := by decide +kernel
theorem dX2_refusalToLay_26 : decode cX2_refusalToLay 26 = .ok (.goto 6, 3) := by decide +kernel
theorem dX2_refusalToLay_29 : decode cX2_refusalToLay 29 = .ok (.getstatic 88, 3) := by decide +kernel
theorem dX2_refusalToLay_32 : decode cX2_refusalToLay 32 = .ok (.areturn, 1) := by decide +kernel
theorem dX2_lay_0 : decode cX2_lay 0 = .ok (.aload_n 0, 1) := by decide +kernel
theorem dX2_lay_1 : decode cX2_lay 1 = .ok (.getfield 47, 3) := by decide +kernel
theorem dX2_lay_4 : decode cX2_lay 4 = .ok (.istore_n 2, 1) := by decide +kernel
theorem dX2_lay_5 : decode cX2_lay 5 = .ok (.aload_n 0, 1) := by decide +kernel
theorem dX2_lay_6 : decode cX2_lay 6 = .ok (.getfield 24, 3) := by decide +kernel
theorem dX2_lay_9 : decode cX2_lay 9 = .ok (.iload_n 2, 1) := by decide +kernel
theorem dX2_lay_10 : decode cX2_lay 10 = .ok (.iload_n 1, 1) := by decide +kernel
theorem dX2_lay_11 : decode cX2_lay 11 = .ok (.iastore, 1) := by decide +kernel
theorem dX2_lay_12 : decode cX2_lay 12 = .ok (.aload_n 0, 1) := by decide +kernel
theorem dX2_lay_13 : decode cX2_lay 13 = .ok (.dup, 1) := by decide +kernel
theorem dX2_lay_14 : decode cX2_lay 14 = .ok (.getfield 47, 3) := by decide +kernel
theorem dX2_lay_17 : decode cX2_lay 17 = .ok (.iconst 1, 1) := by decide +kernel
theorem dX2_lay_18 : decode cX2_lay 18 = .ok (.iadd, 1) := by decide +kernel
theorem dX2_lay_19 : decode cX2_lay 19 = .ok (.putfield 47, 3) := by decide +kernel
theorem dX2_lay_22 : decode cX2_lay 22 = .ok (.iload_n 2, 1) := by decide +kernel
theorem dX2_lay_23 : decode cX2_lay 23 = .ok (.ireturn, 1) := by decide +kernel
theorem dX2_refusalToSeat_0 : decode cX2_refusalToSeat 0 = .ok (.aload_n 0, 1) := by decide +kernel
theorem dX2_refusalToSeat_1 : decode cX2_refusalToSeat 1 = .ok (.iload_n 1, 1) := by decide +kernel
theorem dX2_refusalToSeat_2 : decode cX2_refusalToSeat 2 = .ok (.invokevirtual 73, 3) := by decide +kernel
theorem dX2_refusalToSeat_5 : decode cX2_refusalToSeat 5 = .ok (.ifCond .ne 7, 3) := by decide +kernel
theorem dX2_refusalToSeat_8 : decode cX2_refusalToSeat 8 = .ok (.getstatic 79, 3) := by decide +kernel
theorem dX2_refusalToSeat_11 : decode cX2_refusalToSeat 11 = .ok (.areturn, 1) := by decide +kernel
theorem dX2_refusalToSeat_12 : decode cX2_refusalToSeat 12 = .ok (.aload_n 0, 1) := by decide +kernel
theorem dX2_refusalToSeat_13 : decode cX2_refusalToSeat 13 = .ok (.iload_n 2, 1) := by decide +kernel
theorem dX2_refusalToSeat_14 : decode cX2_refusalToSeat 14 = .ok (.invokevirtual 94, 3) := by decide +kernel
theorem dX2_refusalToSeat_17 : decode cX2_refusalToSeat 17 = .ok (.ifCond .ne 7, 3) := by decide +kernel
theorem dX2_refusalToSeat_20 : decode cX2_refusalToSeat 20 = .ok (.getstatic 97, 3) := by decide +kernel
theorem dX2_refusalToSeat_23 : decode cX2_refusalToSeat 23 = .ok (.areturn, 1) := by decide +kernel
theorem dX2_refusalToSeat_24 : decode cX2_refusalToSeat 24 = .ok (.aload_n 0, 1) := by decide +kernel
theorem dX2_refusalToSeat_25 : decode cX2_refusalToSeat 25 = .ok (.getfield 18, 3) := by decide +kernel
theorem dX2_refusalToSeat_28 : decode cX2_refusalToSeat 28 = .ok (.iload_n 1, 1) := by decide +kernel
theorem dX2_refusalToSeat_29 : decode cX2_refusalToSeat 29 = .ok (.iaload, 1) := by decide +kernel
theorem dX2_refusalToSeat_30 : decode cX2_refusalToSeat 30 = .ok (.iload_n 2, 1) := by decide +kernel
theorem dX2_refusalToSeat_31 : decode cX2_refusalToSeat 31 = .ok (.if_icmp .ne 7, 3) := by decide +kernel
theorem dX2_refusalToSeat_34 : decode cX2_refusalToSeat 34 = .ok (.getstatic 100, 3) := by decide +kernel
theorem dX2_refusalToSeat_37 : decode cX2_refusalToSeat 37 = .ok (.areturn, 1) := by decide +kernel
theorem dX2_refusalToSeat_38 : decode cX2_refusalToSeat 38 = .ok (.aload_n 0, 1) := by decide +kernel
theorem dX2_refusalToSeat_39 : decode cX2_refusalToSeat 39 = .ok (.iload_n 2, 1) := by decide +kernel
theorem dX2_refusalToSeat_40 : decode cX2_refusalToSeat 40 = .ok (.invokevirtual 103, 3) := by decide +kernel
theorem dX2_refusalToSeat_43 : decode cX2_refusalToSeat 43 = .ok (.aload_n 0, 1) := by decide +kernel
theorem dX2_refusalToSeat_44 : decode cX2_refusalToSeat 44 = .ok (.getfield 24, 3) := by decide +kernel
theorem dX2_refusalToSeat_47 : decode cX2_refusalToSeat 47 = .ok (.iload_n 2, 1) := by decide +kernel
theorem dX2_refusalToSeat_48 : decode cX2_refusalToSeat 48 = .ok (.iaload, 1) := by decide +kernel
theorem dX2_refusalToSeat_49 : decode cX2_refusalToSeat 49 = .ok (.if_icmp .ge 9, 3) := by decide +kernel
theorem dX2_refusalToSeat_52 : decode cX2_refusalToSeat 52 = .ok (.getstatic 76, 3) := by decide +kernel
theorem dX2_refusalToSeat_55 : decode cX2_refusalToSeat 55 = .ok (.goto 6, 3) := by decide +kernel
theorem dX2_refusalToSeat_58 : decode cX2_refusalToSeat 58 = .ok (.getstatic 107, 3) := by decide +kernel
theorem dX2_refusalToSeat_61 : decode cX2_refusalToSeat 61 = .ok (.areturn, 1) := by decide +kernel
theorem dX2_seat_0 : decode cX2_seat 0 = .ok (.aload_n 0, 1) := by decide +kernel
theorem dX2_seat_1 : decode cX2_seat 1 = .ok (.getfield 18, 3) := by decide +kernel
theorem dX2_seat_4 : decode cX2_seat 4 = .ok (.iload_n 1, 1) := by decide +kernel
theorem dX2_seat_5 : decode cX2_seat 5 = .ok (.iload_n 2, 1) := by decide +kernel
theorem dX2_seat_6 : decode cX2_seat 6 = .ok (.iastore, 1) := by decide +kernel
theorem dX2_seat_7 : decode cX2_seat 7 = .ok (.aload_n 0, 1) := by decide +kernel
theorem dX2_seat_8 : decode cX2_seat 8 = .ok (.dup, 1) := by decide +kernel
theorem dX2_seat_9 : decode cX2_seat 9 = .ok (.getfield 44, 3) := by decide +kernel
theorem dX2_seat_12 : decode cX2_seat 12 = .ok (.iconst 1, 1) := by decide +kernel
theorem dX2_seat_13 : decode cX2_seat 13 = .ok (.iload_n 1, 1) := by decide +kernel
theorem dX2_seat_14 : decode cX2_seat 14 = .ok (.ishl, 1) := by decide +kernel
theorem dX2_seat_15 : decode cX2_seat 15 = .ok (.ior, 1) := by decide +kernel
theorem dX2_seat_16 : decode cX2_seat 16 = .ok (.putfield 44, 3) := by decide +kernel
theorem dX2_seat_19 : decode cX2_seat 19 = .ok (.aload_n 0, 1) := by decide +kernel
theorem dX2_seat_20 : decode cX2_seat 20 = .ok (.iload_n 2, 1) := by decide +kernel
theorem dX2_seat_21 : decode cX2_seat 21 = .ok (.invokevirtual 103, 3) := by decide +kernel
theorem dX2_seat_24 : decode cX2_seat 24 = .ok (.ireturn, 1) := by decide +kernel
theorem dX2_refusalToUnseat_0 : decode cX2_refusalToUnseat 0 = .ok (.aload_n 0, 1) := by decide +kernel
theorem dX2_refusalToUnseat_1 : decode cX2_refusalToUnseat 1 = .ok (.iload_n 1, 1) := by decide +kernel
theorem dX2_refusalToUnseat_2 : decode cX2_refusalToUnseat 2 = .ok (.invokevirtual 73, 3) := by decide +kernel
theorem dX2_refusalToUnseat_5 : decode cX2_refusalToUnseat 5 = .ok (.ifCond .ne 7, 3) := by decide +kernel
theorem dX2_refusalToUnseat_8 : decode cX2_refusalToUnseat 8 = .ok (.getstatic 79, 3) := by decide +kernel
theorem dX2_refusalToUnseat_11 : decode cX2_refusalToUnseat 11 = .ok (.areturn, 1) := by decide +kernel
theorem dX2_refusalToUnseat_12 : decode cX2_refusalToUnseat 12 = .ok (.aload_n 0, 1) := by decide +kernel
theorem dX2_refusalToUnseat_13 : decode cX2_refusalToUnseat 13 = .ok (.iload_n 1, 1) := by decide +kernel
theorem dX2_refusalToUnseat_14 : decode cX2_refusalToUnseat 14 = .ok (.invokevirtual 110, 3) := by decide +kernel
theorem dX2_refusalToUnseat_17 : decode cX2_refusalToUnseat 17 = .ok (.ifCond .eq 9, 3) := by decide +kernel
theorem dX2_refusalToUnseat_20 : decode cX2_refusalToUnseat 20 = .ok (.getstatic 76, 3) := by decide +kernel
theorem dX2_refusalToUnseat_23 : decode cX2_refusalToUnseat 23 = .ok (.goto 6, 3) := by decide +kernel
theorem dX2_refusalToUnseat_26 : decode cX2_refusalToUnseat 26 = .ok (.getstatic 113, 3) := by decide +kernel
theorem dX2_refusalToUnseat_29 : decode cX2_refusalToUnseat 29 = .ok (.areturn, 1) := by decide +kernel
theorem dX2_unseat_0 : decode cX2_unseat 0 = .ok (.aload_n 0, 1) := by decide +kernel
theorem dX2_unseat_1 : decode cX2_unseat 1 = .ok (.getfield 18, 3) := by decide +kernel
theorem dX2_unseat_4 : decode cX2_unseat 4 = .ok (.iload_n 1, 1) := by decide +kernel
theorem dX2_unseat_5 : decode cX2_unseat 5 = .ok (.iaload, 1) := by decide +kernel
theorem dX2_unseat_6 : decode cX2_unseat 6 = .ok (.istore_n 2, 1) := by decide +kernel
theorem dX2_unseat_7 : decode cX2_unseat 7 = .ok (.aload_n 0, 1) := by decide +kernel
theorem dX2_unseat_8 : decode cX2_unseat 8 = .ok (.getfield 18, 3) := by decide +kernel
theorem dX2_unseat_11 : decode cX2_unseat 11 = .ok (.iload_n 1, 1) := by decide +kernel
theorem dX2_unseat_12 : decode cX2_unseat 12 = .ok (.iconst (-1), 1) := by decide +kernel
theorem dX2_unseat_13 : decode cX2_unseat 13 = .ok (.iastore, 1) := by decide +kernel
theorem dX2_unseat_14 : decode cX2_unseat 14 = .ok (.aload_n 0, 1) := by decide +kernel
theorem dX2_unseat_15 : decode cX2_unseat 15 = .ok (.dup, 1) := by decide +kernel
theorem dX2_unseat_16 : decode cX2_unseat 16 = .ok (.getfield 44, 3) := by decide +kernel
theorem dX2_unseat_19 : decode cX2_unseat 19 = .ok (.iconst 1, 1) := by decide +kernel
theorem dX2_unseat_20 : decode cX2_unseat 20 = .ok (.iload_n 1, 1) := by decide +kernel
theorem dX2_unseat_21 : decode cX2_unseat 21 = .ok (.ishl, 1) := by decide +kernel
theorem dX2_unseat_22 : decode cX2_unseat 22 = .ok (.iconst (-1), 1) := by decide +kernel
theorem dX2_unseat_23 : decode cX2_unseat 23 = .ok (.ixor, 1) := by decide +kernel
theorem dX2_unseat_24 : decode cX2_unseat 24 = .ok (.iand, 1) := by decide +kernel
theorem dX2_unseat_25 : decode cX2_unseat 25 = .ok (.putfield 44, 3) := by decide +kernel
theorem dX2_unseat_28 : decode cX2_unseat 28 = .ok (.iload_n 2, 1) := by decide +kernel
theorem dX2_unseat_29 : decode cX2_unseat 29 = .ok (.ireturn, 1) := by decide +kernel
theorem dX2_sits_0 : decode cX2_sits 0 = .ok (.aload_n 0, 1) := by decide +kernel
theorem dX2_sits_1 : decode cX2_sits 1 = .ok (.getfield 44, 3) := by decide +kernel
theorem dX2_sits_4 : decode cX2_sits 4 = .ok (.iload_n 1, 1) := by decide +kernel
theorem dX2_sits_5 : decode cX2_sits 5 = .ok (.ishr, 1) := by decide +kernel
theorem dX2_sits_6 : decode cX2_sits 6 = .ok (.iconst 1, 1) := by decide +kernel
theorem dX2_sits_7 : decode cX2_sits 7 = .ok (.iand, 1) := by decide +kernel
theorem dX2_sits_8 : decode cX2_sits 8 = .ok (.ifCond .eq 7, 3) := by decide +kernel
theorem dX2_sits_11 : decode cX2_sits 11 = .ok (.iconst 1, 1) := by decide +kernel
theorem dX2_sits_12 : decode cX2_sits 12 = .ok (.goto 4, 3) := by decide +kernel
theorem dX2_sits_15 : decode cX2_sits 15 = .ok (.iconst 0, 1) := by decide +kernel
theorem dX2_sits_16 : decode cX2_sits 16 = .ok (.ireturn, 1) := by decide +kernel
theorem dX2_sittersOf_0 : decode cX2_sittersOf 0 = .ok (.iconst 0, 1) := by decide +kernel
theorem dX2_sittersOf_1 : decode cX2_sittersOf 1 = .ok (.istore_n 2, 1) := by decide +kernel
theorem dX2_sittersOf_2 : decode cX2_sittersOf 2 = .ok (.iconst 0, 1) := by decide +kernel
theorem dX2_sittersOf_3 : decode cX2_sittersOf 3 = .ok (.istore_n 3, 1) := by decide +kernel
theorem dX2_sittersOf_4 : decode cX2_sittersOf 4 = .ok (.iload_n 3, 1) := by decide +kernel
theorem dX2_sittersOf_5 : decode cX2_sittersOf 5 = .ok (.aload_n 0, 1) := by decide +kernel
theorem dX2_sittersOf_6 : decode cX2_sittersOf 6 = .ok (.getfield 34, 3) := by decide +kernel
theorem dX2_sittersOf_9 : decode cX2_sittersOf 9 = .ok (.if_icmp .ge 25, 3) := by decide +kernel
theorem dX2_sittersOf_12 : decode cX2_sittersOf 12 = .ok (.aload_n 0, 1) := by decide +kernel
theorem dX2_sittersOf_13 : decode cX2_sittersOf 13 = .ok (.getfield 18, 3) := by decide +kernel
theorem dX2_sittersOf_16 : decode cX2_sittersOf 16 = .ok (.iload_n 3, 1) := by decide +kernel
theorem dX2_sittersOf_17 : decode cX2_sittersOf 17 = .ok (.iaload, 1) := by decide +kernel
theorem dX2_sittersOf_18 : decode cX2_sittersOf 18 = .ok (.iload_n 1, 1) := by decide +kernel
theorem dX2_sittersOf_19 : decode cX2_sittersOf 19 = .ok (.if_icmp .ne 9, 3) := by decide +kernel
theorem dX2_sittersOf_22 : decode cX2_sittersOf 22 = .ok (.iload_n 2, 1) := by decide +kernel
theorem dX2_sittersOf_23 : decode cX2_sittersOf 23 = .ok (.iconst 1, 1) := by decide +kernel
theorem dX2_sittersOf_24 : decode cX2_sittersOf 24 = .ok (.iload_n 3, 1) := by decide +kernel
theorem dX2_sittersOf_25 : decode cX2_sittersOf 25 = .ok (.ishl, 1) := by decide +kernel
theorem dX2_sittersOf_26 : decode cX2_sittersOf 26 = .ok (.ior, 1) := by decide +kernel
theorem dX2_sittersOf_27 : decode cX2_sittersOf 27 = .ok (.istore_n 2, 1) := by decide +kernel
theorem dX2_sittersOf_28 : decode cX2_sittersOf 28 = .ok (.iinc 3 1, 3) := by decide +kernel
theorem dX2_sittersOf_31 : decode cX2_sittersOf 31 = .ok (.goto (-27), 3) := by decide +kernel
theorem dX2_sittersOf_34 : decode cX2_sittersOf 34 = .ok (.iload_n 2, 1) := by decide +kernel
theorem dX2_sittersOf_35 : decode cX2_sittersOf 35 = .ok (.ireturn, 1) := by decide +kernel
theorem dX2_countOn_0 : decode cX2_countOn 0 = .ok (.aload_n 0, 1) := by decide +kernel
theorem dX2_countOn_1 : decode cX2_countOn 1 = .ok (.iload_n 1, 1) := by decide +kernel
theorem dX2_countOn_2 : decode cX2_countOn 2 = .ok (.invokevirtual 116, 3) := by decide +kernel
theorem dX2_countOn_5 : decode cX2_countOn 5 = .ok (.invokestatic 119, 3) := by decide +kernel
theorem dX2_countOn_8 : decode cX2_countOn 8 = .ok (.ireturn, 1) := by decide +kernel
theorem dX2_weightOfSet_0 : decode cX2_weightOfSet 0 = .ok (.iconst 0, 1) := by decide +kernel
theorem dX2_weightOfSet_1 : decode cX2_weightOfSet 1 = .ok (.istore_n 2, 1) := by decide +kernel
theorem dX2_weightOfSet_2 : decode cX2_weightOfSet 2 = .ok (.iconst 0, 1) := by decide +kernel
theorem dX2_weightOfSet_3 : decode cX2_weightOfSet 3 = .ok (.istore_n 3, 1) := by decide +kernel
theorem dX2_weightOfSet_4 : decode cX2_weightOfSet 4 = .ok (.iload_n 3, 1) := by decide +kernel
theorem dX2_weightOfSet_5 : decode cX2_weightOfSet 5 = .ok (.aload_n 0, 1) := by decide +kernel
theorem dX2_weightOfSet_6 : decode cX2_weightOfSet 6 = .ok (.getfield 34, 3) := by decide +kernel
theorem dX2_weightOfSet_9 : decode cX2_weightOfSet 9 = .ok (.if_icmp .ge 26, 3) := by decide +kernel
theorem dX2_weightOfSet_12 : decode cX2_weightOfSet 12 = .ok (.iload_n 1, 1) := by decide +kernel
theorem dX2_weightOfSet_13 : decode cX2_weightOfSet 13 = .ok (.iload_n 3, 1) := by decide +kernel
theorem dX2_weightOfSet_14 : decode cX2_weightOfSet 14 = .ok (.ishr, 1) := by decide +kernel
theorem dX2_weightOfSet_15 : decode cX2_weightOfSet 15 = .ok (.iconst 1, 1) := by decide +kernel
theorem dX2_weightOfSet_16 : decode cX2_weightOfSet 16 = .ok (.iand, 1) := by decide +kernel
theorem dX2_weightOfSet_17 : decode cX2_weightOfSet 17 = .ok (.ifCond .eq 12, 3) := by decide +kernel
theorem dX2_weightOfSet_20 : decode cX2_weightOfSet 20 = .ok (.iload_n 2, 1) := by decide +kernel
theorem dX2_weightOfSet_21 : decode cX2_weightOfSet 21 = .ok (.aload_n 0, 1) := by decide +kernel
theorem dX2_weightOfSet_22 : decode cX2_weightOfSet 22 = .ok (.getfield 15, 3) := by decide +kernel
theorem dX2_weightOfSet_25 : decode cX2_weightOfSet 25 = .ok (.iload_n 3, 1) := by decide +kernel
theorem dX2_weightOfSet_26 : decode cX2_weightOfSet 26 = .ok (.iaload, 1) := by decide +kernel
theorem dX2_weightOfSet_27 : decode cX2_weightOfSet 27 = .ok (.iadd, 1) := by decide +kernel
theorem dX2_weightOfSet_28 : decode cX2_weightOfSet 28 = .ok (.istore_n 2, 1) := by decide +kernel
theorem dX2_weightOfSet_29 : decode cX2_weightOfSet 29 = .ok (.iinc 3 1, 3) := by decide +kernel
theorem dX2_weightOfSet_32 : decode cX2_weightOfSet 32 = .ok (.goto (-28), 3) := by decide +kernel
theorem dX2_weightOfSet_35 : decode cX2_weightOfSet 35 = .ok (.iload_n 2, 1) := by decide +kernel
theorem dX2_weightOfSet_36 : decode cX2_weightOfSet 36 = .ok (.ireturn, 1) := by decide +kernel
theorem dX2_refusalToPropose_0 : decode cX2_refusalToPropose 0 = .ok (.iload_n 1, 1) := by decide +kernel
theorem dX2_refusalToPropose_1 : decode cX2_refusalToPropose 1 = .ok (.iconst 1, 1) := by decide +kernel
theorem dX2_refusalToPropose_2 : decode cX2_refusalToPropose 2 = .ok (.if_icmp .lt 9, 3) := by decide +kernel
theorem dX2_refusalToPropose_5 : decode cX2_refusalToPropose 5 = .ok (.iload_n 1, 1) := by decide +kernel
theorem dX2_refusalToPropose_6 : decode cX2_refusalToPropose 6 = .ok (.bipush 15, 2) := by decide +kernel
theorem dX2_refusalToPropose_8 : decode cX2_refusalToPropose 8 = .ok (.if_icmp .le 7, 3) := by decide +kernel
theorem dX2_refusalToPropose_11 : decode cX2_refusalToPropose 11 = .ok (.getstatic 124, 3) := by decide +kernel
theorem dX2_refusalToPropose_14 : decode cX2_refusalToPropose 14 = .ok (.areturn, 1) := by decide +kernel
theorem dX2_refusalToPropose_15 : decode cX2_refusalToPropose 15 = .ok (.aload_n 0, 1) := by decide +kernel
theorem dX2_refusalToPropose_16 : decode cX2_refusalToPropose 16 = .ok (.getfield 50, 3) := by decide +kernel
theorem dX2_refusalToPropose_19 : decode cX2_refusalToPropose 19 = .ok (.bipush 6, 2) := by decide +kernel
theorem dX2_refusalToPropose_21 : decode cX2_refusalToPropose 21 = .ok (.if_icmp .ge 9, 3) := by decide +kernel
theorem dX2_refusalToPropose_24 : decode cX2_refusalToPropose 24 = .ok (.getstatic 76, 3) := by decide +kernel
theorem dX2_refusalToPropose_27 : decode cX2_refusalToPropose 27 = .ok (.goto 6, 3) := by decide +kernel
theorem dX2_refusalToPropose_30 : decode cX2_refusalToPropose 30 = .ok (.getstatic 88, 3) := by decide +kernel
theorem dX2_refusalToPropose_33 : decode cX2_refusalToPropose 33 = .ok (.areturn, 1) := by decide +kernel
theorem dX2_propose_0 : decode cX2_propose 0 = .ok (.aload_n 0, 1) := by decide +kernel
theorem dX2_propose_1 : decode cX2_propose 1 = .ok (.getfield 50, 3) := by decide +kernel
theorem dX2_propose_4 : decode cX2_propose 4 = .ok (.istore_n 2, 1) := by decide +kernel
theorem dX2_propose_5 : decode cX2_propose 5 = .ok (.aload_n 0, 1) := by decide +kernel
theorem dX2_propose_6 : decode cX2_propose 6 = .ok (.getfield 29, 3) := by decide +kernel
theorem dX2_propose_9 : decode cX2_propose 9 = .ok (.iload_n 2, 1) := by decide +kernel
theorem dX2_propose_10 : decode cX2_propose 10 = .ok (.aaload, 1) := by decide +kernel
theorem dX2_propose_11 : decode cX2_propose 11 = .ok (.iload_n 1, 1) := by decide +kernel
theorem dX2_propose_12 : decode cX2_propose 12 = .ok (.putfield 127, 3) := by decide +kernel
theorem dX2_propose_15 : decode cX2_propose 15 = .ok (.aload_n 0, 1) := by decide +kernel
theorem dX2_propose_16 : decode cX2_propose 16 = .ok (.dup, 1) := by decide +kernel
theorem dX2_propose_17 : decode cX2_propose 17 = .ok (.getfield 50, 3) := by decide +kernel
theorem dX2_propose_20 : decode cX2_propose 20 = .ok (.iconst 1, 1) := by decide +kernel
theorem dX2_propose_21 : decode cX2_propose 21 = .ok (.iadd, 1) := by decide +kernel
theorem dX2_propose_22 : decode cX2_propose 22 = .ok (.putfield 50, 3) := by decide +kernel
theorem dX2_propose_25 : decode cX2_propose 25 = .ok (.iload_n 2, 1) := by decide +kernel
theorem dX2_propose_26 : decode cX2_propose 26 = .ok (.ireturn, 1) := by decide +kernel
theorem dX2_entitles_0 : decode cX2_entitles 0 = .ok (.aload_n 0, 1) := by decide +kernel
theorem dX2_entitles_1 : decode cX2_entitles 1 = .ok (.getfield 29, 3) := by decide +kernel
theorem dX2_entitles_4 : decode cX2_entitles 4 = .ok (.iload_n 1, 1) := by decide +kernel
theorem dX2_entitles_5 : decode cX2_entitles 5 = .ok (.aaload, 1) := by decide +kernel
theorem dX2_entitles_6 : decode cX2_entitles 6 = .ok (.getfield 127, 3) := by decide +kernel
theorem dX2_entitles_9 : decode cX2_entitles 9 = .ok (.aload_n 0, 1) := by decide +kernel
theorem dX2_entitles_10 : decode cX2_entitles 10 = .ok (.getfield 9, 3) := by decide +kernel
theorem dX2_entitles_13 : decode cX2_entitles 13 = .ok (.iload_n 2, 1) := by decide +kernel
theorem dX2_entitles_14 : decode cX2_entitles 14 = .ok (.iaload, 1) := by decide +kernel
theorem dX2_entitles_15 : decode cX2_entitles 15 = .ok (.ishr, 1) := by decide +kernel
theorem dX2_entitles_16 : decode cX2_entitles 16 = .ok (.iconst 1, 1) := by decide +kernel
theorem dX2_entitles_17 : decode cX2_entitles 17 = .ok (.iand, 1) := by decide +kernel
theorem dX2_entitles_18 : decode cX2_entitles 18 = .ok (.ifCond .eq 7, 3) := by decide +kernel
theorem dX2_entitles_21 : decode cX2_entitles 21 = .ok (.iconst 1, 1) := by decide +kernel
theorem dX2_entitles_22 : decode cX2_entitles 22 = .ok (.goto 4, 3) := by decide +kernel
theorem dX2_entitles_25 : decode cX2_entitles 25 = .ok (.iconst 0, 1) := by decide +kernel
theorem dX2_entitles_26 : decode cX2_entitles 26 = .ok (.ireturn, 1) := by decide +kernel
theorem dX2_entitledTo_0 : decode cX2_entitledTo 0 = .ok (.iconst 0, 1) := by decide +kernel
theorem dX2_entitledTo_1 : decode cX2_entitledTo 1 = .ok (.istore_n 2, 1) := by decide +kernel
theorem dX2_entitledTo_2 : decode cX2_entitledTo 2 = .ok (.iconst 0, 1) := by decide +kernel
theorem dX2_entitledTo_3 : decode cX2_entitledTo 3 = .ok (.istore_n 3, 1) := by decide +kernel
theorem dX2_entitledTo_4 : decode cX2_entitledTo 4 = .ok (.iload_n 3, 1) := by decide +kernel
theorem dX2_entitledTo_5 : decode cX2_entitledTo 5 = .ok (.aload_n 0, 1) := by decide +kernel
theorem dX2_entitledTo_6 : decode cX2_entitledTo 6 = .ok (.getfield 34, 3) := by decide +kernel
theorem dX2_entitledTo_9 : decode cX2_entitledTo 9 = .ok (.if_icmp .ge 24, 3) := by decide +kernel
theorem dX2_entitledTo_12 : decode cX2_entitledTo 12 = .ok (.aload_n 0, 1) := by decide +kernel
theorem dX2_entitledTo_13 : decode cX2_entitledTo 13 = .ok (.iload_n 1, 1) := by decide +kernel
theorem dX2_entitledTo_14 : decode cX2_entitledTo 14 = .ok (.iload_n 3, 1) := by decide +kernel
theorem dX2_entitledTo_15 : decode cX2_entitledTo 15 = .ok (.invokevirtual 130, 3) := by decide +kernel
theorem dX2_entitledTo_18 : decode cX2_entitledTo 18 = .ok (.ifCond .eq 9, 3) := by decide +kernel
theorem dX2_entitledTo_21 : decode cX2_entitledTo 21 = .ok (.iload_n 2, 1) := by decide +kernel
theorem dX2_entitledTo_22 : decode cX2_entitledTo 22 = .ok (.iconst 1, 1) := by decide +kernel
theorem dX2_entitledTo_23 : decode cX2_entitledTo 23 = .ok (.iload_n 3, 1) := by decide +kernel
theorem dX2_entitledTo_24 : decode cX2_entitledTo 24 = .ok (.ishl, 1) := by decide +kernel
theorem dX2_entitledTo_25 : decode cX2_entitledTo 25 = .ok (.ior, 1) := by decide +kernel
theorem dX2_entitledTo_26 : decode cX2_entitledTo 26 = .ok (.istore_n 2, 1) := by decide +kernel
theorem dX2_entitledTo_27 : decode cX2_entitledTo 27 = .ok (.iinc 3 1, 3) := by decide +kernel
theorem dX2_entitledTo_30 : decode cX2_entitledTo 30 = .ok (.goto (-26), 3) := by decide +kernel
theorem dX2_entitledTo_33 : decode cX2_entitledTo 33 = .ok (.iload_n 2, 1) := by decide +kernel
theorem dX2_entitledTo_34 : decode cX2_entitledTo 34 = .ok (.ireturn, 1) := by decide +kernel
theorem dX2_refusalWhileListOpen_0 : decode cX2_refusalWhileListOpen 0 = .ok (.aload_n 0, 1) := by decide +kernel
theorem dX2_refusalWhileListOpen_1 : decode cX2_refusalWhileListOpen 1 = .ok (.iload_n 1, 1) := by decide +kernel
theorem dX2_refusalWhileListOpen_2 : decode cX2_refusalWhileListOpen 2 = .ok (.iload_n 2, 1) := by decide +kernel
theorem dX2_refusalWhileListOpen_3 : decode cX2_refusalWhileListOpen 3 = .ok (.invokevirtual 134, 3) := by decide +kernel
theorem dX2_refusalWhileListOpen_6 : decode cX2_refusalWhileListOpen 6 = .ok (.astore_n 3, 1) := by decide +kernel
theorem dX2_refusalWhileListOpen_7 : decode cX2_refusalWhileListOpen 7 = .ok (.aload_n 3, 1) := by decide +kernel
theorem dX2_refusalWhileListOpen_8 : decode cX2_refusalWhileListOpen 8 = .ok (.getstatic 76, 3) := by decide +kernel
theorem dX2_refusalWhileListOpen_11 : decode cX2_refusalWhileListOpen 11 = .ok (.if_acmp .eq 5, 3) := by decide +kernel
theorem dX2_refusalWhileListOpen_14 : decode cX2_refusalWhileListOpen 14 = .ok (.aload_n 3, 1) := by decide +kernel
theorem dX2_refusalWhileListOpen_15 : decode cX2_refusalWhileListOpen 15 = .ok (.areturn, 1) := by decide +kernel
theorem dX2_refusalWhileListOpen_16 : decode cX2_refusalWhileListOpen 16 = .ok (.aload_n 0, 1) := by decide +kernel
theorem dX2_refusalWhileListOpen_17 : decode cX2_refusalWhileListOpen 17 = .ok (.iload_n 1, 1) := by decide +kernel
theorem dX2_refusalWhileListOpen_18 : decode cX2_refusalWhileListOpen 18 = .ok (.iload_n 2, 1) := by decide +kernel
theorem dX2_refusalWhileListOpen_19 : decode cX2_refusalWhileListOpen 19 = .ok (.invokevirtual 130, 3) := by decide +kernel
theorem dX2_refusalWhileListOpen_22 : decode cX2_refusalWhileListOpen 22 = .ok (.ifCond .ne 7, 3) := by decide +kernel
theorem dX2_refusalWhileListOpen_25 : decode cX2_refusalWhileListOpen 25 = .ok (.getstatic 138, 3) := by decide +kernel
theorem dX2_refusalWhileListOpen_28 : decode cX2_refusalWhileListOpen 28 = .ok (.areturn, 1) := by decide +kernel
theorem dX2_refusalWhileListOpen_29 : decode cX2_refusalWhileListOpen 29 = .ok (.aload_n 0, 1) := by decide +kernel
theorem dX2_refusalWhileListOpen_30 : decode cX2_refusalWhileListOpen 30 = .ok (.getfield 29, 3) := by decide +kernel
theorem dX2_refusalWhileListOpen_33 : decode cX2_refusalWhileListOpen 33 = .ok (.iload_n 1, 1) := by decide +kernel
theorem dX2_refusalWhileListOpen_34 : decode cX2_refusalWhileListOpen 34 = .ok (.aaload, 1) := by decide +kernel
theorem dX2_refusalWhileListOpen_35 : decode cX2_refusalWhileListOpen 35 = .ok (.getfield 141, 3) := by decide +kernel
theorem dX2_refusalWhileListOpen_38 : decode cX2_refusalWhileListOpen 38 = .ok (.ifCond .eq 7, 3) := by decide +kernel
theorem dX2_refusalWhileListOpen_41 : decode cX2_refusalWhileListOpen 41 = .ok (.getstatic 145, 3) := by decide +kernel
theorem dX2_refusalWhileListOpen_44 : decode cX2_refusalWhileListOpen 44 = .ok (.areturn, 1) := by decide +kernel
theorem dX2_refusalWhileListOpen_45 : decode cX2_refusalWhileListOpen 45 = .ok (.aload_n 0, 1) := by decide +kernel
theorem dX2_refusalWhileListOpen_46 : decode cX2_refusalWhileListOpen 46 = .ok (.getfield 29, 3) := by decide +kernel
theorem dX2_refusalWhileListOpen_49 : decode cX2_refusalWhileListOpen 49 = .ok (.iload_n 1, 1) := by decide +kernel
theorem dX2_refusalWhileListOpen_50 : decode cX2_refusalWhileListOpen 50 = .ok (.aaload, 1) := by decide +kernel
theorem dX2_refusalWhileListOpen_51 : decode cX2_refusalWhileListOpen 51 = .ok (.getfield 148, 3) := by decide +kernel
theorem dX2_refusalWhileListOpen_54 : decode cX2_refusalWhileListOpen 54 = .ok (.ifCond .eq 9, 3) := by decide +kernel
theorem dX2_refusalWhileListOpen_57 : decode cX2_refusalWhileListOpen 57 = .ok (.getstatic 151, 3) := by decide +kernel
theorem dX2_refusalWhileListOpen_60 : decode cX2_refusalWhileListOpen 60 = .ok (.goto 6, 3) := by decide +kernel
theorem dX2_refusalWhileListOpen_63 : decode cX2_refusalWhileListOpen 63 = .ok (.getstatic 76, 3) := by decide +kernel
theorem dX2_refusalWhileListOpen_66 : decode cX2_refusalWhileListOpen 66 = .ok (.areturn, 1) := by decide +kernel
theorem dX2_refusalToEnlist_0 : decode cX2_refusalToEnlist 0 = .ok (.aload_n 0, 1) := by decide +kernel
theorem dX2_refusalToEnlist_1 : decode cX2_refusalToEnlist 1 = .ok (.iload_n 1, 1) := by decide +kernel
theorem dX2_refusalToEnlist_2 : decode cX2_refusalToEnlist 2 = .ok (.iload_n 2, 1) := by decide +kernel
theorem dX2_refusalToEnlist_3 : decode cX2_refusalToEnlist 3 = .ok (.invokevirtual 154, 3) := by decide +kernel
theorem dX2_refusalToEnlist_6 : decode cX2_refusalToEnlist 6 = .ok (.astore_n 3, 1) := by decide +kernel
theorem dX2_refusalToEnlist_7 : decode cX2_refusalToEnlist 7 = .ok (.aload_n 3, 1) := by decide +kernel
theorem dX2_refusalToEnlist_8 : decode cX2_refusalToEnlist 8 = .ok (.getstatic 76, 3) := by decide +kernel
theorem dX2_refusalToEnlist_11 : decode cX2_refusalToEnlist 11 = .ok (.if_acmp .eq 5, 3) := by decide +kernel
theorem dX2_refusalToEnlist_14 : decode cX2_refusalToEnlist 14 = .ok (.aload_n 3, 1) := by decide +kernel
theorem dX2_refusalToEnlist_15 : decode cX2_refusalToEnlist 15 = .ok (.areturn, 1) := by decide +kernel
theorem dX2_refusalToEnlist_16 : decode cX2_refusalToEnlist 16 = .ok (.aload_n 0, 1) := by decide +kernel
theorem dX2_refusalToEnlist_17 : decode cX2_refusalToEnlist 17 = .ok (.getfield 29, 3) := by decide +kernel
theorem dX2_refusalToEnlist_20 : decode cX2_refusalToEnlist 20 = .ok (.iload_n 1, 1) := by decide +kernel
theorem dX2_refusalToEnlist_21 : decode cX2_refusalToEnlist 21 = .ok (.aaload, 1) := by decide +kernel
theorem dX2_refusalToEnlist_22 : decode cX2_refusalToEnlist 22 = .ok (.iload_n 2, 1) := by decide +kernel
theorem dX2_refusalToEnlist_23 : decode cX2_refusalToEnlist 23 = .ok (.invokevirtual 157, 3) := by decide +kernel
theorem dX2_refusalToEnlist_26 : decode cX2_refusalToEnlist 26 = .ok (.iconst (-1), 1) := by decide +kernel
theorem dX2_refusalToEnlist_27 : decode cX2_refusalToEnlist 27 = .ok (.if_icmp .ne 9, 3) := by decide +kernel
theorem dX2_refusalToEnlist_30 : decode cX2_refusalToEnlist 30 = .ok (.getstatic 76, 3) := by decide +kernel
theorem dX2_refusalToEnlist_33 : decode cX2_refusalToEnlist 33 = .ok (.goto 6, 3) := by decide +kernel
theorem dX2_refusalToEnlist_36 : decode cX2_refusalToEnlist 36 = .ok (.getstatic 160, 3) := by decide +kernel
theorem dX2_refusalToEnlist_39 : decode cX2_refusalToEnlist 39 = .ok (.areturn, 1) := by decide +kernel
theorem dX2_enlist_0 : decode cX2_enlist 0 = .ok (.aload_n 0, 1) := by decide +kernel
theorem dX2_enlist_1 : decode cX2_enlist 1 = .ok (.getfield 29, 3) := by decide +kernel
theorem dX2_enlist_4 : decode cX2_enlist 4 = .ok (.iload_n 1, 1) := by decide +kernel
theorem dX2_enlist_5 : decode cX2_enlist 5 = .ok (.aaload, 1) := by decide +kernel
theorem dX2_enlist_6 : decode cX2_enlist 6 = .ok (.astore_n 3, 1) := by decide +kernel
theorem dX2_enlist_7 : decode cX2_enlist 7 = .ok (.aload_n 3, 1) := by decide +kernel
theorem dX2_enlist_8 : decode cX2_enlist 8 = .ok (.iload_n 2, 1) := by decide +kernel
theorem dX2_enlist_9 : decode cX2_enlist 9 = .ok (.invokevirtual 163, 3) := by decide +kernel
theorem dX2_enlist_12 : decode cX2_enlist 12 = .ok (.aload_n 3, 1) := by decide +kernel
theorem dX2_enlist_13 : decode cX2_enlist 13 = .ok (.getfield 167, 3) := by decide +kernel
theorem dX2_enlist_16 : decode cX2_enlist 16 = .ok (.ireturn, 1) := by decide +kernel
theorem dX2_refusalToUnlist_0 : decode cX2_refusalToUnlist 0 = .ok (.aload_n 0, 1) := by decide +kernel
theorem dX2_refusalToUnlist_1 : decode cX2_refusalToUnlist 1 = .ok (.iload_n 1, 1) := by decide +kernel
theorem dX2_refusalToUnlist_2 : decode cX2_refusalToUnlist 2 = .ok (.iload_n 2, 1) := by decide +kernel
theorem dX2_refusalToUnlist_3 : decode cX2_refusalToUnlist 3 = .ok (.invokevirtual 134, 3) := by decide +kernel
theorem dX2_refusalToUnlist_6 : decode cX2_refusalToUnlist 6 = .ok (.astore_n 3, 1) := by decide +kernel
theorem dX2_refusalToUnlist_7 : decode cX2_refusalToUnlist 7 = .ok (.aload_n 3, 1) := by decide +kernel
theorem dX2_refusalToUnlist_8 : decode cX2_refusalToUnlist 8 = .ok (.getstatic 76, 3) := by decide +kernel
theorem dX2_refusalToUnlist_11 : decode cX2_refusalToUnlist 11 = .ok (.if_acmp .eq 5, 3) := by decide +kernel
theorem dX2_refusalToUnlist_14 : decode cX2_refusalToUnlist 14 = .ok (.aload_n 3, 1) := by decide +kernel
theorem dX2_refusalToUnlist_15 : decode cX2_refusalToUnlist 15 = .ok (.areturn, 1) := by decide +kernel
theorem dX2_refusalToUnlist_16 : decode cX2_refusalToUnlist 16 = .ok (.aload_n 0, 1) := by decide +kernel
theorem dX2_refusalToUnlist_17 : decode cX2_refusalToUnlist 17 = .ok (.getfield 29, 3) := by decide +kernel
theorem dX2_refusalToUnlist_20 : decode cX2_refusalToUnlist 20 = .ok (.iload_n 1, 1) := by decide +kernel
theorem dX2_refusalToUnlist_21 : decode cX2_refusalToUnlist 21 = .ok (.aaload, 1) := by decide +kernel
theorem dX2_refusalToUnlist_22 : decode cX2_refusalToUnlist 22 = .ok (.iload_n 2, 1) := by decide +kernel
theorem dX2_refusalToUnlist_23 : decode cX2_refusalToUnlist 23 = .ok (.invokevirtual 157, 3) := by decide +kernel
theorem dX2_refusalToUnlist_26 : decode cX2_refusalToUnlist 26 = .ok (.iconst (-1), 1) := by decide +kernel
theorem dX2_refusalToUnlist_27 : decode cX2_refusalToUnlist 27 = .ok (.if_icmp .ne 9, 3) := by decide +kernel
theorem dX2_refusalToUnlist_30 : decode cX2_refusalToUnlist 30 = .ok (.getstatic 170, 3) := by decide +kernel
theorem dX2_refusalToUnlist_33 : decode cX2_refusalToUnlist 33 = .ok (.goto 6, 3) := by decide +kernel
theorem dX2_refusalToUnlist_36 : decode cX2_refusalToUnlist 36 = .ok (.getstatic 76, 3) := by decide +kernel
theorem dX2_refusalToUnlist_39 : decode cX2_refusalToUnlist 39 = .ok (.areturn, 1) := by decide +kernel
theorem dX2_unlist_0 : decode cX2_unlist 0 = .ok (.aload_n 0, 1) := by decide +kernel
theorem dX2_unlist_1 : decode cX2_unlist 1 = .ok (.getfield 29, 3) := by decide +kernel
theorem dX2_unlist_4 : decode cX2_unlist 4 = .ok (.iload_n 1, 1) := by decide +kernel
theorem dX2_unlist_5 : decode cX2_unlist 5 = .ok (.aaload, 1) := by decide +kernel
theorem dX2_unlist_6 : decode cX2_unlist 6 = .ok (.astore_n 3, 1) := by decide +kernel
theorem dX2_unlist_7 : decode cX2_unlist 7 = .ok (.aload_n 3, 1) := by decide +kernel
theorem dX2_unlist_8 : decode cX2_unlist 8 = .ok (.aload_n 3, 1) := by decide +kernel
theorem dX2_unlist_9 : decode cX2_unlist 9 = .ok (.iload_n 2, 1) := by decide +kernel
theorem dX2_unlist_10 : decode cX2_unlist 10 = .ok (.invokevirtual 157, 3) := by decide +kernel
theorem dX2_unlist_13 : decode cX2_unlist 13 = .ok (.invokevirtual 173, 3) := by decide +kernel
theorem dX2_unlist_16 : decode cX2_unlist 16 = .ok (.aload_n 3, 1) := by decide +kernel
theorem dX2_unlist_17 : decode cX2_unlist 17 = .ok (.getfield 167, 3) := by decide +kernel
theorem dX2_unlist_20 : decode cX2_unlist 20 = .ok (.ireturn, 1) := by decide +kernel
theorem dX2_refusalToCall_0 : decode cX2_refusalToCall 0 = .ok (.aload_n 0, 1) := by decide +kernel
theorem dX2_refusalToCall_1 : decode cX2_refusalToCall 1 = .ok (.iload_n 1, 1) := by decide +kernel
theorem dX2_refusalToCall_2 : decode cX2_refusalToCall 2 = .ok (.invokevirtual 63, 3) := by decide +kernel
theorem dX2_refusalToCall_5 : decode cX2_refusalToCall 5 = .ok (.ifCond .ne 7, 3) := by decide +kernel
theorem dX2_refusalToCall_8 : decode cX2_refusalToCall 8 = .ok (.getstatic 67, 3) := by decide +kernel
theorem dX2_refusalToCall_11 : decode cX2_refusalToCall 11 = .ok (.areturn, 1) := by decide +kernel
theorem dX2_refusalToCall_12 : decode cX2_refusalToCall 12 = .ok (.aload_n 0, 1) := by decide +kernel
theorem dX2_refusalToCall_13 : decode cX2_refusalToCall 13 = .ok (.getfield 29, 3) := by decide +kernel
theorem dX2_refusalToCall_16 : decode cX2_refusalToCall 16 = .ok (.iload_n 1, 1) := by decide +kernel
theorem dX2_refusalToCall_17 : decode cX2_refusalToCall 17 = .ok (.aaload, 1) := by decide +kernel
theorem dX2_refusalToCall_18 : decode cX2_refusalToCall 18 = .ok (.getfield 167, 3) := by decide +kernel
theorem dX2_refusalToCall_21 : decode cX2_refusalToCall 21 = .ok (.ifCond .le 9, 3) := by decide +kernel
theorem dX2_refusalToCall_24 : decode cX2_refusalToCall 24 = .ok (.getstatic 76, 3) := by decide +kernel
theorem dX2_refusalToCall_27 : decode cX2_refusalToCall 27 = .ok (.goto 6, 3) := by decide +kernel
theorem dX2_refusalToCall_30 : decode cX2_refusalToCall 30 = .ok (.getstatic 176, 3) := by decide +kernel
theorem dX2_refusalToCall_33 : decode cX2_refusalToCall 33 = .ok (.areturn, 1) := by decide +kernel
theorem dX2_callFirst_0 : decode cX2_callFirst 0 = .ok (.aload_n 0, 1) := by decide +kernel
theorem dX2_callFirst_1 : decode cX2_callFirst 1 = .ok (.getfield 29, 3) := by decide +kernel
theorem dX2_callFirst_4 : decode cX2_callFirst 4 = .ok (.iload_n 1, 1) := by decide +kernel
theorem dX2_callFirst_5 : decode cX2_callFirst 5 = .ok (.aaload, 1) := by decide +kernel
theorem dX2_callFirst_6 : decode cX2_callFirst 6 = .ok (.astore_n 2, 1) := by decide +kernel
theorem dX2_callFirst_7 : decode cX2_callFirst 7 = .ok (.aload_n 0, 1) := by decide +kernel
theorem dX2_callFirst_8 : decode cX2_callFirst 8 = .ok (.iload_n 1, 1) := by decide +kernel
theorem dX2_callFirst_9 : decode cX2_callFirst 9 = .ok (.invokevirtual 179, 3) := by decide +kernel
theorem dX2_callFirst_12 : decode cX2_callFirst 12 = .ok (.istore_n 3, 1) := by decide +kernel
theorem dX2_callFirst_13 : decode cX2_callFirst 13 = .ok (.aload_n 2, 1) := by decide +kernel
theorem dX2_callFirst_14 : decode cX2_callFirst 14 = .ok (.getfield 182, 3) := by decide +kernel
theorem dX2_callFirst_17 : decode cX2_callFirst 17 = .ok (.iload_n 3, 1) := by decide +kernel
theorem dX2_callFirst_18 : decode cX2_callFirst 18 = .ok (.iaload, 1) := by decide +kernel
theorem dX2_callFirst_19 : decode cX2_callFirst 19 = .ok (.istore 4, 2) := by decide +kernel
theorem dX2_callFirst_21 : decode cX2_callFirst 21 = .ok (.aload_n 2, 1) := by decide +kernel
theorem dX2_callFirst_22 : decode cX2_callFirst 22 = .ok (.iload_n 3, 1) := by decide +kernel
theorem dX2_callFirst_23 : decode cX2_callFirst 23 = .ok (.invokevirtual 173, 3) := by decide +kernel
theorem dX2_callFirst_26 : decode cX2_callFirst 26 = .ok (.aload_n 0, 1) := by decide +kernel
theorem dX2_callFirst_27 : decode cX2_callFirst 27 = .ok (.iload 4, 2) := by decide +kernel
theorem dX2_callFirst_29 : decode cX2_callFirst 29 = .ok (.invokevirtual 110, 3) := by decide +kernel
theorem dX2_callFirst_32 : decode cX2_callFirst 32 = .ok (.ifCond .ne 15, 3) := by decide +kernel
theorem dX2_callFirst_35 : decode cX2_callFirst 35 = .ok (.aload_n 0, 1) := by decide +kernel
theorem dX2_callFirst_36 : decode cX2_callFirst 36 = .ok (.dup, 1) := by decide +kernel
theorem dX2_callFirst_37 : decode cX2_callFirst 37 = .ok (.getfield 60, 3) := by decide +kernel
theorem dX2_callFirst_40 : decode cX2_callFirst 40 = .ok (.iconst 1, 1) := by decide +kernel
theorem dX2_callFirst_41 : decode cX2_callFirst 41 = .ok (.iadd, 1) := by decide +kernel
theorem dX2_callFirst_42 : decode cX2_callFirst 42 = .ok (.putfield 60, 3) := by decide +kernel
theorem dX2_callFirst_45 : decode cX2_callFirst 45 = .ok (.iconst 0, 1) := by decide +kernel
theorem dX2_callFirst_46 : decode cX2_callFirst 46 = .ok (.ireturn, 1) := by decide +kernel
theorem dX2_callFirst_47 : decode cX2_callFirst 47 = .ok (.aload_n 0, 1) := by decide +kernel
theorem dX2_callFirst_48 : decode cX2_callFirst 48 = .ok (.getfield 21, 3) := by decide +kernel
theorem dX2_callFirst_51 : decode cX2_callFirst 51 = .ok (.iload 4, 2) := by decide +kernel
theorem dX2_callFirst_53 : decode cX2_callFirst 53 = .ok (.dup2, 1) := by decide +kernel
theorem dX2_callFirst_54 : decode cX2_callFirst 54 = .ok (.iaload, 1) := by decide +kernel
theorem dX2_callFirst_55 : decode cX2_callFirst 55 = .ok (.iconst 1, 1) := by decide +kernel
theorem dX2_callFirst_56 : decode cX2_callFirst 56 = .ok (.iadd, 1) := by decide +kernel
theorem dX2_callFirst_57 : decode cX2_callFirst 57 = .ok (.iastore, 1) := by decide +kernel
theorem dX2_callFirst_58 : decode cX2_callFirst 58 = .ok (.aload_n 2, 1) := by decide +kernel
theorem dX2_callFirst_59 : decode cX2_callFirst 59 = .ok (.dup, 1) := by decide +kernel
theorem dX2_callFirst_60 : decode cX2_callFirst 60 = .ok (.getfield 185, 3) := by decide +kernel
theorem dX2_callFirst_63 : decode cX2_callFirst 63 = .ok (.iconst 1, 1) := by decide +kernel
theorem dX2_callFirst_64 : decode cX2_callFirst 64 = .ok (.iadd, 1) := by decide +kernel
theorem dX2_callFirst_65 : decode cX2_callFirst 65 = .ok (.putfield 185, 3) := by decide +kernel
theorem dX2_callFirst_68 : decode cX2_callFirst 68 = .ok (.aload_n 0, 1) := by decide +kernel
theorem dX2_callFirst_69 : decode cX2_callFirst 69 = .ok (.dup, 1) := by decide +kernel
theorem dX2_callFirst_70 : decode cX2_callFirst 70 = .ok (.getfield 57, 3) := by decide +kernel
theorem dX2_callFirst_73 : decode cX2_callFirst 73 = .ok (.iconst 1, 1) := by decide +kernel
theorem dX2_callFirst_74 : decode cX2_callFirst 74 = .ok (.iadd, 1) := by decide +kernel
theorem dX2_callFirst_75 : decode cX2_callFirst 75 = .ok (.putfield 57, 3) := by decide +kernel
theorem dX2_callFirst_78 : decode cX2_callFirst 78 = .ok (.iconst 1, 1) := by decide +kernel
theorem dX2_callFirst_79 : decode cX2_callFirst 79 = .ok (.ireturn, 1) := by decide +kernel
theorem dX2_firstPlace_0 : decode cX2_firstPlace 0 = .ok (.aload_n 0, 1) := by decide +kernel
theorem dX2_firstPlace_1 : decode cX2_firstPlace 1 = .ok (.getfield 29, 3) := by decide +kernel
theorem dX2_firstPlace_4 : decode cX2_firstPlace 4 = .ok (.iload_n 1, 1) := by decide +kernel
theorem dX2_firstPlace_5 : decode cX2_firstPlace 5 = .ok (.aaload, 1) := by decide +kernel
theorem dX2_firstPlace_6 : decode cX2_firstPlace 6 = .ok (.astore_n 2, 1) := by decide +kernel
theorem dX2_firstPlace_7 : decode cX2_firstPlace 7 = .ok (.iconst 0, 1) := by decide +kernel
theorem dX2_firstPlace_8 : decode cX2_firstPlace 8 = .ok (.istore_n 3, 1) := by decide +kernel
theorem dX2_firstPlace_9 : decode cX2_firstPlace 9 = .ok (.iconst 1, 1) := by decide +kernel
theorem dX2_firstPlace_10 : decode cX2_firstPlace 10 = .ok (.istore 4, 2) := by decide +kernel
theorem dX2_firstPlace_12 : decode cX2_firstPlace 12 = .ok (.iload 4, 2) := by decide +kernel
theorem dX2_firstPlace_14 : decode cX2_firstPlace 14 = .ok (.aload_n 2, 1) := by decide +kernel
theorem dX2_firstPlace_15 : decode cX2_firstPlace 15 = .ok (.getfield 167, 3) := by decide +kernel
theorem dX2_firstPlace_18 : decode cX2_firstPlace 18 = .ok (.if_icmp .ge 23, 3) := by decide +kernel
theorem dX2_firstPlace_21 : decode cX2_firstPlace 21 = .ok (.aload_n 0, 1) := by decide +kernel
theorem dX2_firstPlace_22 : decode cX2_firstPlace 22 = .ok (.aload_n 2, 1) := by decide +kernel
theorem dX2_firstPlace_23 : decode cX2_firstPlace 23 = .ok (.iload 4, 2) := by decide +kernel
theorem dX2_firstPlace_25 : decode cX2_firstPlace 25 = .ok (.iload_n 3, 1) := by decide +kernel
theorem dX2_firstPlace_26 : decode cX2_firstPlace 26 = .ok (.invokevirtual 188, 3) := by decide +kernel
theorem dX2_firstPlace_29 : decode cX2_firstPlace 29 = .ok (.ifCond .eq 6, 3) := by decide +kernel
theorem dX2_firstPlace_32 : decode cX2_firstPlace 32 = .ok (.iload 4, 2) := by decide +kernel
theorem dX2_firstPlace_34 : decode cX2_firstPlace 34 = .ok (.istore_n 3, 1) := by decide +kernel
theorem dX2_firstPlace_35 : decode cX2_firstPlace 35 = .ok (.iinc 4 1, 3) := by decide +kernel
theorem dX2_firstPlace_38 : decode cX2_firstPlace 38 = .ok (.goto (-26), 3) := by decide +kernel
theorem dX2_firstPlace_41 : decode cX2_firstPlace 41 = .ok (.iload_n 3, 1) := by decide +kernel
theorem dX2_firstPlace_42 : decode cX2_firstPlace 42 = .ok (.ireturn, 1) := by decide +kernel
theorem dX2_isCalledBefore_0 : decode cX2_isCalledBefore 0 = .ok (.aload_n 0, 1) := by decide +kernel
theorem dX2_isCalledBefore_1 : decode cX2_isCalledBefore 1 = .ok (.getfield 21, 3) := by decide +kernel
theorem dX2_isCalledBefore_4 : decode cX2_isCalledBefore 4 = .ok (.aload_n 1, 1) := by decide +kernel
theorem dX2_isCalledBefore_5 : decode cX2_isCalledBefore 5 = .ok (.getfield 182, 3) := by decide +kernel
theorem dX2_isCalledBefore_8 : decode cX2_isCalledBefore 8 = .ok (.iload_n 2, 1) := by decide +kernel
theorem dX2_isCalledBefore_9 : decode cX2_isCalledBefore 9 = .ok (.iaload, 1) := by decide +kernel
theorem dX2_isCalledBefore_10 : decode cX2_isCalledBefore 10 = .ok (.iaload, 1) := by decide +kernel
theorem dX2_isCalledBefore_11 : decode cX2_isCalledBefore 11 = .ok (.istore 4, 2) := by decide +kernel
theorem dX2_isCalledBefore_13 : decode cX2_isCalledBefore 13 = .ok (.aload_n 0, 1) := by decide +kernel
theorem dX2_isCalledBefore_14 : decode cX2_isCalledBefore 14 = .ok (.getfield 21, 3) := by decide +kernel
theorem dX2_isCalledBefore_17 : decode cX2_isCalledBefore 17 = .ok (.aload_n 1, 1) := by decide +kernel
theorem dX2_isCalledBefore_18 : decode cX2_isCalledBefore 18 = .ok (.getfield 182, 3) := by decide +kernel
theorem dX2_isCalledBefore_21 : decode cX2_isCalledBefore 21 = .ok (.iload_n 3, 1) := by decide +kernel
theorem dX2_isCalledBefore_22 : decode cX2_isCalledBefore 22 = .ok (.iaload, 1) := by decide +kernel
theorem dX2_isCalledBefore_23 : decode cX2_isCalledBefore 23 = .ok (.iaload, 1) := by decide +kernel
theorem dX2_isCalledBefore_24 : decode cX2_isCalledBefore 24 = .ok (.istore 5, 2) := by decide +kernel
theorem dX2_isCalledBefore_26 : decode cX2_isCalledBefore 26 = .ok (.iload 4, 2) := by decide +kernel
theorem dX2_isCalledBefore_28 : decode cX2_isCalledBefore 28 = .ok (.iload 5, 2) := by decide +kernel
theorem dX2_isCalledBefore_30 : decode cX2_isCalledBefore 30 = .ok (.if_icmp .eq 18, 3) := by decide +kernel
theorem dX2_isCalledBefore_33 : decode cX2_isCalledBefore 33 = .ok (.iload 4, 2) := by decide +kernel
theorem dX2_isCalledBefore_35 : decode cX2_isCalledBefore 35 = .ok (.iload 5, 2) := by decide +kernel
theorem dX2_isCalledBefore_37 : decode cX2_isCalledBefore 37 = .ok (.if_icmp .ge 7, 3) := by decide +kernel
theorem dX2_isCalledBefore_40 : decode cX2_isCalledBefore 40 = .ok (.iconst 1, 1) := by decide +kernel
theorem dX2_isCalledBefore_41 : decode cX2_isCalledBefore 41 = .ok (.goto 17, 3) := by decide +kernel
theorem dX2_isCalledBefore_44 : decode cX2_isCalledBefore 44 = .ok (.iconst 0, 1) := by decide +kernel
theorem dX2_isCalledBefore_45 : decode cX2_isCalledBefore 45 = .ok (.goto 13, 3) := by decide +kernel
theorem dX2_isCalledBefore_48 : decode cX2_isCalledBefore 48 = .ok (.iload_n 2, 1) := by decide +kernel
theorem dX2_isCalledBefore_49 : decode cX2_isCalledBefore 49 = .ok (.iload_n 3, 1) := by decide +kernel
theorem dX2_isCalledBefore_50 : decode cX2_isCalledBefore 50 = .ok (.if_icmp .ge 7, 3) := by decide +kernel
theorem dX2_isCalledBefore_53 : decode cX2_isCalledBefore 53 = .ok (.iconst 1, 1) := by decide +kernel
theorem dX2_isCalledBefore_54 : decode cX2_isCalledBefore 54 = .ok (.goto 4, 3) := by decide +kernel
theorem dX2_isCalledBefore_57 : decode cX2_isCalledBefore 57 = .ok (.iconst 0, 1) := by decide +kernel
theorem dX2_isCalledBefore_58 : decode cX2_isCalledBefore 58 = .ok (.ireturn, 1) := by decide +kernel
theorem dX2_countRankedBefore_0 : decode cX2_countRankedBefore 0 = .ok (.iconst 0, 1) := by decide +kernel
theorem dX2_countRankedBefore_1 : decode cX2_countRankedBefore 1 = .ok (.istore_n 2, 1) := by decide +kernel
theorem dX2_countRankedBefore_2 : decode cX2_countRankedBefore 2 = .ok (.iconst 0, 1) := by decide +kernel
theorem dX2_countRankedBefore_3 : decode cX2_countRankedBefore 3 = .ok (.istore_n 3, 1) := by decide +kernel
theorem dX2_countRankedBefore_4 : decode cX2_countRankedBefore 4 = .ok (.iload_n 3, 1) := by decide +kernel
theorem dX2_countRankedBefore_5 : decode cX2_countRankedBefore 5 = .ok (.aload_n 0, 1) := by decide +kernel
theorem dX2_countRankedBefore_6 : decode cX2_countRankedBefore 6 = .ok (.getfield 34, 3) := by decide +kernel
theorem dX2_countRankedBefore_9 : decode cX2_countRankedBefore 9 = .ok (.if_icmp .ge 21, 3) := by decide +kernel
theorem dX2_countRankedBefore_12 : decode cX2_countRankedBefore 12 = .ok (.aload_n 0, 1) := by decide +kernel
theorem dX2_countRankedBefore_13 : decode cX2_countRankedBefore 13 = .ok (.iload_n 3, 1) := by decide +kernel
theorem dX2_countRankedBefore_14 : decode cX2_countRankedBefore 14 = .ok (.iload_n 1, 1) := by decide +kernel
theorem dX2_countRankedBefore_15 : decode cX2_countRankedBefore 15 = .ok (.invokevirtual 192, 3) := by decide +kernel
theorem dX2_countRankedBefore_18 : decode cX2_countRankedBefore 18 = .ok (.ifCond .eq 6, 3) := by decide +kernel
theorem dX2_countRankedBefore_21 : decode cX2_countRankedBefore 21 = .ok (.iinc 2 1, 3) := by decide +kernel
theorem dX2_countRankedBefore_24 : decode cX2_countRankedBefore 24 = .ok (.iinc 3 1, 3) := by decide +kernel
theorem dX2_countRankedBefore_27 : decode cX2_countRankedBefore 27 = .ok (.goto (-23), 3) := by decide +kernel
theorem dX2_countRankedBefore_30 : decode cX2_countRankedBefore 30 = .ok (.iload_n 2, 1) := by decide +kernel
theorem dX2_countRankedBefore_31 : decode cX2_countRankedBefore 31 = .ok (.ireturn, 1) := by decide +kernel
theorem dX2_isRankedBefore_0 : decode cX2_isRankedBefore 0 = .ok (.aload_n 0, 1) := by decide +kernel
theorem dX2_isRankedBefore_1 : decode cX2_isRankedBefore 1 = .ok (.getfield 21, 3) := by decide +kernel
theorem dX2_isRankedBefore_4 : decode cX2_isRankedBefore 4 = .ok (.iload_n 1, 1) := by decide +kernel
theorem dX2_isRankedBefore_5 : decode cX2_isRankedBefore 5 = .ok (.iaload, 1) := by decide +kernel
theorem dX2_isRankedBefore_6 : decode cX2_isRankedBefore 6 = .ok (.aload_n 0, 1) := by decide +kernel
theorem dX2_isRankedBefore_7 : decode cX2_isRankedBefore 7 = .ok (.getfield 21, 3) := by decide +kernel
theorem dX2_isRankedBefore_10 : decode cX2_isRankedBefore 10 = .ok (.iload_n 2, 1) := by decide +kernel
theorem dX2_isRankedBefore_11 : decode cX2_isRankedBefore 11 = .ok (.iaload, 1) := by decide +kernel
theorem dX2_isRankedBefore_12 : decode cX2_isRankedBefore 12 = .ok (.if_icmp .eq 24, 3) := by decide +kernel
theorem dX2_isRankedBefore_15 : decode cX2_isRankedBefore 15 = .ok (.aload_n 0, 1) := by decide +kernel
theorem dX2_isRankedBefore_16 : decode cX2_isRankedBefore 16 = .ok (.getfield 21, 3) := by decide +kernel
theorem dX2_isRankedBefore_19 : decode cX2_isRankedBefore 19 = .ok (.iload_n 1, 1) := by decide +kernel
theorem dX2_isRankedBefore_20 : decode cX2_isRankedBefore 20 = .ok (.iaload, 1) := by decide +kernel
theorem dX2_isRankedBefore_21 : decode cX2_isRankedBefore 21 = .ok (.aload_n 0, 1) := by decide +kernel
theorem dX2_isRankedBefore_22 : decode cX2_isRankedBefore 22 = .ok (.getfield 21, 3) := by decide +kernel
theorem dX2_isRankedBefore_25 : decode cX2_isRankedBefore 25 = .ok (.iload_n 2, 1) := by decide +kernel
theorem dX2_isRankedBefore_26 : decode cX2_isRankedBefore 26 = .ok (.iaload, 1) := by decide +kernel
theorem dX2_isRankedBefore_27 : decode cX2_isRankedBefore 27 = .ok (.if_icmp .le 7, 3) := by decide +kernel
theorem dX2_isRankedBefore_30 : decode cX2_isRankedBefore 30 = .ok (.iconst 1, 1) := by decide +kernel
theorem dX2_isRankedBefore_31 : decode cX2_isRankedBefore 31 = .ok (.goto 4, 3) := by decide +kernel
theorem dX2_isRankedBefore_34 : decode cX2_isRankedBefore 34 = .ok (.iconst 0, 1) := by decide +kernel
theorem dX2_isRankedBefore_35 : decode cX2_isRankedBefore 35 = .ok (.ireturn, 1) := by decide +kernel
theorem dX2_isRankedBefore_36 : decode cX2_isRankedBefore 36 = .ok (.aload_n 0, 1) := by decide +kernel
theorem dX2_isRankedBefore_37 : decode cX2_isRankedBefore 37 = .ok (.getfield 15, 3) := by decide +kernel
theorem dX2_isRankedBefore_40 : decode cX2_isRankedBefore 40 = .ok (.iload_n 1, 1) := by decide +kernel
theorem dX2_isRankedBefore_41 : decode cX2_isRankedBefore 41 = .ok (.iaload, 1) := by decide +kernel
theorem dX2_isRankedBefore_42 : decode cX2_isRankedBefore 42 = .ok (.aload_n 0, 1) := by decide +kernel
theorem dX2_isRankedBefore_43 : decode cX2_isRankedBefore 43 = .ok (.getfield 15, 3) := by decide +kernel
theorem dX2_isRankedBefore_46 : decode cX2_isRankedBefore 46 = .ok (.iload_n 2, 1) := by decide +kernel
theorem dX2_isRankedBefore_47 : decode cX2_isRankedBefore 47 = .ok (.iaload, 1) := by decide +kernel
theorem dX2_isRankedBefore_48 : decode cX2_isRankedBefore 48 = .ok (.if_icmp .eq 24, 3) := by decide +kernel
theorem dX2_isRankedBefore_51 : decode cX2_isRankedBefore 51 = .ok (.aload_n 0, 1) := by decide +kernel
theorem dX2_isRankedBefore_52 : decode cX2_isRankedBefore 52 = .ok (.getfield 15, 3) := by decide +kernel
theorem dX2_isRankedBefore_55 : decode cX2_isRankedBefore 55 = .ok (.iload_n 1, 1) := by decide +kernel
theorem dX2_isRankedBefore_56 : decode cX2_isRankedBefore 56 = .ok (.iaload, 1) := by decide +kernel
theorem dX2_isRankedBefore_57 : decode cX2_isRankedBefore 57 = .ok (.aload_n 0, 1) := by decide +kernel
theorem dX2_isRankedBefore_58 : decode cX2_isRankedBefore 58 = .ok (.getfield 15, 3) := by decide +kernel
theorem dX2_isRankedBefore_61 : decode cX2_isRankedBefore 61 = .ok (.iload_n 2, 1) := by decide +kernel
theorem dX2_isRankedBefore_62 : decode cX2_isRankedBefore 62 = .ok (.iaload, 1) := by decide +kernel
theorem dX2_isRankedBefore_63 : decode cX2_isRankedBefore 63 = .ok (.if_icmp .le 7, 3) := by decide +kernel
theorem dX2_isRankedBefore_66 : decode cX2_isRankedBefore 66 = .ok (.iconst 1, 1) := by decide +kernel
theorem dX2_isRankedBefore_67 : decode cX2_isRankedBefore 67 = .ok (.goto 4, 3) := by decide +kernel
theorem dX2_isRankedBefore_70 : decode cX2_isRankedBefore 70 = .ok (.iconst 0, 1) := by decide +kernel
theorem dX2_isRankedBefore_71 : decode cX2_isRankedBefore 71 = .ok (.ireturn, 1) := by decide +kernel
theorem dX2_isRankedBefore_72 : decode cX2_isRankedBefore 72 = .ok (.iload_n 1, 1) := by decide +kernel
theorem dX2_isRankedBefore_73 : decode cX2_isRankedBefore 73 = .ok (.iload_n 2, 1) := by decide +kernel
theorem dX2_isRankedBefore_74 : decode cX2_isRankedBefore 74 = .ok (.if_icmp .ge 7, 3) := by decide +kernel
theorem dX2_isRankedBefore_77 : decode cX2_isRankedBefore 77 = .ok (.iconst 1, 1) := by decide +kernel
theorem dX2_isRankedBefore_78 : decode cX2_isRankedBefore 78 = .ok (.goto 4, 3) := by decide +kernel
theorem dX2_isRankedBefore_81 : decode cX2_isRankedBefore 81 = .ok (.iconst 0, 1) := by decide +kernel
theorem dX2_isRankedBefore_82 : decode cX2_isRankedBefore 82 = .ok (.ireturn, 1) := by decide +kernel
theorem dX2_refusalToSupport_0 : decode cX2_refusalToSupport 0 = .ok (.aload_n 0, 1) := by decide +kernel
theorem dX2_refusalToSupport_1 : decode cX2_refusalToSupport 1 = .ok (.iload_n 1, 1) := by decide +kernel
theorem dX2_refusalToSupport_2 : decode cX2_refusalToSupport 2 = .ok (.iload_n 2, 1) := by decide +kernel
theorem dX2_refusalToSupport_3 : decode cX2_refusalToSupport 3 = .ok (.invokevirtual 154, 3) := by decide +kernel
theorem dX2_refusalToSupport_6 : decode cX2_refusalToSupport 6 = .ok (.astore_n 3, 1) := by decide +kernel
theorem dX2_refusalToSupport_7 : decode cX2_refusalToSupport 7 = .ok (.aload_n 3, 1) := by decide +kernel
theorem dX2_refusalToSupport_8 : decode cX2_refusalToSupport 8 = .ok (.getstatic 76, 3) := by decide +kernel
theorem dX2_refusalToSupport_11 : decode cX2_refusalToSupport 11 = .ok (.if_acmp .eq 5, 3) := by decide +kernel
theorem dX2_refusalToSupport_14 : decode cX2_refusalToSupport 14 = .ok (.aload_n 3, 1) := by decide +kernel
theorem dX2_refusalToSupport_15 : decode cX2_refusalToSupport 15 = .ok (.areturn, 1) := by decide +kernel
theorem dX2_refusalToSupport_16 : decode cX2_refusalToSupport 16 = .ok (.aload_n 0, 1) := by decide +kernel
theorem dX2_refusalToSupport_17 : decode cX2_refusalToSupport 17 = .ok (.iload_n 2, 1) := by decide +kernel
theorem dX2_refusalToSupport_18 : decode cX2_refusalToSupport 18 = .ok (.invokevirtual 110, 3) := by decide +kernel
theorem dX2_refusalToSupport_21 : decode cX2_refusalToSupport 21 = .ok (.ifCond .eq 9, 3) := by decide +kernel
theorem dX2_refusalToSupport_24 : decode cX2_refusalToSupport 24 = .ok (.getstatic 76, 3) := by decide +kernel
theorem dX2_refusalToSupport_27 : decode cX2_refusalToSupport 27 = .ok (.goto 6, 3) := by decide +kernel
theorem dX2_refusalToSupport_30 : decode cX2_refusalToSupport 30 = .ok (.getstatic 195, 3) := by decide +kernel
theorem dX2_refusalToSupport_33 : decode cX2_refusalToSupport 33 = .ok (.areturn, 1) := by decide +kernel
theorem dX2_support_0 : decode cX2_support 0 = .ok (.aload_n 0, 1) := by decide +kernel
theorem dX2_support_1 : decode cX2_support 1 = .ok (.getfield 29, 3) := by decide +kernel
theorem dX2_support_4 : decode cX2_support 4 = .ok (.iload_n 1, 1) := by decide +kernel
theorem dX2_support_5 : decode cX2_support 5 = .ok (.aaload, 1) := by decide +kernel
theorem dX2_support_6 : decode cX2_support 6 = .ok (.astore_n 3, 1) := by decide +kernel
theorem dX2_support_7 : decode cX2_support 7 = .ok (.aload_n 3, 1) := by decide +kernel
theorem dX2_support_8 : decode cX2_support 8 = .ok (.dup, 1) := by decide +kernel
theorem dX2_support_9 : decode cX2_support 9 = .ok (.getfield 198, 3) := by decide +kernel
theorem dX2_support_12 : decode cX2_support 12 = .ok (.iconst 1, 1) := by decide +kernel
theorem dX2_support_13 : decode cX2_support 13 = .ok (.iload_n 2, 1) := by decide +kernel
theorem dX2_support_14 : decode cX2_support 14 = .ok (.ishl, 1) := by decide +kernel
theorem dX2_support_15 : decode cX2_support 15 = .ok (.ior, 1) := by decide +kernel
theorem dX2_support_16 : decode cX2_support 16 = .ok (.putfield 198, 3) := by decide +kernel
theorem dX2_support_19 : decode cX2_support 19 = .ok (.aload_n 3, 1) := by decide +kernel
theorem dX2_support_20 : decode cX2_support 20 = .ok (.iconst 2, 1) := by decide +kernel
theorem dX2_support_21 : decode cX2_support 21 = .ok (.aload_n 0, 1) := by decide +kernel
theorem dX2_support_22 : decode cX2_support 22 = .ok (.aload_n 3, 1) := by decide +kernel
theorem dX2_support_23 : decode cX2_support 23 = .ok (.getfield 198, 3) := by decide +kernel
theorem dX2_support_26 : decode cX2_support 26 = .ok (.invokevirtual 201, 3) := by decide +kernel
theorem dX2_support_29 : decode cX2_support 29 = .ok (.imul, 1) := by decide +kernel
theorem dX2_support_30 : decode cX2_support 30 = .ok (.aload_n 0, 1) := by decide +kernel
theorem dX2_support_31 : decode cX2_support 31 = .ok (.aload_n 0, 1) := by decide +kernel
theorem dX2_support_32 : decode cX2_support 32 = .ok (.iload_n 1, 1) := by decide +kernel
theorem dX2_support_33 : decode cX2_support 33 = .ok (.invokevirtual 204, 3) := by decide +kernel
theorem dX2_support_36 : decode cX2_support 36 = .ok (.invokevirtual 201, 3) := by decide +kernel
theorem dX2_support_39 : decode cX2_support 39 = .ok (.if_icmp .le 7, 3) := by decide +kernel
theorem dX2_support_42 : decode cX2_support 42 = .ok (.iconst 1, 1) := by decide +kernel
theorem dX2_support_43 : decode cX2_support 43 = .ok (.goto 4, 3) := by decide +kernel
theorem dX2_support_46 : decode cX2_support 46 = .ok (.iconst 0, 1) := by decide +kernel
theorem dX2_support_47 : decode cX2_support 47 = .ok (.putfield 148, 3) := by decide +kernel
theorem dX2_support_50 : decode cX2_support 50 = .ok (.aload_n 3, 1) := by decide +kernel
theorem dX2_support_51 : decode cX2_support 51 = .ok (.getfield 148, 3) := by decide +kernel
theorem dX2_support_54 : decode cX2_support 54 = .ok (.ireturn, 1) := by decide +kernel
theorem dX2_refusalToHear_0 : decode cX2_refusalToHear 0 = .ok (.aload_n 0, 1) := by decide +kernel
theorem dX2_refusalToHear_1 : decode cX2_refusalToHear 1 = .ok (.iload_n 1, 1) := by decide +kernel
theorem dX2_refusalToHear_2 : decode cX2_refusalToHear 2 = .ok (.iload_n 2, 1) := by decide +kernel
theorem dX2_refusalToHear_3 : decode cX2_refusalToHear 3 = .ok (.invokevirtual 134, 3) := by decide +kernel
theorem dX2_refusalToHear_6 : decode cX2_refusalToHear 6 = .ok (.astore 4, 2) := by decide +kernel
theorem dX2_refusalToHear_8 : decode cX2_refusalToHear 8 = .ok (.aload 4, 2) := by decide +kernel
theorem dX2_refusalToHear_10 : decode cX2_refusalToHear 10 = .ok (.getstatic 76, 3) := by decide +kernel
theorem dX2_refusalToHear_13 : decode cX2_refusalToHear 13 = .ok (.if_acmp .eq 6, 3) := by decide +kernel
theorem dX2_refusalToHear_16 : decode cX2_refusalToHear 16 = .ok (.aload 4, 2) := by decide +kernel
theorem dX2_refusalToHear_18 : decode cX2_refusalToHear 18 = .ok (.areturn, 1) := by decide +kernel
theorem dX2_refusalToHear_19 : decode cX2_refusalToHear 19 = .ok (.iload_n 3, 1) := by decide +kernel
theorem dX2_refusalToHear_20 : decode cX2_refusalToHear 20 = .ok (.iconst 1, 1) := by decide +kernel
theorem dX2_refusalToHear_21 : decode cX2_refusalToHear 21 = .ok (.if_icmp .lt 9, 3) := by decide +kernel
theorem dX2_refusalToHear_24 : decode cX2_refusalToHear 24 = .ok (.iload_n 3, 1) := by decide +kernel
theorem dX2_refusalToHear_25 : decode cX2_refusalToHear 25 = .ok (.bipush 9, 2) := by decide +kernel
theorem dX2_refusalToHear_27 : decode cX2_refusalToHear 27 = .ok (.if_icmp .le 7, 3) := by decide +kernel
theorem dX2_refusalToHear_30 : decode cX2_refusalToHear 30 = .ok (.getstatic 207, 3) := by decide +kernel
theorem dX2_refusalToHear_33 : decode cX2_refusalToHear 33 = .ok (.areturn, 1) := by decide +kernel
theorem dX2_refusalToHear_34 : decode cX2_refusalToHear 34 = .ok (.aload_n 0, 1) := by decide +kernel
theorem dX2_refusalToHear_35 : decode cX2_refusalToHear 35 = .ok (.iload_n 1, 1) := by decide +kernel
theorem dX2_refusalToHear_36 : decode cX2_refusalToHear 36 = .ok (.iload_n 2, 1) := by decide +kernel
theorem dX2_refusalToHear_37 : decode cX2_refusalToHear 37 = .ok (.invokevirtual 130, 3) := by decide +kernel
theorem dX2_refusalToHear_40 : decode cX2_refusalToHear 40 = .ok (.ifCond .ne 7, 3) := by decide +kernel
theorem dX2_refusalToHear_43 : decode cX2_refusalToHear 43 = .ok (.getstatic 138, 3) := by decide +kernel
theorem dX2_refusalToHear_46 : decode cX2_refusalToHear 46 = .ok (.areturn, 1) := by decide +kernel
theorem dX2_refusalToHear_47 : decode cX2_refusalToHear 47 = .ok (.aload_n 0, 1) := by decide +kernel
theorem dX2_refusalToHear_48 : decode cX2_refusalToHear 48 = .ok (.iload_n 1, 1) := by decide +kernel
theorem dX2_refusalToHear_49 : decode cX2_refusalToHear 49 = .ok (.invokevirtual 210, 3) := by decide +kernel
theorem dX2_refusalToHear_52 : decode cX2_refusalToHear 52 = .ok (.astore 4, 2) := by decide +kernel
theorem dX2_refusalToHear_54 : decode cX2_refusalToHear 54 = .ok (.aload 4, 2) := by decide +kernel
theorem dX2_refusalToHear_56 : decode cX2_refusalToHear 56 = .ok (.getstatic 76, 3) := by decide +kernel
theorem dX2_refusalToHear_59 : decode cX2_refusalToHear 59 = .ok (.if_acmp .eq 6, 3) := by decide +kernel
theorem dX2_refusalToHear_62 : decode cX2_refusalToHear 62 = .ok (.aload 4, 2) := by decide +kernel
theorem dX2_refusalToHear_64 : decode cX2_refusalToHear 64 = .ok (.areturn, 1) := by decide +kernel
theorem dX2_refusalToHear_65 : decode cX2_refusalToHear 65 = .ok (.aload_n 0, 1) := by decide +kernel
theorem dX2_refusalToHear_66 : decode cX2_refusalToHear 66 = .ok (.iload_n 2, 1) := by decide +kernel
theorem dX2_refusalToHear_67 : decode cX2_refusalToHear 67 = .ok (.invokevirtual 110, 3) := by decide +kernel
theorem dX2_refusalToHear_70 : decode cX2_refusalToHear 70 = .ok (.ifCond .ne 7, 3) := by decide +kernel
theorem dX2_refusalToHear_73 : decode cX2_refusalToHear 73 = .ok (.getstatic 195, 3) := by decide +kernel
theorem dX2_refusalToHear_76 : decode cX2_refusalToHear 76 = .ok (.areturn, 1) := by decide +kernel
theorem dX2_refusalToHear_77 : decode cX2_refusalToHear 77 = .ok (.aload_n 0, 1) := by decide +kernel
theorem dX2_refusalToHear_78 : decode cX2_refusalToHear 78 = .ok (.getfield 29, 3) := by decide +kernel
theorem dX2_refusalToHear_81 : decode cX2_refusalToHear 81 = .ok (.iload_n 1, 1) := by decide +kernel
theorem dX2_refusalToHear_82 : decode cX2_refusalToHear 82 = .ok (.aaload, 1) := by decide +kernel
theorem dX2_refusalToHear_83 : decode cX2_refusalToHear 83 = .ok (.iload_n 2, 1) := by decide +kernel
theorem dX2_refusalToHear_84 : decode cX2_refusalToHear 84 = .ok (.invokevirtual 214, 3) := by decide +kernel
theorem dX2_refusalToHear_87 : decode cX2_refusalToHear 87 = .ok (.ifCond .eq 9, 3) := by decide +kernel
theorem dX2_refusalToHear_90 : decode cX2_refusalToHear 90 = .ok (.getstatic 217, 3) := by decide +kernel
theorem dX2_refusalToHear_93 : decode cX2_refusalToHear 93 = .ok (.goto 6, 3) := by decide +kernel
theorem dX2_refusalToHear_96 : decode cX2_refusalToHear 96 = .ok (.getstatic 76, 3) := by decide +kernel
theorem dX2_refusalToHear_99 : decode cX2_refusalToHear 99 = .ok (.areturn, 1) := by decide +kernel
theorem dX2_hear_0 : decode cX2_hear 0 = .ok (.aload_n 0, 1) := by decide +kernel
theorem dX2_hear_1 : decode cX2_hear 1 = .ok (.getfield 29, 3) := by decide +kernel
theorem dX2_hear_4 : decode cX2_hear 4 = .ok (.iload_n 1, 1) := by decide +kernel
theorem dX2_hear_5 : decode cX2_hear 5 = .ok (.aaload, 1) := by decide +kernel
theorem dX2_hear_6 : decode cX2_hear 6 = .ok (.astore 5, 2) := by decide +kernel
theorem dX2_hear_8 : decode cX2_hear 8 = .ok (.aload 5, 2) := by decide +kernel
theorem dX2_hear_10 : decode cX2_hear 10 = .ok (.iload_n 2, 1) := by decide +kernel
theorem dX2_hear_11 : decode cX2_hear 11 = .ok (.iload_n 3, 1) := by decide +kernel
theorem dX2_hear_12 : decode cX2_hear 12 = .ok (.aload_n 0, 1) := by decide +kernel
theorem dX2_hear_13 : decode cX2_hear 13 = .ok (.getfield 15, 3) := by decide +kernel
theorem dX2_hear_16 : decode cX2_hear 16 = .ok (.iload_n 2, 1) := by decide +kernel
theorem dX2_hear_17 : decode cX2_hear 17 = .ok (.iaload, 1) := by decide +kernel
theorem dX2_hear_18 : decode cX2_hear 18 = .ok (.imul, 1) := by decide +kernel
theorem dX2_hear_19 : decode cX2_hear 19 = .ok (.iload 4, 2) := by decide +kernel
theorem dX2_hear_21 : decode cX2_hear 21 = .ok (.invokevirtual 220, 3) := by decide +kernel
theorem dX2_hear_24 : decode cX2_hear 24 = .ok (.aload 5, 2) := by decide +kernel
theorem dX2_hear_26 : decode cX2_hear 26 = .ok (.iload 4, 2) := by decide +kernel
theorem dX2_hear_28 : decode cX2_hear 28 = .ok (.invokevirtual 224, 3) := by decide +kernel
theorem dX2_hear_31 : decode cX2_hear 31 = .ok (.ireturn, 1) := by decide +kernel
theorem dX2_sumForFromPond_0 : decode cX2_sumForFromPond 0 = .ok (.aload_n 0, 1) := by decide +kernel
theorem dX2_sumForFromPond_1 : decode cX2_sumForFromPond 1 = .ok (.getfield 29, 3) := by decide +kernel
theorem dX2_sumForFromPond_4 : decode cX2_sumForFromPond 4 = .ok (.iload_n 1, 1) := by decide +kernel
theorem dX2_sumForFromPond_5 : decode cX2_sumForFromPond 5 = .ok (.aaload, 1) := by decide +kernel
theorem dX2_sumForFromPond_6 : decode cX2_sumForFromPond 6 = .ok (.astore_n 3, 1) := by decide +kernel
theorem dX2_sumForFromPond_7 : decode cX2_sumForFromPond 7 = .ok (.iconst 0, 1) := by decide +kernel
theorem dX2_sumForFromPond_8 : decode cX2_sumForFromPond 8 = .ok (.istore 4, 2) := by decide +kernel
theorem dX2_sumForFromPond_10 : decode cX2_sumForFromPond 10 = .ok (.iconst 0, 1) := by decide +kernel
theorem dX2_sumForFromPond_11 : decode cX2_sumForFromPond 11 = .ok (.istore 5, 2) := by decide +kernel
theorem dX2_sumForFromPond_13 : decode cX2_sumForFromPond 13 = .ok (.iload 5, 2) := by decide +kernel
theorem dX2_sumForFromPond_15 : decode cX2_sumForFromPond 15 = .ok (.aload_n 3, 1) := by decide +kernel
theorem dX2_sumForFromPond_16 : decode cX2_sumForFromPond 16 = .ok (.getfield 228, 3) := by decide +kernel
theorem dX2_sumForFromPond_19 : decode cX2_sumForFromPond 19 = .ok (.if_icmp .ge 46, 3) := by decide +kernel
theorem dX2_sumForFromPond_22 : decode cX2_sumForFromPond 22 = .ok (.aload_n 3, 1) := by decide +kernel
theorem dX2_sumForFromPond_23 : decode cX2_sumForFromPond 23 = .ok (.iload 5, 2) := by decide +kernel
theorem dX2_sumForFromPond_25 : decode cX2_sumForFromPond 25 = .ok (.invokevirtual 231, 3) := by decide +kernel
theorem dX2_sumForFromPond_28 : decode cX2_sumForFromPond 28 = .ok (.ifCond .eq 31, 3) := by decide +kernel
theorem dX2_sumForFromPond_31 : decode cX2_sumForFromPond 31 = .ok (.aload_n 0, 1) := by decide +kernel
theorem dX2_sumForFromPond_32 : decode cX2_sumForFromPond 32 = .ok (.getfield 9, 3) := by decide +kernel
theorem dX2_sumForFromPond_35 : decode cX2_sumForFromPond 35 = .ok (.aload_n 3, 1) := by decide +kernel
theorem dX2_sumForFromPond_36 : decode cX2_sumForFromPond 36 = .ok (.getfield 234, 3) := by decide +kernel
theorem dX2_sumForFromPond_39 : decode cX2_sumForFromPond 39 = .ok (.iload 5, 2) := by decide +kernel
theorem dX2_sumForFromPond_41 : decode cX2_sumForFromPond 41 = .ok (.iaload, 1) := by decide +kernel
theorem dX2_sumForFromPond_42 : decode cX2_sumForFromPond 42 = .ok (.iaload, 1) := by decide +kernel
theorem dX2_sumForFromPond_43 : decode cX2_sumForFromPond 43 = .ok (.iload_n 2, 1) := by decide +kernel
theorem dX2_sumForFromPond_44 : decode cX2_sumForFromPond 44 = .ok (.if_icmp .ne 15, 3) := by decide +kernel
theorem dX2_sumForFromPond_47 : decode cX2_sumForFromPond 47 = .ok (.iload 4, 2) := by decide +kernel
theorem dX2_sumForFromPond_49 : decode cX2_sumForFromPond 49 = .ok (.aload_n 3, 1) := by decide +kernel
theorem dX2_sumForFromPond_50 : decode cX2_sumForFromPond 50 = .ok (.getfield 237, 3) := by decide +kernel
theorem dX2_sumForFromPond_53 : decode cX2_sumForFromPond 53 = .ok (.iload 5, 2) := by decide +kernel
theorem dX2_sumForFromPond_55 : decode cX2_sumForFromPond 55 = .ok (.iaload, 1) := by decide +kernel
theorem dX2_sumForFromPond_56 : decode cX2_sumForFromPond 56 = .ok (.iadd, 1) := by decide +kernel
theorem dX2_sumForFromPond_57 : decode cX2_sumForFromPond 57 = .ok (.istore 4, 2) := by decide +kernel
theorem dX2_sumForFromPond_59 : decode cX2_sumForFromPond 59 = .ok (.iinc 5 1, 3) := by decide +kernel
theorem dX2_sumForFromPond_62 : decode cX2_sumForFromPond 62 = .ok (.goto (-49), 3) := by decide +kernel
theorem dX2_sumForFromPond_65 : decode cX2_sumForFromPond 65 = .ok (.iload 4, 2) := by decide +kernel
theorem dX2_sumForFromPond_67 : decode cX2_sumForFromPond 67 = .ok (.ireturn, 1) := by decide +kernel
theorem dX2_refusalToSettle_0 : decode cX2_refusalToSettle 0 = .ok (.aload_n 0, 1) := by decide +kernel
theorem dX2_refusalToSettle_1 : decode cX2_refusalToSettle 1 = .ok (.iload_n 1, 1) := by decide +kernel
theorem dX2_refusalToSettle_2 : decode cX2_refusalToSettle 2 = .ok (.invokevirtual 63, 3) := by decide +kernel
theorem dX2_refusalToSettle_5 : decode cX2_refusalToSettle 5 = .ok (.ifCond .ne 7, 3) := by decide +kernel
theorem dX2_refusalToSettle_8 : decode cX2_refusalToSettle 8 = .ok (.getstatic 67, 3) := by decide +kernel
theorem dX2_refusalToSettle_11 : decode cX2_refusalToSettle 11 = .ok (.areturn, 1) := by decide +kernel
theorem dX2_refusalToSettle_12 : decode cX2_refusalToSettle 12 = .ok (.aload_n 0, 1) := by decide +kernel
theorem dX2_refusalToSettle_13 : decode cX2_refusalToSettle 13 = .ok (.getfield 29, 3) := by decide +kernel
theorem dX2_refusalToSettle_16 : decode cX2_refusalToSettle 16 = .ok (.iload_n 1, 1) := by decide +kernel
theorem dX2_refusalToSettle_17 : decode cX2_refusalToSettle 17 = .ok (.aaload, 1) := by decide +kernel
theorem dX2_refusalToSettle_18 : decode cX2_refusalToSettle 18 = .ok (.astore_n 2, 1) := by decide +kernel
theorem dX2_refusalToSettle_19 : decode cX2_refusalToSettle 19 = .ok (.aload_n 2, 1) := by decide +kernel
theorem dX2_refusalToSettle_20 : decode cX2_refusalToSettle 20 = .ok (.getfield 141, 3) := by decide +kernel
theorem dX2_refusalToSettle_23 : decode cX2_refusalToSettle 23 = .ok (.ifCond .eq 7, 3) := by decide +kernel
theorem dX2_refusalToSettle_26 : decode cX2_refusalToSettle 26 = .ok (.getstatic 145, 3) := by decide +kernel
theorem dX2_refusalToSettle_29 : decode cX2_refusalToSettle 29 = .ok (.areturn, 1) := by decide +kernel
theorem dX2_refusalToSettle_30 : decode cX2_refusalToSettle 30 = .ok (.aload_n 2, 1) := by decide +kernel
theorem dX2_refusalToSettle_31 : decode cX2_refusalToSettle 31 = .ok (.getfield 148, 3) := by decide +kernel
theorem dX2_refusalToSettle_34 : decode cX2_refusalToSettle 34 = .ok (.ifCond .ne 7, 3) := by decide +kernel
theorem dX2_refusalToSettle_37 : decode cX2_refusalToSettle 37 = .ok (.getstatic 240, 3) := by decide +kernel
theorem dX2_refusalToSettle_40 : decode cX2_refusalToSettle 40 = .ok (.areturn, 1) := by decide +kernel
theorem dX2_refusalToSettle_41 : decode cX2_refusalToSettle 41 = .ok (.aload_n 2, 1) := by decide +kernel
theorem dX2_refusalToSettle_42 : decode cX2_refusalToSettle 42 = .ok (.getfield 167, 3) := by decide +kernel
theorem dX2_refusalToSettle_45 : decode cX2_refusalToSettle 45 = .ok (.ifCond .le 9, 3) := by decide +kernel
theorem dX2_refusalToSettle_48 : decode cX2_refusalToSettle 48 = .ok (.getstatic 243, 3) := by decide +kernel
theorem dX2_refusalToSettle_51 : decode cX2_refusalToSettle 51 = .ok (.goto 6, 3) := by decide +kernel
theorem dX2_refusalToSettle_54 : decode cX2_refusalToSettle 54 = .ok (.getstatic 76, 3) := by decide +kernel
theorem dX2_refusalToSettle_57 : decode cX2_refusalToSettle 57 = .ok (.areturn, 1) := by decide +kernel
theorem dX2_settle_0 : decode cX2_settle 0 = .ok (.aload_n 0, 1) := by decide +kernel
theorem dX2_settle_1 : decode cX2_settle 1 = .ok (.getfield 29, 3) := by decide +kernel
theorem dX2_settle_4 : decode cX2_settle 4 = .ok (.iload_n 1, 1) := by decide +kernel
theorem dX2_settle_5 : decode cX2_settle 5 = .ok (.aaload, 1) := by decide +kernel
theorem dX2_settle_6 : decode cX2_settle 6 = .ok (.astore_n 2, 1) := by decide +kernel
theorem dX2_settle_7 : decode cX2_settle 7 = .ok (.aload_n 2, 1) := by decide +kernel
theorem dX2_settle_8 : decode cX2_settle 8 = .ok (.iconst 1, 1) := by decide +kernel
theorem dX2_settle_9 : decode cX2_settle 9 = .ok (.putfield 141, 3) := by decide +kernel
theorem dX2_settle_12 : decode cX2_settle 12 = .ok (.aload_n 2, 1) := by decide +kernel
theorem dX2_settle_13 : decode cX2_settle 13 = .ok (.aload_n 2, 1) := by decide +kernel
theorem dX2_settle_14 : decode cX2_settle 14 = .ok (.iconst 1, 1) := by decide +kernel
theorem dX2_settle_15 : decode cX2_settle 15 = .ok (.invokevirtual 224, 3) := by decide +kernel
theorem dX2_settle_18 : decode cX2_settle 18 = .ok (.aload_n 2, 1) := by decide +kernel
theorem dX2_settle_19 : decode cX2_settle 19 = .ok (.iconst 0, 1) := by decide +kernel
theorem dX2_settle_20 : decode cX2_settle 20 = .ok (.invokevirtual 224, 3) := by decide +kernel
theorem dX2_settle_23 : decode cX2_settle 23 = .ok (.if_icmp .le 7, 3) := by decide +kernel
theorem dX2_settle_26 : decode cX2_settle 26 = .ok (.iconst 1, 1) := by decide +kernel
theorem dX2_settle_27 : decode cX2_settle 27 = .ok (.goto 4, 3) := by decide +kernel
theorem dX2_settle_30 : decode cX2_settle 30 = .ok (.iconst 0, 1) := by decide +kernel
theorem dX2_settle_31 : decode cX2_settle 31 = .ok (.putfield 246, 3) := by decide +kernel
theorem dX2_settle_34 : decode cX2_settle 34 = .ok (.aload_n 2, 1) := by decide +kernel
theorem dX2_settle_35 : decode cX2_settle 35 = .ok (.getfield 246, 3) := by decide +kernel
theorem dX2_settle_38 : decode cX2_settle 38 = .ok (.ireturn, 1) := by decide +kernel
theorem dX2_refusalOf_0 : decode cX2_refusalOf 0 = .ok (.aload_n 1, 1) := by decide +kernel
theorem dX2_refusalOf_1 : decode cX2_refusalOf 1 = .ok (.getfield 249, 3) := by decide +kernel
theorem dX2_refusalOf_4 : decode cX2_refusalOf 4 = .ok (.astore_n 2, 1) := by decide +kernel
theorem dX2_refusalOf_5 : decode cX2_refusalOf 5 = .ok (.getstatic 254, 3) := by decide +kernel
theorem dX2_refusalOf_8 : decode cX2_refusalOf 8 = .ok (.aload_n 1, 1) := by decide +kernel
theorem dX2_refusalOf_9 : decode cX2_refusalOf 9 = .ok (.getfield 259, 3) := by decide +kernel
theorem dX2_refusalOf_12 : decode cX2_refusalOf 12 = .ok (.invokevirtual 263, 3) := by decide +kernel
theorem dX2_refusalOf_15 : decode cX2_refusalOf 15 = .ok (.iaload, 1) := by decide +kernel
theorem dX2_refusalOf_16 : decode cX2_refusalOf 16 = .ok (.tableswitch 157 1 10 #[56, 67, 75, 86, 94, 102, 113, 124, 132, 143], 56) := by decide +kernel
theorem dX2_refusalOf_72 : decode cX2_refusalOf 72 = .ok (.aload_n 0, 1) := by decide +kernel
theorem dX2_refusalOf_73 : decode cX2_refusalOf 73 = .ok (.aload_n 2, 1) := by decide +kernel
theorem dX2_refusalOf_74 : decode cX2_refusalOf 74 = .ok (.iconst 0, 1) := by decide +kernel
theorem dX2_refusalOf_75 : decode cX2_refusalOf 75 = .ok (.iaload, 1) := by decide +kernel
theorem dX2_refusalOf_76 : decode cX2_refusalOf 76 = .ok (.aload_n 2, 1) := by decide +kernel
theorem dX2_refusalOf_77 : decode cX2_refusalOf 77 = .ok (.iconst 1, 1) := by decide +kernel
theorem dX2_refusalOf_78 : decode cX2_refusalOf 78 = .ok (.iaload, 1) := by decide +kernel
theorem dX2_refusalOf_79 : decode cX2_refusalOf 79 = .ok (.invokevirtual 269, 3) := by decide +kernel
theorem dX2_refusalOf_82 : decode cX2_refusalOf 82 = .ok (.areturn, 1) := by decide +kernel
theorem dX2_refusalOf_83 : decode cX2_refusalOf 83 = .ok (.aload_n 0, 1) := by decide +kernel
theorem dX2_refusalOf_84 : decode cX2_refusalOf 84 = .ok (.aload_n 2, 1) := by decide +kernel
theorem dX2_refusalOf_85 : decode cX2_refusalOf 85 = .ok (.iconst 0, 1) := by decide +kernel
theorem dX2_refusalOf_86 : decode cX2_refusalOf 86 = .ok (.iaload, 1) := by decide +kernel
theorem dX2_refusalOf_87 : decode cX2_refusalOf 87 = .ok (.invokevirtual 272, 3) := by decide +kernel
theorem dX2_refusalOf_90 : decode cX2_refusalOf 90 = .ok (.areturn, 1) := by decide +kernel
theorem dX2_refusalOf_91 : decode cX2_refusalOf 91 = .ok (.aload_n 0, 1) := by decide +kernel
theorem dX2_refusalOf_92 : decode cX2_refusalOf 92 = .ok (.aload_n 2, 1) := by decide +kernel
theorem dX2_refusalOf_93 : decode cX2_refusalOf 93 = .ok (.iconst 0, 1) := by decide +kernel
theorem dX2_refusalOf_94 : decode cX2_refusalOf 94 = .ok (.iaload, 1) := by decide +kernel
theorem dX2_refusalOf_95 : decode cX2_refusalOf 95 = .ok (.aload_n 2, 1) := by decide +kernel
theorem dX2_refusalOf_96 : decode cX2_refusalOf 96 = .ok (.iconst 1, 1) := by decide +kernel
theorem dX2_refusalOf_97 : decode cX2_refusalOf 97 = .ok (.iaload, 1) := by decide +kernel
theorem dX2_refusalOf_98 : decode cX2_refusalOf 98 = .ok (.invokevirtual 275, 3) := by decide +kernel
theorem dX2_refusalOf_101 : decode cX2_refusalOf 101 = .ok (.areturn, 1) := by decide +kernel
theorem dX2_refusalOf_102 : decode cX2_refusalOf 102 = .ok (.aload_n 0, 1) := by decide +kernel
theorem dX2_refusalOf_103 : decode cX2_refusalOf 103 = .ok (.aload_n 2, 1) := by decide +kernel
theorem dX2_refusalOf_104 : decode cX2_refusalOf 104 = .ok (.iconst 0, 1) := by decide +kernel
theorem dX2_refusalOf_105 : decode cX2_refusalOf 105 = .ok (.iaload, 1) := by decide +kernel
theorem dX2_refusalOf_106 : decode cX2_refusalOf 106 = .ok (.invokevirtual 278, 3) := by decide +kernel
theorem dX2_refusalOf_109 : decode cX2_refusalOf 109 = .ok (.areturn, 1) := by decide +kernel
theorem dX2_refusalOf_110 : decode cX2_refusalOf 110 = .ok (.aload_n 0, 1) := by decide +kernel
theorem dX2_refusalOf_111 : decode cX2_refusalOf 111 = .ok (.aload_n 2, 1) := by decide +kernel
theorem dX2_refusalOf_112 : decode cX2_refusalOf 112 = .ok (.iconst 0, 1) := by decide +kernel
theorem dX2_refusalOf_113 : decode cX2_refusalOf 113 = .ok (.iaload, 1) := by decide +kernel
theorem dX2_refusalOf_114 : decode cX2_refusalOf 114 = .ok (.invokevirtual 281, 3) := by decide +kernel
theorem dX2_refusalOf_117 : decode cX2_refusalOf 117 = .ok (.areturn, 1) := by decide +kernel
theorem dX2_refusalOf_118 : decode cX2_refusalOf 118 = .ok (.aload_n 0, 1) := by decide +kernel
theorem dX2_refusalOf_119 : decode cX2_refusalOf 119 = .ok (.aload_n 2, 1) := by decide +kernel
theorem dX2_refusalOf_120 : decode cX2_refusalOf 120 = .ok (.iconst 0, 1) := by decide +kernel
theorem dX2_refusalOf_121 : decode cX2_refusalOf 121 = .ok (.iaload, 1) := by decide +kernel
theorem dX2_refusalOf_122 : decode cX2_refusalOf 122 = .ok (.aload_n 2, 1) := by decide +kernel
theorem dX2_refusalOf_123 : decode cX2_refusalOf 123 = .ok (.iconst 1, 1) := by decide +kernel
theorem dX2_refusalOf_124 : decode cX2_refusalOf 124 = .ok (.iaload, 1) := by decide +kernel
theorem dX2_refusalOf_125 : decode cX2_refusalOf 125 = .ok (.invokevirtual 284, 3) := by decide +kernel
theorem dX2_refusalOf_128 : decode cX2_refusalOf 128 = .ok (.areturn, 1) := by decide +kernel
theorem dX2_refusalOf_129 : decode cX2_refusalOf 129 = .ok (.aload_n 0, 1) := by decide +kernel
theorem dX2_refusalOf_130 : decode cX2_refusalOf 130 = .ok (.aload_n 2, 1) := by decide +kernel
theorem dX2_refusalOf_131 : decode cX2_refusalOf 131 = .ok (.iconst 0, 1) := by decide +kernel
theorem dX2_refusalOf_132 : decode cX2_refusalOf 132 = .ok (.iaload, 1) := by decide +kernel
theorem dX2_refusalOf_133 : decode cX2_refusalOf 133 = .ok (.aload_n 2, 1) := by decide +kernel
theorem dX2_refusalOf_134 : decode cX2_refusalOf 134 = .ok (.iconst 1, 1) := by decide +kernel
theorem dX2_refusalOf_135 : decode cX2_refusalOf 135 = .ok (.iaload, 1) := by decide +kernel
theorem dX2_refusalOf_136 : decode cX2_refusalOf 136 = .ok (.invokevirtual 287, 3) := by decide +kernel
theorem dX2_refusalOf_139 : decode cX2_refusalOf 139 = .ok (.areturn, 1) := by decide +kernel
theorem dX2_refusalOf_140 : decode cX2_refusalOf 140 = .ok (.aload_n 0, 1) := by decide +kernel
theorem dX2_refusalOf_141 : decode cX2_refusalOf 141 = .ok (.aload_n 2, 1) := by decide +kernel
theorem dX2_refusalOf_142 : decode cX2_refusalOf 142 = .ok (.iconst 0, 1) := by decide +kernel
theorem dX2_refusalOf_143 : decode cX2_refusalOf 143 = .ok (.iaload, 1) := by decide +kernel
theorem dX2_refusalOf_144 : decode cX2_refusalOf 144 = .ok (.invokevirtual 290, 3) := by decide +kernel
theorem dX2_refusalOf_147 : decode cX2_refusalOf 147 = .ok (.areturn, 1) := by decide +kernel
theorem dX2_refusalOf_148 : decode cX2_refusalOf 148 = .ok (.aload_n 0, 1) := by decide +kernel
theorem dX2_refusalOf_149 : decode cX2_refusalOf 149 = .ok (.aload_n 2, 1) := by decide +kernel
theorem dX2_refusalOf_150 : decode cX2_refusalOf 150 = .ok (.iconst 0, 1) := by decide +kernel
theorem dX2_refusalOf_151 : decode cX2_refusalOf 151 = .ok (.iaload, 1) := by decide +kernel
theorem dX2_refusalOf_152 : decode cX2_refusalOf 152 = .ok (.aload_n 2, 1) := by decide +kernel
theorem dX2_refusalOf_153 : decode cX2_refusalOf 153 = .ok (.iconst 1, 1) := by decide +kernel
theorem dX2_refusalOf_154 : decode cX2_refusalOf 154 = .ok (.iaload, 1) := by decide +kernel
theorem dX2_refusalOf_155 : decode cX2_refusalOf 155 = .ok (.invokevirtual 293, 3) := by decide +kernel
theorem dX2_refusalOf_158 : decode cX2_refusalOf 158 = .ok (.areturn, 1) := by decide +kernel
theorem dX2_refusalOf_159 : decode cX2_refusalOf 159 = .ok (.aload_n 0, 1) := by decide +kernel
theorem dX2_refusalOf_160 : decode cX2_refusalOf 160 = .ok (.aload_n 2, 1) := by decide +kernel
theorem dX2_refusalOf_161 : decode cX2_refusalOf 161 = .ok (.iconst 0, 1) := by decide +kernel
theorem dX2_refusalOf_162 : decode cX2_refusalOf 162 = .ok (.iaload, 1) := by decide +kernel
theorem dX2_refusalOf_163 : decode cX2_refusalOf 163 = .ok (.aload_n 2, 1) := by decide +kernel
theorem dX2_refusalOf_164 : decode cX2_refusalOf 164 = .ok (.iconst 1, 1) := by decide +kernel
theorem dX2_refusalOf_165 : decode cX2_refusalOf 165 = .ok (.iaload, 1) := by decide +kernel
theorem dX2_refusalOf_166 : decode cX2_refusalOf 166 = .ok (.aload_n 2, 1) := by decide +kernel
theorem dX2_refusalOf_167 : decode cX2_refusalOf 167 = .ok (.iconst 3, 1) := by decide +kernel
theorem dX2_refusalOf_168 : decode cX2_refusalOf 168 = .ok (.iaload, 1) := by decide +kernel
theorem dX2_refusalOf_169 : decode cX2_refusalOf 169 = .ok (.invokevirtual 296, 3) := by decide +kernel
theorem dX2_refusalOf_172 : decode cX2_refusalOf 172 = .ok (.areturn, 1) := by decide +kernel
theorem dX2_refusalOf_173 : decode cX2_refusalOf 173 = .ok (.aload_n 0, 1) := by decide +kernel
theorem dX2_refusalOf_174 : decode cX2_refusalOf 174 = .ok (.aload_n 2, 1) := by decide +kernel
theorem dX2_refusalOf_175 : decode cX2_refusalOf 175 = .ok (.iconst 0, 1) := by decide +kernel
theorem dX2_refusalOf_176 : decode cX2_refusalOf 176 = .ok (.iaload, 1) := by decide +kernel
theorem dX2_refusalOf_177 : decode cX2_refusalOf 177 = .ok (.invokevirtual 210, 3) := by decide +kernel
theorem dX2_refusalOf_180 : decode cX2_refusalOf 180 = .ok (.areturn, 1) := by decide +kernel
theorem dX2_carryOut_0 : decode cX2_carryOut 0 = .ok (.aload_n 1, 1) := by decide +kernel
theorem dX2_carryOut_1 : decode cX2_carryOut 1 = .ok (.getfield 249, 3) := by decide +kernel
theorem dX2_carryOut_4 : decode cX2_carryOut 4 = .ok (.astore_n 2, 1) := by decide +kernel
theorem dX2_carryOut_5 : decode cX2_carryOut 5 = .ok (.getstatic 254, 3) := by decide +kernel
theorem dX2_carryOut_8 : decode cX2_carryOut 8 = .ok (.aload_n 1, 1) := by decide +kernel
theorem dX2_carryOut_9 : decode cX2_carryOut 9 = .ok (.getfield 259, 3) := by decide +kernel
theorem dX2_carryOut_12 : decode cX2_carryOut 12 = .ok (.invokevirtual 263, 3) := by decide +kernel
theorem dX2_carryOut_15 : decode cX2_carryOut 15 = .ok (.iaload, 1) := by decide +kernel
theorem dX2_carryOut_16 : decode cX2_carryOut 16 = .ok (.tableswitch 198 1 10 #[56, 70, 81, 95, 106, 117, 131, 145, 156, 170], 56) := by decide +kernel
theorem dX2_carryOut_72 : decode cX2_carryOut 72 = .ok (.aload_n 0, 1) := by decide +kernel
theorem dX2_carryOut_73 : decode cX2_carryOut 73 = .ok (.aload_n 2, 1) := by decide +kernel
theorem dX2_carryOut_74 : decode cX2_carryOut 74 = .ok (.iconst 0, 1) := by decide +kernel
theorem dX2_carryOut_75 : decode cX2_carryOut 75 = .ok (.iaload, 1) := by decide +kernel
theorem dX2_carryOut_76 : decode cX2_carryOut 76 = .ok (.aload_n 2, 1) := by decide +kernel
theorem dX2_carryOut_77 : decode cX2_carryOut 77 = .ok (.iconst 1, 1) := by decide +kernel
theorem dX2_carryOut_78 : decode cX2_carryOut 78 = .ok (.iaload, 1) := by decide +kernel
theorem dX2_carryOut_79 : decode cX2_carryOut 79 = .ok (.invokevirtual 300, 3) := by decide +kernel
theorem dX2_carryOut_82 : decode cX2_carryOut 82 = .ok (.pop, 1) := by decide +kernel
theorem dX2_carryOut_83 : decode cX2_carryOut 83 = .ok (.goto 139, 3) := by decide +kernel
theorem dX2_carryOut_86 : decode cX2_carryOut 86 = .ok (.aload_n 0, 1) := by decide +kernel
theorem dX2_carryOut_87 : decode cX2_carryOut 87 = .ok (.aload_n 2, 1) := by decide +kernel
theorem dX2_carryOut_88 : decode cX2_carryOut 88 = .ok (.iconst 0, 1) := by decide +kernel
theorem dX2_carryOut_89 : decode cX2_carryOut 89 = .ok (.iaload, 1) := by decide +kernel
theorem dX2_carryOut_90 : decode cX2_carryOut 90 = .ok (.invokevirtual 304, 3) := by decide +kernel
theorem dX2_carryOut_93 : decode cX2_carryOut 93 = .ok (.pop, 1) := by decide +kernel
theorem dX2_carryOut_94 : decode cX2_carryOut 94 = .ok (.goto 128, 3) := by decide +kernel
theorem dX2_carryOut_97 : decode cX2_carryOut 97 = .ok (.aload_n 0, 1) := by decide +kernel
theorem dX2_carryOut_98 : decode cX2_carryOut 98 = .ok (.aload_n 2, 1) := by decide +kernel
theorem dX2_carryOut_99 : decode cX2_carryOut 99 = .ok (.iconst 0, 1) := by decide +kernel
theorem dX2_carryOut_100 : decode cX2_carryOut 100 = .ok (.iaload, 1) := by decide +kernel
theorem dX2_carryOut_101 : decode cX2_carryOut 101 = .ok (.aload_n 2, 1) := by decide +kernel
theorem dX2_carryOut_102 : decode cX2_carryOut 102 = .ok (.iconst 1, 1) := by decide +kernel
theorem dX2_carryOut_103 : decode cX2_carryOut 103 = .ok (.iaload, 1) := by decide +kernel
theorem dX2_carryOut_104 : decode cX2_carryOut 104 = .ok (.invokevirtual 307, 3) := by decide +kernel
theorem dX2_carryOut_107 : decode cX2_carryOut 107 = .ok (.pop, 1) := by decide +kernel
theorem dX2_carryOut_108 : decode cX2_carryOut 108 = .ok (.goto 114, 3) := by decide +kernel
theorem dX2_carryOut_111 : decode cX2_carryOut 111 = .ok (.aload_n 0, 1) := by decide +kernel
theorem dX2_carryOut_112 : decode cX2_carryOut 112 = .ok (.aload_n 2, 1) := by decide +kernel
theorem dX2_carryOut_113 : decode cX2_carryOut 113 = .ok (.iconst 0, 1) := by decide +kernel
theorem dX2_carryOut_114 : decode cX2_carryOut 114 = .ok (.iaload, 1) := by decide +kernel
theorem dX2_carryOut_115 : decode cX2_carryOut 115 = .ok (.invokevirtual 310, 3) := by decide +kernel
theorem dX2_carryOut_118 : decode cX2_carryOut 118 = .ok (.pop, 1) := by decide +kernel
theorem dX2_carryOut_119 : decode cX2_carryOut 119 = .ok (.goto 103, 3) := by decide +kernel
theorem dX2_carryOut_122 : decode cX2_carryOut 122 = .ok (.aload_n 0, 1) := by decide +kernel
theorem dX2_carryOut_123 : decode cX2_carryOut 123 = .ok (.aload_n 2, 1) := by decide +kernel
theorem dX2_carryOut_124 : decode cX2_carryOut 124 = .ok (.iconst 0, 1) := by decide +kernel
theorem dX2_carryOut_125 : decode cX2_carryOut 125 = .ok (.iaload, 1) := by decide +kernel
theorem dX2_carryOut_126 : decode cX2_carryOut 126 = .ok (.invokevirtual 313, 3) := by decide +kernel
theorem dX2_carryOut_129 : decode cX2_carryOut 129 = .ok (.pop, 1) := by decide +kernel
theorem dX2_carryOut_130 : decode cX2_carryOut 130 = .ok (.goto 92, 3) := by decide +kernel
theorem dX2_carryOut_133 : decode cX2_carryOut 133 = .ok (.aload_n 0, 1) := by decide +kernel
theorem dX2_carryOut_134 : decode cX2_carryOut 134 = .ok (.aload_n 2, 1) := by decide +kernel
theorem dX2_carryOut_135 : decode cX2_carryOut 135 = .ok (.iconst 0, 1) := by decide +kernel
theorem dX2_carryOut_136 : decode cX2_carryOut 136 = .ok (.iaload, 1) := by decide +kernel
theorem dX2_carryOut_137 : decode cX2_carryOut 137 = .ok (.aload_n 2, 1) := by decide +kernel
theorem dX2_carryOut_138 : decode cX2_carryOut 138 = .ok (.iconst 1, 1) := by decide +kernel
theorem dX2_carryOut_139 : decode cX2_carryOut 139 = .ok (.iaload, 1) := by decide +kernel
theorem dX2_carryOut_140 : decode cX2_carryOut 140 = .ok (.invokevirtual 316, 3) := by decide +kernel
theorem dX2_carryOut_143 : decode cX2_carryOut 143 = .ok (.pop, 1) := by decide +kernel
theorem dX2_carryOut_144 : decode cX2_carryOut 144 = .ok (.goto 78, 3) := by decide +kernel
theorem dX2_carryOut_147 : decode cX2_carryOut 147 = .ok (.aload_n 0, 1) := by decide +kernel
theorem dX2_carryOut_148 : decode cX2_carryOut 148 = .ok (.aload_n 2, 1) := by decide +kernel
theorem dX2_carryOut_149 : decode cX2_carryOut 149 = .ok (.iconst 0, 1) := by decide +kernel
theorem dX2_carryOut_150 : decode cX2_carryOut 150 = .ok (.iaload, 1) := by decide +kernel
theorem dX2_carryOut_151 : decode cX2_carryOut 151 = .ok (.aload_n 2, 1) := by decide +kernel
theorem dX2_carryOut_152 : decode cX2_carryOut 152 = .ok (.iconst 1, 1) := by decide +kernel
theorem dX2_carryOut_153 : decode cX2_carryOut 153 = .ok (.iaload, 1) := by decide +kernel
theorem dX2_carryOut_154 : decode cX2_carryOut 154 = .ok (.invokevirtual 319, 3) := by decide +kernel
theorem dX2_carryOut_157 : decode cX2_carryOut 157 = .ok (.pop, 1) := by decide +kernel
theorem dX2_carryOut_158 : decode cX2_carryOut 158 = .ok (.goto 64, 3) := by decide +kernel
theorem dX2_carryOut_161 : decode cX2_carryOut 161 = .ok (.aload_n 0, 1) := by decide +kernel
theorem dX2_carryOut_162 : decode cX2_carryOut 162 = .ok (.aload_n 2, 1) := by decide +kernel
theorem dX2_carryOut_163 : decode cX2_carryOut 163 = .ok (.iconst 0, 1) := by decide +kernel
theorem dX2_carryOut_164 : decode cX2_carryOut 164 = .ok (.iaload, 1) := by decide +kernel
theorem dX2_carryOut_165 : decode cX2_carryOut 165 = .ok (.invokevirtual 322, 3) := by decide +kernel
theorem dX2_carryOut_168 : decode cX2_carryOut 168 = .ok (.pop, 1) := by decide +kernel
theorem dX2_carryOut_169 : decode cX2_carryOut 169 = .ok (.goto 53, 3) := by decide +kernel
theorem dX2_carryOut_172 : decode cX2_carryOut 172 = .ok (.aload_n 0, 1) := by decide +kernel
theorem dX2_carryOut_173 : decode cX2_carryOut 173 = .ok (.aload_n 2, 1) := by decide +kernel
theorem dX2_carryOut_174 : decode cX2_carryOut 174 = .ok (.iconst 0, 1) := by decide +kernel
theorem dX2_carryOut_175 : decode cX2_carryOut 175 = .ok (.iaload, 1) := by decide +kernel
theorem dX2_carryOut_176 : decode cX2_carryOut 176 = .ok (.aload_n 2, 1) := by decide +kernel
theorem dX2_carryOut_177 : decode cX2_carryOut 177 = .ok (.iconst 1, 1) := by decide +kernel
theorem dX2_carryOut_178 : decode cX2_carryOut 178 = .ok (.iaload, 1) := by decide +kernel
theorem dX2_carryOut_179 : decode cX2_carryOut 179 = .ok (.invokevirtual 325, 3) := by decide +kernel
theorem dX2_carryOut_182 : decode cX2_carryOut 182 = .ok (.pop, 1) := by decide +kernel
theorem dX2_carryOut_183 : decode cX2_carryOut 183 = .ok (.goto 39, 3) := by decide +kernel
theorem dX2_carryOut_186 : decode cX2_carryOut 186 = .ok (.aload_n 0, 1) := by decide +kernel
theorem dX2_carryOut_187 : decode cX2_carryOut 187 = .ok (.aload_n 2, 1) := by decide +kernel
theorem dX2_carryOut_188 : decode cX2_carryOut 188 = .ok (.iconst 0, 1) := by decide +kernel
theorem dX2_carryOut_189 : decode cX2_carryOut 189 = .ok (.iaload, 1) := by decide +kernel
theorem dX2_carryOut_190 : decode cX2_carryOut 190 = .ok (.aload_n 2, 1) := by decide +kernel
theorem dX2_carryOut_191 : decode cX2_carryOut 191 = .ok (.iconst 1, 1) := by decide +kernel
theorem dX2_carryOut_192 : decode cX2_carryOut 192 = .ok (.iaload, 1) := by decide +kernel
theorem dX2_carryOut_193 : decode cX2_carryOut 193 = .ok (.aload_n 2, 1) := by decide +kernel
theorem dX2_carryOut_194 : decode cX2_carryOut 194 = .ok (.iconst 3, 1) := by decide +kernel
theorem dX2_carryOut_195 : decode cX2_carryOut 195 = .ok (.iaload, 1) := by decide +kernel
theorem dX2_carryOut_196 : decode cX2_carryOut 196 = .ok (.aload_n 2, 1) := by decide +kernel
theorem dX2_carryOut_197 : decode cX2_carryOut 197 = .ok (.iconst 2, 1) := by decide +kernel
theorem dX2_carryOut_198 : decode cX2_carryOut 198 = .ok (.iaload, 1) := by decide +kernel
theorem dX2_carryOut_199 : decode cX2_carryOut 199 = .ok (.ifCond .eq 7, 3) := by decide +kernel
theorem dX2_carryOut_202 : decode cX2_carryOut 202 = .ok (.iconst 1, 1) := by decide +kernel
theorem dX2_carryOut_203 : decode cX2_carryOut 203 = .ok (.goto 4, 3) := by decide +kernel
theorem dX2_carryOut_206 : decode cX2_carryOut 206 = .ok (.iconst 0, 1) := by decide +kernel
theorem dX2_carryOut_207 : decode cX2_carryOut 207 = .ok (.invokevirtual 328, 3) := by decide +kernel
theorem dX2_carryOut_210 : decode cX2_carryOut 210 = .ok (.pop, 1) := by decide +kernel
theorem dX2_carryOut_211 : decode cX2_carryOut 211 = .ok (.goto 11, 3) := by decide +kernel
theorem dX2_carryOut_214 : decode cX2_carryOut 214 = .ok (.aload_n 0, 1) := by decide +kernel
theorem dX2_carryOut_215 : decode cX2_carryOut 215 = .ok (.aload_n 2, 1) := by decide +kernel
theorem dX2_carryOut_216 : decode cX2_carryOut 216 = .ok (.iconst 0, 1) := by decide +kernel
theorem dX2_carryOut_217 : decode cX2_carryOut 217 = .ok (.iaload, 1) := by decide +kernel
theorem dX2_carryOut_218 : decode cX2_carryOut 218 = .ok (.invokevirtual 332, 3) := by decide +kernel
theorem dX2_carryOut_221 : decode cX2_carryOut 221 = .ok (.pop, 1) := by decide +kernel
theorem dX2_carryOut_222 : decode cX2_carryOut 222 = .ok (.return_, 1) := by decide +kernel
theorem dX3_init_0 : decode cX3_init 0 = .ok (.aload_n 0, 1) := by decide +kernel
theorem dX3_init_1 : decode cX3_init 1 = .ok (.invokespecial 1, 3) := by decide +kernel
theorem dX3_init_4 : decode cX3_init 4 = .ok (.aload_n 0, 1) := by decide +kernel
theorem dX3_init_5 : decode cX3_init 5 = .ok (.getstatic 7, 3) := by decide +kernel
theorem dX3_init_8 : decode cX3_init 8 = .ok (.putfield 13, 3) := by decide +kernel
theorem dX3_init_11 : decode cX3_init 11 = .ok (.aload_n 0, 1) := by decide +kernel
theorem dX3_init_12 : decode cX3_init 12 = .ok (.iconst 4, 1) := by decide +kernel
theorem dX3_init_13 : decode cX3_init 13 = .ok (.newarray .int, 2) := by decide +kernel
theorem dX3_init_15 : decode cX3_init 15 = .ok (.putfield 18, 3) := by decide +kernel
theorem dX3_init_18 : decode cX3_init 18 = .ok (.return_, 1) := by decide +kernel
theorem dX3_addNumber_0 : decode cX3_addNumber 0 = .ok (.aload_n 0, 1) := by decide +kernel
theorem dX3_addNumber_1 : decode cX3_addNumber 1 = .ok (.getfield 22, 3) := by decide +kernel
theorem dX3_addNumber_4 : decode cX3_addNumber 4 = .ok (.iconst 4, 1) := by decide +kernel
theorem dX3_addNumber_5 : decode cX3_addNumber 5 = .ok (.if_icmp .ge 23, 3) := by decide +kernel
theorem dX3_addNumber_8 : decode cX3_addNumber 8 = .ok (.aload_n 0, 1) := by decide +kernel
theorem dX3_addNumber_9 : decode cX3_addNumber 9 = .ok (.getfield 18, 3) := by decide +kernel
theorem dX3_addNumber_12 : decode cX3_addNumber 12 = .ok (.aload_n 0, 1) := by decide +kernel
theorem dX3_addNumber_13 : decode cX3_addNumber 13 = .ok (.getfield 22, 3) := by decide +kernel
theorem dX3_addNumber_16 : decode cX3_addNumber 16 = .ok (.iload_n 1, 1) := by decide +kernel
theorem dX3_addNumber_17 : decode cX3_addNumber 17 = .ok (.iastore, 1) := by decide +kernel
theorem dX3_addNumber_18 : decode cX3_addNumber 18 = .ok (.aload_n 0, 1) := by decide +kernel
theorem dX3_addNumber_19 : decode cX3_addNumber 19 = .ok (.dup, 1) := by decide +kernel
theorem dX3_addNumber_20 : decode cX3_addNumber 20 = .ok (.getfield 22, 3) := by decide +kernel
theorem dX3_addNumber_23 : decode cX3_addNumber 23 = .ok (.iconst 1, 1) := by decide +kernel
theorem dX3_addNumber_24 : decode cX3_addNumber 24 = .ok (.iadd, 1) := by decide +kernel
theorem dX3_addNumber_25 : decode cX3_addNumber 25 = .ok (.putfield 22, 3) := by decide +kernel
theorem dX3_addNumber_28 : decode cX3_addNumber 28 = .ok (.return_, 1) := by decide +kernel
theorem dX4_init_0 : decode cX4_init 0 = .ok (.aload_n 0, 1) := by decide +kernel
theorem dX4_init_1 : decode cX4_init 1 = .ok (.invokespecial 3, 3) := by decide +kernel
theorem dX4_init_4 : decode cX4_init 4 = .ok (.aload_n 0, 1) := by decide +kernel
theorem dX4_init_5 : decode cX4_init 5 = .ok (.bipush 11, 2) := by decide +kernel
theorem dX4_init_7 : decode cX4_init 7 = .ok (.anewarray 11, 3) := by decide +kernel
theorem dX4_init_10 : decode cX4_init 10 = .ok (.putfield 13, 3) := by decide +kernel
theorem dX4_init_13 : decode cX4_init 13 = .ok (.iconst 0, 1) := by decide +kernel
theorem dX4_init_14 : decode cX4_init 14 = .ok (.istore_n 1, 1) := by decide +kernel
theorem dX4_init_15 : decode cX4_init 15 = .ok (.iload_n 1, 1) := by decide +kernel
theorem dX4_init_16 : decode cX4_init 16 = .ok (.bipush 11, 2) := by decide +kernel
theorem dX4_init_18 : decode cX4_init 18 = .ok (.if_icmp .ge 22, 3) := by decide +kernel
theorem dX4_init_21 : decode cX4_init 21 = .ok (.aload_n 0, 1) := by decide +kernel
theorem dX4_init_22 : decode cX4_init 22 = .ok (.getfield 13, 3) := by decide +kernel
theorem dX4_init_25 : decode cX4_init 25 = .ok (.iload_n 1, 1) := by decide +kernel
theorem dX4_init_26 : decode cX4_init 26 = .ok (.new 11, 3) := by decide +kernel
theorem dX4_init_29 : decode cX4_init 29 = .ok (.dup, 1) := by decide +kernel
theorem dX4_init_30 : decode cX4_init 30 = .ok (.invokespecial 17, 3) := by decide +kernel
theorem dX4_init_33 : decode cX4_init 33 = .ok (.aastore, 1) := by decide +kernel
theorem dX4_init_34 : decode cX4_init 34 = .ok (.iinc 1 1, 3) := by decide +kernel
theorem dX4_init_37 : decode cX4_init 37 = .ok (.goto (-22), 3) := by decide +kernel
theorem dX4_init_40 : decode cX4_init 40 = .ok (.return_, 1) := by decide +kernel
theorem dX4_read_0 : decode cX4_read 0 = .ok (.aload_n 0, 1) := by decide +kernel
theorem dX4_read_1 : decode cX4_read 1 = .ok (.iconst 0, 1) := by decide +kernel
theorem dX4_read_2 : decode cX4_read 2 = .ok (.putfield 18, 3) := by decide +kernel
theorem dX4_read_5 : decode cX4_read 5 = .ok (.aload_n 0, 1) := by decide +kernel
theorem dX4_read_6 : decode cX4_read 6 = .ok (.iconst 0, 1) := by decide +kernel
theorem dX4_read_7 : decode cX4_read 7 = .ok (.putfield 22, 3) := by decide +kernel
theorem dX4_read_10 : decode cX4_read 10 = .ok (.aload_n 0, 1) := by decide +kernel
theorem dX4_read_11 : decode cX4_read 11 = .ok (.getfield 18, 3) := by decide +kernel
theorem dX4_read_14 : decode cX4_read 14 = .ok (.bipush 11, 2) := by decide +kernel
theorem dX4_read_16 : decode cX4_read 16 = .ok (.if_icmp .ge 70, 3) := by decide +kernel
theorem dX4_read_19 : decode cX4_read 19 = .ok (.aload_n 0, 1) := by decide +kernel
theorem dX4_read_20 : decode cX4_read 20 = .ok (.aload_n 1, 1) := by decide +kernel
theorem dX4_read_21 : decode cX4_read 21 = .ok (.aload_n 0, 1) := by decide +kernel
theorem dX4_read_22 : decode cX4_read 22 = .ok (.getfield 13, 3) := by decide +kernel
theorem dX4_read_25 : decode cX4_read 25 = .ok (.aload_n 0, 1) := by decide +kernel
theorem dX4_read_26 : decode cX4_read 26 = .ok (.getfield 18, 3) := by decide +kernel
theorem dX4_read_29 : decode cX4_read 29 = .ok (.aaload, 1) := by decide +kernel
theorem dX4_read_30 : decode cX4_read 30 = .ok (.invokevirtual 25, 3) := by decide +kernel
theorem dX4_read_33 : decode cX4_read 33 = .ok (.ifCond .ne 5, 3) := by decide +kernel
theorem dX4_read_36 : decode cX4_read 36 = .ok (.iconst 0, 1) := by decide +kernel
theorem dX4_read_37 : decode cX4_read 37 = .ok (.ireturn, 1) := by decide +kernel
theorem dX4_read_38 : decode cX4_read 38 = .ok (.aload_n 0, 1) := by decide +kernel
theorem dX4_read_39 : decode cX4_read 39 = .ok (.dup, 1) := by decide +kernel
theorem dX4_read_40 : decode cX4_read 40 = .ok (.getfield 18, 3) := by decide +kernel
theorem dX4_read_43 : decode cX4_read 43 = .ok (.iconst 1, 1) := by decide +kernel
theorem dX4_read_44 : decode cX4_read 44 = .ok (.iadd, 1) := by decide +kernel
theorem dX4_read_45 : decode cX4_read 45 = .ok (.putfield 18, 3) := by decide +kernel
theorem dX4_read_48 : decode cX4_read 48 = .ok (.aload_n 0, 1) := by decide +kernel
theorem dX4_read_49 : decode cX4_read 49 = .ok (.getfield 22, 3) := by decide +kernel
theorem dX4_read_52 : decode cX4_read 52 = .ok (.aload_n 1, 1) := by decide +kernel
theorem dX4_read_53 : decode cX4_read 53 = .ok (.invokevirtual 29, 3) := by decide +kernel
theorem dX4_read_56 : decode cX4_read 56 = .ok (.if_icmp .ne 5, 3) := by decide +kernel
theorem dX4_read_59 : decode cX4_read 59 = .ok (.iconst 1, 1) := by decide +kernel
theorem dX4_read_60 : decode cX4_read 60 = .ok (.ireturn, 1) := by decide +kernel
theorem dX4_read_61 : decode cX4_read 61 = .ok (.aload_n 0, 1) := by decide +kernel
theorem dX4_read_62 : decode cX4_read 62 = .ok (.aload_n 1, 1) := by decide +kernel
theorem dX4_read_63 : decode cX4_read 63 = .ok (.invokevirtual 35, 3) := by decide +kernel
theorem dX4_read_66 : decode cX4_read 66 = .ok (.bipush 59, 2) := by decide +kernel
theorem dX4_read_68 : decode cX4_read 68 = .ok (.if_icmp .eq 5, 3) := by decide +kernel
theorem dX4_read_71 : decode cX4_read 71 = .ok (.iconst 0, 1) := by decide +kernel
theorem dX4_read_72 : decode cX4_read 72 = .ok (.ireturn, 1) := by decide +kernel
theorem dX4_read_73 : decode cX4_read 73 = .ok (.aload_n 0, 1) := by decide +kernel
theorem dX4_read_74 : decode cX4_read 74 = .ok (.dup, 1) := by decide +kernel
theorem dX4_read_75 : decode cX4_read 75 = .ok (.getfield 22, 3) := by decide +kernel
theorem dX4_read_78 : decode cX4_read 78 = .ok (.iconst 1, 1) := by decide +kernel
theorem dX4_read_79 : decode cX4_read 79 = .ok (.iadd, 1) := by decide +kernel
theorem dX4_read_80 : decode cX4_read 80 = .ok (.putfield 22, 3) := by decide +kernel
theorem dX4_read_83 : decode cX4_read 83 = .ok (.goto (-73), 3) := by decide +kernel
theorem dX4_read_86 : decode cX4_read 86 = .ok (.iconst 0, 1) := by decide +kernel
theorem dX4_read_87 : decode cX4_read 87 = .ok (.ireturn, 1) := by decide +kernel
theorem dX4_readCommand_0 : decode cX4_readCommand 0 = .ok (.aload_n 0, 1) := by decide +kernel
theorem dX4_readCommand_1 : decode cX4_readCommand 1 = .ok (.getfield 22, 3) := by decide +kernel
theorem dX4_readCommand_4 : decode cX4_readCommand 4 = .ok (.istore_n 3, 1) := by decide +kernel
theorem dX4_readCommand_5 : decode cX4_readCommand 5 = .ok (.iload_n 3, 1) := by decide +kernel
theorem dX4_readCommand_6 : decode cX4_readCommand 6 = .ok (.istore 4, 2) := by decide +kernel
theorem dX4_readCommand_8 : decode cX4_readCommand 8 = .ok (.iconst 0, 1) := by decide +kernel
theorem dX4_readCommand_9 : decode cX4_readCommand 9 = .ok (.istore 5, 2) := by decide +kernel
theorem dX4_readCommand_11 : decode cX4_readCommand 11 = .ok (.iload 5, 2) := by decide +kernel
theorem dX4_readCommand_13 : decode cX4_readCommand 13 = .ok (.getstatic 39, 3) := by decide +kernel
theorem dX4_readCommand_16 : decode cX4_readCommand 16 = .ok (.arraylength, 1) := by decide +kernel
theorem dX4_readCommand_17 : decode cX4_readCommand 17 = .ok (.if_icmp .ge 51, 3) := by decide +kernel
theorem dX4_readCommand_20 : decode cX4_readCommand 20 = .ok (.aload_n 0, 1) := by decide +kernel
theorem dX4_readCommand_21 : decode cX4_readCommand 21 = .ok (.iload_n 3, 1) := by decide +kernel
theorem dX4_readCommand_22 : decode cX4_readCommand 22 = .ok (.putfield 22, 3) := by decide +kernel
theorem dX4_readCommand_25 : decode cX4_readCommand 25 = .ok (.aload_n 2, 1) := by decide +kernel
theorem dX4_readCommand_26 : decode cX4_readCommand 26 = .ok (.getstatic 39, 3) := by decide +kernel
theorem dX4_readCommand_29 : decode cX4_readCommand 29 = .ok (.iload 5, 2) := by decide +kernel
theorem dX4_readCommand_31 : decode cX4_readCommand 31 = .ok (.aaload, 1) := by decide +kernel
theorem dX4_readCommand_32 : decode cX4_readCommand 32 = .ok (.putfield 43, 3) := by decide +kernel
theorem dX4_readCommand_35 : decode cX4_readCommand 35 = .ok (.aload_n 2, 1) := by decide +kernel
theorem dX4_readCommand_36 : decode cX4_readCommand 36 = .ok (.iconst 0, 1) := by decide +kernel
theorem dX4_readCommand_37 : decode cX4_readCommand 37 = .ok (.putfield 47, 3) := by decide +kernel
theorem dX4_readCommand_40 : decode cX4_readCommand 40 = .ok (.aload_n 0, 1) := by decide +kernel
theorem dX4_readCommand_41 : decode cX4_readCommand 41 = .ok (.aload_n 1, 1) := by decide +kernel
theorem dX4_readCommand_42 : decode cX4_readCommand 42 = .ok (.aload_n 2, 1) := by decide +kernel
theorem dX4_readCommand_43 : decode cX4_readCommand 43 = .ok (.invokevirtual 48, 3) := by decide +kernel
theorem dX4_readCommand_46 : decode cX4_readCommand 46 = .ok (.ifCond .eq 5, 3) := by decide +kernel
theorem dX4_readCommand_49 : decode cX4_readCommand 49 = .ok (.iconst 1, 1) := by decide +kernel
theorem dX4_readCommand_50 : decode cX4_readCommand 50 = .ok (.ireturn, 1) := by decide +kernel
theorem dX4_readCommand_51 : decode cX4_readCommand 51 = .ok (.iload 4, 2) := by decide +kernel
theorem dX4_readCommand_53 : decode cX4_readCommand 53 = .ok (.aload_n 0, 1) := by decide +kernel
theorem dX4_readCommand_54 : decode cX4_readCommand 54 = .ok (.getfield 22, 3) := by decide +kernel
theorem dX4_readCommand_57 : decode cX4_readCommand 57 = .ok (.invokestatic 51, 3) := by decide +kernel
theorem dX4_readCommand_60 : decode cX4_readCommand 60 = .ok (.istore 4, 2) := by decide +kernel
theorem dX4_readCommand_62 : decode cX4_readCommand 62 = .ok (.iinc 5 1, 3) := by decide +kernel
theorem dX4_readCommand_65 : decode cX4_readCommand 65 = .ok (.goto (-54), 3) := by decide +kernel
theorem dX4_readCommand_68 : decode cX4_readCommand 68 = .ok (.aload_n 0, 1) := by decide +kernel
theorem dX4_readCommand_69 : decode cX4_readCommand 69 = .ok (.iload 4, 2) := by decide +kernel
theorem dX4_readCommand_71 : decode cX4_readCommand 71 = .ok (.putfield 22, 3) := by decide +kernel
theorem dX4_readCommand_74 : decode cX4_readCommand 74 = .ok (.iconst 0, 1) := by decide +kernel
theorem dX4_readCommand_75 : decode cX4_readCommand 75 = .ok (.ireturn, 1) := by decide +kernel
theorem dX4_readForm_0 : decode cX4_readForm 0 = .ok (.aload_n 2, 1) := by decide +kernel
theorem dX4_readForm_1 : decode cX4_readForm 1 = .ok (.getfield 43, 3) := by decide +kernel
theorem dX4_readForm_4 : decode cX4_readForm 4 = .ok (.getfield 57, 3) := by decide +kernel
theorem dX4_readForm_7 : decode cX4_readForm 7 = .ok (.astore_n 3, 1) := by decide +kernel
theorem dX4_readForm_8 : decode cX4_readForm 8 = .ok (.iconst 1, 1) := by decide +kernel
theorem dX4_readForm_9 : decode cX4_readForm 9 = .ok (.istore 4, 2) := by decide +kernel
theorem dX4_readForm_11 : decode cX4_readForm 11 = .ok (.iconst 0, 1) := by decide +kernel
theorem dX4_readForm_12 : decode cX4_readForm 12 = .ok (.istore 5, 2) := by decide +kernel
theorem dX4_readForm_14 : decode cX4_readForm 14 = .ok (.iload 4, 2) := by decide +kernel
theorem dX4_readForm_16 : decode cX4_readForm 16 = .ok (.ifCond .eq 91, 3) := by decide +kernel
theorem dX4_readForm_19 : decode cX4_readForm 19 = .ok (.iload 5, 2) := by decide +kernel
theorem dX4_readForm_21 : decode cX4_readForm 21 = .ok (.aload_n 3, 1) := by decide +kernel
theorem dX4_readForm_22 : decode cX4_readForm 22 = .ok (.invokevirtual 63, 3) := by decide +kernel
theorem dX4_readForm_25 : decode cX4_readForm 25 = .ok (.if_icmp .ge 82, 3) := by decide +kernel
theorem dX4_readForm_28 : decode cX4_readForm 28 = .ok (.aload_n 3, 1) := by decide +kernel
theorem dX4_readForm_29 : decode cX4_readForm 29 = .ok (.iload 5, 2) := by decide +kernel
theorem dX4_readForm_31 : decode cX4_readForm 31 = .ok (.invokevirtual 66, 3) := by decide +kernel
theorem dX4_readForm_34 : decode cX4_readForm 34 = .ok (.istore 6, 2) := by decide +kernel
theorem dX4_readForm_36 : decode cX4_readForm 36 = .ok (.iload 6, 2) := by decide +kernel
theorem dX4_readForm_38 : decode cX4_readForm 38 = .ok (.bipush 68, 2) := by decide +kernel
theorem dX4_readForm_40 : decode cX4_readForm 40 = .ok (.if_icmp .ne 15, 3) := by decide +kernel
theorem dX4_readForm_43 : decode cX4_readForm 43 = .ok (.aload_n 0, 1) := by decide +kernel
theorem dX4_readForm_44 : decode cX4_readForm 44 = .ok (.aload_n 1, 1) := by decide +kernel
theorem dX4_readForm_45 : decode cX4_readForm 45 = .ok (.iconst 1, 1) := by decide +kernel
theorem dX4_readForm_46 : decode cX4_readForm 46 = .ok (.aload_n 2, 1) := by decide +kernel
theorem dX4_readForm_47 : decode cX4_readForm 47 = .ok (.invokevirtual 70, 3) := by decide +kernel
theorem dX4_readForm_50 : decode cX4_readForm 50 = .ok (.istore 4, 2) := by decide +kernel
theorem dX4_readForm_52 : decode cX4_readForm 52 = .ok (.goto 49, 3) := by decide +kernel
theorem dX4_readForm_55 : decode cX4_readForm 55 = .ok (.iload 6, 2) := by decide +kernel
theorem dX4_readForm_57 : decode cX4_readForm 57 = .ok (.bipush 78, 2) := by decide +kernel
theorem dX4_readForm_59 : decode cX4_readForm 59 = .ok (.if_icmp .ne 15, 3) := by decide +kernel
theorem dX4_readForm_62 : decode cX4_readForm 62 = .ok (.aload_n 0, 1) := by decide +kernel
theorem dX4_readForm_63 : decode cX4_readForm 63 = .ok (.aload_n 1, 1) := by decide +kernel
theorem dX4_readForm_64 : decode cX4_readForm 64 = .ok (.iconst 2, 1) := by decide +kernel
theorem dX4_readForm_65 : decode cX4_readForm 65 = .ok (.aload_n 2, 1) := by decide +kernel
theorem dX4_readForm_66 : decode cX4_readForm 66 = .ok (.invokevirtual 70, 3) := by decide +kernel
theorem dX4_readForm_69 : decode cX4_readForm 69 = .ok (.istore 4, 2) := by decide +kernel
theorem dX4_readForm_71 : decode cX4_readForm 71 = .ok (.goto 30, 3) := by decide +kernel
theorem dX4_readForm_74 : decode cX4_readForm 74 = .ok (.iload 6, 2) := by decide +kernel
theorem dX4_readForm_76 : decode cX4_readForm 76 = .ok (.bipush 83, 2) := by decide +kernel
theorem dX4_readForm_78 : decode cX4_readForm 78 = .ok (.if_icmp .ne 14, 3) := by decide +kernel
theorem dX4_readForm_81 : decode cX4_readForm 81 = .ok (.aload_n 0, 1) := by decide +kernel
theorem dX4_readForm_82 : decode cX4_readForm 82 = .ok (.aload_n 1, 1) := by decide +kernel
theorem dX4_readForm_83 : decode cX4_readForm 83 = .ok (.aload_n 2, 1) := by decide +kernel
theorem dX4_readForm_84 : decode cX4_readForm 84 = .ok (.invokevirtual 74, 3) := by decide +kernel
theorem dX4_readForm_87 : decode cX4_readForm 87 = .ok (.istore 4, 2) := by decide +kernel
theorem dX4_readForm_89 : decode cX4_readForm 89 = .ok (.goto 12, 3) := by decide +kernel
theorem dX4_readForm_92 : decode cX4_readForm 92 = .ok (.aload_n 0, 1) := by decide +kernel
theorem dX4_readForm_93 : decode cX4_readForm 93 = .ok (.aload_n 1, 1) := by decide +kernel
theorem dX4_readForm_94 : decode cX4_readForm 94 = .ok (.iload 6, 2) := by decide +kernel
theorem dX4_readForm_96 : decode cX4_readForm 96 = .ok (.invokevirtual 77, 3) := by decide +kernel
theorem dX4_readForm_99 : decode cX4_readForm 99 = .ok (.istore 4, 2) := by decide +kernel
theorem dX4_readForm_101 : decode cX4_readForm 101 = .ok (.iinc 5 1, 3) := by decide +kernel
theorem dX4_readForm_104 : decode cX4_readForm 104 = .ok (.goto (-90), 3) := by decide +kernel
theorem dX4_readForm_107 : decode cX4_readForm 107 = .ok (.iload 4, 2) := by decide +kernel
theorem dX4_readForm_109 : decode cX4_readForm 109 = .ok (.ireturn, 1) := by decide +kernel
theorem dX4_readNumber_0 : decode cX4_readNumber 0 = .ok (.iconst 0, 1) := by decide +kernel
theorem dX4_readNumber_1 : decode cX4_readNumber 1 = .ok (.istore 4, 2) := by decide +kernel
theorem dX4_readNumber_3 : decode cX4_readNumber 3 = .ok (.iconst 0, 1) := by decide +kernel
theorem dX4_readNumber_4 : decode cX4_readNumber 4 = .ok (.istore 5, 2) := by decide +kernel
theorem dX4_readNumber_6 : decode cX4_readNumber 6 = .ok (.iload 4, 2) := by decide +kernel
theorem dX4_readNumber_8 : decode cX4_readNumber 8 = .ok (.iload_n 2, 1) := by decide +kernel
theorem dX4_readNumber_9 : decode cX4_readNumber 9 = .ok (.if_icmp .ge 46, 3) := by decide +kernel
theorem dX4_readNumber_12 : decode cX4_readNumber 12 = .ok (.aload_n 0, 1) := by decide +kernel
theorem dX4_readNumber_13 : decode cX4_readNumber 13 = .ok (.aload_n 1, 1) := by decide +kernel
theorem dX4_readNumber_14 : decode cX4_readNumber 14 = .ok (.invokevirtual 35, 3) := by decide +kernel
theorem dX4_readNumber_17 : decode cX4_readNumber 17 = .ok (.invokestatic 81, 3) := by decide +kernel
theorem dX4_readNumber_20 : decode cX4_readNumber 20 = .ok (.ifCond .eq 35, 3) := by decide +kernel
theorem dX4_readNumber_23 : decode cX4_readNumber 23 = .ok (.bipush 10, 2) := by decide +kernel
theorem dX4_readNumber_25 : decode cX4_readNumber 25 = .ok (.iload 5, 2) := by decide +kernel
theorem dX4_readNumber_27 : decode cX4_readNumber 27 = .ok (.imul, 1) := by decide +kernel
theorem dX4_readNumber_28 : decode cX4_readNumber 28 = .ok (.aload_n 0, 1) := by decide +kernel
theorem dX4_readNumber_29 : decode cX4_readNumber 29 = .ok (.aload_n 1, 1) := by decide +kernel
theorem dX4_readNumber_30 : decode cX4_readNumber 30 = .ok (.invokevirtual 35, 3) := by decide +kernel
theorem dX4_readNumber_33 : decode cX4_readNumber 33 = .ok (.bipush 48, 2) := by decide +kernel
theorem dX4_readNumber_35 : decode cX4_readNumber 35 = .ok (.isub, 1) := by decide +kernel
theorem dX4_readNumber_36 : decode cX4_readNumber 36 = .ok (.iadd, 1) := by decide +kernel
theorem dX4_readNumber_37 : decode cX4_readNumber 37 = .ok (.istore 5, 2) := by decide +kernel
theorem dX4_readNumber_39 : decode cX4_readNumber 39 = .ok (.aload_n 0, 1) := by decide +kernel
theorem dX4_readNumber_40 : decode cX4_readNumber 40 = .ok (.dup, 1) := by decide +kernel
theorem dX4_readNumber_41 : decode cX4_readNumber 41 = .ok (.getfield 22, 3) := by decide +kernel
theorem dX4_readNumber_44 : decode cX4_readNumber 44 = .ok (.iconst 1, 1) := by decide +kernel
theorem dX4_readNumber_45 : decode cX4_readNumber 45 = .ok (.iadd, 1) := by decide +kernel
theorem dX4_readNumber_46 : decode cX4_readNumber 46 = .ok (.putfield 22, 3) := by decide +kernel
theorem dX4_readNumber_49 : decode cX4_readNumber 49 = .ok (.iinc 4 1, 3) := by decide +kernel
theorem dX4_readNumber_52 : decode cX4_readNumber 52 = .ok (.goto (-46), 3) := by decide +kernel
theorem dX4_readNumber_55 : decode cX4_readNumber 55 = .ok (.aload_n 3, 1) := by decide +kernel
theorem dX4_readNumber_56 : decode cX4_readNumber 56 = .ok (.iload 5, 2) := by decide +kernel
theorem dX4_readNumber_58 : decode cX4_readNumber 58 = .ok (.invokevirtual 85, 3) := by decide +kernel
theorem dX4_readNumber_61 : decode cX4_readNumber 61 = .ok (.iload 4, 2) := by decide +kernel
theorem dX4_readNumber_63 : decode cX4_readNumber 63 = .ok (.ifCond .le 7, 3) := by decide +kernel
theorem dX4_readNumber_66 : decode cX4_readNumber 66 = .ok (.iconst 1, 1) := by decide +kernel
theorem dX4_readNumber_67 : decode cX4_readNumber 67 = .ok (.goto 4, 3) := by decide +kernel
theorem dX4_readNumber_70 : decode cX4_readNumber 70 = .ok (.iconst 0, 1) := by decide +kernel
theorem dX4_readNumber_71 : decode cX4_readNumber 71 = .ok (.ireturn, 1) := by decide +kernel
theorem dX4_readSign_0 : decode cX4_readSign 0 = .ok (.aload_n 0, 1) := by decide +kernel
theorem dX4_readSign_1 : decode cX4_readSign 1 = .ok (.aload_n 1, 1) := by decide +kernel
theorem dX4_readSign_2 : decode cX4_readSign 2 = .ok (.invokevirtual 35, 3) := by decide +kernel
theorem dX4_readSign_5 : decode cX4_readSign 5 = .ok (.bipush 43, 2) := by decide +kernel
theorem dX4_readSign_7 : decode cX4_readSign 7 = .ok (.if_icmp .ne 7, 3) := by decide +kernel
theorem dX4_readSign_10 : decode cX4_readSign 10 = .ok (.iconst 1, 1) := by decide +kernel
theorem dX4_readSign_11 : decode cX4_readSign 11 = .ok (.goto 4, 3) := by decide +kernel
theorem dX4_readSign_14 : decode cX4_readSign 14 = .ok (.iconst 0, 1) := by decide +kernel
theorem dX4_readSign_15 : decode cX4_readSign 15 = .ok (.istore_n 3, 1) := by decide +kernel
theorem dX4_readSign_16 : decode cX4_readSign 16 = .ok (.aload_n 2, 1) := by decide +kernel
theorem dX4_readSign_17 : decode cX4_readSign 17 = .ok (.iload_n 3, 1) := by decide +kernel
theorem dX4_readSign_18 : decode cX4_readSign 18 = .ok (.ifCond .eq 7, 3) := by decide +kernel
theorem dX4_readSign_21 : decode cX4_readSign 21 = .ok (.iconst 1, 1) := by decide +kernel
theorem dX4_readSign_22 : decode cX4_readSign 22 = .ok (.goto 4, 3) := by decide +kernel
theorem dX4_readSign_25 : decode cX4_readSign 25 = .ok (.iconst 0, 1) := by decide +kernel
theorem dX4_readSign_26 : decode cX4_readSign 26 = .ok (.invokevirtual 85, 3) := by decide +kernel
theorem dX4_readSign_29 : decode cX4_readSign 29 = .ok (.aload_n 0, 1) := by decide +kernel
theorem dX4_readSign_30 : decode cX4_readSign 30 = .ok (.aload_n 1, 1) := by decide +kernel
theorem dX4_readSign_31 : decode cX4_readSign 31 = .ok (.iload_n 3, 1) := by decide +kernel
theorem dX4_readSign_32 : decode cX4_readSign 32 = .ok (.ifCond .eq 8, 3) := by decide +kernel
theorem dX4_readSign_35 : decode cX4_readSign 35 = .ok (.bipush 43, 2) := by decide +kernel
theorem dX4_readSign_37 : decode cX4_readSign 37 = .ok (.goto 5, 3) := by decide +kernel
theorem dX4_readSign_40 : decode cX4_readSign 40 = .ok (.bipush 45, 2) := by decide +kernel
theorem dX4_readSign_42 : decode cX4_readSign 42 = .ok (.invokevirtual 77, 3) := by decide +kernel
theorem dX4_readSign_45 : decode cX4_readSign 45 = .ok (.ireturn, 1) := by decide +kernel
theorem dX4_readCharacter_0 : decode cX4_readCharacter 0 = .ok (.aload_n 0, 1) := by decide +kernel
theorem dX4_readCharacter_1 : decode cX4_readCharacter 1 = .ok (.aload_n 1, 1) := by decide +kernel
theorem dX4_readCharacter_2 : decode cX4_readCharacter 2 = .ok (.invokevirtual 35, 3) := by decide +kernel
theorem dX4_readCharacter_5 : decode cX4_readCharacter 5 = .ok (.iload_n 2, 1) := by decide +kernel
theorem dX4_readCharacter_6 : decode cX4_readCharacter 6 = .ok (.if_icmp .eq 5, 3) := by decide +kernel
theorem dX4_readCharacter_9 : decode cX4_readCharacter 9 = .ok (.iconst 0, 1) := by decide +kernel
theorem dX4_readCharacter_10 : decode cX4_readCharacter 10 = .ok (.ireturn, 1) := by decide +kernel
theorem dX4_readCharacter_11 : decode cX4_readCharacter 11 = .ok (.aload_n 0, 1) := by decide +kernel
theorem dX4_readCharacter_12 : decode cX4_readCharacter 12 = .ok (.dup, 1) := by decide +kernel
theorem dX4_readCharacter_13 : decode cX4_readCharacter 13 = .ok (.getfield 22, 3) := by decide +kernel
theorem dX4_readCharacter_16 : decode cX4_readCharacter 16 = .ok (.iconst 1, 1) := by decide +kernel
theorem dX4_readCharacter_17 : decode cX4_readCharacter 17 = .ok (.iadd, 1) := by decide +kernel
theorem dX4_readCharacter_18 : decode cX4_readCharacter 18 = .ok (.putfield 22, 3) := by decide +kernel
theorem dX4_readCharacter_21 : decode cX4_readCharacter 21 = .ok (.iconst 1, 1) := by decide +kernel
theorem dX4_readCharacter_22 : decode cX4_readCharacter 22 = .ok (.ireturn, 1) := by decide +kernel
theorem dX4_charAtPosition_0 : decode cX4_charAtPosition 0 = .ok (.aload_n 0, 1) := by decide +kernel
theorem dX4_charAtPosition_1 : decode cX4_charAtPosition 1 = .ok (.getfield 22, 3) := by decide +kernel
theorem dX4_charAtPosition_4 : decode cX4_charAtPosition 4 = .ok (.aload_n 1, 1) := by decide +kernel
theorem dX4_charAtPosition_5 : decode cX4_charAtPosition 5 = .ok (.invokevirtual 29, 3) := by decide +kernel
theorem dX4_charAtPosition_8 : decode cX4_charAtPosition 8 = .ok (.if_icmp .ge 14, 3) := by decide +kernel
theorem dX4_charAtPosition_11 : decode cX4_charAtPosition 11 = .ok (.aload_n 1, 1) := by decide +kernel
theorem dX4_charAtPosition_12 : decode cX4_charAtPosition 12 = .ok (.aload_n 0, 1) := by decide +kernel
theorem dX4_charAtPosition_13 : decode cX4_charAtPosition 13 = .ok (.getfield 22, 3) := by decide +kernel
theorem dX4_charAtPosition_16 : decode cX4_charAtPosition 16 = .ok (.invokevirtual 89, 3) := by decide +kernel
theorem dX4_charAtPosition_19 : decode cX4_charAtPosition 19 = .ok (.goto 4, 3) := by decide +kernel
theorem dX4_charAtPosition_22 : decode cX4_charAtPosition 22 = .ok (.iconst 0, 1) := by decide +kernel
theorem dX4_charAtPosition_23 : decode cX4_charAtPosition 23 = .ok (.ireturn, 1) := by decide +kernel
theorem dX4_isDigit_0 : decode cX4_isDigit 0 = .ok (.iload_n 0, 1) := by decide +kernel
theorem dX4_isDigit_1 : decode cX4_isDigit 1 = .ok (.bipush 48, 2) := by decide +kernel
theorem dX4_isDigit_3 : decode cX4_isDigit 3 = .ok (.if_icmp .lt 13, 3) := by decide +kernel
theorem dX4_isDigit_6 : decode cX4_isDigit 6 = .ok (.iload_n 0, 1) := by decide +kernel
theorem dX4_isDigit_7 : decode cX4_isDigit 7 = .ok (.bipush 57, 2) := by decide +kernel
theorem dX4_isDigit_9 : decode cX4_isDigit 9 = .ok (.if_icmp .gt 7, 3) := by decide +kernel
theorem dX4_isDigit_12 : decode cX4_isDigit 12 = .ok (.iconst 1, 1) := by decide +kernel
theorem dX4_isDigit_13 : decode cX4_isDigit 13 = .ok (.goto 4, 3) := by decide +kernel
theorem dX4_isDigit_16 : decode cX4_isDigit 16 = .ok (.iconst 0, 1) := by decide +kernel
theorem dX4_isDigit_17 : decode cX4_isDigit 17 = .ok (.ireturn, 1) := by decide +kernel
theorem dX5_init_0 : decode cX5_init 0 = .ok (.aload_n 0, 1) := by decide +kernel
theorem dX5_init_1 : decode cX5_init 1 = .ok (.invokespecial 3, 3) := by decide +kernel
theorem dX5_init_4 : decode cX5_init 4 = .ok (.aload_n 0, 1) := by decide +kernel
theorem dX5_init_5 : decode cX5_init 5 = .ok (.bipush 8, 2) := by decide +kernel
theorem dX5_init_7 : decode cX5_init 7 = .ok (.anewarray 9, 3) := by decide +kernel
theorem dX5_init_10 : decode cX5_init 10 = .ok (.putfield 11, 3) := by decide +kernel
theorem dX5_init_13 : decode cX5_init 13 = .ok (.iconst 0, 1) := by decide +kernel
theorem dX5_init_14 : decode cX5_init 14 = .ok (.istore_n 1, 1) := by decide +kernel
theorem dX5_init_15 : decode cX5_init 15 = .ok (.iload_n 1, 1) := by decide +kernel
theorem dX5_init_16 : decode cX5_init 16 = .ok (.bipush 8, 2) := by decide +kernel
theorem dX5_init_18 : decode cX5_init 18 = .ok (.if_icmp .ge 22, 3) := by decide +kernel
theorem dX5_init_21 : decode cX5_init 21 = .ok (.aload_n 0, 1) := by decide +kernel
theorem dX5_init_22 : decode cX5_init 22 = .ok (.getfield 11, 3) := by decide +kernel
theorem dX5_init_25 : decode cX5_init 25 = .ok (.iload_n 1, 1) := by decide +kernel
theorem dX5_init_26 : decode cX5_init 26 = .ok (.new 9, 3) := by decide +kernel
theorem dX5_init_29 : decode cX5_init 29 = .ok (.dup, 1) := by decide +kernel
theorem dX5_init_30 : decode cX5_init 30 = .ok (.invokespecial 17, 3) := by decide +kernel
theorem dX5_init_33 : decode cX5_init 33 = .ok (.aastore, 1) := by decide +kernel
theorem dX5_init_34 : decode cX5_init 34 = .ok (.iinc 1 1, 3) := by decide +kernel
theorem dX5_init_37 : decode cX5_init 37 = .ok (.goto (-22), 3) := by decide +kernel
theorem dX5_init_40 : decode cX5_init 40 = .ok (.return_, 1) := by decide +kernel
theorem dX5_push_0 : decode cX5_push 0 = .ok (.aload_n 0, 1) := by decide +kernel
theorem dX5_push_1 : decode cX5_push 1 = .ok (.getfield 11, 3) := by decide +kernel
theorem dX5_push_4 : decode cX5_push 4 = .ok (.aload_n 0, 1) := by decide +kernel
theorem dX5_push_5 : decode cX5_push 5 = .ok (.getfield 18, 3) := by decide +kernel
theorem dX5_push_8 : decode cX5_push 8 = .ok (.aaload, 1) := by decide +kernel
theorem dX5_push_9 : decode cX5_push 9 = .ok (.aload_n 1, 1) := by decide +kernel
theorem dX5_push_10 : decode cX5_push 10 = .ok (.invokevirtual 22, 3) := by decide +kernel
theorem dX5_push_13 : decode cX5_push 13 = .ok (.aload_n 0, 1) := by decide +kernel
theorem dX5_push_14 : decode cX5_push 14 = .ok (.aload_n 0, 1) := by decide +kernel
theorem dX5_push_15 : decode cX5_push 15 = .ok (.getfield 18, 3) := by decide +kernel
theorem dX5_push_18 : decode cX5_push 18 = .ok (.iconst 1, 1) := by decide +kernel
theorem dX5_push_19 : decode cX5_push 19 = .ok (.iadd, 1) := by decide +kernel
theorem dX5_push_20 : decode cX5_push 20 = .ok (.bipush 8, 2) := by decide +kernel
theorem dX5_push_22 : decode cX5_push 22 = .ok (.irem, 1) := by decide +kernel
theorem dX5_push_23 : decode cX5_push 23 = .ok (.putfield 18, 3) := by decide +kernel
theorem dX5_push_26 : decode cX5_push 26 = .ok (.aload_n 0, 1) := by decide +kernel
theorem dX5_push_27 : decode cX5_push 27 = .ok (.getfield 26, 3) := by decide +kernel
theorem dX5_push_30 : decode cX5_push 30 = .ok (.bipush 8, 2) := by decide +kernel
theorem dX5_push_32 : decode cX5_push 32 = .ok (.if_icmp .ge 13, 3) := by decide +kernel
theorem dX5_push_35 : decode cX5_push 35 = .ok (.aload_n 0, 1) := by decide +kernel
theorem dX5_push_36 : decode cX5_push 36 = .ok (.dup, 1) := by decide +kernel
theorem dX5_push_37 : decode cX5_push 37 = .ok (.getfield 26, 3) := by decide +kernel
theorem dX5_push_40 : decode cX5_push 40 = .ok (.iconst 1, 1) := by decide +kernel
theorem dX5_push_41 : decode cX5_push 41 = .ok (.iadd, 1) := by decide +kernel
theorem dX5_push_42 : decode cX5_push 42 = .ok (.putfield 26, 3) := by decide +kernel
theorem dX5_push_45 : decode cX5_push 45 = .ok (.return_, 1) := by decide +kernel
theorem dX5_pop_0 : decode cX5_pop 0 = .ok (.aload_n 0, 1) := by decide +kernel
theorem dX5_pop_1 : decode cX5_pop 1 = .ok (.aload_n 0, 1) := by decide +kernel
theorem dX5_pop_2 : decode cX5_pop 2 = .ok (.getfield 18, 3) := by decide +kernel
theorem dX5_pop_5 : decode cX5_pop 5 = .ok (.bipush 8, 2) := by decide +kernel
theorem dX5_pop_7 : decode cX5_pop 7 = .ok (.iadd, 1) := by decide +kernel
theorem dX5_pop_8 : decode cX5_pop 8 = .ok (.iconst 1, 1) := by decide +kernel
theorem dX5_pop_9 : decode cX5_pop 9 = .ok (.isub, 1) := by decide +kernel
theorem dX5_pop_10 : decode cX5_pop 10 = .ok (.bipush 8, 2) := by decide +kernel
theorem dX5_pop_12 : decode cX5_pop 12 = .ok (.irem, 1) := by decide +kernel
theorem dX5_pop_13 : decode cX5_pop 13 = .ok (.putfield 18, 3) := by decide +kernel
theorem dX5_pop_16 : decode cX5_pop 16 = .ok (.aload_n 0, 1) := by decide +kernel
theorem dX5_pop_17 : decode cX5_pop 17 = .ok (.dup, 1) := by decide +kernel
theorem dX5_pop_18 : decode cX5_pop 18 = .ok (.getfield 26, 3) := by decide +kernel
theorem dX5_pop_21 : decode cX5_pop 21 = .ok (.iconst 1, 1) := by decide +kernel
theorem dX5_pop_22 : decode cX5_pop 22 = .ok (.isub, 1) := by decide +kernel
theorem dX5_pop_23 : decode cX5_pop 23 = .ok (.putfield 26, 3) := by decide +kernel
theorem dX5_pop_26 : decode cX5_pop 26 = .ok (.aload_n 1, 1) := by decide +kernel
theorem dX5_pop_27 : decode cX5_pop 27 = .ok (.aload_n 0, 1) := by decide +kernel
theorem dX5_pop_28 : decode cX5_pop 28 = .ok (.getfield 11, 3) := by decide +kernel
theorem dX5_pop_31 : decode cX5_pop 31 = .ok (.aload_n 0, 1) := by decide +kernel
theorem dX5_pop_32 : decode cX5_pop 32 = .ok (.getfield 18, 3) := by decide +kernel
theorem dX5_pop_35 : decode cX5_pop 35 = .ok (.aaload, 1) := by decide +kernel
theorem dX5_pop_36 : decode cX5_pop 36 = .ok (.invokevirtual 22, 3) := by decide +kernel
theorem dX5_pop_39 : decode cX5_pop 39 = .ok (.return_, 1) := by decide +kernel
theorem dX5_forget_0 : decode cX5_forget 0 = .ok (.aload_n 0, 1) := by decide +kernel
theorem dX5_forget_1 : decode cX5_forget 1 = .ok (.iconst 0, 1) := by decide +kernel
theorem dX5_forget_2 : decode cX5_forget 2 = .ok (.putfield 26, 3) := by decide +kernel
theorem dX5_forget_5 : decode cX5_forget 5 = .ok (.return_, 1) := by decide +kernel
theorem dX6_init_0 : decode cX6_init 0 = .ok (.aload_n 0, 1) := by decide +kernel
theorem dX6_init_1 : decode cX6_init 1 = .ok (.invokespecial 3, 3) := by decide +kernel
theorem dX6_init_4 : decode cX6_init 4 = .ok (.aload_n 0, 1) := by decide +kernel
theorem dX6_init_5 : decode cX6_init 5 = .ok (.bipush 12, 2) := by decide +kernel
theorem dX6_init_7 : decode cX6_init 7 = .ok (.newarray .int, 2) := by decide +kernel
theorem dX6_init_9 : decode cX6_init 9 = .ok (.putfield 9, 3) := by decide +kernel
theorem dX6_init_12 : decode cX6_init 12 = .ok (.aload_n 0, 1) := by decide +kernel
theorem dX6_init_13 : decode cX6_init 13 = .ok (.bipush 12, 2) := by decide +kernel
theorem dX6_init_15 : decode cX6_init 15 = .ok (.newarray .int, 2) := by decide +kernel
theorem dX6_init_17 : decode cX6_init 17 = .ok (.putfield 15, 3) := by decide +kernel
theorem dX6_init_20 : decode cX6_init 20 = .ok (.aload_n 0, 1) := by decide +kernel
theorem dX6_init_21 : decode cX6_init 21 = .ok (.bipush 12, 2) := by decide +kernel
theorem dX6_init_23 : decode cX6_init 23 = .ok (.newarray .int, 2) := by decide +kernel
theorem dX6_init_25 : decode cX6_init 25 = .ok (.putfield 18, 3) := by decide +kernel
theorem dX6_init_28 : decode cX6_init 28 = .ok (.return_, 1) := by decide +kernel
theorem dX6_copyFrom_0 : decode cX6_copyFrom 0 = .ok (.aload_n 0, 1) := by decide +kernel
theorem dX6_copyFrom_1 : decode cX6_copyFrom 1 = .ok (.aload_n 1, 1) := by decide +kernel
theorem dX6_copyFrom_2 : decode cX6_copyFrom 2 = .ok (.getfield 21, 3) := by decide +kernel
theorem dX6_copyFrom_5 : decode cX6_copyFrom 5 = .ok (.putfield 21, 3) := by decide +kernel
theorem dX6_copyFrom_8 : decode cX6_copyFrom 8 = .ok (.aload_n 1, 1) := by decide +kernel
theorem dX6_copyFrom_9 : decode cX6_copyFrom 9 = .ok (.getfield 9, 3) := by decide +kernel
theorem dX6_copyFrom_12 : decode cX6_copyFrom 12 = .ok (.iconst 0, 1) := by decide +kernel
theorem dX6_copyFrom_13 : decode cX6_copyFrom 13 = .ok (.aload_n 0, 1) := by decide +kernel
theorem dX6_copyFrom_14 : decode cX6_copyFrom 14 = .ok (.getfield 9, 3) := by decide +kernel
theorem dX6_copyFrom_17 : decode cX6_copyFrom 17 = .ok (.iconst 0, 1) := by decide +kernel
theorem dX6_copyFrom_18 : decode cX6_copyFrom 18 = .ok (.bipush 12, 2) := by decide +kernel
theorem dX6_copyFrom_20 : decode cX6_copyFrom 20 = .ok (.invokestatic 25, 3) := by decide +kernel
theorem dX6_copyFrom_23 : decode cX6_copyFrom 23 = .ok (.aload_n 0, 1) := by decide +kernel
theorem dX6_copyFrom_24 : decode cX6_copyFrom 24 = .ok (.aload_n 1, 1) := by decide +kernel
theorem dX6_copyFrom_25 : decode cX6_copyFrom 25 = .ok (.getfield 31, 3) := by decide +kernel
theorem dX6_copyFrom_28 : decode cX6_copyFrom 28 = .ok (.putfield 31, 3) := by decide +kernel
theorem dX6_copyFrom_31 : decode cX6_copyFrom 31 = .ok (.aload_n 0, 1) := by decide +kernel
theorem dX6_copyFrom_32 : decode cX6_copyFrom 32 = .ok (.aload_n 1, 1) := by decide +kernel
theorem dX6_copyFrom_33 : decode cX6_copyFrom 33 = .ok (.getfield 34, 3) := by decide +kernel
theorem dX6_copyFrom_36 : decode cX6_copyFrom 36 = .ok (.putfield 34, 3) := by decide +kernel
theorem dX6_copyFrom_39 : decode cX6_copyFrom 39 = .ok (.aload_n 0, 1) := by decide +kernel
theorem dX6_copyFrom_40 : decode cX6_copyFrom 40 = .ok (.aload_n 1, 1) := by decide +kernel
theorem dX6_copyFrom_41 : decode cX6_copyFrom 41 = .ok (.getfield 38, 3) := by decide +kernel
theorem dX6_copyFrom_44 : decode cX6_copyFrom 44 = .ok (.putfield 38, 3) := by decide +kernel
theorem dX6_copyFrom_47 : decode cX6_copyFrom 47 = .ok (.aload_n 1, 1) := by decide +kernel
theorem dX6_copyFrom_48 : decode cX6_copyFrom 48 = .ok (.getfield 15, 3) := by decide +kernel
theorem dX6_copyFrom_51 : decode cX6_copyFrom 51 = .ok (.iconst 0, 1) := by decide +kernel
theorem dX6_copyFrom_52 : decode cX6_copyFrom 52 = .ok (.aload_n 0, 1) := by decide +kernel
theorem dX6_copyFrom_53 : decode cX6_copyFrom 53 = .ok (.getfield 15, 3) := by decide +kernel
theorem dX6_copyFrom_56 : decode cX6_copyFrom 56 = .ok (.iconst 0, 1) := by decide +kernel
theorem dX6_copyFrom_57 : decode cX6_copyFrom 57 = .ok (.bipush 12, 2) := by decide +kernel
theorem dX6_copyFrom_59 : decode cX6_copyFrom 59 = .ok (.invokestatic 25, 3) := by decide +kernel
theorem dX6_copyFrom_62 : decode cX6_copyFrom 62 = .ok (.aload_n 1, 1) := by decide +kernel
theorem dX6_copyFrom_63 : decode cX6_copyFrom 63 = .ok (.getfield 18, 3) := by decide +kernel
theorem dX6_copyFrom_66 : decode cX6_copyFrom 66 = .ok (.iconst 0, 1) := by decide +kernel
theorem dX6_copyFrom_67 : decode cX6_copyFrom 67 = .ok (.aload_n 0, 1) := by decide +kernel
theorem dX6_copyFrom_68 : decode cX6_copyFrom 68 = .ok (.getfield 18, 3) := by decide +kernel
theorem dX6_copyFrom_71 : decode cX6_copyFrom 71 = .ok (.iconst 0, 1) := by decide +kernel
theorem dX6_copyFrom_72 : decode cX6_copyFrom 72 = .ok (.bipush 12, 2) := by decide +kernel
theorem dX6_copyFrom_74 : decode cX6_copyFrom 74 = .ok (.invokestatic 25, 3) := by decide +kernel
theorem dX6_copyFrom_77 : decode cX6_copyFrom 77 = .ok (.aload_n 0, 1) := by decide +kernel
theorem dX6_copyFrom_78 : decode cX6_copyFrom 78 = .ok (.aload_n 1, 1) := by decide +kernel
theorem dX6_copyFrom_79 : decode cX6_copyFrom 79 = .ok (.getfield 41, 3) := by decide +kernel
theorem dX6_copyFrom_82 : decode cX6_copyFrom 82 = .ok (.putfield 41, 3) := by decide +kernel
theorem dX6_copyFrom_85 : decode cX6_copyFrom 85 = .ok (.aload_n 0, 1) := by decide +kernel
theorem dX6_copyFrom_86 : decode cX6_copyFrom 86 = .ok (.aload_n 1, 1) := by decide +kernel
theorem dX6_copyFrom_87 : decode cX6_copyFrom 87 = .ok (.getfield 44, 3) := by decide +kernel
theorem dX6_copyFrom_90 : decode cX6_copyFrom 90 = .ok (.putfield 44, 3) := by decide +kernel
theorem dX6_copyFrom_93 : decode cX6_copyFrom 93 = .ok (.aload_n 0, 1) := by decide +kernel
theorem dX6_copyFrom_94 : decode cX6_copyFrom 94 = .ok (.aload_n 1, 1) := by decide +kernel
theorem dX6_copyFrom_95 : decode cX6_copyFrom 95 = .ok (.getfield 47, 3) := by decide +kernel
theorem dX6_copyFrom_98 : decode cX6_copyFrom 98 = .ok (.putfield 47, 3) := by decide +kernel
theorem dX6_copyFrom_101 : decode cX6_copyFrom 101 = .ok (.aload_n 0, 1) := by decide +kernel
theorem dX6_copyFrom_102 : decode cX6_copyFrom 102 = .ok (.aload_n 1, 1) := by decide +kernel
theorem dX6_copyFrom_103 : decode cX6_copyFrom 103 = .ok (.getfield 50, 3) := by decide +kernel
theorem dX6_copyFrom_106 : decode cX6_copyFrom 106 = .ok (.putfield 50, 3) := by decide +kernel
theorem dX6_copyFrom_109 : decode cX6_copyFrom 109 = .ok (.aload_n 0, 1) := by decide +kernel
theorem dX6_copyFrom_110 : decode cX6_copyFrom 110 = .ok (.aload_n 1, 1) := by decide +kernel
theorem dX6_copyFrom_111 : decode cX6_copyFrom 111 = .ok (.getfield 53, 3) := by decide +kernel
theorem dX6_copyFrom_114 : decode cX6_copyFrom 114 = .ok (.putfield 53, 3) := by decide +kernel
theorem dX6_copyFrom_117 : decode cX6_copyFrom 117 = .ok (.return_, 1) := by decide +kernel
theorem dX6_placeOf_0 : decode cX6_placeOf 0 = .ok (.iconst 0, 1) := by decide +kernel
theorem dX6_placeOf_1 : decode cX6_placeOf 1 = .ok (.istore_n 2, 1) := by decide +kernel
theorem dX6_placeOf_2 : decode cX6_placeOf 2 = .ok (.iload_n 2, 1) := by decide +kernel
theorem dX6_placeOf_3 : decode cX6_placeOf 3 = .ok (.aload_n 0, 1) := by decide +kernel
theorem dX6_placeOf_4 : decode cX6_placeOf 4 = .ok (.getfield 31, 3) := by decide +kernel
theorem dX6_placeOf_7 : decode cX6_placeOf 7 = .ok (.if_icmp .ge 21, 3) := by decide +kernel
theorem dX6_placeOf_10 : decode cX6_placeOf 10 = .ok (.aload_n 0, 1) := by decide +kernel
theorem dX6_placeOf_11 : decode cX6_placeOf 11 = .ok (.getfield 9, 3) := by decide +kernel
theorem dX6_placeOf_14 : decode cX6_placeOf 14 = .ok (.iload_n 2, 1) := by decide +kernel
theorem dX6_placeOf_15 : decode cX6_placeOf 15 = .ok (.iaload, 1) := by decide +kernel
theorem dX6_placeOf_16 : decode cX6_placeOf 16 = .ok (.iload_n 1, 1) := by decide +kernel
theorem dX6_placeOf_17 : decode cX6_placeOf 17 = .ok (.if_icmp .ne 5, 3) := by decide +kernel
theorem dX6_placeOf_20 : decode cX6_placeOf 20 = .ok (.iload_n 2, 1) := by decide +kernel
theorem dX6_placeOf_21 : decode cX6_placeOf 21 = .ok (.ireturn, 1) := by decide +kernel
theorem dX6_placeOf_22 : decode cX6_placeOf 22 = .ok (.iinc 2 1, 3) := by decide +kernel
theorem dX6_placeOf_25 : decode cX6_placeOf 25 = .ok (.goto (-23), 3) := by decide +kernel
theorem dX6_placeOf_28 : decode cX6_placeOf 28 = .ok (.iconst (-1), 1) := by decide +kernel
theorem dX6_placeOf_29 : decode cX6_placeOf 29 = .ok (.ireturn, 1) := by decide +kernel
theorem dX6_addToList_0 : decode cX6_addToList 0 = .ok (.aload_n 0, 1) := by decide +kernel
theorem dX6_addToList_1 : decode cX6_addToList 1 = .ok (.getfield 31, 3) := by decide +kernel
theorem dX6_addToList_4 : decode cX6_addToList 4 = .ok (.bipush 12, 2) := by decide +kernel
theorem dX6_addToList_6 : decode cX6_addToList 6 = .ok (.if_icmp .ge 23, 3) := by decide +kernel
theorem dX6_addToList_9 : decode cX6_addToList 9 = .ok (.aload_n 0, 1) := by decide +kernel
theorem dX6_addToList_10 : decode cX6_addToList 10 = .ok (.getfield 9, 3) := by decide +kernel
theorem dX6_addToList_13 : decode cX6_addToList 13 = .ok (.aload_n 0, 1) := by decide +kernel
theorem dX6_addToList_14 : decode cX6_addToList 14 = .ok (.getfield 31, 3) := by decide +kernel
theorem dX6_addToList_17 : decode cX6_addToList 17 = .ok (.iload_n 1, 1) := by decide +kernel
theorem dX6_addToList_18 : decode cX6_addToList 18 = .ok (.iastore, 1) := by decide +kernel
theorem dX6_addToList_19 : decode cX6_addToList 19 = .ok (.aload_n 0, 1) := by decide +kernel
theorem dX6_addToList_20 : decode cX6_addToList 20 = .ok (.dup, 1) := by decide +kernel
theorem dX6_addToList_21 : decode cX6_addToList 21 = .ok (.getfield 31, 3) := by decide +kernel
theorem dX6_addToList_24 : decode cX6_addToList 24 = .ok (.iconst 1, 1) := by decide +kernel
theorem dX6_addToList_25 : decode cX6_addToList 25 = .ok (.iadd, 1) := by decide +kernel
theorem dX6_addToList_26 : decode cX6_addToList 26 = .ok (.putfield 31, 3) := by decide +kernel
theorem dX6_addToList_29 : decode cX6_addToList 29 = .ok (.return_, 1) := by decide +kernel
theorem dX6_clearPlace_0 : decode cX6_clearPlace 0 = .ok (.iload_n 1, 1) := by decide +kernel
theorem dX6_clearPlace_1 : decode cX6_clearPlace 1 = .ok (.ifCond .lt 11, 3) := by decide +kernel
theorem dX6_clearPlace_4 : decode cX6_clearPlace 4 = .ok (.iload_n 1, 1) := by decide +kernel
theorem dX6_clearPlace_5 : decode cX6_clearPlace 5 = .ok (.aload_n 0, 1) := by decide +kernel
theorem dX6_clearPlace_6 : decode cX6_clearPlace 6 = .ok (.getfield 31, 3) := by decide +kernel
theorem dX6_clearPlace_9 : decode cX6_clearPlace 9 = .ok (.if_icmp .lt 4, 3) := by decide +kernel
theorem dX6_clearPlace_12 : decode cX6_clearPlace 12 = .ok (.return_, 1) := by decide +kernel
theorem dX6_clearPlace_13 : decode cX6_clearPlace 13 = .ok (.iload_n 1, 1) := by decide +kernel
theorem dX6_clearPlace_14 : decode cX6_clearPlace 14 = .ok (.iconst 1, 1) := by decide +kernel
theorem dX6_clearPlace_15 : decode cX6_clearPlace 15 = .ok (.iadd, 1) := by decide +kernel
theorem dX6_clearPlace_16 : decode cX6_clearPlace 16 = .ok (.istore_n 2, 1) := by decide +kernel
theorem dX6_clearPlace_17 : decode cX6_clearPlace 17 = .ok (.iload_n 2, 1) := by decide +kernel
theorem dX6_clearPlace_18 : decode cX6_clearPlace 18 = .ok (.aload_n 0, 1) := by decide +kernel
theorem dX6_clearPlace_19 : decode cX6_clearPlace 19 = .ok (.getfield 31, 3) := by decide +kernel
theorem dX6_clearPlace_22 : decode cX6_clearPlace 22 = .ok (.if_icmp .ge 23, 3) := by decide +kernel
theorem dX6_clearPlace_25 : decode cX6_clearPlace 25 = .ok (.aload_n 0, 1) := by decide +kernel
theorem dX6_clearPlace_26 : decode cX6_clearPlace 26 = .ok (.getfield 9, 3) := by decide +kernel
theorem dX6_clearPlace_29 : decode cX6_clearPlace 29 = .ok (.iload_n 2, 1) := by decide +kernel
theorem dX6_clearPlace_30 : decode cX6_clearPlace 30 = .ok (.iconst 1, 1) := by decide +kernel
theorem dX6_clearPlace_31 : decode cX6_clearPlace 31 = .ok (.isub, 1) := by decide +kernel
theorem dX6_clearPlace_32 : decode cX6_clearPlace 32 = .ok (.aload_n 0, 1) := by decide +kernel
theorem dX6_clearPlace_33 : decode cX6_clearPlace 33 = .ok (.getfield 9, 3) := by decide +kernel
theorem dX6_clearPlace_36 : decode cX6_clearPlace 36 = .ok (.iload_n 2, 1) := by decide +kernel
theorem dX6_clearPlace_37 : decode cX6_clearPlace 37 = .ok (.iaload, 1) := by decide +kernel
theorem dX6_clearPlace_38 : decode cX6_clearPlace 38 = .ok (.iastore, 1) := by decide +kernel
theorem dX6_clearPlace_39 : decode cX6_clearPlace 39 = .ok (.iinc 2 1, 3) := by decide +kernel
theorem dX6_clearPlace_42 : decode cX6_clearPlace 42 = .ok (.goto (-25), 3) := by decide +kernel
theorem dX6_clearPlace_45 : decode cX6_clearPlace 45 = .ok (.aload_n 0, 1) := by decide +kernel
theorem dX6_clearPlace_46 : decode cX6_clearPlace 46 = .ok (.dup, 1) := by decide +kernel
theorem dX6_clearPlace_47 : decode cX6_clearPlace 47 = .ok (.getfield 31, 3) := by decide +kernel
theorem dX6_clearPlace_50 : decode cX6_clearPlace 50 = .ok (.iconst 1, 1) := by decide +kernel
theorem dX6_clearPlace_51 : decode cX6_clearPlace 51 = .ok (.isub, 1) := by decide +kernel
theorem dX6_clearPlace_52 : decode cX6_clearPlace 52 = .ok (.putfield 31, 3) := by decide +kernel
theorem dX6_clearPlace_55 : decode cX6_clearPlace 55 = .ok (.return_, 1) := by decide +kernel
theorem dX6_addCroak_0 : decode cX6_addCroak 0 = .ok (.aload_n 0, 1) := by decide +kernel
theorem dX6_addCroak_1 : decode cX6_addCroak 1 = .ok (.getfield 41, 3) := by decide +kernel
theorem dX6_addCroak_4 : decode cX6_addCroak 4 = .ok (.bipush 12, 2) := by decide +kernel
theorem dX6_addCroak_6 : decode cX6_addCroak 6 = .ok (.if_icmp .ge 53, 3) := by decide +kernel
theorem dX6_addCroak_9 : decode cX6_addCroak 9 = .ok (.aload_n 0, 1) := by decide +kernel
theorem dX6_addCroak_10 : decode cX6_addCroak 10 = .ok (.getfield 15, 3) := by decide +kernel
theorem dX6_addCroak_13 : decode cX6_addCroak 13 = .ok (.aload_n 0, 1) := by decide +kernel
theorem dX6_addCroak_14 : decode cX6_addCroak 14 = .ok (.getfield 41, 3) := by decide +kernel
theorem dX6_addCroak_17 : decode cX6_addCroak 17 = .ok (.iload_n 1, 1) := by decide +kernel
theorem dX6_addCroak_18 : decode cX6_addCroak 18 = .ok (.iastore, 1) := by decide +kernel
theorem dX6_addCroak_19 : decode cX6_addCroak 19 = .ok (.aload_n 0, 1) := by decide +kernel
theorem dX6_addCroak_20 : decode cX6_addCroak 20 = .ok (.getfield 18, 3) := by decide +kernel
theorem dX6_addCroak_23 : decode cX6_addCroak 23 = .ok (.aload_n 0, 1) := by decide +kernel
theorem dX6_addCroak_24 : decode cX6_addCroak 24 = .ok (.getfield 41, 3) := by decide +kernel
theorem dX6_addCroak_27 : decode cX6_addCroak 27 = .ok (.iload_n 2, 1) := by decide +kernel
theorem dX6_addCroak_28 : decode cX6_addCroak 28 = .ok (.iastore, 1) := by decide +kernel
theorem dX6_addCroak_29 : decode cX6_addCroak 29 = .ok (.aload_n 0, 1) := by decide +kernel
theorem dX6_addCroak_30 : decode cX6_addCroak 30 = .ok (.dup, 1) := by decide +kernel
theorem dX6_addCroak_31 : decode cX6_addCroak 31 = .ok (.getfield 41, 3) := by decide +kernel
theorem dX6_addCroak_34 : decode cX6_addCroak 34 = .ok (.iconst 1, 1) := by decide +kernel
theorem dX6_addCroak_35 : decode cX6_addCroak 35 = .ok (.iadd, 1) := by decide +kernel
theorem dX6_addCroak_36 : decode cX6_addCroak 36 = .ok (.putfield 41, 3) := by decide +kernel
theorem dX6_addCroak_39 : decode cX6_addCroak 39 = .ok (.aload_n 0, 1) := by decide +kernel
theorem dX6_addCroak_40 : decode cX6_addCroak 40 = .ok (.dup, 1) := by decide +kernel
theorem dX6_addCroak_41 : decode cX6_addCroak 41 = .ok (.getfield 44, 3) := by decide +kernel
theorem dX6_addCroak_44 : decode cX6_addCroak 44 = .ok (.iload_n 3, 1) := by decide +kernel
theorem dX6_addCroak_45 : decode cX6_addCroak 45 = .ok (.ifCond .eq 9, 3) := by decide +kernel
theorem dX6_addCroak_48 : decode cX6_addCroak 48 = .ok (.iconst 1, 1) := by decide +kernel
theorem dX6_addCroak_49 : decode cX6_addCroak 49 = .ok (.iload_n 1, 1) := by decide +kernel
theorem dX6_addCroak_50 : decode cX6_addCroak 50 = .ok (.ishl, 1) := by decide +kernel
theorem dX6_addCroak_51 : decode cX6_addCroak 51 = .ok (.goto 4, 3) := by decide +kernel
theorem dX6_addCroak_54 : decode cX6_addCroak 54 = .ok (.iconst 0, 1) := by decide +kernel
theorem dX6_addCroak_55 : decode cX6_addCroak 55 = .ok (.ior, 1) := by decide +kernel
theorem dX6_addCroak_56 : decode cX6_addCroak 56 = .ok (.putfield 44, 3) := by decide +kernel
theorem dX6_addCroak_59 : decode cX6_addCroak 59 = .ok (.return_, 1) := by decide +kernel
theorem dX6_hasCroakOf_0 : decode cX6_hasCroakOf 0 = .ok (.iconst 0, 1) := by decide +kernel
theorem dX6_hasCroakOf_1 : decode cX6_hasCroakOf 1 = .ok (.istore_n 2, 1) := by decide +kernel
theorem dX6_hasCroakOf_2 : decode cX6_hasCroakOf 2 = .ok (.iload_n 2, 1) := by decide +kernel
theorem dX6_hasCroakOf_3 : decode cX6_hasCroakOf 3 = .ok (.aload_n 0, 1) := by decide +kernel
theorem dX6_hasCroakOf_4 : decode cX6_hasCroakOf 4 = .ok (.getfield 41, 3) := by decide +kernel
theorem dX6_hasCroakOf_7 : decode cX6_hasCroakOf 7 = .ok (.if_icmp .ge 21, 3) := by decide +kernel
theorem dX6_hasCroakOf_10 : decode cX6_hasCroakOf 10 = .ok (.aload_n 0, 1) := by decide +kernel
theorem dX6_hasCroakOf_11 : decode cX6_hasCroakOf 11 = .ok (.getfield 15, 3) := by decide +kernel
theorem dX6_hasCroakOf_14 : decode cX6_hasCroakOf 14 = .ok (.iload_n 2, 1) := by decide +kernel
theorem dX6_hasCroakOf_15 : decode cX6_hasCroakOf 15 = .ok (.iaload, 1) := by decide +kernel
theorem dX6_hasCroakOf_16 : decode cX6_hasCroakOf 16 = .ok (.iload_n 1, 1) := by decide +kernel
theorem dX6_hasCroakOf_17 : decode cX6_hasCroakOf 17 = .ok (.if_icmp .ne 5, 3) := by decide +kernel
theorem dX6_hasCroakOf_20 : decode cX6_hasCroakOf 20 = .ok (.iconst 1, 1) := by decide +kernel
theorem dX6_hasCroakOf_21 : decode cX6_hasCroakOf 21 = .ok (.ireturn, 1) := by decide +kernel
theorem dX6_hasCroakOf_22 : decode cX6_hasCroakOf 22 = .ok (.iinc 2 1, 3) := by decide +kernel
theorem dX6_hasCroakOf_25 : decode cX6_hasCroakOf 25 = .ok (.goto (-23), 3) := by decide +kernel
theorem dX6_hasCroakOf_28 : decode cX6_hasCroakOf 28 = .ok (.iconst 0, 1) := by decide +kernel
theorem dX6_hasCroakOf_29 : decode cX6_hasCroakOf 29 = .ok (.ireturn, 1) := by decide +kernel
theorem dX6_isFor_0 : decode cX6_isFor 0 = .ok (.aload_n 0, 1) := by decide +kernel
theorem dX6_isFor_1 : decode cX6_isFor 1 = .ok (.getfield 44, 3) := by decide +kernel
theorem dX6_isFor_4 : decode cX6_isFor 4 = .ok (.aload_n 0, 1) := by decide +kernel
theorem dX6_isFor_5 : decode cX6_isFor 5 = .ok (.getfield 15, 3) := by decide +kernel
theorem dX6_isFor_8 : decode cX6_isFor 8 = .ok (.iload_n 1, 1) := by decide +kernel
theorem dX6_isFor_9 : decode cX6_isFor 9 = .ok (.iaload, 1) := by decide +kernel
theorem dX6_isFor_10 : decode cX6_isFor 10 = .ok (.ishr, 1) := by decide +kernel
theorem dX6_isFor_11 : decode cX6_isFor 11 = .ok (.iconst 1, 1) := by decide +kernel
theorem dX6_isFor_12 : decode cX6_isFor 12 = .ok (.iand, 1) := by decide +kernel
theorem dX6_isFor_13 : decode cX6_isFor 13 = .ok (.ifCond .eq 7, 3) := by decide +kernel
theorem dX6_isFor_16 : decode cX6_isFor 16 = .ok (.iconst 1, 1) := by decide +kernel
theorem dX6_isFor_17 : decode cX6_isFor 17 = .ok (.goto 4, 3) := by decide +kernel
theorem dX6_isFor_20 : decode cX6_isFor 20 = .ok (.iconst 0, 1) := by decide +kernel
theorem dX6_isFor_21 : decode cX6_isFor 21 = .ok (.ireturn, 1) := by decide +kernel
theorem dX6_sumOfSide_0 : decode cX6_sumOfSide 0 = .ok (.iconst 0, 1) := by decide +kernel
theorem dX6_sumOfSide_1 : decode cX6_sumOfSide 1 = .ok (.istore_n 2, 1) := by decide +kernel
theorem dX6_sumOfSide_2 : decode cX6_sumOfSide 2 = .ok (.iconst 0, 1) := by decide +kernel
theorem dX6_sumOfSide_3 : decode cX6_sumOfSide 3 = .ok (.istore_n 3, 1) := by decide +kernel
theorem dX6_sumOfSide_4 : decode cX6_sumOfSide 4 = .ok (.iload_n 3, 1) := by decide +kernel
theorem dX6_sumOfSide_5 : decode cX6_sumOfSide 5 = .ok (.aload_n 0, 1) := by decide +kernel
theorem dX6_sumOfSide_6 : decode cX6_sumOfSide 6 = .ok (.getfield 41, 3) := by decide +kernel
theorem dX6_sumOfSide_9 : decode cX6_sumOfSide 9 = .ok (.if_icmp .ge 27, 3) := by decide +kernel
theorem dX6_sumOfSide_12 : decode cX6_sumOfSide 12 = .ok (.aload_n 0, 1) := by decide +kernel
theorem dX6_sumOfSide_13 : decode cX6_sumOfSide 13 = .ok (.iload_n 3, 1) := by decide +kernel
theorem dX6_sumOfSide_14 : decode cX6_sumOfSide 14 = .ok (.invokevirtual 56, 3) := by decide +kernel
theorem dX6_sumOfSide_17 : decode cX6_sumOfSide 17 = .ok (.iload_n 1, 1) := by decide +kernel
theorem dX6_sumOfSide_18 : decode cX6_sumOfSide 18 = .ok (.if_icmp .ne 12, 3) := by decide +kernel
theorem dX6_sumOfSide_21 : decode cX6_sumOfSide 21 = .ok (.iload_n 2, 1) := by decide +kernel
theorem dX6_sumOfSide_22 : decode cX6_sumOfSide 22 = .ok (.aload_n 0, 1) := by decide +kernel
theorem dX6_sumOfSide_23 : decode cX6_sumOfSide 23 = .ok (.getfield 18, 3) := by decide +kernel
theorem dX6_sumOfSide_26 : decode cX6_sumOfSide 26 = .ok (.iload_n 3, 1) := by decide +kernel
theorem dX6_sumOfSide_27 : decode cX6_sumOfSide 27 = .ok (.iaload, 1) := by decide +kernel
theorem dX6_sumOfSide_28 : decode cX6_sumOfSide 28 = .ok (.iadd, 1) := by decide +kernel
theorem dX6_sumOfSide_29 : decode cX6_sumOfSide 29 = .ok (.istore_n 2, 1) := by decide +kernel
theorem dX6_sumOfSide_30 : decode cX6_sumOfSide 30 = .ok (.iinc 3 1, 3) := by decide +kernel
theorem dX6_sumOfSide_33 : decode cX6_sumOfSide 33 = .ok (.goto (-29), 3) := by decide +kernel
theorem dX6_sumOfSide_36 : decode cX6_sumOfSide 36 = .ok (.iload_n 2, 1) := by decide +kernel
theorem dX6_sumOfSide_37 : decode cX6_sumOfSide 37 = .ok (.ireturn, 1) := by decide +kernel
theorem dX8_init_0 : decode cX8_init 0 = .ok (.aload_n 0, 1) := by decide +kernel
theorem dX8_init_1 : decode cX8_init 1 = .ok (.invokespecial 3, 3) := by decide +kernel
theorem dX8_init_4 : decode cX8_init 4 = .ok (.aload_n 0, 1) := by decide +kernel
theorem dX8_init_5 : decode cX8_init 5 = .ok (.bipush 12, 2) := by decide +kernel
theorem dX8_init_7 : decode cX8_init 7 = .ok (.newarray .int, 2) := by decide +kernel
theorem dX8_init_9 : decode cX8_init 9 = .ok (.putfield 9, 3) := by decide +kernel
theorem dX8_init_12 : decode cX8_init 12 = .ok (.return_, 1) := by decide +kernel
theorem dX8_clear_0 : decode cX8_clear 0 = .ok (.aload_n 0, 1) := by decide +kernel
theorem dX8_clear_1 : decode cX8_clear 1 = .ok (.iconst 0, 1) := by decide +kernel
theorem dX8_clear_2 : decode cX8_clear 2 = .ok (.putfield 15, 3) := by decide +kernel
theorem dX8_clear_5 : decode cX8_clear 5 = .ok (.return_, 1) := by decide +kernel
theorem dX8_put_0 : decode cX8_put 0 = .ok (.aload_n 0, 1) := by decide +kernel
theorem dX8_put_1 : decode cX8_put 1 = .ok (.getfield 15, 3) := by decide +kernel
theorem dX8_put_4 : decode cX8_put 4 = .ok (.bipush 12, 2) := by decide +kernel
theorem dX8_put_6 : decode cX8_put 6 = .ok (.if_icmp .lt 4, 3) := by decide +kernel
theorem dX8_put_9 : decode cX8_put 9 = .ok (.return_, 1) := by decide +kernel
theorem dX8_put_10 : decode cX8_put 10 = .ok (.iload_n 1, 1) := by decide +kernel
theorem dX8_put_11 : decode cX8_put 11 = .ok (.iconst 4, 1) := by decide +kernel
theorem dX8_put_12 : decode cX8_put 12 = .ok (.ishl, 1) := by decide +kernel
theorem dX8_put_13 : decode cX8_put 13 = .ok (.iload_n 2, 1) := by decide +kernel
theorem dX8_put_14 : decode cX8_put 14 = .ok (.ior, 1) := by decide +kernel
theorem dX8_put_15 : decode cX8_put 15 = .ok (.iconst 4, 1) := by decide +kernel
theorem dX8_put_16 : decode cX8_put 16 = .ok (.ishl, 1) := by decide +kernel
theorem dX8_put_17 : decode cX8_put 17 = .ok (.iload_n 3, 1) := by decide +kernel
theorem dX8_put_18 : decode cX8_put 18 = .ok (.ior, 1) := by decide +kernel
theorem dX8_put_19 : decode cX8_put 19 = .ok (.istore 4, 2) := by decide +kernel
theorem dX8_put_21 : decode cX8_put 21 = .ok (.aload_n 0, 1) := by decide +kernel
theorem dX8_put_22 : decode cX8_put 22 = .ok (.getfield 15, 3) := by decide +kernel
theorem dX8_put_25 : decode cX8_put 25 = .ok (.istore 5, 2) := by decide +kernel
theorem dX8_put_27 : decode cX8_put 27 = .ok (.aload_n 0, 1) := by decide +kernel
theorem dX8_put_28 : decode cX8_put 28 = .ok (.dup, 1) := by decide +kernel
theorem dX8_put_29 : decode cX8_put 29 = .ok (.getfield 15, 3) := by decide +kernel
theorem dX8_put_32 : decode cX8_put 32 = .ok (.iconst 1, 1) := by decide +kernel
theorem dX8_put_33 : decode cX8_put 33 = .ok (.iadd, 1) := by decide +kernel
theorem dX8_put_34 : decode cX8_put 34 = .ok (.putfield 15, 3) := by decide +kernel
theorem dX8_put_37 : decode cX8_put 37 = .ok (.iload 5, 2) := by decide +kernel
theorem dX8_put_39 : decode cX8_put 39 = .ok (.ifCond .le 48, 3) := by decide +kernel
theorem dX8_put_42 : decode cX8_put 42 = .ok (.aload_n 0, 1) := by decide +kernel
theorem dX8_put_43 : decode cX8_put 43 = .ok (.getfield 9, 3) := by decide +kernel
theorem dX8_put_46 : decode cX8_put 46 = .ok (.iload 5, 2) := by decide +kernel
theorem dX8_put_48 : decode cX8_put 48 = .ok (.iconst 1, 1) := by decide +kernel
theorem dX8_put_49 : decode cX8_put 49 = .ok (.isub, 1) := by decide +kernel
theorem dX8_put_50 : decode cX8_put 50 = .ok (.iconst 2, 1) := by decide +kernel
theorem dX8_put_51 : decode cX8_put 51 = .ok (.idiv, 1) := by decide +kernel
theorem dX8_put_52 : decode cX8_put 52 = .ok (.iaload, 1) := by decide +kernel
theorem dX8_put_53 : decode cX8_put 53 = .ok (.iload 4, 2) := by decide +kernel
theorem dX8_put_55 : decode cX8_put 55 = .ok (.if_icmp .le 32, 3) := by decide +kernel
theorem dX8_put_58 : decode cX8_put 58 = .ok (.aload_n 0, 1) := by decide +kernel
theorem dX8_put_59 : decode cX8_put 59 = .ok (.getfield 9, 3) := by decide +kernel
theorem dX8_put_62 : decode cX8_put 62 = .ok (.iload 5, 2) := by decide +kernel
theorem dX8_put_64 : decode cX8_put 64 = .ok (.aload_n 0, 1) := by decide +kernel
theorem dX8_put_65 : decode cX8_put 65 = .ok (.getfield 9, 3) := by decide +kernel
theorem dX8_put_68 : decode cX8_put 68 = .ok (.iload 5, 2) := by decide +kernel
theorem dX8_put_70 : decode cX8_put 70 = .ok (.iconst 1, 1) := by decide +kernel
theorem dX8_put_71 : decode cX8_put 71 = .ok (.isub, 1) := by decide +kernel
theorem dX8_put_72 : decode cX8_put 72 = .ok (.iconst 2, 1) := by decide +kernel
theorem dX8_put_73 : decode cX8_put 73 = .ok (.idiv, 1) := by decide +kernel
theorem dX8_put_74 : decode cX8_put 74 = .ok (.iaload, 1) := by decide +kernel
theorem dX8_put_75 : decode cX8_put 75 = .ok (.iastore, 1) := by decide +kernel
theorem dX8_put_76 : decode cX8_put 76 = .ok (.iload 5, 2) := by decide +kernel
theorem dX8_put_78 : decode cX8_put 78 = .ok (.iconst 1, 1) := by decide +kernel
theorem dX8_put_79 : decode cX8_put 79 = .ok (.isub, 1) := by decide +kernel
theorem dX8_put_80 : decode cX8_put 80 = .ok (.iconst 2, 1) := by decide +kernel
theorem dX8_put_81 : decode cX8_put 81 = .ok (.idiv, 1) := by decide +kernel
theorem dX8_put_82 : decode cX8_put 82 = .ok (.istore 5, 2) := by decide +kernel
theorem dX8_put_84 : decode cX8_put 84 = .ok (.goto (-47), 3) := by decide +kernel
theorem dX8_put_87 : decode cX8_put 87 = .ok (.aload_n 0, 1) := by decide +kernel
theorem dX8_put_88 : decode cX8_put 88 = .ok (.getfield 9, 3) := by decide +kernel
theorem dX8_put_91 : decode cX8_put 91 = .ok (.iload 5, 2) := by decide +kernel
theorem dX8_put_93 : decode cX8_put 93 = .ok (.iload 4, 2) := by decide +kernel
theorem dX8_put_95 : decode cX8_put 95 = .ok (.iastore, 1) := by decide +kernel
theorem dX8_put_96 : decode cX8_put 96 = .ok (.return_, 1) := by decide +kernel
theorem dX8_takeFirst_0 : decode cX8_takeFirst 0 = .ok (.aload_n 0, 1) := by decide +kernel
theorem dX8_takeFirst_1 : decode cX8_takeFirst 1 = .ok (.getfield 15, 3) := by decide +kernel
theorem dX8_takeFirst_4 : decode cX8_takeFirst 4 = .ok (.ifCond .gt 5, 3) := by decide +kernel
theorem dX8_takeFirst_7 : decode cX8_takeFirst 7 = .ok (.iconst (-1), 1) := by decide +kernel
theorem dX8_takeFirst_8 : decode cX8_takeFirst 8 = .ok (.ireturn, 1) := by decide +kernel
theorem dX8_takeFirst_9 : decode cX8_takeFirst 9 = .ok (.aload_n 0, 1) := by decide +kernel
theorem dX8_takeFirst_10 : decode cX8_takeFirst 10 = .ok (.getfield 9, 3) := by decide +kernel
theorem dX8_takeFirst_13 : decode cX8_takeFirst 13 = .ok (.iconst 0, 1) := by decide +kernel
theorem dX8_takeFirst_14 : decode cX8_takeFirst 14 = .ok (.iaload, 1) := by decide +kernel
theorem dX8_takeFirst_15 : decode cX8_takeFirst 15 = .ok (.istore_n 1, 1) := by decide +kernel
theorem dX8_takeFirst_16 : decode cX8_takeFirst 16 = .ok (.aload_n 0, 1) := by decide +kernel
theorem dX8_takeFirst_17 : decode cX8_takeFirst 17 = .ok (.dup, 1) := by decide +kernel
theorem dX8_takeFirst_18 : decode cX8_takeFirst 18 = .ok (.getfield 15, 3) := by decide +kernel
theorem dX8_takeFirst_21 : decode cX8_takeFirst 21 = .ok (.iconst 1, 1) := by decide +kernel
theorem dX8_takeFirst_22 : decode cX8_takeFirst 22 = .ok (.isub, 1) := by decide +kernel
theorem dX8_takeFirst_23 : decode cX8_takeFirst 23 = .ok (.putfield 15, 3) := by decide +kernel
theorem dX8_takeFirst_26 : decode cX8_takeFirst 26 = .ok (.aload_n 0, 1) := by decide +kernel
theorem dX8_takeFirst_27 : decode cX8_takeFirst 27 = .ok (.getfield 9, 3) := by decide +kernel
theorem dX8_takeFirst_30 : decode cX8_takeFirst 30 = .ok (.aload_n 0, 1) := by decide +kernel
theorem dX8_takeFirst_31 : decode cX8_takeFirst 31 = .ok (.getfield 15, 3) := by decide +kernel
theorem dX8_takeFirst_34 : decode cX8_takeFirst 34 = .ok (.iaload, 1) := by decide +kernel
theorem dX8_takeFirst_35 : decode cX8_takeFirst 35 = .ok (.istore_n 2, 1) := by decide +kernel
theorem dX8_takeFirst_36 : decode cX8_takeFirst 36 = .ok (.iconst 0, 1) := by decide +kernel
theorem dX8_takeFirst_37 : decode cX8_takeFirst 37 = .ok (.istore_n 3, 1) := by decide +kernel
theorem dX8_takeFirst_38 : decode cX8_takeFirst 38 = .ok (.aload_n 0, 1) := by decide +kernel
theorem dX8_takeFirst_39 : decode cX8_takeFirst 39 = .ok (.iload_n 3, 1) := by decide +kernel
theorem dX8_takeFirst_40 : decode cX8_takeFirst 40 = .ok (.invokevirtual 19, 3) := by decide +kernel
theorem dX8_takeFirst_43 : decode cX8_takeFirst 43 = .ok (.istore 4, 2) := by decide +kernel
theorem dX8_takeFirst_45 : decode cX8_takeFirst 45 = .ok (.iload 4, 2) := by decide +kernel
theorem dX8_takeFirst_47 : decode cX8_takeFirst 47 = .ok (.aload_n 0, 1) := by decide +kernel
theorem dX8_takeFirst_48 : decode cX8_takeFirst 48 = .ok (.getfield 15, 3) := by decide +kernel
theorem dX8_takeFirst_51 : decode cX8_takeFirst 51 = .ok (.if_icmp .ge 40, 3) := by decide +kernel
theorem dX8_takeFirst_54 : decode cX8_takeFirst 54 = .ok (.aload_n 0, 1) := by decide +kernel
theorem dX8_takeFirst_55 : decode cX8_takeFirst 55 = .ok (.getfield 9, 3) := by decide +kernel
theorem dX8_takeFirst_58 : decode cX8_takeFirst 58 = .ok (.iload 4, 2) := by decide +kernel
theorem dX8_takeFirst_60 : decode cX8_takeFirst 60 = .ok (.iaload, 1) := by decide +kernel
theorem dX8_takeFirst_61 : decode cX8_takeFirst 61 = .ok (.iload_n 2, 1) := by decide +kernel
theorem dX8_takeFirst_62 : decode cX8_takeFirst 62 = .ok (.if_icmp .ge 29, 3) := by decide +kernel
theorem dX8_takeFirst_65 : decode cX8_takeFirst 65 = .ok (.aload_n 0, 1) := by decide +kernel
theorem dX8_takeFirst_66 : decode cX8_takeFirst 66 = .ok (.getfield 9, 3) := by decide +kernel
theorem dX8_takeFirst_69 : decode cX8_takeFirst 69 = .ok (.iload_n 3, 1) := by decide +kernel
theorem dX8_takeFirst_70 : decode cX8_takeFirst 70 = .ok (.aload_n 0, 1) := by decide +kernel
theorem dX8_takeFirst_71 : decode cX8_takeFirst 71 = .ok (.getfield 9, 3) := by decide +kernel
theorem dX8_takeFirst_74 : decode cX8_takeFirst 74 = .ok (.iload 4, 2) := by decide +kernel
theorem dX8_takeFirst_76 : decode cX8_takeFirst 76 = .ok (.iaload, 1) := by decide +kernel
theorem dX8_takeFirst_77 : decode cX8_takeFirst 77 = .ok (.iastore, 1) := by decide +kernel
theorem dX8_takeFirst_78 : decode cX8_takeFirst 78 = .ok (.iload 4, 2) := by decide +kernel
theorem dX8_takeFirst_80 : decode cX8_takeFirst 80 = .ok (.istore_n 3, 1) := by decide +kernel
theorem dX8_takeFirst_81 : decode cX8_takeFirst 81 = .ok (.aload_n 0, 1) := by decide +kernel
theorem dX8_takeFirst_82 : decode cX8_takeFirst 82 = .ok (.iload_n 3, 1) := by decide +kernel
theorem dX8_takeFirst_83 : decode cX8_takeFirst 83 = .ok (.invokevirtual 19, 3) := by decide +kernel
theorem dX8_takeFirst_86 : decode cX8_takeFirst 86 = .ok (.istore 4, 2) := by decide +kernel
theorem dX8_takeFirst_88 : decode cX8_takeFirst 88 = .ok (.goto (-43), 3) := by decide +kernel
theorem dX8_takeFirst_91 : decode cX8_takeFirst 91 = .ok (.aload_n 0, 1) := by decide +kernel
theorem dX8_takeFirst_92 : decode cX8_takeFirst 92 = .ok (.getfield 9, 3) := by decide +kernel
theorem dX8_takeFirst_95 : decode cX8_takeFirst 95 = .ok (.iload_n 3, 1) := by decide +kernel
theorem dX8_takeFirst_96 : decode cX8_takeFirst 96 = .ok (.iload_n 2, 1) := by decide +kernel
theorem dX8_takeFirst_97 : decode cX8_takeFirst 97 = .ok (.iastore, 1) := by decide +kernel
theorem dX8_takeFirst_98 : decode cX8_takeFirst 98 = .ok (.iload_n 1, 1) := by decide +kernel
theorem dX8_takeFirst_99 : decode cX8_takeFirst 99 = .ok (.bipush 15, 2) := by decide +kernel
theorem dX8_takeFirst_101 : decode cX8_takeFirst 101 = .ok (.iand, 1) := by decide +kernel
theorem dX8_takeFirst_102 : decode cX8_takeFirst 102 = .ok (.ireturn, 1) := by decide +kernel
theorem dX8_lesserChild_0 : decode cX8_lesserChild 0 = .ok (.iconst 2, 1) := by decide +kernel
theorem dX8_lesserChild_1 : decode cX8_lesserChild 1 = .ok (.iload_n 1, 1) := by decide +kernel
theorem dX8_lesserChild_2 : decode cX8_lesserChild 2 = .ok (.imul, 1) := by decide +kernel
theorem dX8_lesserChild_3 : decode cX8_lesserChild 3 = .ok (.iconst 1, 1) := by decide +kernel
theorem dX8_lesserChild_4 : decode cX8_lesserChild 4 = .ok (.iadd, 1) := by decide +kernel
theorem dX8_lesserChild_5 : decode cX8_lesserChild 5 = .ok (.istore_n 2, 1) := by decide +kernel
theorem dX8_lesserChild_6 : decode cX8_lesserChild 6 = .ok (.iload_n 2, 1) := by decide +kernel
theorem dX8_lesserChild_7 : decode cX8_lesserChild 7 = .ok (.iconst 1, 1) := by decide +kernel
theorem dX8_lesserChild_8 : decode cX8_lesserChild 8 = .ok (.iadd, 1) := by decide +kernel
theorem dX8_lesserChild_9 : decode cX8_lesserChild 9 = .ok (.istore_n 3, 1) := by decide +kernel
theorem dX8_lesserChild_10 : decode cX8_lesserChild 10 = .ok (.iload_n 3, 1) := by decide +kernel
theorem dX8_lesserChild_11 : decode cX8_lesserChild 11 = .ok (.aload_n 0, 1) := by decide +kernel
theorem dX8_lesserChild_12 : decode cX8_lesserChild 12 = .ok (.getfield 15, 3) := by decide +kernel
theorem dX8_lesserChild_15 : decode cX8_lesserChild 15 = .ok (.if_icmp .ge 22, 3) := by decide +kernel
theorem dX8_lesserChild_18 : decode cX8_lesserChild 18 = .ok (.aload_n 0, 1) := by decide +kernel
theorem dX8_lesserChild_19 : decode cX8_lesserChild 19 = .ok (.getfield 9, 3) := by decide +kernel
theorem dX8_lesserChild_22 : decode cX8_lesserChild 22 = .ok (.iload_n 3, 1) := by decide +kernel
theorem dX8_lesserChild_23 : decode cX8_lesserChild 23 = .ok (.iaload, 1) := by decide +kernel
theorem dX8_lesserChild_24 : decode cX8_lesserChild 24 = .ok (.aload_n 0, 1) := by decide +kernel
theorem dX8_lesserChild_25 : decode cX8_lesserChild 25 = .ok (.getfield 9, 3) := by decide +kernel
theorem dX8_lesserChild_28 : decode cX8_lesserChild 28 = .ok (.iload_n 2, 1) := by decide +kernel
theorem dX8_lesserChild_29 : decode cX8_lesserChild 29 = .ok (.iaload, 1) := by decide +kernel
theorem dX8_lesserChild_30 : decode cX8_lesserChild 30 = .ok (.if_icmp .ge 7, 3) := by decide +kernel
theorem dX8_lesserChild_33 : decode cX8_lesserChild 33 = .ok (.iload_n 3, 1) := by decide +kernel
theorem dX8_lesserChild_34 : decode cX8_lesserChild 34 = .ok (.goto 4, 3) := by decide +kernel
theorem dX8_lesserChild_37 : decode cX8_lesserChild 37 = .ok (.iload_n 2, 1) := by decide +kernel
theorem dX8_lesserChild_38 : decode cX8_lesserChild 38 = .ok (.ireturn, 1) := by decide +kernel
theorem dX9_init_0 : decode cX9_init 0 = .ok (.aload_n 0, 1) := by decide +kernel
theorem dX9_init_1 : decode cX9_init 1 = .ok (.invokespecial 1, 3) := by decide +kernel
theorem dX9_init_4 : decode cX9_init 4 = .ok (.aload_n 0, 1) := by decide +kernel
theorem dX9_init_5 : decode cX9_init 5 = .ok (.new 7, 3) := by decide +kernel
theorem dX9_init_8 : decode cX9_init 8 = .ok (.dup, 1) := by decide +kernel
theorem dX9_init_9 : decode cX9_init 9 = .ok (.invokespecial 9, 3) := by decide +kernel
theorem dX9_init_12 : decode cX9_init 12 = .ok (.putfield 10, 3) := by decide +kernel
theorem dX9_init_15 : decode cX9_init 15 = .ok (.aload_n 0, 1) := by decide +kernel
theorem dX9_init_16 : decode cX9_init 16 = .ok (.new 7, 3) := by decide +kernel
theorem dX9_init_19 : decode cX9_init 19 = .ok (.dup, 1) := by decide +kernel
theorem dX9_init_20 : decode cX9_init 20 = .ok (.invokespecial 9, 3) := by decide +kernel
theorem dX9_init_23 : decode cX9_init 23 = .ok (.putfield 16, 3) := by decide +kernel
theorem dX9_init_26 : decode cX9_init 26 = .ok (.aload_n 0, 1) := by decide +kernel
theorem dX9_init_27 : decode cX9_init 27 = .ok (.new 7, 3) := by decide +kernel
theorem dX9_init_30 : decode cX9_init 30 = .ok (.dup, 1) := by decide +kernel
theorem dX9_init_31 : decode cX9_init 31 = .ok (.invokespecial 9, 3) := by decide +kernel
theorem dX9_init_34 : decode cX9_init 34 = .ok (.putfield 19, 3) := by decide +kernel
theorem dX9_init_37 : decode cX9_init 37 = .ok (.aload_n 0, 1) := by decide +kernel
theorem dX9_init_38 : decode cX9_init 38 = .ok (.new 22, 3) := by decide +kernel
theorem dX9_init_41 : decode cX9_init 41 = .ok (.dup, 1) := by decide +kernel
theorem dX9_init_42 : decode cX9_init 42 = .ok (.invokespecial 24, 3) := by decide +kernel
theorem dX9_init_45 : decode cX9_init 45 = .ok (.putfield 25, 3) := by decide +kernel
theorem dX9_init_48 : decode cX9_init 48 = .ok (.aload_n 0, 1) := by decide +kernel
theorem dX9_init_49 : decode cX9_init 49 = .ok (.new 29, 3) := by decide +kernel
theorem dX9_init_52 : decode cX9_init 52 = .ok (.dup, 1) := by decide +kernel
theorem dX9_init_53 : decode cX9_init 53 = .ok (.invokespecial 31, 3) := by decide +kernel
theorem dX9_init_56 : decode cX9_init 56 = .ok (.putfield 32, 3) := by decide +kernel
theorem dX9_init_59 : decode cX9_init 59 = .ok (.aload_n 0, 1) := by decide +kernel
theorem dX9_init_60 : decode cX9_init 60 = .ok (.new 36, 3) := by decide +kernel
theorem dX9_init_63 : decode cX9_init 63 = .ok (.dup, 1) := by decide +kernel
theorem dX9_init_64 : decode cX9_init 64 = .ok (.invokespecial 38, 3) := by decide +kernel
theorem dX9_init_67 : decode cX9_init 67 = .ok (.putfield 39, 3) := by decide +kernel
theorem dX9_init_70 : decode cX9_init 70 = .ok (.aload_n 0, 1) := by decide +kernel
theorem dX9_init_71 : decode cX9_init 71 = .ok (.new 43, 3) := by decide +kernel
theorem dX9_init_74 : decode cX9_init 74 = .ok (.dup, 1) := by decide +kernel
theorem dX9_init_75 : decode cX9_init 75 = .ok (.invokespecial 45, 3) := by decide +kernel
theorem dX9_init_78 : decode cX9_init 78 = .ok (.putfield 46, 3) := by decide +kernel
theorem dX9_init_81 : decode cX9_init 81 = .ok (.aload_n 0, 1) := by decide +kernel
theorem dX9_init_82 : decode cX9_init 82 = .ok (.new 43, 3) := by decide +kernel
theorem dX9_init_85 : decode cX9_init 85 = .ok (.dup, 1) := by decide +kernel
theorem dX9_init_86 : decode cX9_init 86 = .ok (.invokespecial 45, 3) := by decide +kernel
theorem dX9_init_89 : decode cX9_init 89 = .ok (.putfield 50, 3) := by decide +kernel
theorem dX9_init_92 : decode cX9_init 92 = .ok (.aload_n 0, 1) := by decide +kernel
theorem dX9_init_93 : decode cX9_init 93 = .ok (.iconst (-1), 1) := by decide +kernel
theorem dX9_init_94 : decode cX9_init 94 = .ok (.putfield 53, 3) := by decide +kernel
theorem dX9_init_97 : decode cX9_init 97 = .ok (.aload_n 0, 1) := by decide +kernel
theorem dX9_init_98 : decode cX9_init 98 = .ok (.iconst (-1), 1) := by decide +kernel
theorem dX9_init_99 : decode cX9_init 99 = .ok (.putfield 57, 3) := by decide +kernel
theorem dX9_init_102 : decode cX9_init 102 = .ok (.return_, 1) := by decide +kernel
theorem dX9_addFrog_0 : decode cX9_addFrog 0 = .ok (.aload_n 0, 1) := by decide +kernel
theorem dX9_addFrog_1 : decode cX9_addFrog 1 = .ok (.getfield 10, 3) := by decide +kernel
theorem dX9_addFrog_4 : decode cX9_addFrog 4 = .ok (.iload_n 1, 1) := by decide +kernel
theorem dX9_addFrog_5 : decode cX9_addFrog 5 = .ok (.iload_n 2, 1) := by decide +kernel
theorem dX9_addFrog_6 : decode cX9_addFrog 6 = .ok (.invokevirtual 60, 3) := by decide +kernel
theorem dX9_addFrog_9 : decode cX9_addFrog 9 = .ok (.invokestatic 64, 3) := by decide +kernel
theorem dX9_addFrog_12 : decode cX9_addFrog 12 = .ok (.aload_n 0, 1) := by decide +kernel
theorem dX9_addFrog_13 : decode cX9_addFrog 13 = .ok (.getfield 25, 3) := by decide +kernel
theorem dX9_addFrog_16 : decode cX9_addFrog 16 = .ok (.aload_n 0, 1) := by decide +kernel
theorem dX9_addFrog_17 : decode cX9_addFrog 17 = .ok (.getfield 10, 3) := by decide +kernel
theorem dX9_addFrog_20 : decode cX9_addFrog 20 = .ok (.invokevirtual 68, 3) := by decide +kernel
theorem dX9_addFrog_23 : decode cX9_addFrog 23 = .ok (.aload_n 0, 1) := by decide +kernel
theorem dX9_addFrog_24 : decode cX9_addFrog 24 = .ok (.getfield 10, 3) := by decide +kernel
theorem dX9_addFrog_27 : decode cX9_addFrog 27 = .ok (.iload_n 1, 1) := by decide +kernel
theorem dX9_addFrog_28 : decode cX9_addFrog 28 = .ok (.iload_n 2, 1) := by decide +kernel
theorem dX9_addFrog_29 : decode cX9_addFrog 29 = .ok (.invokevirtual 72, 3) := by decide +kernel
theorem dX9_addFrog_32 : decode cX9_addFrog 32 = .ok (.ireturn, 1) := by decide +kernel
theorem dX9_addPad_0 : decode cX9_addPad 0 = .ok (.aload_n 0, 1) := by decide +kernel
theorem dX9_addPad_1 : decode cX9_addPad 1 = .ok (.getfield 10, 3) := by decide +kernel
theorem dX9_addPad_4 : decode cX9_addPad 4 = .ok (.iload_n 1, 1) := by decide +kernel
theorem dX9_addPad_5 : decode cX9_addPad 5 = .ok (.invokevirtual 76, 3) := by decide +kernel
theorem dX9_addPad_8 : decode cX9_addPad 8 = .ok (.invokestatic 64, 3) := by decide +kernel
theorem dX9_addPad_11 : decode cX9_addPad 11 = .ok (.aload_n 0, 1) := by decide +kernel
theorem dX9_addPad_12 : decode cX9_addPad 12 = .ok (.getfield 25, 3) := by decide +kernel
theorem dX9_addPad_15 : decode cX9_addPad 15 = .ok (.aload_n 0, 1) := by decide +kernel
theorem dX9_addPad_16 : decode cX9_addPad 16 = .ok (.getfield 10, 3) := by decide +kernel
theorem dX9_addPad_19 : decode cX9_addPad 19 = .ok (.invokevirtual 68, 3) := by decide +kernel
theorem dX9_addPad_22 : decode cX9_addPad 22 = .ok (.aload_n 0, 1) := by decide +kernel
theorem dX9_addPad_23 : decode cX9_addPad 23 = .ok (.getfield 10, 3) := by decide +kernel
theorem dX9_addPad_26 : decode cX9_addPad 26 = .ok (.iload_n 1, 1) := by decide +kernel
theorem dX9_addPad_27 : decode cX9_addPad 27 = .ok (.invokevirtual 80, 3) := by decide +kernel
theorem dX9_addPad_30 : decode cX9_addPad 30 = .ok (.ireturn, 1) := by decide +kernel
theorem dX9_hop_0 : decode cX9_hop 0 = .ok (.aload_n 0, 1) := by decide +kernel
theorem dX9_hop_1 : decode cX9_hop 1 = .ok (.getfield 10, 3) := by decide +kernel
theorem dX9_hop_4 : decode cX9_hop 4 = .ok (.iload_n 1, 1) := by decide +kernel
theorem dX9_hop_5 : decode cX9_hop 5 = .ok (.iload_n 2, 1) := by decide +kernel
theorem dX9_hop_6 : decode cX9_hop 6 = .ok (.invokevirtual 84, 3) := by decide +kernel
theorem dX9_hop_9 : decode cX9_hop 9 = .ok (.invokestatic 64, 3) := by decide +kernel
theorem dX9_hop_12 : decode cX9_hop 12 = .ok (.aload_n 0, 1) := by decide +kernel
theorem dX9_hop_13 : decode cX9_hop 13 = .ok (.getfield 25, 3) := by decide +kernel
theorem dX9_hop_16 : decode cX9_hop 16 = .ok (.aload_n 0, 1) := by decide +kernel
theorem dX9_hop_17 : decode cX9_hop 17 = .ok (.getfield 10, 3) := by decide +kernel
theorem dX9_hop_20 : decode cX9_hop 20 = .ok (.invokevirtual 68, 3) := by decide +kernel
theorem dX9_hop_23 : decode cX9_hop 23 = .ok (.aload_n 0, 1) := by decide +kernel
theorem dX9_hop_24 : decode cX9_hop 24 = .ok (.getfield 10, 3) := by decide +kernel
theorem dX9_hop_27 : decode cX9_hop 27 = .ok (.iload_n 1, 1) := by decide +kernel
theorem dX9_hop_28 : decode cX9_hop 28 = .ok (.iload_n 2, 1) := by decide +kernel
theorem dX9_hop_29 : decode cX9_hop 29 = .ok (.invokevirtual 87, 3) := by decide +kernel
theorem dX9_hop_32 : decode cX9_hop 32 = .ok (.ireturn, 1) := by decide +kernel
theorem dX9_dive_0 : decode cX9_dive 0 = .ok (.aload_n 0, 1) := by decide +kernel
theorem dX9_dive_1 : decode cX9_dive 1 = .ok (.getfield 10, 3) := by decide +kernel
theorem dX9_dive_4 : decode cX9_dive 4 = .ok (.iload_n 1, 1) := by decide +kernel
theorem dX9_dive_5 : decode cX9_dive 5 = .ok (.invokevirtual 90, 3) := by decide +kernel
theorem dX9_dive_8 : decode cX9_dive 8 = .ok (.invokestatic 64, 3) := by decide +kernel
theorem dX9_dive_11 : decode cX9_dive 11 = .ok (.aload_n 0, 1) := by decide +kernel
theorem dX9_dive_12 : decode cX9_dive 12 = .ok (.getfield 25, 3) := by decide +kernel
theorem dX9_dive_15 : decode cX9_dive 15 = .ok (.aload_n 0, 1) := by decide +kernel
theorem dX9_dive_16 : decode cX9_dive 16 = .ok (.getfield 10, 3) := by decide +kernel
theorem dX9_dive_19 : decode cX9_dive 19 = .ok (.invokevirtual 68, 3) := by decide +kernel
theorem dX9_dive_22 : decode cX9_dive 22 = .ok (.aload_n 0, 1) := by decide +kernel
theorem dX9_dive_23 : decode cX9_dive 23 = .ok (.getfield 10, 3) := by decide +kernel
theorem dX9_dive_26 : decode cX9_dive 26 = .ok (.iload_n 1, 1) := by decide +kernel
theorem dX9_dive_27 : decode cX9_dive 27 = .ok (.invokevirtual 93, 3) := by decide +kernel
theorem dX9_dive_30 : decode cX9_dive 30 = .ok (.ireturn, 1) := by decide +kernel
theorem dX9_frogCount_0 : decode cX9_frogCount 0 = .ok (.aload_n 0, 1) := by decide +kernel
theorem dX9_frogCount_1 : decode cX9_frogCount 1 = .ok (.getfield 10, 3) := by decide +kernel
theorem dX9_frogCount_4 : decode cX9_frogCount 4 = .ok (.getfield 96, 3) := by decide +kernel
theorem dX9_frogCount_7 : decode cX9_frogCount 7 = .ok (.ireturn, 1) := by decide +kernel
theorem dX9_pondOf_0 : decode cX9_pondOf 0 = .ok (.aload_n 0, 1) := by decide +kernel
theorem dX9_pondOf_1 : decode cX9_pondOf 1 = .ok (.iload_n 1, 1) := by decide +kernel
theorem dX9_pondOf_2 : decode cX9_pondOf 2 = .ok (.invokevirtual 99, 3) := by decide +kernel
theorem dX9_pondOf_5 : decode cX9_pondOf 5 = .ok (.aload_n 0, 1) := by decide +kernel
theorem dX9_pondOf_6 : decode cX9_pondOf 6 = .ok (.getfield 10, 3) := by decide +kernel
theorem dX9_pondOf_9 : decode cX9_pondOf 9 = .ok (.getfield 103, 3) := by decide +kernel
theorem dX9_pondOf_12 : decode cX9_pondOf 12 = .ok (.iload_n 1, 1) := by decide +kernel
theorem dX9_pondOf_13 : decode cX9_pondOf 13 = .ok (.iaload, 1) := by decide +kernel
theorem dX9_pondOf_14 : decode cX9_pondOf 14 = .ok (.ireturn, 1) := by decide +kernel
theorem dX9_weightOf_0 : decode cX9_weightOf 0 = .ok (.aload_n 0, 1) := by decide +kernel
theorem dX9_weightOf_1 : decode cX9_weightOf 1 = .ok (.iload_n 1, 1) := by decide +kernel
theorem dX9_weightOf_2 : decode cX9_weightOf 2 = .ok (.invokevirtual 99, 3) := by decide +kernel
theorem dX9_weightOf_5 : decode cX9_weightOf 5 = .ok (.aload_n 0, 1) := by decide +kernel
theorem dX9_weightOf_6 : decode cX9_weightOf 6 = .ok (.getfield 10, 3) := by decide +kernel
theorem dX9_weightOf_9 : decode cX9_weightOf 9 = .ok (.getfield 107, 3) := by decide +kernel
theorem dX9_weightOf_12 : decode cX9_weightOf 12 = .ok (.iload_n 1, 1) := by decide +kernel
theorem dX9_weightOf_13 : decode cX9_weightOf 13 = .ok (.iaload, 1) := by decide +kernel
theorem dX9_weightOf_14 : decode cX9_weightOf 14 = .ok (.ireturn, 1) := by decide +kernel
theorem dX9_padOf_0 : decode cX9_padOf 0 = .ok (.aload_n 0, 1) := by decide +kernel
theorem dX9_padOf_1 : decode cX9_padOf 1 = .ok (.iload_n 1, 1) := by decide +kernel
theorem dX9_padOf_2 : decode cX9_padOf 2 = .ok (.invokevirtual 99, 3) := by decide +kernel
theorem dX9_padOf_5 : decode cX9_padOf 5 = .ok (.aload_n 0, 1) := by decide +kernel
theorem dX9_padOf_6 : decode cX9_padOf 6 = .ok (.getfield 10, 3) := by decide +kernel
theorem dX9_padOf_9 : decode cX9_padOf 9 = .ok (.iload_n 1, 1) := by decide +kernel
theorem dX9_padOf_10 : decode cX9_padOf 10 = .ok (.invokevirtual 110, 3) := by decide +kernel
theorem dX9_padOf_13 : decode cX9_padOf 13 = .ok (.ifCond .ne 13, 3) := by decide +kernel
theorem dX9_padOf_16 : decode cX9_padOf 16 = .ok (.new 114, 3) := by decide +kernel
theorem dX9_padOf_19 : decode cX9_padOf 19 = .ok (.dup, 1) := by decide +kernel
theorem dX9_padOf_20 : decode cX9_padOf 20 = .ok (.ldc 116, 2) := by decide +kernel
theorem dX9_padOf_22 : decode cX9_padOf 22 = .ok (.invokespecial 118, 3) := by decide +kernel
theorem dX9_padOf_25 : decode cX9_padOf 25 = .ok (.athrow, 1) := by decide +kernel
theorem dX9_padOf_26 : decode cX9_padOf 26 = .ok (.aload_n 0, 1) := by decide +kernel
theorem dX9_padOf_27 : decode cX9_padOf 27 = .ok (.getfield 10, 3) := by decide +kernel
theorem dX9_padOf_30 : decode cX9_padOf 30 = .ok (.getfield 121, 3) := by decide +kernel
theorem dX9_padOf_33 : decode cX9_padOf 33 = .ok (.iload_n 1, 1) := by decide +kernel
theorem dX9_padOf_34 : decode cX9_padOf 34 = .ok (.iaload, 1) := by decide +kernel
theorem dX9_padOf_35 : decode cX9_padOf 35 = .ok (.ireturn, 1) := by decide +kernel
theorem dX9_padCount_0 : decode cX9_padCount 0 = .ok (.aload_n 0, 1) := by decide +kernel
theorem dX9_padCount_1 : decode cX9_padCount 1 = .ok (.getfield 10, 3) := by decide +kernel
theorem dX9_padCount_4 : decode cX9_padCount 4 = .ok (.getfield 124, 3) := by decide +kernel
theorem dX9_padCount_7 : decode cX9_padCount 7 = .ok (.ireturn, 1) := by decide +kernel
theorem dX9_frogsOn_0 : decode cX9_frogsOn 0 = .ok (.aload_n 0, 1) := by decide +kernel
theorem dX9_frogsOn_1 : decode cX9_frogsOn 1 = .ok (.iload_n 1, 1) := by decide +kernel
theorem dX9_frogsOn_2 : decode cX9_frogsOn 2 = .ok (.invokevirtual 127, 3) := by decide +kernel
theorem dX9_frogsOn_5 : decode cX9_frogsOn 5 = .ok (.aload_n 0, 1) := by decide +kernel
theorem dX9_frogsOn_6 : decode cX9_frogsOn 6 = .ok (.getfield 10, 3) := by decide +kernel
theorem dX9_frogsOn_9 : decode cX9_frogsOn 9 = .ok (.iload_n 1, 1) := by decide +kernel
theorem dX9_frogsOn_10 : decode cX9_frogsOn 10 = .ok (.invokevirtual 130, 3) := by decide +kernel
theorem dX9_frogsOn_13 : decode cX9_frogsOn 13 = .ok (.ireturn, 1) := by decide +kernel
theorem dX9_padWeight_0 : decode cX9_padWeight 0 = .ok (.aload_n 0, 1) := by decide +kernel
theorem dX9_padWeight_1 : decode cX9_padWeight 1 = .ok (.iload_n 1, 1) := by decide +kernel
theorem dX9_padWeight_2 : decode cX9_padWeight 2 = .ok (.invokevirtual 127, 3) := by decide +kernel
theorem dX9_padWeight_5 : decode cX9_padWeight 5 = .ok (.aload_n 0, 1) := by decide +kernel
theorem dX9_padWeight_6 : decode cX9_padWeight 6 = .ok (.getfield 10, 3) := by decide +kernel
theorem dX9_padWeight_9 : decode cX9_padWeight 9 = .ok (.aload_n 0, 1) := by decide +kernel
theorem dX9_padWeight_10 : decode cX9_padWeight 10 = .ok (.getfield 10, 3) := by decide +kernel
theorem dX9_padWeight_13 : decode cX9_padWeight 13 = .ok (.iload_n 1, 1) := by decide +kernel
theorem dX9_padWeight_14 : decode cX9_padWeight 14 = .ok (.invokevirtual 133, 3) := by decide +kernel
theorem dX9_padWeight_17 : decode cX9_padWeight 17 = .ok (.invokevirtual 136, 3) := by decide +kernel
theorem dX9_padWeight_20 : decode cX9_padWeight 20 = .ok (.ireturn, 1) := by decide +kernel
theorem dX9_sittingCount_0 : decode cX9_sittingCount 0 = .ok (.iconst 0, 1) := by decide +kernel
theorem dX9_sittingCount_1 : decode cX9_sittingCount 1 = .ok (.istore_n 1, 1) := by decide +kernel
theorem dX9_sittingCount_2 : decode cX9_sittingCount 2 = .ok (.iconst 0, 1) := by decide +kernel
theorem dX9_sittingCount_3 : decode cX9_sittingCount 3 = .ok (.istore_n 2, 1) := by decide +kernel
theorem dX9_sittingCount_4 : decode cX9_sittingCount 4 = .ok (.iload_n 2, 1) := by decide +kernel
theorem dX9_sittingCount_5 : decode cX9_sittingCount 5 = .ok (.aload_n 0, 1) := by decide +kernel
theorem dX9_sittingCount_6 : decode cX9_sittingCount 6 = .ok (.getfield 10, 3) := by decide +kernel
theorem dX9_sittingCount_9 : decode cX9_sittingCount 9 = .ok (.getfield 124, 3) := by decide +kernel
theorem dX9_sittingCount_12 : decode cX9_sittingCount 12 = .ok (.if_icmp .ge 20, 3) := by decide +kernel
theorem dX9_sittingCount_15 : decode cX9_sittingCount 15 = .ok (.iload_n 1, 1) := by decide +kernel
theorem dX9_sittingCount_16 : decode cX9_sittingCount 16 = .ok (.aload_n 0, 1) := by decide +kernel
theorem dX9_sittingCount_17 : decode cX9_sittingCount 17 = .ok (.getfield 10, 3) := by decide +kernel
theorem dX9_sittingCount_20 : decode cX9_sittingCount 20 = .ok (.iload_n 2, 1) := by decide +kernel
theorem dX9_sittingCount_21 : decode cX9_sittingCount 21 = .ok (.invokevirtual 130, 3) := by decide +kernel
theorem dX9_sittingCount_24 : decode cX9_sittingCount 24 = .ok (.iadd, 1) := by decide +kernel
theorem dX9_sittingCount_25 : decode cX9_sittingCount 25 = .ok (.istore_n 1, 1) := by decide +kernel
theorem dX9_sittingCount_26 : decode cX9_sittingCount 26 = .ok (.iinc 2 1, 3) := by decide +kernel
theorem dX9_sittingCount_29 : decode cX9_sittingCount 29 = .ok (.goto (-25), 3) := by decide +kernel
theorem dX9_sittingCount_32 : decode cX9_sittingCount 32 = .ok (.iload_n 1, 1) := by decide +kernel
theorem dX9_sittingCount_33 : decode cX9_sittingCount 33 = .ok (.ireturn, 1) := by decide +kernel
theorem dX9_sittingCountBySet_0 : decode cX9_sittingCountBySet 0 = .ok (.aload_n 0, 1) := by decide +kernel
theorem dX9_sittingCountBySet_1 : decode cX9_sittingCountBySet 1 = .ok (.getfield 10, 3) := by decide +kernel
theorem dX9_sittingCountBySet_4 : decode cX9_sittingCountBySet 4 = .ok (.getfield 139, 3) := by decide +kernel
theorem dX9_sittingCountBySet_7 : decode cX9_sittingCountBySet 7 = .ok (.invokestatic 142, 3) := by decide +kernel
theorem dX9_sittingCountBySet_10 : decode cX9_sittingCountBySet 10 = .ok (.ireturn, 1) := by decide +kernel
theorem dX9_addMotion_0 : decode cX9_addMotion 0 = .ok (.aload_n 0, 1) := by decide +kernel
theorem dX9_addMotion_1 : decode cX9_addMotion 1 = .ok (.getfield 10, 3) := by decide +kernel
theorem dX9_addMotion_4 : decode cX9_addMotion 4 = .ok (.iload_n 1, 1) := by decide +kernel
theorem dX9_addMotion_5 : decode cX9_addMotion 5 = .ok (.invokevirtual 147, 3) := by decide +kernel
theorem dX9_addMotion_8 : decode cX9_addMotion 8 = .ok (.invokestatic 64, 3) := by decide +kernel
theorem dX9_addMotion_11 : decode cX9_addMotion 11 = .ok (.aload_n 0, 1) := by decide +kernel
theorem dX9_addMotion_12 : decode cX9_addMotion 12 = .ok (.getfield 25, 3) := by decide +kernel
theorem dX9_addMotion_15 : decode cX9_addMotion 15 = .ok (.aload_n 0, 1) := by decide +kernel
theorem dX9_addMotion_16 : decode cX9_addMotion 16 = .ok (.getfield 10, 3) := by decide +kernel
theorem dX9_addMotion_19 : decode cX9_addMotion 19 = .ok (.invokevirtual 68, 3) := by decide +kernel
theorem dX9_addMotion_22 : decode cX9_addMotion 22 = .ok (.aload_n 0, 1) := by decide +kernel
theorem dX9_addMotion_23 : decode cX9_addMotion 23 = .ok (.getfield 10, 3) := by decide +kernel
theorem dX9_addMotion_26 : decode cX9_addMotion 26 = .ok (.iload_n 1, 1) := by decide +kernel
theorem dX9_addMotion_27 : decode cX9_addMotion 27 = .ok (.invokevirtual 150, 3) := by decide +kernel
theorem dX9_addMotion_30 : decode cX9_addMotion 30 = .ok (.ireturn, 1) := by decide +kernel
theorem dX9_motionCount_0 : decode cX9_motionCount 0 = .ok (.aload_n 0, 1) := by decide +kernel
theorem dX9_motionCount_1 : decode cX9_motionCount 1 = .ok (.getfield 10, 3) := by decide +kernel
theorem dX9_motionCount_4 : decode cX9_motionCount 4 = .ok (.getfield 153, 3) := by decide +kernel
theorem dX9_motionCount_7 : decode cX9_motionCount 7 = .ok (.ireturn, 1) := by decide +kernel
theorem dX9_isEntitled_0 : decode cX9_isEntitled 0 = .ok (.aload_n 0, 1) := by decide +kernel
theorem dX9_isEntitled_1 : decode cX9_isEntitled 1 = .ok (.getfield 10, 3) := by decide +kernel
theorem dX9_isEntitled_4 : decode cX9_isEntitled 4 = .ok (.iload_n 1, 1) := by decide +kernel
theorem dX9_isEntitled_5 : decode cX9_isEntitled 5 = .ok (.iload_n 2, 1) := by decide +kernel
theorem dX9_isEntitled_6 : decode cX9_isEntitled 6 = .ok (.invokevirtual 156, 3) := by decide +kernel
theorem dX9_isEntitled_9 : decode cX9_isEntitled 9 = .ok (.invokestatic 64, 3) := by decide +kernel
theorem dX9_isEntitled_12 : decode cX9_isEntitled 12 = .ok (.aload_n 0, 1) := by decide +kernel
theorem dX9_isEntitled_13 : decode cX9_isEntitled 13 = .ok (.getfield 10, 3) := by decide +kernel
theorem dX9_isEntitled_16 : decode cX9_isEntitled 16 = .ok (.iload_n 1, 1) := by decide +kernel
theorem dX9_isEntitled_17 : decode cX9_isEntitled 17 = .ok (.iload_n 2, 1) := by decide +kernel
theorem dX9_isEntitled_18 : decode cX9_isEntitled 18 = .ok (.invokevirtual 159, 3) := by decide +kernel
theorem dX9_isEntitled_21 : decode cX9_isEntitled 21 = .ok (.ireturn, 1) := by decide +kernel
theorem dX9_signUp_0 : decode cX9_signUp 0 = .ok (.aload_n 0, 1) := by decide +kernel
theorem dX9_signUp_1 : decode cX9_signUp 1 = .ok (.getfield 10, 3) := by decide +kernel
theorem dX9_signUp_4 : decode cX9_signUp 4 = .ok (.iload_n 1, 1) := by decide +kernel
theorem dX9_signUp_5 : decode cX9_signUp 5 = .ok (.iload_n 2, 1) := by decide +kernel
theorem dX9_signUp_6 : decode cX9_signUp 6 = .ok (.invokevirtual 163, 3) := by decide +kernel
theorem dX9_signUp_9 : decode cX9_signUp 9 = .ok (.invokestatic 64, 3) := by decide +kernel
theorem dX9_signUp_12 : decode cX9_signUp 12 = .ok (.aload_n 0, 1) := by decide +kernel
theorem dX9_signUp_13 : decode cX9_signUp 13 = .ok (.getfield 25, 3) := by decide +kernel
theorem dX9_signUp_16 : decode cX9_signUp 16 = .ok (.aload_n 0, 1) := by decide +kernel
theorem dX9_signUp_17 : decode cX9_signUp 17 = .ok (.getfield 10, 3) := by decide +kernel
theorem dX9_signUp_20 : decode cX9_signUp 20 = .ok (.invokevirtual 68, 3) := by decide +kernel
theorem dX9_signUp_23 : decode cX9_signUp 23 = .ok (.aload_n 0, 1) := by decide +kernel
theorem dX9_signUp_24 : decode cX9_signUp 24 = .ok (.getfield 10, 3) := by decide +kernel
theorem dX9_signUp_27 : decode cX9_signUp 27 = .ok (.iload_n 1, 1) := by decide +kernel
theorem dX9_signUp_28 : decode cX9_signUp 28 = .ok (.iload_n 2, 1) := by decide +kernel
theorem dX9_signUp_29 : decode cX9_signUp 29 = .ok (.invokevirtual 166, 3) := by decide +kernel
theorem dX9_signUp_32 : decode cX9_signUp 32 = .ok (.ireturn, 1) := by decide +kernel
theorem dX9_strike_0 : decode cX9_strike 0 = .ok (.aload_n 0, 1) := by decide +kernel
theorem dX9_strike_1 : decode cX9_strike 1 = .ok (.getfield 10, 3) := by decide +kernel
theorem dX9_strike_4 : decode cX9_strike 4 = .ok (.iload_n 1, 1) := by decide +kernel
theorem dX9_strike_5 : decode cX9_strike 5 = .ok (.iload_n 2, 1) := by decide +kernel
theorem dX9_strike_6 : decode cX9_strike 6 = .ok (.invokevirtual 169, 3) := by decide +kernel
theorem dX9_strike_9 : decode cX9_strike 9 = .ok (.invokestatic 64, 3) := by decide +kernel
theorem dX9_strike_12 : decode cX9_strike 12 = .ok (.aload_n 0, 1) := by decide +kernel
theorem dX9_strike_13 : decode cX9_strike 13 = .ok (.getfield 25, 3) := by decide +kernel
theorem dX9_strike_16 : decode cX9_strike 16 = .ok (.aload_n 0, 1) := by decide +kernel
theorem dX9_strike_17 : decode cX9_strike 17 = .ok (.getfield 10, 3) := by decide +kernel
theorem dX9_strike_20 : decode cX9_strike 20 = .ok (.invokevirtual 68, 3) := by decide +kernel
theorem dX9_strike_23 : decode cX9_strike 23 = .ok (.aload_n 0, 1) := by decide +kernel
theorem dX9_strike_24 : decode cX9_strike 24 = .ok (.getfield 10, 3) := by decide +kernel
theorem dX9_strike_27 : decode cX9_strike 27 = .ok (.iload_n 1, 1) := by decide +kernel
theorem dX9_strike_28 : decode cX9_strike 28 = .ok (.iload_n 2, 1) := by decide +kernel
theorem dX9_strike_29 : decode cX9_strike 29 = .ok (.invokevirtual 172, 3) := by decide +kernel
theorem dX9_strike_32 : decode cX9_strike 32 = .ok (.ireturn, 1) := by decide +kernel
theorem dX9_callNext_0 : decode cX9_callNext 0 = .ok (.aload_n 0, 1) := by decide +kernel
theorem dX9_callNext_1 : decode cX9_callNext 1 = .ok (.getfield 10, 3) := by decide +kernel
theorem dX9_callNext_4 : decode cX9_callNext 4 = .ok (.iload_n 1, 1) := by decide +kernel
theorem dX9_callNext_5 : decode cX9_callNext 5 = .ok (.invokevirtual 175, 3) := by decide +kernel
theorem dX9_callNext_8 : decode cX9_callNext 8 = .ok (.invokestatic 64, 3) := by decide +kernel
theorem dX9_callNext_11 : decode cX9_callNext 11 = .ok (.aload_n 0, 1) := by decide +kernel
theorem dX9_callNext_12 : decode cX9_callNext 12 = .ok (.getfield 25, 3) := by decide +kernel
theorem dX9_callNext_15 : decode cX9_callNext 15 = .ok (.aload_n 0, 1) := by decide +kernel
theorem dX9_callNext_16 : decode cX9_callNext 16 = .ok (.getfield 10, 3) := by decide +kernel
theorem dX9_callNext_19 : decode cX9_callNext 19 = .ok (.invokevirtual 68, 3) := by decide +kernel
theorem dX9_callNext_22 : decode cX9_callNext 22 = .ok (.aload_n 0, 1) := by decide +kernel
theorem dX9_callNext_23 : decode cX9_callNext 23 = .ok (.getfield 10, 3) := by decide +kernel
theorem dX9_callNext_26 : decode cX9_callNext 26 = .ok (.iload_n 1, 1) := by decide +kernel
theorem dX9_callNext_27 : decode cX9_callNext 27 = .ok (.invokevirtual 178, 3) := by decide +kernel
theorem dX9_callNext_30 : decode cX9_callNext 30 = .ok (.ireturn, 1) := by decide +kernel
theorem dX9_listLength_0 : decode cX9_listLength 0 = .ok (.aload_n 0, 1) := by decide +kernel
theorem dX9_listLength_1 : decode cX9_listLength 1 = .ok (.iload_n 1, 1) := by decide +kernel
theorem dX9_listLength_2 : decode cX9_listLength 2 = .ok (.invokevirtual 181, 3) := by decide +kernel
theorem dX9_listLength_5 : decode cX9_listLength 5 = .ok (.aload_n 0, 1) := by decide +kernel
theorem dX9_listLength_6 : decode cX9_listLength 6 = .ok (.getfield 10, 3) := by decide +kernel
theorem dX9_listLength_9 : decode cX9_listLength 9 = .ok (.getfield 184, 3) := by decide +kernel
theorem dX9_listLength_12 : decode cX9_listLength 12 = .ok (.iload_n 1, 1) := by decide +kernel
theorem dX9_listLength_13 : decode cX9_listLength 13 = .ok (.aaload, 1) := by decide +kernel
theorem dX9_listLength_14 : decode cX9_listLength 14 = .ok (.getfield 188, 3) := by decide +kernel
theorem dX9_listLength_17 : decode cX9_listLength 17 = .ok (.ireturn, 1) := by decide +kernel
theorem dX9_nextFrog_0 : decode cX9_nextFrog 0 = .ok (.aload_n 0, 1) := by decide +kernel
theorem dX9_nextFrog_1 : decode cX9_nextFrog 1 = .ok (.getfield 10, 3) := by decide +kernel
theorem dX9_nextFrog_4 : decode cX9_nextFrog 4 = .ok (.iload_n 1, 1) := by decide +kernel
theorem dX9_nextFrog_5 : decode cX9_nextFrog 5 = .ok (.invokevirtual 175, 3) := by decide +kernel
theorem dX9_nextFrog_8 : decode cX9_nextFrog 8 = .ok (.invokestatic 64, 3) := by decide +kernel
theorem dX9_nextFrog_11 : decode cX9_nextFrog 11 = .ok (.aload_n 0, 1) := by decide +kernel
theorem dX9_nextFrog_12 : decode cX9_nextFrog 12 = .ok (.iload_n 1, 1) := by decide +kernel
theorem dX9_nextFrog_13 : decode cX9_nextFrog 13 = .ok (.invokevirtual 193, 3) := by decide +kernel
theorem dX9_nextFrog_16 : decode cX9_nextFrog 16 = .ok (.aload_n 0, 1) := by decide +kernel
theorem dX9_nextFrog_17 : decode cX9_nextFrog 17 = .ok (.getfield 32, 3) := by decide +kernel
theorem dX9_nextFrog_20 : decode cX9_nextFrog 20 = .ok (.invokevirtual 196, 3) := by decide +kernel
theorem dX9_nextFrog_23 : decode cX9_nextFrog 23 = .ok (.ireturn, 1) := by decide +kernel
theorem dX9_nextFrogByScan_0 : decode cX9_nextFrogByScan 0 = .ok (.aload_n 0, 1) := by decide +kernel
theorem dX9_nextFrogByScan_1 : decode cX9_nextFrogByScan 1 = .ok (.getfield 10, 3) := by decide +kernel
theorem dX9_nextFrogByScan_4 : decode cX9_nextFrogByScan 4 = .ok (.iload_n 1, 1) := by decide +kernel
theorem dX9_nextFrogByScan_5 : decode cX9_nextFrogByScan 5 = .ok (.invokevirtual 175, 3) := by decide +kernel
theorem dX9_nextFrogByScan_8 : decode cX9_nextFrogByScan 8 = .ok (.invokestatic 64, 3) := by decide +kernel
theorem dX9_nextFrogByScan_11 : decode cX9_nextFrogByScan 11 = .ok (.aload_n 0, 1) := by decide +kernel
theorem dX9_nextFrogByScan_12 : decode cX9_nextFrogByScan 12 = .ok (.getfield 10, 3) := by decide +kernel
theorem dX9_nextFrogByScan_15 : decode cX9_nextFrogByScan 15 = .ok (.getfield 184, 3) := by decide +kernel
theorem dX9_nextFrogByScan_18 : decode cX9_nextFrogByScan 18 = .ok (.iload_n 1, 1) := by decide +kernel
theorem dX9_nextFrogByScan_19 : decode cX9_nextFrogByScan 19 = .ok (.aaload, 1) := by decide +kernel
theorem dX9_nextFrogByScan_20 : decode cX9_nextFrogByScan 20 = .ok (.getfield 200, 3) := by decide +kernel
theorem dX9_nextFrogByScan_23 : decode cX9_nextFrogByScan 23 = .ok (.aload_n 0, 1) := by decide +kernel
theorem dX9_nextFrogByScan_24 : decode cX9_nextFrogByScan 24 = .ok (.getfield 10, 3) := by decide +kernel
theorem dX9_nextFrogByScan_27 : decode cX9_nextFrogByScan 27 = .ok (.iload_n 1, 1) := by decide +kernel
theorem dX9_nextFrogByScan_28 : decode cX9_nextFrogByScan 28 = .ok (.invokevirtual 203, 3) := by decide +kernel
theorem dX9_nextFrogByScan_31 : decode cX9_nextFrogByScan 31 = .ok (.iaload, 1) := by decide +kernel
theorem dX9_nextFrogByScan_32 : decode cX9_nextFrogByScan 32 = .ok (.ireturn, 1) := by decide +kernel
theorem dX9_frogsBefore_0 : decode cX9_frogsBefore 0 = .ok (.aload_n 0, 1) := by decide +kernel
theorem dX9_frogsBefore_1 : decode cX9_frogsBefore 1 = .ok (.getfield 10, 3) := by decide +kernel
theorem dX9_frogsBefore_4 : decode cX9_frogsBefore 4 = .ok (.iload_n 1, 1) := by decide +kernel
theorem dX9_frogsBefore_5 : decode cX9_frogsBefore 5 = .ok (.iload_n 2, 1) := by decide +kernel
theorem dX9_frogsBefore_6 : decode cX9_frogsBefore 6 = .ok (.invokevirtual 169, 3) := by decide +kernel
theorem dX9_frogsBefore_9 : decode cX9_frogsBefore 9 = .ok (.invokestatic 64, 3) := by decide +kernel
theorem dX9_frogsBefore_12 : decode cX9_frogsBefore 12 = .ok (.aload_n 0, 1) := by decide +kernel
theorem dX9_frogsBefore_13 : decode cX9_frogsBefore 13 = .ok (.getfield 10, 3) := by decide +kernel
theorem dX9_frogsBefore_16 : decode cX9_frogsBefore 16 = .ok (.getfield 184, 3) := by decide +kernel
theorem dX9_frogsBefore_19 : decode cX9_frogsBefore 19 = .ok (.iload_n 1, 1) := by decide +kernel
theorem dX9_frogsBefore_20 : decode cX9_frogsBefore 20 = .ok (.aaload, 1) := by decide +kernel
theorem dX9_frogsBefore_21 : decode cX9_frogsBefore 21 = .ok (.astore_n 3, 1) := by decide +kernel
theorem dX9_frogsBefore_22 : decode cX9_frogsBefore 22 = .ok (.aload_n 3, 1) := by decide +kernel
theorem dX9_frogsBefore_23 : decode cX9_frogsBefore 23 = .ok (.iload_n 2, 1) := by decide +kernel
theorem dX9_frogsBefore_24 : decode cX9_frogsBefore 24 = .ok (.invokevirtual 206, 3) := by decide +kernel
theorem dX9_frogsBefore_27 : decode cX9_frogsBefore 27 = .ok (.istore 4, 2) := by decide +kernel
theorem dX9_frogsBefore_29 : decode cX9_frogsBefore 29 = .ok (.iconst 0, 1) := by decide +kernel
theorem dX9_frogsBefore_30 : decode cX9_frogsBefore 30 = .ok (.istore 5, 2) := by decide +kernel
theorem dX9_frogsBefore_32 : decode cX9_frogsBefore 32 = .ok (.iconst 0, 1) := by decide +kernel
theorem dX9_frogsBefore_33 : decode cX9_frogsBefore 33 = .ok (.istore 6, 2) := by decide +kernel
theorem dX9_frogsBefore_35 : decode cX9_frogsBefore 35 = .ok (.iload 6, 2) := by decide +kernel
theorem dX9_frogsBefore_37 : decode cX9_frogsBefore 37 = .ok (.aload_n 3, 1) := by decide +kernel
theorem dX9_frogsBefore_38 : decode cX9_frogsBefore 38 = .ok (.getfield 188, 3) := by decide +kernel
theorem dX9_frogsBefore_41 : decode cX9_frogsBefore 41 = .ok (.if_icmp .ge 27, 3) := by decide +kernel
theorem dX9_frogsBefore_44 : decode cX9_frogsBefore 44 = .ok (.aload_n 0, 1) := by decide +kernel
theorem dX9_frogsBefore_45 : decode cX9_frogsBefore 45 = .ok (.getfield 10, 3) := by decide +kernel
theorem dX9_frogsBefore_48 : decode cX9_frogsBefore 48 = .ok (.aload_n 3, 1) := by decide +kernel
theorem dX9_frogsBefore_49 : decode cX9_frogsBefore 49 = .ok (.iload 6, 2) := by decide +kernel
theorem dX9_frogsBefore_51 : decode cX9_frogsBefore 51 = .ok (.iload 4, 2) := by decide +kernel
theorem dX9_frogsBefore_53 : decode cX9_frogsBefore 53 = .ok (.invokevirtual 209, 3) := by decide +kernel
theorem dX9_frogsBefore_56 : decode cX9_frogsBefore 56 = .ok (.ifCond .eq 6, 3) := by decide +kernel
theorem dX9_frogsBefore_59 : decode cX9_frogsBefore 59 = .ok (.iinc 5 1, 3) := by decide +kernel
theorem dX9_frogsBefore_62 : decode cX9_frogsBefore 62 = .ok (.iinc 6 1, 3) := by decide +kernel
theorem dX9_frogsBefore_65 : decode cX9_frogsBefore 65 = .ok (.goto (-30), 3) := by decide +kernel
theorem dX9_frogsBefore_68 : decode cX9_frogsBefore 68 = .ok (.iload 5, 2) := by decide +kernel
theorem dX9_frogsBefore_70 : decode cX9_frogsBefore 70 = .ok (.ireturn, 1) := by decide +kernel
theorem dX9_speeches_0 : decode cX9_speeches 0 = .ok (.aload_n 0, 1) := by decide +kernel
theorem dX9_speeches_1 : decode cX9_speeches 1 = .ok (.iload_n 1, 1) := by decide +kernel
theorem dX9_speeches_2 : decode cX9_speeches 2 = .ok (.invokevirtual 99, 3) := by decide +kernel
theorem dX9_speeches_5 : decode cX9_speeches 5 = .ok (.aload_n 0, 1) := by decide +kernel
theorem dX9_speeches_6 : decode cX9_speeches 6 = .ok (.getfield 10, 3) := by decide +kernel
theorem dX9_speeches_9 : decode cX9_speeches 9 = .ok (.getfield 213, 3) := by decide +kernel
theorem dX9_speeches_12 : decode cX9_speeches 12 = .ok (.iload_n 1, 1) := by decide +kernel
theorem dX9_speeches_13 : decode cX9_speeches 13 = .ok (.iaload, 1) := by decide +kernel
theorem dX9_speeches_14 : decode cX9_speeches 14 = .ok (.ireturn, 1) := by decide +kernel
theorem dX9_speechesOn_0 : decode cX9_speechesOn 0 = .ok (.aload_n 0, 1) := by decide +kernel
theorem dX9_speechesOn_1 : decode cX9_speechesOn 1 = .ok (.iload_n 1, 1) := by decide +kernel
theorem dX9_speechesOn_2 : decode cX9_speechesOn 2 = .ok (.invokevirtual 181, 3) := by decide +kernel
theorem dX9_speechesOn_5 : decode cX9_speechesOn 5 = .ok (.aload_n 0, 1) := by decide +kernel
theorem dX9_speechesOn_6 : decode cX9_speechesOn 6 = .ok (.getfield 10, 3) := by decide +kernel
theorem dX9_speechesOn_9 : decode cX9_speechesOn 9 = .ok (.getfield 184, 3) := by decide +kernel
theorem dX9_speechesOn_12 : decode cX9_speechesOn 12 = .ok (.iload_n 1, 1) := by decide +kernel
theorem dX9_speechesOn_13 : decode cX9_speechesOn 13 = .ok (.aaload, 1) := by decide +kernel
theorem dX9_speechesOn_14 : decode cX9_speechesOn 14 = .ok (.getfield 216, 3) := by decide +kernel
theorem dX9_speechesOn_17 : decode cX9_speechesOn 17 = .ok (.ireturn, 1) := by decide +kernel
theorem dX9_frogAtRank_0 : decode cX9_frogAtRank 0 = .ok (.iconst 0, 1) := by decide +kernel
theorem dX9_frogAtRank_1 : decode cX9_frogAtRank 1 = .ok (.istore_n 2, 1) := by decide +kernel
theorem dX9_frogAtRank_2 : decode cX9_frogAtRank 2 = .ok (.iload_n 2, 1) := by decide +kernel
theorem dX9_frogAtRank_3 : decode cX9_frogAtRank 3 = .ok (.aload_n 0, 1) := by decide +kernel
theorem dX9_frogAtRank_4 : decode cX9_frogAtRank 4 = .ok (.getfield 10, 3) := by decide +kernel
theorem dX9_frogAtRank_7 : decode cX9_frogAtRank 7 = .ok (.getfield 96, 3) := by decide +kernel
theorem dX9_frogAtRank_10 : decode cX9_frogAtRank 10 = .ok (.if_icmp .ge 23, 3) := by decide +kernel
theorem dX9_frogAtRank_13 : decode cX9_frogAtRank 13 = .ok (.aload_n 0, 1) := by decide +kernel
theorem dX9_frogAtRank_14 : decode cX9_frogAtRank 14 = .ok (.getfield 10, 3) := by decide +kernel
theorem dX9_frogAtRank_17 : decode cX9_frogAtRank 17 = .ok (.iload_n 2, 1) := by decide +kernel
theorem dX9_frogAtRank_18 : decode cX9_frogAtRank 18 = .ok (.invokevirtual 219, 3) := by decide +kernel
theorem dX9_frogAtRank_21 : decode cX9_frogAtRank 21 = .ok (.iload_n 1, 1) := by decide +kernel
theorem dX9_frogAtRank_22 : decode cX9_frogAtRank 22 = .ok (.if_icmp .ne 5, 3) := by decide +kernel
theorem dX9_frogAtRank_25 : decode cX9_frogAtRank 25 = .ok (.iload_n 2, 1) := by decide +kernel
theorem dX9_frogAtRank_26 : decode cX9_frogAtRank 26 = .ok (.ireturn, 1) := by decide +kernel
theorem dX9_frogAtRank_27 : decode cX9_frogAtRank 27 = .ok (.iinc 2 1, 3) := by decide +kernel
theorem dX9_frogAtRank_30 : decode cX9_frogAtRank 30 = .ok (.goto (-28), 3) := by decide +kernel
theorem dX9_frogAtRank_33 : decode cX9_frogAtRank 33 = .ok (.new 114, 3) := by decide +kernel
theorem dX9_frogAtRank_36 : decode cX9_frogAtRank 36 = .ok (.dup, 1) := by decide +kernel
theorem dX9_frogAtRank_37 : decode cX9_frogAtRank 37 = .ok (.ldc 222, 2) := by decide +kernel
theorem dX9_frogAtRank_39 : decode cX9_frogAtRank 39 = .ok (.invokespecial 118, 3) := by decide +kernel
theorem dX9_frogAtRank_42 : decode cX9_frogAtRank 42 = .ok (.athrow, 1) := by decide +kernel
theorem dX9_supportClosure_0 : decode cX9_supportClosure 0 = .ok (.aload_n 0, 1) := by decide +kernel
theorem dX9_supportClosure_1 : decode cX9_supportClosure 1 = .ok (.getfield 10, 3) := by decide +kernel
theorem dX9_supportClosure_4 : decode cX9_supportClosure 4 = .ok (.iload_n 1, 1) := by decide +kernel
theorem dX9_supportClosure_5 : decode cX9_supportClosure 5 = .ok (.iload_n 2, 1) := by decide +kernel
theorem dX9_supportClosure_6 : decode cX9_supportClosure 6 = .ok (.invokevirtual 224, 3) := by decide +kernel
theorem dX9_supportClosure_9 : decode cX9_supportClosure 9 = .ok (.invokestatic 64, 3) := by decide +kernel
theorem dX9_supportClosure_12 : decode cX9_supportClosure 12 = .ok (.aload_n 0, 1) := by decide +kernel
theorem dX9_supportClosure_13 : decode cX9_supportClosure 13 = .ok (.getfield 25, 3) := by decide +kernel
theorem dX9_supportClosure_16 : decode cX9_supportClosure 16 = .ok (.aload_n 0, 1) := by decide +kernel
theorem dX9_supportClosure_17 : decode cX9_supportClosure 17 = .ok (.getfield 10, 3) := by decide +kernel
theorem dX9_supportClosure_20 : decode cX9_supportClosure 20 = .ok (.invokevirtual 68, 3) := by decide +kernel
theorem dX9_supportClosure_23 : decode cX9_supportClosure 23 = .ok (.aload_n 0, 1) := by decide +kernel
theorem dX9_supportClosure_24 : decode cX9_supportClosure 24 = .ok (.getfield 10, 3) := by decide +kernel
theorem dX9_supportClosure_27 : decode cX9_supportClosure 27 = .ok (.iload_n 1, 1) := by decide +kernel
theorem dX9_supportClosure_28 : decode cX9_supportClosure 28 = .ok (.iload_n 2, 1) := by decide +kernel
theorem dX9_supportClosure_29 : decode cX9_supportClosure 29 = .ok (.invokevirtual 227, 3) := by decide +kernel
theorem dX9_supportClosure_32 : decode cX9_supportClosure 32 = .ok (.ireturn, 1) := by decide +kernel
theorem dX9_isListClosed_0 : decode cX9_isListClosed 0 = .ok (.aload_n 0, 1) := by decide +kernel
theorem dX9_isListClosed_1 : decode cX9_isListClosed 1 = .ok (.iload_n 1, 1) := by decide +kernel
theorem dX9_isListClosed_2 : decode cX9_isListClosed 2 = .ok (.invokevirtual 181, 3) := by decide +kernel
theorem dX9_isListClosed_5 : decode cX9_isListClosed 5 = .ok (.aload_n 0, 1) := by decide +kernel
theorem dX9_isListClosed_6 : decode cX9_isListClosed 6 = .ok (.getfield 10, 3) := by decide +kernel
theorem dX9_isListClosed_9 : decode cX9_isListClosed 9 = .ok (.getfield 184, 3) := by decide +kernel
theorem dX9_isListClosed_12 : decode cX9_isListClosed 12 = .ok (.iload_n 1, 1) := by decide +kernel
theorem dX9_isListClosed_13 : decode cX9_isListClosed 13 = .ok (.aaload, 1) := by decide +kernel
theorem dX9_isListClosed_14 : decode cX9_isListClosed 14 = .ok (.getfield 230, 3) := by decide +kernel
theorem dX9_isListClosed_17 : decode cX9_isListClosed 17 = .ok (.ireturn, 1) := by decide +kernel
theorem dX9_closureWeight_0 : decode cX9_closureWeight 0 = .ok (.aload_n 0, 1) := by decide +kernel
theorem dX9_closureWeight_1 : decode cX9_closureWeight 1 = .ok (.iload_n 1, 1) := by decide +kernel
theorem dX9_closureWeight_2 : decode cX9_closureWeight 2 = .ok (.invokevirtual 181, 3) := by decide +kernel
theorem dX9_closureWeight_5 : decode cX9_closureWeight 5 = .ok (.aload_n 0, 1) := by decide +kernel
theorem dX9_closureWeight_6 : decode cX9_closureWeight 6 = .ok (.getfield 10, 3) := by decide +kernel
theorem dX9_closureWeight_9 : decode cX9_closureWeight 9 = .ok (.aload_n 0, 1) := by decide +kernel
theorem dX9_closureWeight_10 : decode cX9_closureWeight 10 = .ok (.getfield 10, 3) := by decide +kernel
theorem dX9_closureWeight_13 : decode cX9_closureWeight 13 = .ok (.getfield 184, 3) := by decide +kernel
theorem dX9_closureWeight_16 : decode cX9_closureWeight 16 = .ok (.iload_n 1, 1) := by decide +kernel
theorem dX9_closureWeight_17 : decode cX9_closureWeight 17 = .ok (.aaload, 1) := by decide +kernel
theorem dX9_closureWeight_18 : decode cX9_closureWeight 18 = .ok (.getfield 234, 3) := by decide +kernel
theorem dX9_closureWeight_21 : decode cX9_closureWeight 21 = .ok (.invokevirtual 136, 3) := by decide +kernel
theorem dX9_closureWeight_24 : decode cX9_closureWeight 24 = .ok (.ireturn, 1) := by decide +kernel
theorem dX9_entitledWeight_0 : decode cX9_entitledWeight 0 = .ok (.aload_n 0, 1) := by decide +kernel
theorem dX9_entitledWeight_1 : decode cX9_entitledWeight 1 = .ok (.iload_n 1, 1) := by decide +kernel
theorem dX9_entitledWeight_2 : decode cX9_entitledWeight 2 = .ok (.invokevirtual 181, 3) := by decide +kernel
theorem dX9_entitledWeight_5 : decode cX9_entitledWeight 5 = .ok (.aload_n 0, 1) := by decide +kernel
theorem dX9_entitledWeight_6 : decode cX9_entitledWeight 6 = .ok (.getfield 10, 3) := by decide +kernel
theorem dX9_entitledWeight_9 : decode cX9_entitledWeight 9 = .ok (.aload_n 0, 1) := by decide +kernel
theorem dX9_entitledWeight_10 : decode cX9_entitledWeight 10 = .ok (.getfield 10, 3) := by decide +kernel
theorem dX9_entitledWeight_13 : decode cX9_entitledWeight 13 = .ok (.iload_n 1, 1) := by decide +kernel
theorem dX9_entitledWeight_14 : decode cX9_entitledWeight 14 = .ok (.invokevirtual 237, 3) := by decide +kernel
theorem dX9_entitledWeight_17 : decode cX9_entitledWeight 17 = .ok (.invokevirtual 136, 3) := by decide +kernel
theorem dX9_entitledWeight_20 : decode cX9_entitledWeight 20 = .ok (.ireturn, 1) := by decide +kernel
theorem dX9_croak_0 : decode cX9_croak 0 = .ok (.aload_n 0, 1) := by decide +kernel
theorem dX9_croak_1 : decode cX9_croak 1 = .ok (.getfield 10, 3) := by decide +kernel
theorem dX9_croak_4 : decode cX9_croak 4 = .ok (.iload_n 1, 1) := by decide +kernel
theorem dX9_croak_5 : decode cX9_croak 5 = .ok (.iload_n 2, 1) := by decide +kernel
theorem dX9_croak_6 : decode cX9_croak 6 = .ok (.iload_n 3, 1) := by decide +kernel
theorem dX9_croak_7 : decode cX9_croak 7 = .ok (.invokevirtual 240, 3) := by decide +kernel
theorem dX9_croak_10 : decode cX9_croak 10 = .ok (.invokestatic 64, 3) := by decide +kernel
theorem dX9_croak_13 : decode cX9_croak 13 = .ok (.aload_n 0, 1) := by decide +kernel
theorem dX9_croak_14 : decode cX9_croak 14 = .ok (.getfield 25, 3) := by decide +kernel
theorem dX9_croak_17 : decode cX9_croak 17 = .ok (.aload_n 0, 1) := by decide +kernel
theorem dX9_croak_18 : decode cX9_croak 18 = .ok (.getfield 10, 3) := by decide +kernel
theorem dX9_croak_21 : decode cX9_croak 21 = .ok (.invokevirtual 68, 3) := by decide +kernel
theorem dX9_croak_24 : decode cX9_croak 24 = .ok (.aload_n 0, 1) := by decide +kernel
theorem dX9_croak_25 : decode cX9_croak 25 = .ok (.getfield 10, 3) := by decide +kernel
theorem dX9_croak_28 : decode cX9_croak 28 = .ok (.iload_n 1, 1) := by decide +kernel
theorem dX9_croak_29 : decode cX9_croak 29 = .ok (.iload_n 2, 1) := by decide +kernel
theorem dX9_croak_30 : decode cX9_croak 30 = .ok (.iload_n 3, 1) := by decide +kernel
theorem dX9_croak_31 : decode cX9_croak 31 = .ok (.iload 4, 2) := by decide +kernel
theorem dX9_croak_33 : decode cX9_croak 33 = .ok (.invokevirtual 244, 3) := by decide +kernel
theorem dX9_croak_36 : decode cX9_croak 36 = .ok (.ireturn, 1) := by decide +kernel
theorem dX9_decide_0 : decode cX9_decide 0 = .ok (.aload_n 0, 1) := by decide +kernel
theorem dX9_decide_1 : decode cX9_decide 1 = .ok (.getfield 10, 3) := by decide +kernel
theorem dX9_decide_4 : decode cX9_decide 4 = .ok (.iload_n 1, 1) := by decide +kernel
theorem dX9_decide_5 : decode cX9_decide 5 = .ok (.invokevirtual 248, 3) := by decide +kernel
theorem dX9_decide_8 : decode cX9_decide 8 = .ok (.invokestatic 64, 3) := by decide +kernel
theorem dX9_decide_11 : decode cX9_decide 11 = .ok (.aload_n 0, 1) := by decide +kernel
theorem dX9_decide_12 : decode cX9_decide 12 = .ok (.getfield 25, 3) := by decide +kernel
theorem dX9_decide_15 : decode cX9_decide 15 = .ok (.aload_n 0, 1) := by decide +kernel
theorem dX9_decide_16 : decode cX9_decide 16 = .ok (.getfield 10, 3) := by decide +kernel
theorem dX9_decide_19 : decode cX9_decide 19 = .ok (.invokevirtual 68, 3) := by decide +kernel
theorem dX9_decide_22 : decode cX9_decide 22 = .ok (.aload_n 0, 1) := by decide +kernel
theorem dX9_decide_23 : decode cX9_decide 23 = .ok (.getfield 10, 3) := by decide +kernel
theorem dX9_decide_26 : decode cX9_decide 26 = .ok (.iload_n 1, 1) := by decide +kernel
theorem dX9_decide_27 : decode cX9_decide 27 = .ok (.invokevirtual 251, 3) := by decide +kernel
theorem dX9_decide_30 : decode cX9_decide 30 = .ok (.ireturn, 1) := by decide +kernel
theorem dX9_isDecided_0 : decode cX9_isDecided 0 = .ok (.aload_n 0, 1) := by decide +kernel
theorem dX9_isDecided_1 : decode cX9_isDecided 1 = .ok (.iload_n 1, 1) := by decide +kernel
theorem dX9_isDecided_2 : decode cX9_isDecided 2 = .ok (.invokevirtual 181, 3) := by decide +kernel
theorem dX9_isDecided_5 : decode cX9_isDecided 5 = .ok (.aload_n 0, 1) := by decide +kernel
theorem dX9_isDecided_6 : decode cX9_isDecided 6 = .ok (.getfield 10, 3) := by decide +kernel
theorem dX9_isDecided_9 : decode cX9_isDecided 9 = .ok (.getfield 184, 3) := by decide +kernel
theorem dX9_isDecided_12 : decode cX9_isDecided 12 = .ok (.iload_n 1, 1) := by decide +kernel
theorem dX9_isDecided_13 : decode cX9_isDecided 13 = .ok (.aaload, 1) := by decide +kernel
theorem dX9_isDecided_14 : decode cX9_isDecided 14 = .ok (.getfield 254, 3) := by decide +kernel
theorem dX9_isDecided_17 : decode cX9_isDecided 17 = .ok (.ireturn, 1) := by decide +kernel
theorem dX9_isAdopted_0 : decode cX9_isAdopted 0 = .ok (.aload_n 0, 1) := by decide +kernel
theorem dX9_isAdopted_1 : decode cX9_isAdopted 1 = .ok (.iload_n 1, 1) := by decide +kernel
theorem dX9_isAdopted_2 : decode cX9_isAdopted 2 = .ok (.invokevirtual 181, 3) := by decide +kernel
theorem dX9_isAdopted_5 : decode cX9_isAdopted 5 = .ok (.aload_n 0, 1) := by decide +kernel
theorem dX9_isAdopted_6 : decode cX9_isAdopted 6 = .ok (.getfield 10, 3) := by decide +kernel
theorem dX9_isAdopted_9 : decode cX9_isAdopted 9 = .ok (.getfield 184, 3) := by decide +kernel
theorem dX9_isAdopted_12 : decode cX9_isAdopted 12 = .ok (.iload_n 1, 1) := by decide +kernel
theorem dX9_isAdopted_13 : decode cX9_isAdopted 13 = .ok (.aaload, 1) := by decide +kernel
theorem dX9_isAdopted_14 : decode cX9_isAdopted 14 = .ok (.getfield 257, 3) := by decide +kernel
theorem dX9_isAdopted_17 : decode cX9_isAdopted 17 = .ok (.ireturn, 1) := by decide +kernel
theorem dX9_croaksFor_0 : decode cX9_croaksFor 0 = .ok (.aload_n 0, 1) := by decide +kernel
theorem dX9_croaksFor_1 : decode cX9_croaksFor 1 = .ok (.iload_n 1, 1) := by decide +kernel
theorem dX9_croaksFor_2 : decode cX9_croaksFor 2 = .ok (.invokevirtual 181, 3) := by decide +kernel
theorem dX9_croaksFor_5 : decode cX9_croaksFor 5 = .ok (.aload_n 0, 1) := by decide +kernel
theorem dX9_croaksFor_6 : decode cX9_croaksFor 6 = .ok (.getfield 10, 3) := by decide +kernel
theorem dX9_croaksFor_9 : decode cX9_croaksFor 9 = .ok (.getfield 184, 3) := by decide +kernel
theorem dX9_croaksFor_12 : decode cX9_croaksFor 12 = .ok (.iload_n 1, 1) := by decide +kernel
theorem dX9_croaksFor_13 : decode cX9_croaksFor 13 = .ok (.aaload, 1) := by decide +kernel
theorem dX9_croaksFor_14 : decode cX9_croaksFor 14 = .ok (.iconst 1, 1) := by decide +kernel
theorem dX9_croaksFor_15 : decode cX9_croaksFor 15 = .ok (.invokevirtual 260, 3) := by decide +kernel
theorem dX9_croaksFor_18 : decode cX9_croaksFor 18 = .ok (.ireturn, 1) := by decide +kernel
theorem dX9_croaksForByPonds_0 : decode cX9_croaksForByPonds 0 = .ok (.aload_n 0, 1) := by decide +kernel
theorem dX9_croaksForByPonds_1 : decode cX9_croaksForByPonds 1 = .ok (.iload_n 1, 1) := by decide +kernel
theorem dX9_croaksForByPonds_2 : decode cX9_croaksForByPonds 2 = .ok (.invokevirtual 181, 3) := by decide +kernel
theorem dX9_croaksForByPonds_5 : decode cX9_croaksForByPonds 5 = .ok (.iconst 0, 1) := by decide +kernel
theorem dX9_croaksForByPonds_6 : decode cX9_croaksForByPonds 6 = .ok (.istore_n 2, 1) := by decide +kernel
theorem dX9_croaksForByPonds_7 : decode cX9_croaksForByPonds 7 = .ok (.iconst 0, 1) := by decide +kernel
theorem dX9_croaksForByPonds_8 : decode cX9_croaksForByPonds 8 = .ok (.istore_n 3, 1) := by decide +kernel
theorem dX9_croaksForByPonds_9 : decode cX9_croaksForByPonds 9 = .ok (.iload_n 3, 1) := by decide +kernel
theorem dX9_croaksForByPonds_10 : decode cX9_croaksForByPonds 10 = .ok (.iconst 4, 1) := by decide +kernel
theorem dX9_croaksForByPonds_11 : decode cX9_croaksForByPonds 11 = .ok (.if_icmp .ge 21, 3) := by decide +kernel
theorem dX9_croaksForByPonds_14 : decode cX9_croaksForByPonds 14 = .ok (.iload_n 2, 1) := by decide +kernel
theorem dX9_croaksForByPonds_15 : decode cX9_croaksForByPonds 15 = .ok (.aload_n 0, 1) := by decide +kernel
theorem dX9_croaksForByPonds_16 : decode cX9_croaksForByPonds 16 = .ok (.getfield 10, 3) := by decide +kernel
theorem dX9_croaksForByPonds_19 : decode cX9_croaksForByPonds 19 = .ok (.iload_n 1, 1) := by decide +kernel
theorem dX9_croaksForByPonds_20 : decode cX9_croaksForByPonds 20 = .ok (.iload_n 3, 1) := by decide +kernel
theorem dX9_croaksForByPonds_21 : decode cX9_croaksForByPonds 21 = .ok (.invokevirtual 264, 3) := by decide +kernel
theorem dX9_croaksForByPonds_24 : decode cX9_croaksForByPonds 24 = .ok (.iadd, 1) := by decide +kernel
theorem dX9_croaksForByPonds_25 : decode cX9_croaksForByPonds 25 = .ok (.istore_n 2, 1) := by decide +kernel
theorem dX9_croaksForByPonds_26 : decode cX9_croaksForByPonds 26 = .ok (.iinc 3 1, 3) := by decide +kernel
theorem dX9_croaksForByPonds_29 : decode cX9_croaksForByPonds 29 = .ok (.goto (-20), 3) := by decide +kernel
theorem dX9_croaksForByPonds_32 : decode cX9_croaksForByPonds 32 = .ok (.iload_n 2, 1) := by decide +kernel
theorem dX9_croaksForByPonds_33 : decode cX9_croaksForByPonds 33 = .ok (.ireturn, 1) := by decide +kernel
theorem dX9_croaksAgainst_0 : decode cX9_croaksAgainst 0 = .ok (.aload_n 0, 1) := by decide +kernel
theorem dX9_croaksAgainst_1 : decode cX9_croaksAgainst 1 = .ok (.iload_n 1, 1) := by decide +kernel
theorem dX9_croaksAgainst_2 : decode cX9_croaksAgainst 2 = .ok (.invokevirtual 181, 3) := by decide +kernel
theorem dX9_croaksAgainst_5 : decode cX9_croaksAgainst 5 = .ok (.aload_n 0, 1) := by decide +kernel
theorem dX9_croaksAgainst_6 : decode cX9_croaksAgainst 6 = .ok (.getfield 10, 3) := by decide +kernel
theorem dX9_croaksAgainst_9 : decode cX9_croaksAgainst 9 = .ok (.getfield 184, 3) := by decide +kernel
theorem dX9_croaksAgainst_12 : decode cX9_croaksAgainst 12 = .ok (.iload_n 1, 1) := by decide +kernel
theorem dX9_croaksAgainst_13 : decode cX9_croaksAgainst 13 = .ok (.aaload, 1) := by decide +kernel
theorem dX9_croaksAgainst_14 : decode cX9_croaksAgainst 14 = .ok (.iconst 0, 1) := by decide +kernel
theorem dX9_croaksAgainst_15 : decode cX9_croaksAgainst 15 = .ok (.invokevirtual 260, 3) := by decide +kernel
theorem dX9_croaksAgainst_18 : decode cX9_croaksAgainst 18 = .ok (.ireturn, 1) := by decide +kernel
theorem dX9_strongestFrog_0 : decode cX9_strongestFrog 0 = .ok (.aload_n 0, 1) := by decide +kernel
theorem dX9_strongestFrog_1 : decode cX9_strongestFrog 1 = .ok (.iload_n 1, 1) := by decide +kernel
theorem dX9_strongestFrog_2 : decode cX9_strongestFrog 2 = .ok (.invokevirtual 181, 3) := by decide +kernel
theorem dX9_strongestFrog_5 : decode cX9_strongestFrog 5 = .ok (.aload_n 0, 1) := by decide +kernel
theorem dX9_strongestFrog_6 : decode cX9_strongestFrog 6 = .ok (.getfield 10, 3) := by decide +kernel
theorem dX9_strongestFrog_9 : decode cX9_strongestFrog 9 = .ok (.getfield 184, 3) := by decide +kernel
theorem dX9_strongestFrog_12 : decode cX9_strongestFrog 12 = .ok (.iload_n 1, 1) := by decide +kernel
theorem dX9_strongestFrog_13 : decode cX9_strongestFrog 13 = .ok (.aaload, 1) := by decide +kernel
theorem dX9_strongestFrog_14 : decode cX9_strongestFrog 14 = .ok (.astore_n 2, 1) := by decide +kernel
theorem dX9_strongestFrog_15 : decode cX9_strongestFrog 15 = .ok (.aload_n 2, 1) := by decide +kernel
theorem dX9_strongestFrog_16 : decode cX9_strongestFrog 16 = .ok (.getfield 267, 3) := by decide +kernel
theorem dX9_strongestFrog_19 : decode cX9_strongestFrog 19 = .ok (.ifCond .ne 14, 3) := by decide +kernel
theorem dX9_strongestFrog_22 : decode cX9_strongestFrog 22 = .ok (.new 114, 3) := by decide +kernel
theorem dX9_strongestFrog_25 : decode cX9_strongestFrog 25 = .ok (.dup, 1) := by decide +kernel
theorem dX9_strongestFrog_26 : decode cX9_strongestFrog 26 = .ok (.ldc_w 270, 3) := by decide +kernel
theorem dX9_strongestFrog_29 : decode cX9_strongestFrog 29 = .ok (.invokespecial 118, 3) := by decide +kernel
theorem dX9_strongestFrog_32 : decode cX9_strongestFrog 32 = .ok (.athrow, 1) := by decide +kernel
theorem dX9_strongestFrog_33 : decode cX9_strongestFrog 33 = .ok (.iconst 0, 1) := by decide +kernel
theorem dX9_strongestFrog_34 : decode cX9_strongestFrog 34 = .ok (.istore_n 3, 1) := by decide +kernel
theorem dX9_strongestFrog_35 : decode cX9_strongestFrog 35 = .ok (.iconst 1, 1) := by decide +kernel
theorem dX9_strongestFrog_36 : decode cX9_strongestFrog 36 = .ok (.istore 4, 2) := by decide +kernel
theorem dX9_strongestFrog_38 : decode cX9_strongestFrog 38 = .ok (.iload 4, 2) := by decide +kernel
theorem dX9_strongestFrog_40 : decode cX9_strongestFrog 40 = .ok (.aload_n 2, 1) := by decide +kernel
theorem dX9_strongestFrog_41 : decode cX9_strongestFrog 41 = .ok (.getfield 267, 3) := by decide +kernel
theorem dX9_strongestFrog_44 : decode cX9_strongestFrog 44 = .ok (.if_icmp .ge 28, 3) := by decide +kernel
theorem dX9_strongestFrog_47 : decode cX9_strongestFrog 47 = .ok (.aload_n 2, 1) := by decide +kernel
theorem dX9_strongestFrog_48 : decode cX9_strongestFrog 48 = .ok (.getfield 272, 3) := by decide +kernel
theorem dX9_strongestFrog_51 : decode cX9_strongestFrog 51 = .ok (.iload 4, 2) := by decide +kernel
theorem dX9_strongestFrog_53 : decode cX9_strongestFrog 53 = .ok (.iaload, 1) := by decide +kernel
theorem dX9_strongestFrog_54 : decode cX9_strongestFrog 54 = .ok (.aload_n 2, 1) := by decide +kernel
theorem dX9_strongestFrog_55 : decode cX9_strongestFrog 55 = .ok (.getfield 272, 3) := by decide +kernel
theorem dX9_strongestFrog_58 : decode cX9_strongestFrog 58 = .ok (.iload_n 3, 1) := by decide +kernel
theorem dX9_strongestFrog_59 : decode cX9_strongestFrog 59 = .ok (.iaload, 1) := by decide +kernel
theorem dX9_strongestFrog_60 : decode cX9_strongestFrog 60 = .ok (.if_icmp .le 6, 3) := by decide +kernel
theorem dX9_strongestFrog_63 : decode cX9_strongestFrog 63 = .ok (.iload 4, 2) := by decide +kernel
theorem dX9_strongestFrog_65 : decode cX9_strongestFrog 65 = .ok (.istore_n 3, 1) := by decide +kernel
theorem dX9_strongestFrog_66 : decode cX9_strongestFrog 66 = .ok (.iinc 4 1, 3) := by decide +kernel
theorem dX9_strongestFrog_69 : decode cX9_strongestFrog 69 = .ok (.goto (-31), 3) := by decide +kernel
theorem dX9_strongestFrog_72 : decode cX9_strongestFrog 72 = .ok (.aload_n 2, 1) := by decide +kernel
theorem dX9_strongestFrog_73 : decode cX9_strongestFrog 73 = .ok (.getfield 275, 3) := by decide +kernel
theorem dX9_strongestFrog_76 : decode cX9_strongestFrog 76 = .ok (.iload_n 3, 1) := by decide +kernel
theorem dX9_strongestFrog_77 : decode cX9_strongestFrog 77 = .ok (.iaload, 1) := by decide +kernel
theorem dX9_strongestFrog_78 : decode cX9_strongestFrog 78 = .ok (.ireturn, 1) := by decide +kernel
theorem dX9_shareFor_0 : decode cX9_shareFor 0 = .ok (.aload_n 0, 1) := by decide +kernel
theorem dX9_shareFor_1 : decode cX9_shareFor 1 = .ok (.iload_n 1, 1) := by decide +kernel
theorem dX9_shareFor_2 : decode cX9_shareFor 2 = .ok (.invokevirtual 181, 3) := by decide +kernel
theorem dX9_shareFor_5 : decode cX9_shareFor 5 = .ok (.aload_n 0, 1) := by decide +kernel
theorem dX9_shareFor_6 : decode cX9_shareFor 6 = .ok (.getfield 10, 3) := by decide +kernel
theorem dX9_shareFor_9 : decode cX9_shareFor 9 = .ok (.getfield 184, 3) := by decide +kernel
theorem dX9_shareFor_12 : decode cX9_shareFor 12 = .ok (.iload_n 1, 1) := by decide +kernel
theorem dX9_shareFor_13 : decode cX9_shareFor 13 = .ok (.aaload, 1) := by decide +kernel
theorem dX9_shareFor_14 : decode cX9_shareFor 14 = .ok (.astore_n 2, 1) := by decide +kernel
theorem dX9_shareFor_15 : decode cX9_shareFor 15 = .ok (.aload_n 2, 1) := by decide +kernel
theorem dX9_shareFor_16 : decode cX9_shareFor 16 = .ok (.iconst 1, 1) := by decide +kernel
theorem dX9_shareFor_17 : decode cX9_shareFor 17 = .ok (.invokevirtual 260, 3) := by decide +kernel
theorem dX9_shareFor_20 : decode cX9_shareFor 20 = .ok (.istore_n 3, 1) := by decide +kernel
theorem dX9_shareFor_21 : decode cX9_shareFor 21 = .ok (.iload_n 3, 1) := by decide +kernel
theorem dX9_shareFor_22 : decode cX9_shareFor 22 = .ok (.aload_n 2, 1) := by decide +kernel
theorem dX9_shareFor_23 : decode cX9_shareFor 23 = .ok (.iconst 0, 1) := by decide +kernel
theorem dX9_shareFor_24 : decode cX9_shareFor 24 = .ok (.invokevirtual 260, 3) := by decide +kernel
theorem dX9_shareFor_27 : decode cX9_shareFor 27 = .ok (.iadd, 1) := by decide +kernel
theorem dX9_shareFor_28 : decode cX9_shareFor 28 = .ok (.istore 4, 2) := by decide +kernel
theorem dX9_shareFor_30 : decode cX9_shareFor 30 = .ok (.iload 4, 2) := by decide +kernel
theorem dX9_shareFor_32 : decode cX9_shareFor 32 = .ok (.ifCond .ne 14, 3) := by decide +kernel
theorem dX9_shareFor_35 : decode cX9_shareFor 35 = .ok (.new 278, 3) := by decide +kernel
theorem dX9_shareFor_38 : decode cX9_shareFor 38 = .ok (.dup, 1) := by decide +kernel
theorem dX9_shareFor_39 : decode cX9_shareFor 39 = .ok (.ldc_w 270, 3) := by decide +kernel
theorem dX9_shareFor_42 : decode cX9_shareFor 42 = .ok (.invokespecial 280, 3) := by decide +kernel
theorem dX9_shareFor_45 : decode cX9_shareFor 45 = .ok (.athrow, 1) := by decide +kernel
theorem dX9_shareFor_46 : decode cX9_shareFor 46 = .ok (.iload_n 3, 1) := by decide +kernel
theorem dX9_shareFor_47 : decode cX9_shareFor 47 = .ok (.i2f, 1) := by decide +kernel
theorem dX9_shareFor_48 : decode cX9_shareFor 48 = .ok (.iload 4, 2) := by decide +kernel
theorem dX9_shareFor_50 : decode cX9_shareFor 50 = .ok (.i2f, 1) := by decide +kernel
theorem dX9_shareFor_51 : decode cX9_shareFor 51 = .ok (.fdiv, 1) := by decide +kernel
theorem dX9_shareFor_52 : decode cX9_shareFor 52 = .ok (.freturn, 1) := by decide +kernel
theorem dX9_speechTotal_0 : decode cX9_speechTotal 0 = .ok (.aload_n 0, 1) := by decide +kernel
theorem dX9_speechTotal_1 : decode cX9_speechTotal 1 = .ok (.getfield 10, 3) := by decide +kernel
theorem dX9_speechTotal_4 : decode cX9_speechTotal 4 = .ok (.getfield 281, 3) := by decide +kernel
theorem dX9_speechTotal_7 : decode cX9_speechTotal 7 = .ok (.ireturn, 1) := by decide +kernel
theorem dX9_missedTotal_0 : decode cX9_missedTotal 0 = .ok (.aload_n 0, 1) := by decide +kernel
theorem dX9_missedTotal_1 : decode cX9_missedTotal 1 = .ok (.getfield 10, 3) := by decide +kernel
theorem dX9_missedTotal_4 : decode cX9_missedTotal 4 = .ok (.getfield 284, 3) := by decide +kernel
theorem dX9_missedTotal_7 : decode cX9_missedTotal 7 = .ok (.ireturn, 1) := by decide +kernel
theorem dX9_adoptedCount_0 : decode cX9_adoptedCount 0 = .ok (.iconst 0, 1) := by decide +kernel
theorem dX9_adoptedCount_1 : decode cX9_adoptedCount 1 = .ok (.istore_n 1, 1) := by decide +kernel
theorem dX9_adoptedCount_2 : decode cX9_adoptedCount 2 = .ok (.iconst 0, 1) := by decide +kernel
theorem dX9_adoptedCount_3 : decode cX9_adoptedCount 3 = .ok (.istore_n 2, 1) := by decide +kernel
theorem dX9_adoptedCount_4 : decode cX9_adoptedCount 4 = .ok (.iload_n 2, 1) := by decide +kernel
theorem dX9_adoptedCount_5 : decode cX9_adoptedCount 5 = .ok (.aload_n 0, 1) := by decide +kernel
theorem dX9_adoptedCount_6 : decode cX9_adoptedCount 6 = .ok (.getfield 10, 3) := by decide +kernel
theorem dX9_adoptedCount_9 : decode cX9_adoptedCount 9 = .ok (.getfield 153, 3) := by decide +kernel
theorem dX9_adoptedCount_12 : decode cX9_adoptedCount 12 = .ok (.if_icmp .ge 27, 3) := by decide +kernel
theorem dX9_adoptedCount_15 : decode cX9_adoptedCount 15 = .ok (.aload_n 0, 1) := by decide +kernel
theorem dX9_adoptedCount_16 : decode cX9_adoptedCount 16 = .ok (.getfield 10, 3) := by decide +kernel
theorem dX9_adoptedCount_19 : decode cX9_adoptedCount 19 = .ok (.getfield 184, 3) := by decide +kernel
theorem dX9_adoptedCount_22 : decode cX9_adoptedCount 22 = .ok (.iload_n 2, 1) := by decide +kernel
theorem dX9_adoptedCount_23 : decode cX9_adoptedCount 23 = .ok (.aaload, 1) := by decide +kernel
theorem dX9_adoptedCount_24 : decode cX9_adoptedCount 24 = .ok (.getfield 257, 3) := by decide +kernel
theorem dX9_adoptedCount_27 : decode cX9_adoptedCount 27 = .ok (.ifCond .eq 6, 3) := by decide +kernel
theorem dX9_adoptedCount_30 : decode cX9_adoptedCount 30 = .ok (.iinc 1 1, 3) := by decide +kernel
theorem dX9_adoptedCount_33 : decode cX9_adoptedCount 33 = .ok (.iinc 2 1, 3) := by decide +kernel
theorem dX9_adoptedCount_36 : decode cX9_adoptedCount 36 = .ok (.goto (-32), 3) := by decide +kernel
theorem dX9_adoptedCount_39 : decode cX9_adoptedCount 39 = .ok (.iload_n 1, 1) := by decide +kernel
theorem dX9_adoptedCount_40 : decode cX9_adoptedCount 40 = .ok (.ireturn, 1) := by decide +kernel
theorem dX9_append_0 : decode cX9_append 0 = .ok (.iload_n 1, 1) := by decide +kernel
theorem dX9_append_1 : decode cX9_append 1 = .ok (.bipush 32, 2) := by decide +kernel
theorem dX9_append_3 : decode cX9_append 3 = .ok (.if_icmp .lt 9, 3) := by decide +kernel
theorem dX9_append_6 : decode cX9_append 6 = .ok (.iload_n 1, 1) := by decide +kernel
theorem dX9_append_7 : decode cX9_append 7 = .ok (.bipush 126, 2) := by decide +kernel
theorem dX9_append_9 : decode cX9_append 9 = .ok (.if_icmp .le 14, 3) := by decide +kernel
theorem dX9_append_12 : decode cX9_append 12 = .ok (.new 287, 3) := by decide +kernel
theorem dX9_append_15 : decode cX9_append 15 = .ok (.dup, 1) := by decide +kernel
theorem dX9_append_16 : decode cX9_append 16 = .ok (.ldc_w 289, 3) := by decide +kernel
theorem dX9_append_19 : decode cX9_append 19 = .ok (.invokespecial 291, 3) := by decide +kernel
theorem dX9_append_22 : decode cX9_append 22 = .ok (.athrow, 1) := by decide +kernel
theorem dX9_append_23 : decode cX9_append 23 = .ok (.aload_n 0, 1) := by decide +kernel
theorem dX9_append_24 : decode cX9_append 24 = .ok (.getfield 46, 3) := by decide +kernel
theorem dX9_append_27 : decode cX9_append 27 = .ok (.invokevirtual 292, 3) := by decide +kernel
theorem dX9_append_30 : decode cX9_append 30 = .ok (.bipush 60, 2) := by decide +kernel
theorem dX9_append_32 : decode cX9_append 32 = .ok (.if_icmp .lt 14, 3) := by decide +kernel
theorem dX9_append_35 : decode cX9_append 35 = .ok (.new 295, 3) := by decide +kernel
theorem dX9_append_38 : decode cX9_append 38 = .ok (.dup, 1) := by decide +kernel
theorem dX9_append_39 : decode cX9_append 39 = .ok (.ldc_w 297, 3) := by decide +kernel
theorem dX9_append_42 : decode cX9_append 42 = .ok (.invokespecial 299, 3) := by decide +kernel
theorem dX9_append_45 : decode cX9_append 45 = .ok (.athrow, 1) := by decide +kernel
theorem dX9_append_46 : decode cX9_append 46 = .ok (.aload_n 0, 1) := by decide +kernel
theorem dX9_append_47 : decode cX9_append 47 = .ok (.getfield 46, 3) := by decide +kernel
theorem dX9_append_50 : decode cX9_append 50 = .ok (.iload_n 1, 1) := by decide +kernel
theorem dX9_append_51 : decode cX9_append 51 = .ok (.invokevirtual 300, 3) := by decide +kernel
theorem dX9_append_54 : decode cX9_append 54 = .ok (.pop, 1) := by decide +kernel
theorem dX9_append_55 : decode cX9_append 55 = .ok (.aload_n 0, 1) := by decide +kernel
theorem dX9_append_56 : decode cX9_append 56 = .ok (.getfield 46, 3) := by decide +kernel
theorem dX9_append_59 : decode cX9_append 59 = .ok (.invokevirtual 292, 3) := by decide +kernel
theorem dX9_append_62 : decode cX9_append 62 = .ok (.ireturn, 1) := by decide +kernel
theorem dX9_run_0 : decode cX9_run 0 = .ok (.aload_n 0, 1) := by decide +kernel
theorem dX9_run_1 : decode cX9_run 1 = .ok (.getfield 39, 3) := by decide +kernel
theorem dX9_run_4 : decode cX9_run 4 = .ok (.aload_n 0, 1) := by decide +kernel
theorem dX9_run_5 : decode cX9_run 5 = .ok (.getfield 46, 3) := by decide +kernel
theorem dX9_run_8 : decode cX9_run 8 = .ok (.invokevirtual 304, 3) := by decide +kernel
theorem dX9_run_11 : decode cX9_run 11 = .ok (.istore_n 1, 1) := by decide +kernel
theorem dX9_run_12 : decode cX9_run 12 = .ok (.aload_n 0, 1) := by decide +kernel
theorem dX9_run_13 : decode cX9_run 13 = .ok (.getfield 46, 3) := by decide +kernel
theorem dX9_run_16 : decode cX9_run 16 = .ok (.iconst 0, 1) := by decide +kernel
theorem dX9_run_17 : decode cX9_run 17 = .ok (.invokevirtual 308, 3) := by decide +kernel
theorem dX9_run_20 : decode cX9_run 20 = .ok (.iload_n 1, 1) := by decide +kernel
theorem dX9_run_21 : decode cX9_run 21 = .ok (.ifCond .ne 25, 3) := by decide +kernel
theorem dX9_run_24 : decode cX9_run 24 = .ok (.aload_n 0, 1) := by decide +kernel
theorem dX9_run_25 : decode cX9_run 25 = .ok (.aload_n 0, 1) := by decide +kernel
theorem dX9_run_26 : decode cX9_run 26 = .ok (.getfield 39, 3) := by decide +kernel
theorem dX9_run_29 : decode cX9_run 29 = .ok (.getfield 311, 3) := by decide +kernel
theorem dX9_run_32 : decode cX9_run 32 = .ok (.putfield 53, 3) := by decide +kernel
theorem dX9_run_35 : decode cX9_run 35 = .ok (.new 287, 3) := by decide +kernel
theorem dX9_run_38 : decode cX9_run 38 = .ok (.dup, 1) := by decide +kernel
theorem dX9_run_39 : decode cX9_run 39 = .ok (.ldc_w 314, 3) := by decide +kernel
theorem dX9_run_42 : decode cX9_run 42 = .ok (.invokespecial 291, 3) := by decide +kernel
theorem dX9_run_45 : decode cX9_run 45 = .ok (.athrow, 1) := by decide +kernel
theorem dX9_run_46 : decode cX9_run 46 = .ok (.aload_n 0, 1) := by decide +kernel
theorem dX9_run_47 : decode cX9_run 47 = .ok (.getfield 16, 3) := by decide +kernel
theorem dX9_run_50 : decode cX9_run 50 = .ok (.aload_n 0, 1) := by decide +kernel
theorem dX9_run_51 : decode cX9_run 51 = .ok (.getfield 10, 3) := by decide +kernel
theorem dX9_run_54 : decode cX9_run 54 = .ok (.invokevirtual 316, 3) := by decide +kernel
theorem dX9_run_57 : decode cX9_run 57 = .ok (.aload_n 0, 1) := by decide +kernel
theorem dX9_run_58 : decode cX9_run 58 = .ok (.invokevirtual 319, 3) := by decide +kernel
theorem dX9_run_61 : decode cX9_run 61 = .ok (.istore_n 2, 1) := by decide +kernel
theorem dX9_run_62 : decode cX9_run 62 = .ok (.iload_n 2, 1) := by decide +kernel
theorem dX9_run_63 : decode cX9_run 63 = .ok (.aload_n 0, 1) := by decide +kernel
theorem dX9_run_64 : decode cX9_run 64 = .ok (.getfield 39, 3) := by decide +kernel
theorem dX9_run_67 : decode cX9_run 67 = .ok (.getfield 322, 3) := by decide +kernel
theorem dX9_run_70 : decode cX9_run 70 = .ok (.if_icmp .ge 30, 3) := by decide +kernel
theorem dX9_run_73 : decode cX9_run 73 = .ok (.aload_n 0, 1) := by decide +kernel
theorem dX9_run_74 : decode cX9_run 74 = .ok (.getfield 10, 3) := by decide +kernel
theorem dX9_run_77 : decode cX9_run 77 = .ok (.aload_n 0, 1) := by decide +kernel
theorem dX9_run_78 : decode cX9_run 78 = .ok (.getfield 16, 3) := by decide +kernel
theorem dX9_run_81 : decode cX9_run 81 = .ok (.invokevirtual 316, 3) := by decide +kernel
theorem dX9_run_84 : decode cX9_run 84 = .ok (.aload_n 0, 1) := by decide +kernel
theorem dX9_run_85 : decode cX9_run 85 = .ok (.iload_n 2, 1) := by decide +kernel
theorem dX9_run_86 : decode cX9_run 86 = .ok (.putfield 57, 3) := by decide +kernel
theorem dX9_run_89 : decode cX9_run 89 = .ok (.new 295, 3) := by decide +kernel
theorem dX9_run_92 : decode cX9_run 92 = .ok (.dup, 1) := by decide +kernel
theorem dX9_run_93 : decode cX9_run 93 = .ok (.ldc_w 325, 3) := by decide +kernel
theorem dX9_run_96 : decode cX9_run 96 = .ok (.invokespecial 299, 3) := by decide +kernel
theorem dX9_run_99 : decode cX9_run 99 = .ok (.athrow, 1) := by decide +kernel
theorem dX9_run_100 : decode cX9_run 100 = .ok (.aload_n 0, 1) := by decide +kernel
theorem dX9_run_101 : decode cX9_run 101 = .ok (.getfield 25, 3) := by decide +kernel
theorem dX9_run_104 : decode cX9_run 104 = .ok (.aload_n 0, 1) := by decide +kernel
theorem dX9_run_105 : decode cX9_run 105 = .ok (.getfield 16, 3) := by decide +kernel
theorem dX9_run_108 : decode cX9_run 108 = .ok (.invokevirtual 68, 3) := by decide +kernel
theorem dX9_run_111 : decode cX9_run 111 = .ok (.iload_n 2, 1) := by decide +kernel
theorem dX9_run_112 : decode cX9_run 112 = .ok (.ireturn, 1) := by decide +kernel
theorem dX9_errorPosition_0 : decode cX9_errorPosition 0 = .ok (.aload_n 0, 1) := by decide +kernel
theorem dX9_errorPosition_1 : decode cX9_errorPosition 1 = .ok (.getfield 53, 3) := by decide +kernel
theorem dX9_errorPosition_4 : decode cX9_errorPosition 4 = .ok (.iconst (-1), 1) := by decide +kernel
theorem dX9_errorPosition_5 : decode cX9_errorPosition 5 = .ok (.if_icmp .ne 14, 3) := by decide +kernel
theorem dX9_errorPosition_8 : decode cX9_errorPosition 8 = .ok (.new 114, 3) := by decide +kernel
theorem dX9_errorPosition_11 : decode cX9_errorPosition 11 = .ok (.dup, 1) := by decide +kernel
theorem dX9_errorPosition_12 : decode cX9_errorPosition 12 = .ok (.ldc_w 327, 3) := by decide +kernel
theorem dX9_errorPosition_15 : decode cX9_errorPosition 15 = .ok (.invokespecial 118, 3) := by decide +kernel
theorem dX9_errorPosition_18 : decode cX9_errorPosition 18 = .ok (.athrow, 1) := by decide +kernel
theorem dX9_errorPosition_19 : decode cX9_errorPosition 19 = .ok (.aload_n 0, 1) := by decide +kernel
theorem dX9_errorPosition_20 : decode cX9_errorPosition 20 = .ok (.getfield 53, 3) := by decide +kernel
theorem dX9_errorPosition_23 : decode cX9_errorPosition 23 = .ok (.ireturn, 1) := by decide +kernel
theorem dX9_failedCommand_0 : decode cX9_failedCommand 0 = .ok (.aload_n 0, 1) := by decide +kernel
theorem dX9_failedCommand_1 : decode cX9_failedCommand 1 = .ok (.getfield 57, 3) := by decide +kernel
theorem dX9_failedCommand_4 : decode cX9_failedCommand 4 = .ok (.iconst (-1), 1) := by decide +kernel
theorem dX9_failedCommand_5 : decode cX9_failedCommand 5 = .ok (.if_icmp .ne 14, 3) := by decide +kernel
theorem dX9_failedCommand_8 : decode cX9_failedCommand 8 = .ok (.new 114, 3) := by decide +kernel
theorem dX9_failedCommand_11 : decode cX9_failedCommand 11 = .ok (.dup, 1) := by decide +kernel
theorem dX9_failedCommand_12 : decode cX9_failedCommand 12 = .ok (.ldc_w 329, 3) := by decide +kernel
theorem dX9_failedCommand_15 : decode cX9_failedCommand 15 = .ok (.invokespecial 118, 3) := by decide +kernel
theorem dX9_failedCommand_18 : decode cX9_failedCommand 18 = .ok (.athrow, 1) := by decide +kernel
theorem dX9_failedCommand_19 : decode cX9_failedCommand 19 = .ok (.aload_n 0, 1) := by decide +kernel
theorem dX9_failedCommand_20 : decode cX9_failedCommand 20 = .ok (.getfield 57, 3) := by decide +kernel
theorem dX9_failedCommand_23 : decode cX9_failedCommand 23 = .ok (.ireturn, 1) := by decide +kernel
theorem dX9_describeList_0 : decode cX9_describeList 0 = .ok (.aload_n 0, 1) := by decide +kernel
theorem dX9_describeList_1 : decode cX9_describeList 1 = .ok (.iload_n 1, 1) := by decide +kernel
theorem dX9_describeList_2 : decode cX9_describeList 2 = .ok (.invokevirtual 181, 3) := by decide +kernel
theorem dX9_describeList_5 : decode cX9_describeList 5 = .ok (.aload_n 0, 1) := by decide +kernel
theorem dX9_describeList_6 : decode cX9_describeList 6 = .ok (.getfield 10, 3) := by decide +kernel
theorem dX9_describeList_9 : decode cX9_describeList 9 = .ok (.getfield 184, 3) := by decide +kernel
theorem dX9_describeList_12 : decode cX9_describeList 12 = .ok (.iload_n 1, 1) := by decide +kernel
theorem dX9_describeList_13 : decode cX9_describeList 13 = .ok (.aaload, 1) := by decide +kernel
theorem dX9_describeList_14 : decode cX9_describeList 14 = .ok (.astore_n 2, 1) := by decide +kernel
theorem dX9_describeList_15 : decode cX9_describeList 15 = .ok (.aload_n 0, 1) := by decide +kernel
theorem dX9_describeList_16 : decode cX9_describeList 16 = .ok (.iload_n 1, 1) := by decide +kernel
theorem dX9_describeList_17 : decode cX9_describeList 17 = .ok (.invokevirtual 193, 3) := by decide +kernel
theorem dX9_describeList_20 : decode cX9_describeList 20 = .ok (.aload_n 0, 1) := by decide +kernel
theorem dX9_describeList_21 : decode cX9_describeList 21 = .ok (.getfield 50, 3) := by decide +kernel
theorem dX9_describeList_24 : decode cX9_describeList 24 = .ok (.iconst 0, 1) := by decide +kernel
theorem dX9_describeList_25 : decode cX9_describeList 25 = .ok (.invokevirtual 308, 3) := by decide +kernel
theorem dX9_describeList_28 : decode cX9_describeList 28 = .ok (.iconst 0, 1) := by decide +kernel
theorem dX9_describeList_29 : decode cX9_describeList 29 = .ok (.istore_n 3, 1) := by decide +kernel
theorem dX9_describeList_30 : decode cX9_describeList 30 = .ok (.iload_n 3, 1) := by decide +kernel
theorem dX9_describeList_31 : decode cX9_describeList 31 = .ok (.aload_n 2, 1) := by decide +kernel
theorem dX9_describeList_32 : decode cX9_describeList 32 = .ok (.getfield 188, 3) := by decide +kernel
theorem dX9_describeList_35 : decode cX9_describeList 35 = .ok (.if_icmp .ge 64, 3) := by decide +kernel
theorem dX9_describeList_38 : decode cX9_describeList 38 = .ok (.iload_n 3, 1) := by decide +kernel
theorem dX9_describeList_39 : decode cX9_describeList 39 = .ok (.ifCond .le 13, 3) := by decide +kernel
theorem dX9_describeList_42 : decode cX9_describeList 42 = .ok (.aload_n 0, 1) := by decide +kernel
theorem dX9_describeList_43 : decode cX9_describeList 43 = .ok (.getfield 50, 3) := by decide +kernel
theorem dX9_describeList_46 : decode cX9_describeList 46 = .ok (.bipush 44, 2) := by decide +kernel
theorem dX9_describeList_48 : decode cX9_describeList 48 = .ok (.invokevirtual 300, 3) := by decide +kernel
theorem dX9_describeList_51 : decode cX9_describeList 51 = .ok (.pop, 1) := by decide +kernel
theorem dX9_describeList_52 : decode cX9_describeList 52 = .ok (.aload_n 0, 1) := by decide +kernel
theorem dX9_describeList_53 : decode cX9_describeList 53 = .ok (.getfield 32, 3) := by decide +kernel
theorem dX9_describeList_56 : decode cX9_describeList 56 = .ok (.invokevirtual 196, 3) := by decide +kernel
theorem dX9_describeList_59 : decode cX9_describeList 59 = .ok (.istore 4, 2) := by decide +kernel
theorem dX9_describeList_61 : decode cX9_describeList 61 = .ok (.aload_n 0, 1) := by decide +kernel
theorem dX9_describeList_62 : decode cX9_describeList 62 = .ok (.getfield 50, 3) := by decide +kernel
theorem dX9_describeList_65 : decode cX9_describeList 65 = .ok (.iload 4, 2) := by decide +kernel
theorem dX9_describeList_67 : decode cX9_describeList 67 = .ok (.invokevirtual 331, 3) := by decide +kernel
theorem dX9_describeList_70 : decode cX9_describeList 70 = .ok (.pop, 1) := by decide +kernel
theorem dX9_describeList_71 : decode cX9_describeList 71 = .ok (.aload_n 0, 1) := by decide +kernel
theorem dX9_describeList_72 : decode cX9_describeList 72 = .ok (.getfield 10, 3) := by decide +kernel
theorem dX9_describeList_75 : decode cX9_describeList 75 = .ok (.iload 4, 2) := by decide +kernel
theorem dX9_describeList_77 : decode cX9_describeList 77 = .ok (.invokevirtual 110, 3) := by decide +kernel
theorem dX9_describeList_80 : decode cX9_describeList 80 = .ok (.ifCond .ne 13, 3) := by decide +kernel
theorem dX9_describeList_83 : decode cX9_describeList 83 = .ok (.aload_n 0, 1) := by decide +kernel
theorem dX9_describeList_84 : decode cX9_describeList 84 = .ok (.getfield 50, 3) := by decide +kernel
theorem dX9_describeList_87 : decode cX9_describeList 87 = .ok (.bipush 126, 2) := by decide +kernel
theorem dX9_describeList_89 : decode cX9_describeList 89 = .ok (.invokevirtual 300, 3) := by decide +kernel
theorem dX9_describeList_92 : decode cX9_describeList 92 = .ok (.pop, 1) := by decide +kernel
theorem dX9_describeList_93 : decode cX9_describeList 93 = .ok (.iinc 3 1, 3) := by decide +kernel
theorem dX9_describeList_96 : decode cX9_describeList 96 = .ok (.goto (-66), 3) := by decide +kernel
theorem dX9_describeList_99 : decode cX9_describeList 99 = .ok (.aload_n 2, 1) := by decide +kernel
theorem dX9_describeList_100 : decode cX9_describeList 100 = .ok (.getfield 230, 3) := by decide +kernel
theorem dX9_describeList_103 : decode cX9_describeList 103 = .ok (.ifCond .eq 13, 3) := by decide +kernel
theorem dX9_describeList_106 : decode cX9_describeList 106 = .ok (.aload_n 0, 1) := by decide +kernel
theorem dX9_describeList_107 : decode cX9_describeList 107 = .ok (.getfield 50, 3) := by decide +kernel
theorem dX9_describeList_110 : decode cX9_describeList 110 = .ok (.bipush 124, 2) := by decide +kernel
theorem dX9_describeList_112 : decode cX9_describeList 112 = .ok (.invokevirtual 300, 3) := by decide +kernel
theorem dX9_describeList_115 : decode cX9_describeList 115 = .ok (.pop, 1) := by decide +kernel
theorem dX9_describeList_116 : decode cX9_describeList 116 = .ok (.aload_n 0, 1) := by decide +kernel
theorem dX9_describeList_117 : decode cX9_describeList 117 = .ok (.getfield 50, 3) := by decide +kernel
theorem dX9_describeList_120 : decode cX9_describeList 120 = .ok (.invokevirtual 292, 3) := by decide +kernel
theorem dX9_describeList_123 : decode cX9_describeList 123 = .ok (.ireturn, 1) := by decide +kernel
theorem dX9_lineAt_0 : decode cX9_lineAt 0 = .ok (.iload_n 1, 1) := by decide +kernel
theorem dX9_lineAt_1 : decode cX9_lineAt 1 = .ok (.ifCond .lt 14, 3) := by decide +kernel
theorem dX9_lineAt_4 : decode cX9_lineAt 4 = .ok (.iload_n 1, 1) := by decide +kernel
theorem dX9_lineAt_5 : decode cX9_lineAt 5 = .ok (.aload_n 0, 1) := by decide +kernel
theorem dX9_lineAt_6 : decode cX9_lineAt 6 = .ok (.getfield 50, 3) := by decide +kernel
theorem dX9_lineAt_9 : decode cX9_lineAt 9 = .ok (.invokevirtual 292, 3) := by decide +kernel
theorem dX9_lineAt_12 : decode cX9_lineAt 12 = .ok (.if_icmp .lt 14, 3) := by decide +kernel
theorem dX9_lineAt_15 : decode cX9_lineAt 15 = .ok (.new 334, 3) := by decide +kernel
theorem dX9_lineAt_18 : decode cX9_lineAt 18 = .ok (.dup, 1) := by decide +kernel
theorem dX9_lineAt_19 : decode cX9_lineAt 19 = .ok (.ldc_w 336, 3) := by decide +kernel
theorem dX9_lineAt_22 : decode cX9_lineAt 22 = .ok (.invokespecial 338, 3) := by decide +kernel
theorem dX9_lineAt_25 : decode cX9_lineAt 25 = .ok (.athrow, 1) := by decide +kernel
theorem dX9_lineAt_26 : decode cX9_lineAt 26 = .ok (.aload_n 0, 1) := by decide +kernel
theorem dX9_lineAt_27 : decode cX9_lineAt 27 = .ok (.getfield 50, 3) := by decide +kernel
theorem dX9_lineAt_30 : decode cX9_lineAt 30 = .ok (.iload_n 1, 1) := by decide +kernel
theorem dX9_lineAt_31 : decode cX9_lineAt 31 = .ok (.invokevirtual 339, 3) := by decide +kernel
theorem dX9_lineAt_34 : decode cX9_lineAt 34 = .ok (.ireturn, 1) := by decide +kernel
theorem dX9_meanSittingWeight_0 : decode cX9_meanSittingWeight 0 = .ok (.aload_n 0, 1) := by decide +kernel
theorem dX9_meanSittingWeight_1 : decode cX9_meanSittingWeight 1 = .ok (.getfield 10, 3) := by decide +kernel
theorem dX9_meanSittingWeight_4 : decode cX9_meanSittingWeight 4 = .ok (.getfield 139, 3) := by decide +kernel
theorem dX9_meanSittingWeight_7 : decode cX9_meanSittingWeight 7 = .ok (.invokestatic 142, 3) := by decide +kernel
theorem dX9_meanSittingWeight_10 : decode cX9_meanSittingWeight 10 = .ok (.istore_n 1, 1) := by decide +kernel
theorem dX9_meanSittingWeight_11 : decode cX9_meanSittingWeight 11 = .ok (.iload_n 1, 1) := by decide +kernel
theorem dX9_meanSittingWeight_12 : decode cX9_meanSittingWeight 12 = .ok (.ifCond .ne 14, 3) := by decide +kernel
theorem dX9_meanSittingWeight_15 : decode cX9_meanSittingWeight 15 = .ok (.new 278, 3) := by decide +kernel
theorem dX9_meanSittingWeight_18 : decode cX9_meanSittingWeight 18 = .ok (.dup, 1) := by decide +kernel
theorem dX9_meanSittingWeight_19 : decode cX9_meanSittingWeight 19 = .ok (.ldc_w 343, 3) := by decide +kernel
theorem dX9_meanSittingWeight_22 : decode cX9_meanSittingWeight 22 = .ok (.invokespecial 280, 3) := by decide +kernel
theorem dX9_meanSittingWeight_25 : decode cX9_meanSittingWeight 25 = .ok (.athrow, 1) := by decide +kernel
theorem dX9_meanSittingWeight_26 : decode cX9_meanSittingWeight 26 = .ok (.aload_n 0, 1) := by decide +kernel
theorem dX9_meanSittingWeight_27 : decode cX9_meanSittingWeight 27 = .ok (.getfield 10, 3) := by decide +kernel
theorem dX9_meanSittingWeight_30 : decode cX9_meanSittingWeight 30 = .ok (.aload_n 0, 1) := by decide +kernel
theorem dX9_meanSittingWeight_31 : decode cX9_meanSittingWeight 31 = .ok (.getfield 10, 3) := by decide +kernel
theorem dX9_meanSittingWeight_34 : decode cX9_meanSittingWeight 34 = .ok (.getfield 139, 3) := by decide +kernel
theorem dX9_meanSittingWeight_37 : decode cX9_meanSittingWeight 37 = .ok (.invokevirtual 136, 3) := by decide +kernel
theorem dX9_meanSittingWeight_40 : decode cX9_meanSittingWeight 40 = .ok (.i2d, 1) := by decide +kernel
theorem dX9_meanSittingWeight_41 : decode cX9_meanSittingWeight 41 = .ok (.iload_n 1, 1) := by decide +kernel
theorem dX9_meanSittingWeight_42 : decode cX9_meanSittingWeight 42 = .ok (.i2d, 1) := by decide +kernel
theorem dX9_meanSittingWeight_43 : decode cX9_meanSittingWeight 43 = .ok (.ddiv, 1) := by decide +kernel
theorem dX9_meanSittingWeight_44 : decode cX9_meanSittingWeight 44 = .ok (.dreturn, 1) := by decide +kernel
theorem dX9_isConsistent_0 : decode cX9_isConsistent 0 = .ok (.aload_n 0, 1) := by decide +kernel
theorem dX9_isConsistent_1 : decode cX9_isConsistent 1 = .ok (.invokevirtual 345, 3) := by decide +kernel
theorem dX9_isConsistent_4 : decode cX9_isConsistent 4 = .ok (.aload_n 0, 1) := by decide +kernel
theorem dX9_isConsistent_5 : decode cX9_isConsistent 5 = .ok (.invokevirtual 348, 3) := by decide +kernel
theorem dX9_isConsistent_8 : decode cX9_isConsistent 8 = .ok (.if_icmp .eq 5, 3) := by decide +kernel
theorem dX9_isConsistent_11 : decode cX9_isConsistent 11 = .ok (.iconst 0, 1) := by decide +kernel
theorem dX9_isConsistent_12 : decode cX9_isConsistent 12 = .ok (.ireturn, 1) := by decide +kernel
theorem dX9_isConsistent_13 : decode cX9_isConsistent 13 = .ok (.iconst 0, 1) := by decide +kernel
theorem dX9_isConsistent_14 : decode cX9_isConsistent 14 = .ok (.istore_n 1, 1) := by decide +kernel
theorem dX9_isConsistent_15 : decode cX9_isConsistent 15 = .ok (.iconst 0, 1) := by decide +kernel
theorem dX9_isConsistent_16 : decode cX9_isConsistent 16 = .ok (.istore_n 2, 1) := by decide +kernel
theorem dX9_isConsistent_17 : decode cX9_isConsistent 17 = .ok (.iload_n 2, 1) := by decide +kernel
theorem dX9_isConsistent_18 : decode cX9_isConsistent 18 = .ok (.aload_n 0, 1) := by decide +kernel
theorem dX9_isConsistent_19 : decode cX9_isConsistent 19 = .ok (.getfield 10, 3) := by decide +kernel
theorem dX9_isConsistent_22 : decode cX9_isConsistent 22 = .ok (.getfield 153, 3) := by decide +kernel
theorem dX9_isConsistent_25 : decode cX9_isConsistent 25 = .ok (.if_icmp .ge 55, 3) := by decide +kernel
theorem dX9_isConsistent_28 : decode cX9_isConsistent 28 = .ok (.aload_n 0, 1) := by decide +kernel
theorem dX9_isConsistent_29 : decode cX9_isConsistent 29 = .ok (.iload_n 2, 1) := by decide +kernel
theorem dX9_isConsistent_30 : decode cX9_isConsistent 30 = .ok (.invokevirtual 351, 3) := by decide +kernel
theorem dX9_isConsistent_33 : decode cX9_isConsistent 33 = .ok (.ifCond .le 18, 3) := by decide +kernel
theorem dX9_isConsistent_36 : decode cX9_isConsistent 36 = .ok (.aload_n 0, 1) := by decide +kernel
theorem dX9_isConsistent_37 : decode cX9_isConsistent 37 = .ok (.iload_n 2, 1) := by decide +kernel
theorem dX9_isConsistent_38 : decode cX9_isConsistent 38 = .ok (.invokevirtual 354, 3) := by decide +kernel
theorem dX9_isConsistent_41 : decode cX9_isConsistent 41 = .ok (.aload_n 0, 1) := by decide +kernel
theorem dX9_isConsistent_42 : decode cX9_isConsistent 42 = .ok (.iload_n 2, 1) := by decide +kernel
theorem dX9_isConsistent_43 : decode cX9_isConsistent 43 = .ok (.invokevirtual 357, 3) := by decide +kernel
theorem dX9_isConsistent_46 : decode cX9_isConsistent 46 = .ok (.if_icmp .eq 5, 3) := by decide +kernel
theorem dX9_isConsistent_49 : decode cX9_isConsistent 49 = .ok (.iconst 0, 1) := by decide +kernel
theorem dX9_isConsistent_50 : decode cX9_isConsistent 50 = .ok (.ireturn, 1) := by decide +kernel
theorem dX9_isConsistent_51 : decode cX9_isConsistent 51 = .ok (.aload_n 0, 1) := by decide +kernel
theorem dX9_isConsistent_52 : decode cX9_isConsistent 52 = .ok (.iload_n 2, 1) := by decide +kernel
theorem dX9_isConsistent_53 : decode cX9_isConsistent 53 = .ok (.invokevirtual 360, 3) := by decide +kernel
theorem dX9_isConsistent_56 : decode cX9_isConsistent 56 = .ok (.aload_n 0, 1) := by decide +kernel
theorem dX9_isConsistent_57 : decode cX9_isConsistent 57 = .ok (.iload_n 2, 1) := by decide +kernel
theorem dX9_isConsistent_58 : decode cX9_isConsistent 58 = .ok (.invokevirtual 363, 3) := by decide +kernel
theorem dX9_isConsistent_61 : decode cX9_isConsistent 61 = .ok (.if_icmp .eq 5, 3) := by decide +kernel
theorem dX9_isConsistent_64 : decode cX9_isConsistent 64 = .ok (.iconst 0, 1) := by decide +kernel
theorem dX9_isConsistent_65 : decode cX9_isConsistent 65 = .ok (.ireturn, 1) := by decide +kernel
theorem dX9_isConsistent_66 : decode cX9_isConsistent 66 = .ok (.iload_n 1, 1) := by decide +kernel
theorem dX9_isConsistent_67 : decode cX9_isConsistent 67 = .ok (.aload_n 0, 1) := by decide +kernel
theorem dX9_isConsistent_68 : decode cX9_isConsistent 68 = .ok (.iload_n 2, 1) := by decide +kernel
theorem dX9_isConsistent_69 : decode cX9_isConsistent 69 = .ok (.invokevirtual 366, 3) := by decide +kernel
theorem dX9_isConsistent_72 : decode cX9_isConsistent 72 = .ok (.iadd, 1) := by decide +kernel
theorem dX9_isConsistent_73 : decode cX9_isConsistent 73 = .ok (.istore_n 1, 1) := by decide +kernel
theorem dX9_isConsistent_74 : decode cX9_isConsistent 74 = .ok (.iinc 2 1, 3) := by decide +kernel
theorem dX9_isConsistent_77 : decode cX9_isConsistent 77 = .ok (.goto (-60), 3) := by decide +kernel
theorem dX9_isConsistent_80 : decode cX9_isConsistent 80 = .ok (.iload_n 1, 1) := by decide +kernel
theorem dX9_isConsistent_81 : decode cX9_isConsistent 81 = .ok (.aload_n 0, 1) := by decide +kernel
theorem dX9_isConsistent_82 : decode cX9_isConsistent 82 = .ok (.invokevirtual 369, 3) := by decide +kernel
theorem dX9_isConsistent_85 : decode cX9_isConsistent 85 = .ok (.if_icmp .ne 7, 3) := by decide +kernel
theorem dX9_isConsistent_88 : decode cX9_isConsistent 88 = .ok (.iconst 1, 1) := by decide +kernel
theorem dX9_isConsistent_89 : decode cX9_isConsistent 89 = .ok (.goto 4, 3) := by decide +kernel
theorem dX9_isConsistent_92 : decode cX9_isConsistent 92 = .ok (.iconst 0, 1) := by decide +kernel
theorem dX9_isConsistent_93 : decode cX9_isConsistent 93 = .ok (.ireturn, 1) := by decide +kernel
theorem dX9_undo_0 : decode cX9_undo 0 = .ok (.aload_n 0, 1) := by decide +kernel
theorem dX9_undo_1 : decode cX9_undo 1 = .ok (.getfield 25, 3) := by decide +kernel
theorem dX9_undo_4 : decode cX9_undo 4 = .ok (.getfield 372, 3) := by decide +kernel
theorem dX9_undo_7 : decode cX9_undo 7 = .ok (.ifCond .ne 14, 3) := by decide +kernel
theorem dX9_undo_10 : decode cX9_undo 10 = .ok (.new 295, 3) := by decide +kernel
theorem dX9_undo_13 : decode cX9_undo 13 = .ok (.dup, 1) := by decide +kernel
theorem dX9_undo_14 : decode cX9_undo 14 = .ok (.ldc_w 375, 3) := by decide +kernel
theorem dX9_undo_17 : decode cX9_undo 17 = .ok (.invokespecial 299, 3) := by decide +kernel
theorem dX9_undo_20 : decode cX9_undo 20 = .ok (.athrow, 1) := by decide +kernel
theorem dX9_undo_21 : decode cX9_undo 21 = .ok (.aload_n 0, 1) := by decide +kernel
theorem dX9_undo_22 : decode cX9_undo 22 = .ok (.getfield 25, 3) := by decide +kernel
theorem dX9_undo_25 : decode cX9_undo 25 = .ok (.aload_n 0, 1) := by decide +kernel
theorem dX9_undo_26 : decode cX9_undo 26 = .ok (.getfield 10, 3) := by decide +kernel
theorem dX9_undo_29 : decode cX9_undo 29 = .ok (.invokevirtual 377, 3) := by decide +kernel
theorem dX9_undo_32 : decode cX9_undo 32 = .ok (.aload_n 0, 1) := by decide +kernel
theorem dX9_undo_33 : decode cX9_undo 33 = .ok (.getfield 25, 3) := by decide +kernel
theorem dX9_undo_36 : decode cX9_undo 36 = .ok (.getfield 372, 3) := by decide +kernel
theorem dX9_undo_39 : decode cX9_undo 39 = .ok (.ireturn, 1) := by decide +kernel
theorem dX9_save_0 : decode cX9_save 0 = .ok (.aload_n 0, 1) := by decide +kernel
theorem dX9_save_1 : decode cX9_save 1 = .ok (.getfield 19, 3) := by decide +kernel
theorem dX9_save_4 : decode cX9_save 4 = .ok (.aload_n 0, 1) := by decide +kernel
theorem dX9_save_5 : decode cX9_save 5 = .ok (.getfield 10, 3) := by decide +kernel
theorem dX9_save_8 : decode cX9_save 8 = .ok (.invokevirtual 316, 3) := by decide +kernel
theorem dX9_save_11 : decode cX9_save 11 = .ok (.aload_n 0, 1) := by decide +kernel
theorem dX9_save_12 : decode cX9_save 12 = .ok (.iconst 1, 1) := by decide +kernel
theorem dX9_save_13 : decode cX9_save 13 = .ok (.putfield 380, 3) := by decide +kernel
theorem dX9_save_16 : decode cX9_save 16 = .ok (.aload_n 0, 1) := by decide +kernel
theorem dX9_save_17 : decode cX9_save 17 = .ok (.getfield 10, 3) := by decide +kernel
theorem dX9_save_20 : decode cX9_save 20 = .ok (.getfield 153, 3) := by decide +kernel
theorem dX9_save_23 : decode cX9_save 23 = .ok (.ireturn, 1) := by decide +kernel
theorem dX9_restore_0 : decode cX9_restore 0 = .ok (.aload_n 0, 1) := by decide +kernel
theorem dX9_restore_1 : decode cX9_restore 1 = .ok (.getfield 380, 3) := by decide +kernel
theorem dX9_restore_4 : decode cX9_restore 4 = .ok (.ifCond .ne 14, 3) := by decide +kernel
theorem dX9_restore_7 : decode cX9_restore 7 = .ok (.new 295, 3) := by decide +kernel
theorem dX9_restore_10 : decode cX9_restore 10 = .ok (.dup, 1) := by decide +kernel
theorem dX9_restore_11 : decode cX9_restore 11 = .ok (.ldc_w 383, 3) := by decide +kernel
theorem dX9_restore_14 : decode cX9_restore 14 = .ok (.invokespecial 299, 3) := by decide +kernel
theorem dX9_restore_17 : decode cX9_restore 17 = .ok (.athrow, 1) := by decide +kernel
theorem dX9_restore_18 : decode cX9_restore 18 = .ok (.aload_n 0, 1) := by decide +kernel
theorem dX9_restore_19 : decode cX9_restore 19 = .ok (.getfield 10, 3) := by decide +kernel
theorem dX9_restore_22 : decode cX9_restore 22 = .ok (.aload_n 0, 1) := by decide +kernel
theorem dX9_restore_23 : decode cX9_restore 23 = .ok (.getfield 19, 3) := by decide +kernel
theorem dX9_restore_26 : decode cX9_restore 26 = .ok (.invokevirtual 316, 3) := by decide +kernel
theorem dX9_restore_29 : decode cX9_restore 29 = .ok (.aload_n 0, 1) := by decide +kernel
theorem dX9_restore_30 : decode cX9_restore 30 = .ok (.getfield 25, 3) := by decide +kernel
theorem dX9_restore_33 : decode cX9_restore 33 = .ok (.invokevirtual 385, 3) := by decide +kernel
theorem dX9_restore_36 : decode cX9_restore 36 = .ok (.aload_n 0, 1) := by decide +kernel
theorem dX9_restore_37 : decode cX9_restore 37 = .ok (.getfield 10, 3) := by decide +kernel
theorem dX9_restore_40 : decode cX9_restore 40 = .ok (.getfield 153, 3) := by decide +kernel
theorem dX9_restore_43 : decode cX9_restore 43 = .ok (.ireturn, 1) := by decide +kernel
theorem dX9_requireFrog_0 : decode cX9_requireFrog 0 = .ok (.aload_n 0, 1) := by decide +kernel
theorem dX9_requireFrog_1 : decode cX9_requireFrog 1 = .ok (.getfield 10, 3) := by decide +kernel
theorem dX9_requireFrog_4 : decode cX9_requireFrog 4 = .ok (.iload_n 1, 1) := by decide +kernel
theorem dX9_requireFrog_5 : decode cX9_requireFrog 5 = .ok (.invokevirtual 388, 3) := by decide +kernel
theorem dX9_requireFrog_8 : decode cX9_requireFrog 8 = .ok (.ifCond .eq 9, 3) := by decide +kernel
theorem dX9_requireFrog_11 : decode cX9_requireFrog 11 = .ok (.getstatic 391, 3) := by decide +kernel
theorem dX9_requireFrog_14 : decode cX9_requireFrog 14 = .ok (.goto 6, 3) := by decide +kernel
theorem dX9_requireFrog_17 : decode cX9_requireFrog 17 = .ok (.getstatic 397, 3) := by decide +kernel
theorem dX9_requireFrog_20 : decode cX9_requireFrog 20 = .ok (.invokestatic 64, 3) := by decide +kernel
theorem dX9_requireFrog_23 : decode cX9_requireFrog 23 = .ok (.return_, 1) := by decide +kernel
theorem dX9_requirePad_0 : decode cX9_requirePad 0 = .ok (.aload_n 0, 1) := by decide +kernel
theorem dX9_requirePad_1 : decode cX9_requirePad 1 = .ok (.getfield 10, 3) := by decide +kernel
theorem dX9_requirePad_4 : decode cX9_requirePad 4 = .ok (.iload_n 1, 1) := by decide +kernel
theorem dX9_requirePad_5 : decode cX9_requirePad 5 = .ok (.invokevirtual 400, 3) := by decide +kernel
theorem dX9_requirePad_8 : decode cX9_requirePad 8 = .ok (.ifCond .eq 9, 3) := by decide +kernel
theorem dX9_requirePad_11 : decode cX9_requirePad 11 = .ok (.getstatic 391, 3) := by decide +kernel
theorem dX9_requirePad_14 : decode cX9_requirePad 14 = .ok (.goto 6, 3) := by decide +kernel
theorem dX9_requirePad_17 : decode cX9_requirePad 17 = .ok (.getstatic 403, 3) := by decide +kernel
theorem dX9_requirePad_20 : decode cX9_requirePad 20 = .ok (.invokestatic 64, 3) := by decide +kernel
theorem dX9_requirePad_23 : decode cX9_requirePad 23 = .ok (.return_, 1) := by decide +kernel
theorem dX9_requireMotion_0 : decode cX9_requireMotion 0 = .ok (.aload_n 0, 1) := by decide +kernel
theorem dX9_requireMotion_1 : decode cX9_requireMotion 1 = .ok (.getfield 10, 3) := by decide +kernel
theorem dX9_requireMotion_4 : decode cX9_requireMotion 4 = .ok (.iload_n 1, 1) := by decide +kernel
theorem dX9_requireMotion_5 : decode cX9_requireMotion 5 = .ok (.invokevirtual 406, 3) := by decide +kernel
theorem dX9_requireMotion_8 : decode cX9_requireMotion 8 = .ok (.ifCond .eq 9, 3) := by decide +kernel
theorem dX9_requireMotion_11 : decode cX9_requireMotion 11 = .ok (.getstatic 391, 3) := by decide +kernel
theorem dX9_requireMotion_14 : decode cX9_requireMotion 14 = .ok (.goto 6, 3) := by decide +kernel
theorem dX9_requireMotion_17 : decode cX9_requireMotion 17 = .ok (.getstatic 409, 3) := by decide +kernel
theorem dX9_requireMotion_20 : decode cX9_requireMotion 20 = .ok (.invokestatic 64, 3) := by decide +kernel
theorem dX9_requireMotion_23 : decode cX9_requireMotion 23 = .ok (.return_, 1) := by decide +kernel
theorem dX9_fillQueue_0 : decode cX9_fillQueue 0 = .ok (.aload_n 0, 1) := by decide +kernel
theorem dX9_fillQueue_1 : decode cX9_fillQueue 1 = .ok (.getfield 10, 3) := by decide +kernel
theorem dX9_fillQueue_4 : decode cX9_fillQueue 4 = .ok (.getfield 184, 3) := by decide +kernel
theorem dX9_fillQueue_7 : decode cX9_fillQueue 7 = .ok (.iload_n 1, 1) := by decide +kernel
theorem dX9_fillQueue_8 : decode cX9_fillQueue 8 = .ok (.aaload, 1) := by decide +kernel
theorem dX9_fillQueue_9 : decode cX9_fillQueue 9 = .ok (.astore_n 2, 1) := by decide +kernel
theorem dX9_fillQueue_10 : decode cX9_fillQueue 10 = .ok (.aload_n 0, 1) := by decide +kernel
theorem dX9_fillQueue_11 : decode cX9_fillQueue 11 = .ok (.getfield 32, 3) := by decide +kernel
theorem dX9_fillQueue_14 : decode cX9_fillQueue 14 = .ok (.invokevirtual 412, 3) := by decide +kernel
theorem dX9_fillQueue_17 : decode cX9_fillQueue 17 = .ok (.iconst 0, 1) := by decide +kernel
theorem dX9_fillQueue_18 : decode cX9_fillQueue 18 = .ok (.istore_n 3, 1) := by decide +kernel
theorem dX9_fillQueue_19 : decode cX9_fillQueue 19 = .ok (.iload_n 3, 1) := by decide +kernel
theorem dX9_fillQueue_20 : decode cX9_fillQueue 20 = .ok (.aload_n 2, 1) := by decide +kernel
theorem dX9_fillQueue_21 : decode cX9_fillQueue 21 = .ok (.getfield 188, 3) := by decide +kernel
theorem dX9_fillQueue_24 : decode cX9_fillQueue 24 = .ok (.if_icmp .ge 37, 3) := by decide +kernel
theorem dX9_fillQueue_27 : decode cX9_fillQueue 27 = .ok (.aload_n 2, 1) := by decide +kernel
theorem dX9_fillQueue_28 : decode cX9_fillQueue 28 = .ok (.getfield 200, 3) := by decide +kernel
theorem dX9_fillQueue_31 : decode cX9_fillQueue 31 = .ok (.iload_n 3, 1) := by decide +kernel
theorem dX9_fillQueue_32 : decode cX9_fillQueue 32 = .ok (.iaload, 1) := by decide +kernel
theorem dX9_fillQueue_33 : decode cX9_fillQueue 33 = .ok (.istore 4, 2) := by decide +kernel
theorem dX9_fillQueue_35 : decode cX9_fillQueue 35 = .ok (.aload_n 0, 1) := by decide +kernel
theorem dX9_fillQueue_36 : decode cX9_fillQueue 36 = .ok (.getfield 32, 3) := by decide +kernel
theorem dX9_fillQueue_39 : decode cX9_fillQueue 39 = .ok (.aload_n 0, 1) := by decide +kernel
theorem dX9_fillQueue_40 : decode cX9_fillQueue 40 = .ok (.getfield 10, 3) := by decide +kernel
theorem dX9_fillQueue_43 : decode cX9_fillQueue 43 = .ok (.getfield 213, 3) := by decide +kernel
theorem dX9_fillQueue_46 : decode cX9_fillQueue 46 = .ok (.iload 4, 2) := by decide +kernel
theorem dX9_fillQueue_48 : decode cX9_fillQueue 48 = .ok (.iaload, 1) := by decide +kernel
theorem dX9_fillQueue_49 : decode cX9_fillQueue 49 = .ok (.iload_n 3, 1) := by decide +kernel
theorem dX9_fillQueue_50 : decode cX9_fillQueue 50 = .ok (.iload 4, 2) := by decide +kernel
theorem dX9_fillQueue_52 : decode cX9_fillQueue 52 = .ok (.invokevirtual 415, 3) := by decide +kernel
theorem dX9_fillQueue_55 : decode cX9_fillQueue 55 = .ok (.iinc 3 1, 3) := by decide +kernel
theorem dX9_fillQueue_58 : decode cX9_fillQueue 58 = .ok (.goto (-39), 3) := by decide +kernel
theorem dX9_fillQueue_61 : decode cX9_fillQueue 61 = .ok (.return_, 1) := by decide +kernel
theorem dX9_carryOutCommands_0 : decode cX9_carryOutCommands 0 = .ok (.iconst 0, 1) := by decide +kernel
theorem dX9_carryOutCommands_1 : decode cX9_carryOutCommands 1 = .ok (.istore_n 1, 1) := by decide +kernel
theorem dX9_carryOutCommands_2 : decode cX9_carryOutCommands 2 = .ok (.iload_n 1, 1) := by decide +kernel
theorem dX9_carryOutCommands_3 : decode cX9_carryOutCommands 3 = .ok (.aload_n 0, 1) := by decide +kernel
theorem dX9_carryOutCommands_4 : decode cX9_carryOutCommands 4 = .ok (.getfield 39, 3) := by decide +kernel
theorem dX9_carryOutCommands_7 : decode cX9_carryOutCommands 7 = .ok (.getfield 322, 3) := by decide +kernel
theorem dX9_carryOutCommands_10 : decode cX9_carryOutCommands 10 = .ok (.if_icmp .ge 43, 3) := by decide +kernel
theorem dX9_carryOutCommands_13 : decode cX9_carryOutCommands 13 = .ok (.aload_n 0, 1) := by decide +kernel
theorem dX9_carryOutCommands_14 : decode cX9_carryOutCommands 14 = .ok (.getfield 39, 3) := by decide +kernel
theorem dX9_carryOutCommands_17 : decode cX9_carryOutCommands 17 = .ok (.getfield 419, 3) := by decide +kernel
theorem dX9_carryOutCommands_20 : decode cX9_carryOutCommands 20 = .ok (.iload_n 1, 1) := by decide +kernel
theorem dX9_carryOutCommands_21 : decode cX9_carryOutCommands 21 = .ok (.aaload, 1) := by decide +kernel
theorem dX9_carryOutCommands_22 : decode cX9_carryOutCommands 22 = .ok (.astore_n 2, 1) := by decide +kernel
theorem dX9_carryOutCommands_23 : decode cX9_carryOutCommands 23 = .ok (.aload_n 0, 1) := by decide +kernel
theorem dX9_carryOutCommands_24 : decode cX9_carryOutCommands 24 = .ok (.getfield 10, 3) := by decide +kernel
theorem dX9_carryOutCommands_27 : decode cX9_carryOutCommands 27 = .ok (.aload_n 2, 1) := by decide +kernel
theorem dX9_carryOutCommands_28 : decode cX9_carryOutCommands 28 = .ok (.invokevirtual 423, 3) := by decide +kernel
theorem dX9_carryOutCommands_31 : decode cX9_carryOutCommands 31 = .ok (.getstatic 391, 3) := by decide +kernel
theorem dX9_carryOutCommands_34 : decode cX9_carryOutCommands 34 = .ok (.if_acmp .eq 5, 3) := by decide +kernel
theorem dX9_carryOutCommands_37 : decode cX9_carryOutCommands 37 = .ok (.iload_n 1, 1) := by decide +kernel
theorem dX9_carryOutCommands_38 : decode cX9_carryOutCommands 38 = .ok (.ireturn, 1) := by decide +kernel
theorem dX9_carryOutCommands_39 : decode cX9_carryOutCommands 39 = .ok (.aload_n 0, 1) := by decide +kernel
theorem dX9_carryOutCommands_40 : decode cX9_carryOutCommands 40 = .ok (.getfield 10, 3) := by decide +kernel
theorem dX9_carryOutCommands_43 : decode cX9_carryOutCommands 43 = .ok (.aload_n 2, 1) := by decide +kernel
theorem dX9_carryOutCommands_44 : decode cX9_carryOutCommands 44 = .ok (.invokevirtual 427, 3) := by decide +kernel
theorem dX9_carryOutCommands_47 : decode cX9_carryOutCommands 47 = .ok (.iinc 1 1, 3) := by decide +kernel
theorem dX9_carryOutCommands_50 : decode cX9_carryOutCommands 50 = .ok (.goto (-48), 3) := by decide +kernel
theorem dX9_carryOutCommands_53 : decode cX9_carryOutCommands 53 = .ok (.aload_n 0, 1) := by decide +kernel
theorem dX9_carryOutCommands_54 : decode cX9_carryOutCommands 54 = .ok (.getfield 39, 3) := by decide +kernel
theorem dX9_carryOutCommands_57 : decode cX9_carryOutCommands 57 = .ok (.getfield 322, 3) := by decide +kernel
theorem dX9_carryOutCommands_60 : decode cX9_carryOutCommands 60 = .ok (.ireturn, 1) := by decide +kernel
theorem dX9_refuse_0 : decode cX9_refuse 0 = .ok (.getstatic 431, 3) := by decide +kernel
theorem dX9_refuse_3 : decode cX9_refuse 3 = .ok (.aload_n 0, 1) := by decide +kernel
theorem dX9_refuse_4 : decode cX9_refuse 4 = .ok (.invokevirtual 436, 3) := by decide +kernel
theorem dX9_refuse_7 : decode cX9_refuse 7 = .ok (.iaload, 1) := by decide +kernel
theorem dX9_refuse_8 : decode cX9_refuse 8 = .ok (.tableswitch 270 1 17 #[84, 95, 106, 117, 128, 139, 150, 161, 172, 183, 194, 205, 216, 226, 237, 248, 259], 84) := by decide +kernel
theorem dX9_refuse_92 : decode cX9_refuse 92 = .ok (.new 334, 3) := by decide +kernel
theorem dX9_refuse_95 : decode cX9_refuse 95 = .ok (.dup, 1) := by decide +kernel
theorem dX9_refuse_96 : decode cX9_refuse 96 = .ok (.ldc_w 439, 3) := by decide +kernel
theorem dX9_refuse_99 : decode cX9_refuse 99 = .ok (.invokespecial 338, 3) := by decide +kernel
theorem dX9_refuse_102 : decode cX9_refuse 102 = .ok (.athrow, 1) := by decide +kernel
theorem dX9_refuse_103 : decode cX9_refuse 103 = .ok (.new 334, 3) := by decide +kernel
theorem dX9_refuse_106 : decode cX9_refuse 106 = .ok (.dup, 1) := by decide +kernel
theorem dX9_refuse_107 : decode cX9_refuse 107 = .ok (.ldc_w 441, 3) := by decide +kernel
theorem dX9_refuse_110 : decode cX9_refuse 110 = .ok (.invokespecial 338, 3) := by decide +kernel
theorem dX9_refuse_113 : decode cX9_refuse 113 = .ok (.athrow, 1) := by decide +kernel
theorem dX9_refuse_114 : decode cX9_refuse 114 = .ok (.new 334, 3) := by decide +kernel
theorem dX9_refuse_117 : decode cX9_refuse 117 = .ok (.dup, 1) := by decide +kernel
theorem dX9_refuse_118 : decode cX9_refuse 118 = .ok (.ldc_w 443, 3) := by decide +kernel
theorem dX9_refuse_121 : decode cX9_refuse 121 = .ok (.invokespecial 338, 3) := by decide +kernel
theorem dX9_refuse_124 : decode cX9_refuse 124 = .ok (.athrow, 1) := by decide +kernel
theorem dX9_refuse_125 : decode cX9_refuse 125 = .ok (.new 334, 3) := by decide +kernel
theorem dX9_refuse_128 : decode cX9_refuse 128 = .ok (.dup, 1) := by decide +kernel
theorem dX9_refuse_129 : decode cX9_refuse 129 = .ok (.ldc_w 445, 3) := by decide +kernel
theorem dX9_refuse_132 : decode cX9_refuse 132 = .ok (.invokespecial 338, 3) := by decide +kernel
theorem dX9_refuse_135 : decode cX9_refuse 135 = .ok (.athrow, 1) := by decide +kernel
theorem dX9_refuse_136 : decode cX9_refuse 136 = .ok (.new 287, 3) := by decide +kernel
theorem dX9_refuse_139 : decode cX9_refuse 139 = .ok (.dup, 1) := by decide +kernel
theorem dX9_refuse_140 : decode cX9_refuse 140 = .ok (.ldc_w 447, 3) := by decide +kernel
theorem dX9_refuse_143 : decode cX9_refuse 143 = .ok (.invokespecial 291, 3) := by decide +kernel
theorem dX9_refuse_146 : decode cX9_refuse 146 = .ok (.athrow, 1) := by decide +kernel
theorem dX9_refuse_147 : decode cX9_refuse 147 = .ok (.new 287, 3) := by decide +kernel
theorem dX9_refuse_150 : decode cX9_refuse 150 = .ok (.dup, 1) := by decide +kernel
theorem dX9_refuse_151 : decode cX9_refuse 151 = .ok (.ldc_w 449, 3) := by decide +kernel
theorem dX9_refuse_154 : decode cX9_refuse 154 = .ok (.invokespecial 291, 3) := by decide +kernel
theorem dX9_refuse_157 : decode cX9_refuse 157 = .ok (.athrow, 1) := by decide +kernel
theorem dX9_refuse_158 : decode cX9_refuse 158 = .ok (.new 287, 3) := by decide +kernel
theorem dX9_refuse_161 : decode cX9_refuse 161 = .ok (.dup, 1) := by decide +kernel
theorem dX9_refuse_162 : decode cX9_refuse 162 = .ok (.ldc_w 451, 3) := by decide +kernel
theorem dX9_refuse_165 : decode cX9_refuse 165 = .ok (.invokespecial 291, 3) := by decide +kernel
theorem dX9_refuse_168 : decode cX9_refuse 168 = .ok (.athrow, 1) := by decide +kernel
theorem dX9_refuse_169 : decode cX9_refuse 169 = .ok (.new 287, 3) := by decide +kernel
theorem dX9_refuse_172 : decode cX9_refuse 172 = .ok (.dup, 1) := by decide +kernel
theorem dX9_refuse_173 : decode cX9_refuse 173 = .ok (.ldc_w 453, 3) := by decide +kernel
theorem dX9_refuse_176 : decode cX9_refuse 176 = .ok (.invokespecial 291, 3) := by decide +kernel
theorem dX9_refuse_179 : decode cX9_refuse 179 = .ok (.athrow, 1) := by decide +kernel
theorem dX9_refuse_180 : decode cX9_refuse 180 = .ok (.new 287, 3) := by decide +kernel
theorem dX9_refuse_183 : decode cX9_refuse 183 = .ok (.dup, 1) := by decide +kernel
theorem dX9_refuse_184 : decode cX9_refuse 184 = .ok (.ldc_w 455, 3) := by decide +kernel
theorem dX9_refuse_187 : decode cX9_refuse 187 = .ok (.invokespecial 291, 3) := by decide +kernel
theorem dX9_refuse_190 : decode cX9_refuse 190 = .ok (.athrow, 1) := by decide +kernel
theorem dX9_refuse_191 : decode cX9_refuse 191 = .ok (.new 295, 3) := by decide +kernel
theorem dX9_refuse_194 : decode cX9_refuse 194 = .ok (.dup, 1) := by decide +kernel
theorem dX9_refuse_195 : decode cX9_refuse 195 = .ok (.ldc_w 457, 3) := by decide +kernel
theorem dX9_refuse_198 : decode cX9_refuse 198 = .ok (.invokespecial 299, 3) := by decide +kernel
theorem dX9_refuse_201 : decode cX9_refuse 201 = .ok (.athrow, 1) := by decide +kernel
theorem dX9_refuse_202 : decode cX9_refuse 202 = .ok (.new 295, 3) := by decide +kernel
theorem dX9_refuse_205 : decode cX9_refuse 205 = .ok (.dup, 1) := by decide +kernel
theorem dX9_refuse_206 : decode cX9_refuse 206 = .ok (.ldc_w 459, 3) := by decide +kernel
theorem dX9_refuse_209 : decode cX9_refuse 209 = .ok (.invokespecial 299, 3) := by decide +kernel
theorem dX9_refuse_212 : decode cX9_refuse 212 = .ok (.athrow, 1) := by decide +kernel
theorem dX9_refuse_213 : decode cX9_refuse 213 = .ok (.new 295, 3) := by decide +kernel
theorem dX9_refuse_216 : decode cX9_refuse 216 = .ok (.dup, 1) := by decide +kernel
theorem dX9_refuse_217 : decode cX9_refuse 217 = .ok (.ldc_w 461, 3) := by decide +kernel
theorem dX9_refuse_220 : decode cX9_refuse 220 = .ok (.invokespecial 299, 3) := by decide +kernel
theorem dX9_refuse_223 : decode cX9_refuse 223 = .ok (.athrow, 1) := by decide +kernel
theorem dX9_refuse_224 : decode cX9_refuse 224 = .ok (.new 295, 3) := by decide +kernel
theorem dX9_refuse_227 : decode cX9_refuse 227 = .ok (.dup, 1) := by decide +kernel
theorem dX9_refuse_228 : decode cX9_refuse 228 = .ok (.ldc 116, 2) := by decide +kernel
theorem dX9_refuse_230 : decode cX9_refuse 230 = .ok (.invokespecial 299, 3) := by decide +kernel
theorem dX9_refuse_233 : decode cX9_refuse 233 = .ok (.athrow, 1) := by decide +kernel
theorem dX9_refuse_234 : decode cX9_refuse 234 = .ok (.new 295, 3) := by decide +kernel
theorem dX9_refuse_237 : decode cX9_refuse 237 = .ok (.dup, 1) := by decide +kernel
theorem dX9_refuse_238 : decode cX9_refuse 238 = .ok (.ldc_w 463, 3) := by decide +kernel
theorem dX9_refuse_241 : decode cX9_refuse 241 = .ok (.invokespecial 299, 3) := by decide +kernel
theorem dX9_refuse_244 : decode cX9_refuse 244 = .ok (.athrow, 1) := by decide +kernel
theorem dX9_refuse_245 : decode cX9_refuse 245 = .ok (.new 295, 3) := by decide +kernel
theorem dX9_refuse_248 : decode cX9_refuse 248 = .ok (.dup, 1) := by decide +kernel
theorem dX9_refuse_249 : decode cX9_refuse 249 = .ok (.ldc_w 465, 3) := by decide +kernel
theorem dX9_refuse_252 : decode cX9_refuse 252 = .ok (.invokespecial 299, 3) := by decide +kernel
theorem dX9_refuse_255 : decode cX9_refuse 255 = .ok (.athrow, 1) := by decide +kernel
theorem dX9_refuse_256 : decode cX9_refuse 256 = .ok (.new 295, 3) := by decide +kernel
theorem dX9_refuse_259 : decode cX9_refuse 259 = .ok (.dup, 1) := by decide +kernel
theorem dX9_refuse_260 : decode cX9_refuse 260 = .ok (.ldc_w 467, 3) := by decide +kernel
theorem dX9_refuse_263 : decode cX9_refuse 263 = .ok (.invokespecial 299, 3) := by decide +kernel
theorem dX9_refuse_266 : decode cX9_refuse 266 = .ok (.athrow, 1) := by decide +kernel
theorem dX9_refuse_267 : decode cX9_refuse 267 = .ok (.new 295, 3) := by decide +kernel
theorem dX9_refuse_270 : decode cX9_refuse 270 = .ok (.dup, 1) := by decide +kernel
theorem dX9_refuse_271 : decode cX9_refuse 271 = .ok (.ldc_w 469, 3) := by decide +kernel
theorem dX9_refuse_274 : decode cX9_refuse 274 = .ok (.invokespecial 299, 3) := by decide +kernel
theorem dX9_refuse_277 : decode cX9_refuse 277 = .ok (.athrow, 1) := by decide +kernel
theorem dX9_refuse_278 : decode cX9_refuse 278 = .ok (.aload_n 0, 1) := by decide +kernel
theorem dX9_refuse_279 : decode cX9_refuse 279 = .ok (.invokestatic 471, 3) := by decide +kernel
theorem dX9_refuse_282 : decode cX9_refuse 282 = .ok (.return_, 1) := by decide +kernel
theorem dX9_refuseRarer_0 : decode cX9_refuseRarer 0 = .ok (.getstatic 431, 3) := by decide +kernel
theorem dX9_refuseRarer_3 : decode cX9_refuseRarer 3 = .ok (.aload_n 0, 1) := by decide +kernel
theorem dX9_refuseRarer_4 : decode cX9_refuseRarer 4 = .ok (.invokevirtual 436, 3) := by decide +kernel
theorem dX9_refuseRarer_7 : decode cX9_refuseRarer 7 = .ok (.iaload, 1) := by decide +kernel
theorem dX9_refuseRarer_8 : decode cX9_refuseRarer 8 = .ok (.tableswitch 90 18 22 #[36, 47, 57, 68, 79], 36) := by decide +kernel
theorem dX9_refuseRarer_44 : decode cX9_refuseRarer 44 = .ok (.new 474, 3) := by decide +kernel
theorem dX9_refuseRarer_47 : decode cX9_refuseRarer 47 = .ok (.dup, 1) := by decide +kernel
theorem dX9_refuseRarer_48 : decode cX9_refuseRarer 48 = .ok (.ldc_w 476, 3) := by decide +kernel
theorem dX9_refuseRarer_51 : decode cX9_refuseRarer 51 = .ok (.invokespecial 478, 3) := by decide +kernel
theorem dX9_refuseRarer_54 : decode cX9_refuseRarer 54 = .ok (.athrow, 1) := by decide +kernel
theorem dX9_refuseRarer_55 : decode cX9_refuseRarer 55 = .ok (.new 474, 3) := by decide +kernel
theorem dX9_refuseRarer_58 : decode cX9_refuseRarer 58 = .ok (.dup, 1) := by decide +kernel
theorem dX9_refuseRarer_59 : decode cX9_refuseRarer 59 = .ok (.ldc 116, 2) := by decide +kernel
theorem dX9_refuseRarer_61 : decode cX9_refuseRarer 61 = .ok (.invokespecial 478, 3) := by decide +kernel
theorem dX9_refuseRarer_64 : decode cX9_refuseRarer 64 = .ok (.athrow, 1) := by decide +kernel
theorem dX9_refuseRarer_65 : decode cX9_refuseRarer 65 = .ok (.new 474, 3) := by decide +kernel
theorem dX9_refuseRarer_68 : decode cX9_refuseRarer 68 = .ok (.dup, 1) := by decide +kernel
theorem dX9_refuseRarer_69 : decode cX9_refuseRarer 69 = .ok (.ldc_w 479, 3) := by decide +kernel
theorem dX9_refuseRarer_72 : decode cX9_refuseRarer 72 = .ok (.invokespecial 478, 3) := by decide +kernel
theorem dX9_refuseRarer_75 : decode cX9_refuseRarer 75 = .ok (.athrow, 1) := by decide +kernel
theorem dX9_refuseRarer_76 : decode cX9_refuseRarer 76 = .ok (.new 114, 3) := by decide +kernel
theorem dX9_refuseRarer_79 : decode cX9_refuseRarer 79 = .ok (.dup, 1) := by decide +kernel
theorem dX9_refuseRarer_80 : decode cX9_refuseRarer 80 = .ok (.ldc_w 481, 3) := by decide +kernel
theorem dX9_refuseRarer_83 : decode cX9_refuseRarer 83 = .ok (.invokespecial 118, 3) := by decide +kernel
theorem dX9_refuseRarer_86 : decode cX9_refuseRarer 86 = .ok (.athrow, 1) := by decide +kernel
theorem dX9_refuseRarer_87 : decode cX9_refuseRarer 87 = .ok (.new 114, 3) := by decide +kernel
theorem dX9_refuseRarer_90 : decode cX9_refuseRarer 90 = .ok (.dup, 1) := by decide +kernel
theorem dX9_refuseRarer_91 : decode cX9_refuseRarer 91 = .ok (.ldc_w 483, 3) := by decide +kernel
theorem dX9_refuseRarer_94 : decode cX9_refuseRarer 94 = .ok (.invokespecial 118, 3) := by decide +kernel
theorem dX9_refuseRarer_97 : decode cX9_refuseRarer 97 = .ok (.athrow, 1) := by decide +kernel
theorem dX9_refuseRarer_98 : decode cX9_refuseRarer 98 = .ok (.return_, 1) := by decide +kernel
theorem dX10_init_0 : decode cX10_init 0 = .ok (.aload_n 0, 1) := by decide +kernel
theorem dX10_init_1 : decode cX10_init 1 = .ok (.invokespecial 1, 3) := by decide +kernel
theorem dX10_init_4 : decode cX10_init 4 = .ok (.aload_n 0, 1) := by decide +kernel
theorem dX10_init_5 : decode cX10_init 5 = .ok (.iload_n 1, 1) := by decide +kernel
theorem dX10_init_6 : decode cX10_init 6 = .ok (.putfield 7, 3) := by decide +kernel
theorem dX10_init_9 : decode cX10_init 9 = .ok (.return_, 1) := by decide +kernel
theorem dX10_next_0 : decode cX10_next 0 = .ok (.aload_n 0, 1) := by decide +kernel
theorem dX10_next_1 : decode cX10_next 1 = .ok (.aload_n 0, 1) := by decide +kernel
theorem dX10_next_2 : decode cX10_next 2 = .ok (.getfield 7, 3) := by decide +kernel
theorem dX10_next_5 : decode cX10_next 5 = .ok (.ldc 13, 2) := by decide +kernel
theorem dX10_next_7 : decode cX10_next 7 = .ok (.imul, 1) := by decide +kernel
theorem dX10_next_8 : decode cX10_next 8 = .ok (.sipush 12345, 3) := by decide +kernel
theorem dX10_next_11 : decode cX10_next 11 = .ok (.iadd, 1) := by decide +kernel
theorem dX10_next_12 : decode cX10_next 12 = .ok (.putfield 7, 3) := by decide +kernel
theorem dX10_next_15 : decode cX10_next 15 = .ok (.aload_n 0, 1) := by decide +kernel
theorem dX10_next_16 : decode cX10_next 16 = .ok (.getfield 7, 3) := by decide +kernel
theorem dX10_next_19 : decode cX10_next 19 = .ok (.bipush 16, 2) := by decide +kernel
theorem dX10_next_21 : decode cX10_next 21 = .ok (.iushr, 1) := by decide +kernel
theorem dX10_next_22 : decode cX10_next 22 = .ok (.iload_n 1, 1) := by decide +kernel
theorem dX10_next_23 : decode cX10_next 23 = .ok (.irem, 1) := by decide +kernel
theorem dX10_next_24 : decode cX10_next 24 = .ok (.ireturn, 1) := by decide +kernel
theorem dJ5_init_d00df_0 : decode cJ5_init_d00df 0 = .ok (.aload_n 0, 1) := by decide +kernel
theorem dJ5_init_d00df_1 : decode cJ5_init_d00df 1 = .ok (.invokespecial 3, 3) := by decide +kernel
theorem dJ5_init_d00df_4 : decode cJ5_init_d00df 4 = .ok (.getstatic 18, 3) := by decide +kernel
theorem dJ5_init_d00df_7 : decode cJ5_init_d00df 7 = .ok (.ifCond .eq 18, 3) := by decide +kernel
theorem dJ5_init_d00df_10 : decode cJ5_init_d00df 10 = .ok (.aload_n 0, 1) := by decide +kernel
theorem dJ5_init_d00df_11 : decode cJ5_init_d00df 11 = .ok (.iload_n 1, 1) := by decide +kernel
theorem dJ5_init_d00df_12 : decode cJ5_init_d00df 12 = .ok (.newarray .byte, 2) := by decide +kernel
theorem dJ5_init_d00df_14 : decode cJ5_init_d00df 14 = .ok (.putfield 15, 3) := by decide +kernel
theorem dJ5_init_d00df_17 : decode cJ5_init_d00df 17 = .ok (.aload_n 0, 1) := by decide +kernel
theorem dJ5_init_d00df_18 : decode cJ5_init_d00df 18 = .ok (.iconst 0, 1) := by decide +kernel
theorem dJ5_init_d00df_19 : decode cJ5_init_d00df 19 = .ok (.putfield 22, 3) := by decide +kernel
theorem dJ5_init_d00df_22 : decode cJ5_init_d00df 22 = .ok (.goto 16, 3) := by decide +kernel
theorem dJ5_init_d00df_25 : decode cJ5_init_d00df 25 = .ok (.aload_n 0, 1) := by decide +kernel
theorem dJ5_init_d00df_26 : decode cJ5_init_d00df 26 = .ok (.iload_n 1, 1) := by decide +kernel
theorem dJ5_init_d00df_27 : decode cJ5_init_d00df 27 = .ok (.invokestatic 26, 3) := by decide +kernel
theorem dJ5_init_d00df_30 : decode cJ5_init_d00df 30 = .ok (.putfield 15, 3) := by decide +kernel
theorem dJ5_init_d00df_33 : decode cJ5_init_d00df 33 = .ok (.aload_n 0, 1) := by decide +kernel
theorem dJ5_init_d00df_34 : decode cJ5_init_d00df 34 = .ok (.iconst 1, 1) := by decide +kernel
theorem dJ5_init_d00df_35 : decode cJ5_init_d00df 35 = .ok (.putfield 22, 3) := by decide +kernel
theorem dJ5_init_d00df_38 : decode cJ5_init_d00df 38 = .ok (.return_, 1) := by decide +kernel
theorem dJ5_length_8abf5_0 : decode cJ5_length_8abf5 0 = .ok (.aload_n 0, 1) := by decide +kernel
theorem dJ5_length_8abf5_1 : decode cJ5_length_8abf5 1 = .ok (.getfield 79, 3) := by decide +kernel
theorem dJ5_length_8abf5_4 : decode cJ5_length_8abf5 4 = .ok (.ireturn, 1) := by decide +kernel
theorem dJ5_ensureCapacityInternal_d00df_0 : decode cJ5_ensureCapacityInternal_d00df 0 = .ok (.aload_n 0, 1) := by decide +kernel
theorem dJ5_ensureCapacityInternal_d00df_1 : decode cJ5_ensureCapacityInternal_d00df 1 = .ok (.getfield 15, 3) := by decide +kernel
theorem dJ5_ensureCapacityInternal_d00df_4 : decode cJ5_ensureCapacityInternal_d00df 4 = .ok (.arraylength, 1) := by decide +kernel
theorem dJ5_ensureCapacityInternal_d00df_5 : decode cJ5_ensureCapacityInternal_d00df 5 = .ok (.aload_n 0, 1) := by decide +kernel
theorem dJ5_ensureCapacityInternal_d00df_6 : decode cJ5_ensureCapacityInternal_d00df 6 = .ok (.getfield 22, 3) := by decide +kernel
theorem dJ5_ensureCapacityInternal_d00df_9 : decode cJ5_ensureCapacityInternal_d00df 9 = .ok (.ishr, 1) := by decide +kernel
theorem dJ5_ensureCapacityInternal_d00df_10 : decode cJ5_ensureCapacityInternal_d00df 10 = .ok (.istore_n 2, 1) := by decide +kernel
theorem dJ5_ensureCapacityInternal_d00df_11 : decode cJ5_ensureCapacityInternal_d00df 11 = .ok (.iload_n 1, 1) := by decide +kernel
theorem dJ5_ensureCapacityInternal_d00df_12 : decode cJ5_ensureCapacityInternal_d00df 12 = .ok (.iload_n 2, 1) := by decide +kernel
theorem dJ5_ensureCapacityInternal_d00df_13 : decode cJ5_ensureCapacityInternal_d00df 13 = .ok (.isub, 1) := by decide +kernel
theorem dJ5_ensureCapacityInternal_d00df_14 : decode cJ5_ensureCapacityInternal_d00df 14 = .ok (.ifCond .le 24, 3) := by decide +kernel
theorem dJ5_ensureCapacityInternal_d00df_17 : decode cJ5_ensureCapacityInternal_d00df 17 = .ok (.aload_n 0, 1) := by decide +kernel
theorem dJ5_ensureCapacityInternal_d00df_18 : decode cJ5_ensureCapacityInternal_d00df 18 = .ok (.aload_n 0, 1) := by decide +kernel
theorem dJ5_ensureCapacityInternal_d00df_19 : decode cJ5_ensureCapacityInternal_d00df 19 = .ok (.getfield 15, 3) := by decide +kernel
theorem dJ5_ensureCapacityInternal_d00df_22 : decode cJ5_ensureCapacityInternal_d00df 22 = .ok (.aload_n 0, 1) := by decide +kernel
theorem dJ5_ensureCapacityInternal_d00df_23 : decode cJ5_ensureCapacityInternal_d00df 23 = .ok (.iload_n 1, 1) := by decide +kernel
theorem dJ5_ensureCapacityInternal_d00df_24 : decode cJ5_ensureCapacityInternal_d00df 24 = .ok (.invokevirtual 104, 3) := by decide +kernel
theorem dJ5_ensureCapacityInternal_d00df_27 : decode cJ5_ensureCapacityInternal_d00df 27 = .ok (.aload_n 0, 1) := by decide +kernel
theorem dJ5_ensureCapacityInternal_d00df_28 : decode cJ5_ensureCapacityInternal_d00df 28 = .ok (.getfield 22, 3) := by decide +kernel
theorem dJ5_ensureCapacityInternal_d00df_31 : decode cJ5_ensureCapacityInternal_d00df 31 = .ok (.ishl, 1) := by decide +kernel
theorem dJ5_ensureCapacityInternal_d00df_32 : decode cJ5_ensureCapacityInternal_d00df 32 = .ok (.invokestatic 108, 3) := by decide +kernel
theorem dJ5_ensureCapacityInternal_d00df_35 : decode cJ5_ensureCapacityInternal_d00df 35 = .ok (.putfield 15, 3) := by decide +kernel
theorem dJ5_ensureCapacityInternal_d00df_38 : decode cJ5_ensureCapacityInternal_d00df 38 = .ok (.return_, 1) := by decide +kernel
theorem dJ5_newCapacity_0f7a4_0 : decode cJ5_newCapacity_0f7a4 0 = .ok (.aload_n 0, 1) := by decide +kernel
theorem dJ5_newCapacity_0f7a4_1 : decode cJ5_newCapacity_0f7a4 1 = .ok (.getfield 15, 3) := by decide +kernel
theorem dJ5_newCapacity_0f7a4_4 : decode cJ5_newCapacity_0f7a4 4 = .ok (.arraylength, 1) := by decide +kernel
theorem dJ5_newCapacity_0f7a4_5 : decode cJ5_newCapacity_0f7a4 5 = .ok (.istore_n 2, 1) := by decide +kernel
theorem dJ5_newCapacity_0f7a4_6 : decode cJ5_newCapacity_0f7a4 6 = .ok (.iload_n 1, 1) := by decide +kernel
theorem dJ5_newCapacity_0f7a4_7 : decode cJ5_newCapacity_0f7a4 7 = .ok (.aload_n 0, 1) := by decide +kernel
theorem dJ5_newCapacity_0f7a4_8 : decode cJ5_newCapacity_0f7a4 8 = .ok (.getfield 22, 3) := by decide +kernel
theorem dJ5_newCapacity_0f7a4_11 : decode cJ5_newCapacity_0f7a4 11 = .ok (.ishl, 1) := by decide +kernel
theorem dJ5_newCapacity_0f7a4_12 : decode cJ5_newCapacity_0f7a4 12 = .ok (.istore_n 3, 1) := by decide +kernel
theorem dJ5_newCapacity_0f7a4_13 : decode cJ5_newCapacity_0f7a4 13 = .ok (.iload_n 3, 1) := by decide +kernel
theorem dJ5_newCapacity_0f7a4_14 : decode cJ5_newCapacity_0f7a4 14 = .ok (.iload_n 2, 1) := by decide +kernel
theorem dJ5_newCapacity_0f7a4_15 : decode cJ5_newCapacity_0f7a4 15 = .ok (.isub, 1) := by decide +kernel
theorem dJ5_newCapacity_0f7a4_16 : decode cJ5_newCapacity_0f7a4 16 = .ok (.istore 4, 2) := by decide +kernel
theorem dJ5_newCapacity_0f7a4_18 : decode cJ5_newCapacity_0f7a4 18 = .ok (.iload_n 2, 1) := by decide +kernel
theorem dJ5_newCapacity_0f7a4_19 : decode cJ5_newCapacity_0f7a4 19 = .ok (.iload 4, 2) := by decide +kernel
theorem dJ5_newCapacity_0f7a4_21 : decode cJ5_newCapacity_0f7a4 21 = .ok (.iload_n 2, 1) := by decide +kernel
theorem dJ5_newCapacity_0f7a4_22 : decode cJ5_newCapacity_0f7a4 22 = .ok (.iconst 2, 1) := by decide +kernel
theorem dJ5_newCapacity_0f7a4_23 : decode cJ5_newCapacity_0f7a4 23 = .ok (.aload_n 0, 1) := by decide +kernel
theorem dJ5_newCapacity_0f7a4_24 : decode cJ5_newCapacity_0f7a4 24 = .ok (.getfield 22, 3) := by decide +kernel
theorem dJ5_newCapacity_0f7a4_27 : decode cJ5_newCapacity_0f7a4 27 = .ok (.ishl, 1) := by decide +kernel
theorem dJ5_newCapacity_0f7a4_28 : decode cJ5_newCapacity_0f7a4 28 = .ok (.iadd, 1) := by decide +kernel
theorem dJ5_newCapacity_0f7a4_29 : decode cJ5_newCapacity_0f7a4 29 = .ok (.invokestatic 114, 3) := by decide +kernel
theorem dJ5_newCapacity_0f7a4_32 : decode cJ5_newCapacity_0f7a4 32 = .ok (.istore 5, 2) := by decide +kernel
theorem dJ5_newCapacity_0f7a4_34 : decode cJ5_newCapacity_0f7a4 34 = .ok (.iload 5, 2) := by decide +kernel
theorem dJ5_newCapacity_0f7a4_36 : decode cJ5_newCapacity_0f7a4 36 = .ok (.ldc 39, 2) := by decide +kernel
theorem dJ5_newCapacity_0f7a4_38 : decode cJ5_newCapacity_0f7a4 38 = .ok (.if_icmp .ne 13, 3) := by decide +kernel
theorem dJ5_newCapacity_0f7a4_41 : decode cJ5_newCapacity_0f7a4 41 = .ok (.new 120, 3) := by decide +kernel
theorem dJ5_newCapacity_0f7a4_44 : decode cJ5_newCapacity_0f7a4 44 = .ok (.dup, 1) := by decide +kernel
theorem dJ5_newCapacity_0f7a4_45 : decode cJ5_newCapacity_0f7a4 45 = .ok (.ldc 122, 2) := by decide +kernel
theorem dJ5_newCapacity_0f7a4_47 : decode cJ5_newCapacity_0f7a4 47 = .ok (.invokespecial 124, 3) := by decide +kernel
theorem dJ5_newCapacity_0f7a4_50 : decode cJ5_newCapacity_0f7a4 50 = .ok (.athrow, 1) := by decide +kernel
theorem dJ5_newCapacity_0f7a4_51 : decode cJ5_newCapacity_0f7a4 51 = .ok (.iload 5, 2) := by decide +kernel
theorem dJ5_newCapacity_0f7a4_53 : decode cJ5_newCapacity_0f7a4 53 = .ok (.aload_n 0, 1) := by decide +kernel
theorem dJ5_newCapacity_0f7a4_54 : decode cJ5_newCapacity_0f7a4 54 = .ok (.getfield 22, 3) := by decide +kernel
theorem dJ5_newCapacity_0f7a4_57 : decode cJ5_newCapacity_0f7a4 57 = .ok (.ishr, 1) := by decide +kernel
theorem dJ5_newCapacity_0f7a4_58 : decode cJ5_newCapacity_0f7a4 58 = .ok (.ireturn, 1) := by decide +kernel
theorem dJ5_inflate_da8c8_0 : decode cJ5_inflate_da8c8 0 = .ok (.aload_n 0, 1) := by decide +kernel
theorem dJ5_inflate_da8c8_1 : decode cJ5_inflate_da8c8 1 = .ok (.invokevirtual 83, 3) := by decide +kernel
theorem dJ5_inflate_da8c8_4 : decode cJ5_inflate_da8c8 4 = .ok (.ifCond .ne 4, 3) := by decide +kernel
theorem dJ5_inflate_da8c8_7 : decode cJ5_inflate_da8c8 7 = .ok (.return_, 1) := by decide +kernel
theorem dJ5_inflate_da8c8_8 : decode cJ5_inflate_da8c8 8 = .ok (.aload_n 0, 1) := by decide +kernel
theorem dJ5_inflate_da8c8_9 : decode cJ5_inflate_da8c8 9 = .ok (.getfield 15, 3) := by decide +kernel
theorem dJ5_inflate_da8c8_12 : decode cJ5_inflate_da8c8 12 = .ok (.arraylength, 1) := by decide +kernel
theorem dJ5_inflate_da8c8_13 : decode cJ5_inflate_da8c8 13 = .ok (.invokestatic 26, 3) := by decide +kernel
theorem dJ5_inflate_da8c8_16 : decode cJ5_inflate_da8c8 16 = .ok (.astore_n 1, 1) := by decide +kernel
theorem dJ5_inflate_da8c8_17 : decode cJ5_inflate_da8c8 17 = .ok (.aload_n 0, 1) := by decide +kernel
theorem dJ5_inflate_da8c8_18 : decode cJ5_inflate_da8c8 18 = .ok (.getfield 15, 3) := by decide +kernel
theorem dJ5_inflate_da8c8_21 : decode cJ5_inflate_da8c8 21 = .ok (.iconst 0, 1) := by decide +kernel
theorem dJ5_inflate_da8c8_22 : decode cJ5_inflate_da8c8 22 = .ok (.aload_n 1, 1) := by decide +kernel
theorem dJ5_inflate_da8c8_23 : decode cJ5_inflate_da8c8 23 = .ok (.iconst 0, 1) := by decide +kernel
theorem dJ5_inflate_da8c8_24 : decode cJ5_inflate_da8c8 24 = .ok (.aload_n 0, 1) := by decide +kernel
theorem dJ5_inflate_da8c8_25 : decode cJ5_inflate_da8c8 25 = .ok (.getfield 79, 3) := by decide +kernel
theorem dJ5_inflate_da8c8_28 : decode cJ5_inflate_da8c8 28 = .ok (.invokestatic 125, 3) := by decide +kernel
theorem dJ5_inflate_da8c8_31 : decode cJ5_inflate_da8c8 31 = .ok (.aload_n 0, 1) := by decide +kernel
theorem dJ5_inflate_da8c8_32 : decode cJ5_inflate_da8c8 32 = .ok (.aload_n 1, 1) := by decide +kernel
theorem dJ5_inflate_da8c8_33 : decode cJ5_inflate_da8c8 33 = .ok (.putfield 15, 3) := by decide +kernel
theorem dJ5_inflate_da8c8_36 : decode cJ5_inflate_da8c8 36 = .ok (.aload_n 0, 1) := by decide +kernel
theorem dJ5_inflate_da8c8_37 : decode cJ5_inflate_da8c8 37 = .ok (.iconst 1, 1) := by decide +kernel
theorem dJ5_inflate_da8c8_38 : decode cJ5_inflate_da8c8 38 = .ok (.putfield 22, 3) := by decide +kernel
theorem dJ5_inflate_da8c8_41 : decode cJ5_inflate_da8c8 41 = .ok (.return_, 1) := by decide +kernel
theorem dJ5_setLength_d00df_0 : decode cJ5_setLength_d00df 0 = .ok (.iload_n 1, 1) := by decide +kernel
theorem dJ5_setLength_d00df_1 : decode cJ5_setLength_d00df 1 = .ok (.ifCond .ge 12, 3) := by decide +kernel
theorem dJ5_setLength_d00df_4 : decode cJ5_setLength_d00df 4 = .ok (.new 129, 3) := by decide +kernel
theorem dJ5_setLength_d00df_7 : decode cJ5_setLength_d00df 7 = .ok (.dup, 1) := by decide +kernel
theorem dJ5_setLength_d00df_8 : decode cJ5_setLength_d00df 8 = .ok (.iload_n 1, 1) := by decide +kernel
theorem dJ5_setLength_d00df_9 : decode cJ5_setLength_d00df 9 = .ok (.invokespecial 131, 3) := by decide +kernel
theorem dJ5_setLength_d00df_12 : decode cJ5_setLength_d00df 12 = .ok (.athrow, 1) := by decide +kernel
theorem dJ5_setLength_d00df_13 : decode cJ5_setLength_d00df 13 = .ok (.aload_n 0, 1) := by decide +kernel
theorem dJ5_setLength_d00df_14 : decode cJ5_setLength_d00df 14 = .ok (.iload_n 1, 1) := by decide +kernel
theorem dJ5_setLength_d00df_15 : decode cJ5_setLength_d00df 15 = .ok (.invokevirtual 100, 3) := by decide +kernel
theorem dJ5_setLength_d00df_18 : decode cJ5_setLength_d00df 18 = .ok (.aload_n 0, 1) := by decide +kernel
theorem dJ5_setLength_d00df_19 : decode cJ5_setLength_d00df 19 = .ok (.getfield 79, 3) := by decide +kernel
theorem dJ5_setLength_d00df_22 : decode cJ5_setLength_d00df 22 = .ok (.iload_n 1, 1) := by decide +kernel
theorem dJ5_setLength_d00df_23 : decode cJ5_setLength_d00df 23 = .ok (.if_icmp .ge 40, 3) := by decide +kernel
theorem dJ5_setLength_d00df_26 : decode cJ5_setLength_d00df 26 = .ok (.aload_n 0, 1) := by decide +kernel
theorem dJ5_setLength_d00df_27 : decode cJ5_setLength_d00df 27 = .ok (.invokevirtual 83, 3) := by decide +kernel
theorem dJ5_setLength_d00df_30 : decode cJ5_setLength_d00df 30 = .ok (.ifCond .eq 18, 3) := by decide +kernel
theorem dJ5_setLength_d00df_33 : decode cJ5_setLength_d00df 33 = .ok (.aload_n 0, 1) := by decide +kernel
theorem dJ5_setLength_d00df_34 : decode cJ5_setLength_d00df 34 = .ok (.getfield 15, 3) := by decide +kernel
theorem dJ5_setLength_d00df_37 : decode cJ5_setLength_d00df 37 = .ok (.aload_n 0, 1) := by decide +kernel
theorem dJ5_setLength_d00df_38 : decode cJ5_setLength_d00df 38 = .ok (.getfield 79, 3) := by decide +kernel
theorem dJ5_setLength_d00df_41 : decode cJ5_setLength_d00df 41 = .ok (.iload_n 1, 1) := by decide +kernel
theorem dJ5_setLength_d00df_42 : decode cJ5_setLength_d00df 42 = .ok (.invokestatic 133, 3) := by decide +kernel
theorem dJ5_setLength_d00df_45 : decode cJ5_setLength_d00df 45 = .ok (.goto 31, 3) := by decide +kernel
theorem dJ5_setLength_d00df_48 : decode cJ5_setLength_d00df 48 = .ok (.aload_n 0, 1) := by decide +kernel
theorem dJ5_setLength_d00df_49 : decode cJ5_setLength_d00df 49 = .ok (.getfield 15, 3) := by decide +kernel
theorem dJ5_setLength_d00df_52 : decode cJ5_setLength_d00df 52 = .ok (.aload_n 0, 1) := by decide +kernel
theorem dJ5_setLength_d00df_53 : decode cJ5_setLength_d00df 53 = .ok (.getfield 79, 3) := by decide +kernel
theorem dJ5_setLength_d00df_56 : decode cJ5_setLength_d00df 56 = .ok (.iload_n 1, 1) := by decide +kernel
theorem dJ5_setLength_d00df_57 : decode cJ5_setLength_d00df 57 = .ok (.invokestatic 137, 3) := by decide +kernel
theorem dJ5_setLength_d00df_60 : decode cJ5_setLength_d00df 60 = .ok (.goto 16, 3) := by decide +kernel
theorem dJ5_setLength_d00df_63 : decode cJ5_setLength_d00df 63 = .ok (.aload_n 0, 1) := by decide +kernel
theorem dJ5_setLength_d00df_64 : decode cJ5_setLength_d00df 64 = .ok (.getfield 79, 3) := by decide +kernel
theorem dJ5_setLength_d00df_67 : decode cJ5_setLength_d00df 67 = .ok (.iload_n 1, 1) := by decide +kernel
theorem dJ5_setLength_d00df_68 : decode cJ5_setLength_d00df 68 = .ok (.if_icmp .le 8, 3) := by decide +kernel
theorem dJ5_setLength_d00df_71 : decode cJ5_setLength_d00df 71 = .ok (.aload_n 0, 1) := by decide +kernel
theorem dJ5_setLength_d00df_72 : decode cJ5_setLength_d00df 72 = .ok (.iconst 1, 1) := by decide +kernel
theorem dJ5_setLength_d00df_73 : decode cJ5_setLength_d00df 73 = .ok (.putfield 73, 3) := by decide +kernel
theorem dJ5_setLength_d00df_76 : decode cJ5_setLength_d00df 76 = .ok (.aload_n 0, 1) := by decide +kernel
theorem dJ5_setLength_d00df_77 : decode cJ5_setLength_d00df 77 = .ok (.iload_n 1, 1) := by decide +kernel
theorem dJ5_setLength_d00df_78 : decode cJ5_setLength_d00df 78 = .ok (.putfield 79, 3) := by decide +kernel
theorem dJ5_setLength_d00df_81 : decode cJ5_setLength_d00df 81 = .ok (.return_, 1) := by decide +kernel
theorem dJ5_charAt_5068e_0 : decode cJ5_charAt_5068e 0 = .ok (.aload_n 0, 1) := by decide +kernel
theorem dJ5_charAt_5068e_1 : decode cJ5_charAt_5068e 1 = .ok (.getfield 22, 3) := by decide +kernel
theorem dJ5_charAt_5068e_4 : decode cJ5_charAt_5068e 4 = .ok (.istore_n 2, 1) := by decide +kernel
theorem dJ5_charAt_5068e_5 : decode cJ5_charAt_5068e 5 = .ok (.aload_n 0, 1) := by decide +kernel
theorem dJ5_charAt_5068e_6 : decode cJ5_charAt_5068e 6 = .ok (.getfield 15, 3) := by decide +kernel
theorem dJ5_charAt_5068e_9 : decode cJ5_charAt_5068e 9 = .ok (.astore_n 3, 1) := by decide +kernel
theorem dJ5_charAt_5068e_10 : decode cJ5_charAt_5068e 10 = .ok (.aload_n 0, 1) := by decide +kernel
theorem dJ5_charAt_5068e_11 : decode cJ5_charAt_5068e 11 = .ok (.getfield 79, 3) := by decide +kernel
theorem dJ5_charAt_5068e_14 : decode cJ5_charAt_5068e 14 = .ok (.aload_n 3, 1) := by decide +kernel
theorem dJ5_charAt_5068e_15 : decode cJ5_charAt_5068e 15 = .ok (.arraylength, 1) := by decide +kernel
theorem dJ5_charAt_5068e_16 : decode cJ5_charAt_5068e 16 = .ok (.iload_n 2, 1) := by decide +kernel
theorem dJ5_charAt_5068e_17 : decode cJ5_charAt_5068e 17 = .ok (.ishr, 1) := by decide +kernel
theorem dJ5_charAt_5068e_18 : decode cJ5_charAt_5068e 18 = .ok (.invokestatic 138, 3) := by decide +kernel
theorem dJ5_charAt_5068e_21 : decode cJ5_charAt_5068e 21 = .ok (.istore 4, 2) := by decide +kernel
theorem dJ5_charAt_5068e_23 : decode cJ5_charAt_5068e 23 = .ok (.iload_n 1, 1) := by decide +kernel
theorem dJ5_charAt_5068e_24 : decode cJ5_charAt_5068e 24 = .ok (.iload 4, 2) := by decide +kernel
theorem dJ5_charAt_5068e_26 : decode cJ5_charAt_5068e 26 = .ok (.invokestatic 144, 3) := by decide +kernel
theorem dJ5_charAt_5068e_29 : decode cJ5_charAt_5068e 29 = .ok (.iload_n 2, 1) := by decide +kernel
theorem dJ5_charAt_5068e_30 : decode cJ5_charAt_5068e 30 = .ok (.ifCond .ne 12, 3) := by decide +kernel
theorem dJ5_charAt_5068e_33 : decode cJ5_charAt_5068e 33 = .ok (.aload_n 3, 1) := by decide +kernel
theorem dJ5_charAt_5068e_34 : decode cJ5_charAt_5068e 34 = .ok (.iload_n 1, 1) := by decide +kernel
theorem dJ5_charAt_5068e_35 : decode cJ5_charAt_5068e 35 = .ok (.baload, 1) := by decide +kernel
theorem dJ5_charAt_5068e_36 : decode cJ5_charAt_5068e 36 = .ok (.sipush 255, 3) := by decide +kernel
theorem dJ5_charAt_5068e_39 : decode cJ5_charAt_5068e 39 = .ok (.iand, 1) := by decide +kernel
theorem dJ5_charAt_5068e_40 : decode cJ5_charAt_5068e 40 = .ok (.i2c, 1) := by decide +kernel
theorem dJ5_charAt_5068e_41 : decode cJ5_charAt_5068e 41 = .ok (.ireturn, 1) := by decide +kernel
theorem dJ5_charAt_5068e_42 : decode cJ5_charAt_5068e 42 = .ok (.aload_n 3, 1) := by decide +kernel
theorem dJ5_charAt_5068e_43 : decode cJ5_charAt_5068e 43 = .ok (.iload_n 1, 1) := by decide +kernel
theorem dJ5_charAt_5068e_44 : decode cJ5_charAt_5068e 44 = .ok (.invokestatic 148, 3) := by decide +kernel
theorem dJ5_charAt_5068e_47 : decode cJ5_charAt_5068e 47 = .ok (.ireturn, 1) := by decide +kernel
theorem dJ5_append_cf1ce_0 : decode cJ5_append_cf1ce 0 = .ok (.aload_n 1, 1) := by decide +kernel
theorem dJ5_append_cf1ce_1 : decode cJ5_append_cf1ce 1 = .ok (.ifnonnull 8, 3) := by decide +kernel
theorem dJ5_append_cf1ce_4 : decode cJ5_append_cf1ce 4 = .ok (.aload_n 0, 1) := by decide +kernel
theorem dJ5_append_cf1ce_5 : decode cJ5_append_cf1ce 5 = .ok (.invokevirtual 204, 3) := by decide +kernel
theorem dJ5_append_cf1ce_8 : decode cJ5_append_cf1ce 8 = .ok (.areturn, 1) := by decide +kernel
theorem dJ5_append_cf1ce_9 : decode cJ5_append_cf1ce 9 = .ok (.aload_n 1, 1) := by decide +kernel
theorem dJ5_append_cf1ce_10 : decode cJ5_append_cf1ce 10 = .ok (.invokevirtual 32, 3) := by decide +kernel
theorem dJ5_append_cf1ce_13 : decode cJ5_append_cf1ce 13 = .ok (.istore_n 2, 1) := by decide +kernel
theorem dJ5_append_cf1ce_14 : decode cJ5_append_cf1ce 14 = .ok (.aload_n 0, 1) := by decide +kernel
theorem dJ5_append_cf1ce_15 : decode cJ5_append_cf1ce 15 = .ok (.aload_n 0, 1) := by decide +kernel
theorem dJ5_append_cf1ce_16 : decode cJ5_append_cf1ce 16 = .ok (.getfield 79, 3) := by decide +kernel
theorem dJ5_append_cf1ce_19 : decode cJ5_append_cf1ce 19 = .ok (.iload_n 2, 1) := by decide +kernel
theorem dJ5_append_cf1ce_20 : decode cJ5_append_cf1ce 20 = .ok (.iadd, 1) := by decide +kernel
theorem dJ5_append_cf1ce_21 : decode cJ5_append_cf1ce 21 = .ok (.invokevirtual 100, 3) := by decide +kernel
theorem dJ5_append_cf1ce_24 : decode cJ5_append_cf1ce 24 = .ok (.aload_n 0, 1) := by decide +kernel
theorem dJ5_append_cf1ce_25 : decode cJ5_append_cf1ce 25 = .ok (.aload_n 0, 1) := by decide +kernel
theorem dJ5_append_cf1ce_26 : decode cJ5_append_cf1ce 26 = .ok (.getfield 79, 3) := by decide +kernel
theorem dJ5_append_cf1ce_29 : decode cJ5_append_cf1ce 29 = .ok (.aload_n 1, 1) := by decide +kernel
theorem dJ5_append_cf1ce_30 : decode cJ5_append_cf1ce 30 = .ok (.invokevirtual 208, 3) := by decide +kernel
theorem dJ5_append_cf1ce_33 : decode cJ5_append_cf1ce 33 = .ok (.aload_n 0, 1) := by decide +kernel
theorem dJ5_append_cf1ce_34 : decode cJ5_append_cf1ce 34 = .ok (.dup, 1) := by decide +kernel
theorem dJ5_append_cf1ce_35 : decode cJ5_append_cf1ce 35 = .ok (.getfield 79, 3) := by decide +kernel
theorem dJ5_append_cf1ce_38 : decode cJ5_append_cf1ce 38 = .ok (.iload_n 2, 1) := by decide +kernel
theorem dJ5_append_cf1ce_39 : decode cJ5_append_cf1ce 39 = .ok (.iadd, 1) := by decide +kernel
theorem dJ5_append_cf1ce_40 : decode cJ5_append_cf1ce 40 = .ok (.putfield 79, 3) := by decide +kernel
theorem dJ5_append_cf1ce_43 : decode cJ5_append_cf1ce 43 = .ok (.aload_n 0, 1) := by decide +kernel
theorem dJ5_append_cf1ce_44 : decode cJ5_append_cf1ce 44 = .ok (.areturn, 1) := by decide +kernel
theorem dJ5_appendNull_278bc_0 : decode cJ5_appendNull_278bc 0 = .ok (.aload_n 0, 1) := by decide +kernel
theorem dJ5_appendNull_278bc_1 : decode cJ5_appendNull_278bc 1 = .ok (.aload_n 0, 1) := by decide +kernel
theorem dJ5_appendNull_278bc_2 : decode cJ5_appendNull_278bc 2 = .ok (.getfield 79, 3) := by decide +kernel
theorem dJ5_appendNull_278bc_5 : decode cJ5_appendNull_278bc 5 = .ok (.iconst 4, 1) := by decide +kernel
theorem dJ5_appendNull_278bc_6 : decode cJ5_appendNull_278bc 6 = .ok (.iadd, 1) := by decide +kernel
theorem dJ5_appendNull_278bc_7 : decode cJ5_appendNull_278bc 7 = .ok (.invokevirtual 100, 3) := by decide +kernel
theorem dJ5_appendNull_278bc_10 : decode cJ5_appendNull_278bc 10 = .ok (.aload_n 0, 1) := by decide +kernel
theorem dJ5_appendNull_278bc_11 : decode cJ5_appendNull_278bc 11 = .ok (.getfield 79, 3) := by decide +kernel
theorem dJ5_appendNull_278bc_14 : decode cJ5_appendNull_278bc 14 = .ok (.istore_n 1, 1) := by decide +kernel
theorem dJ5_appendNull_278bc_15 : decode cJ5_appendNull_278bc 15 = .ok (.aload_n 0, 1) := by decide +kernel
theorem dJ5_appendNull_278bc_16 : decode cJ5_appendNull_278bc 16 = .ok (.getfield 15, 3) := by decide +kernel
theorem dJ5_appendNull_278bc_19 : decode cJ5_appendNull_278bc 19 = .ok (.astore_n 2, 1) := by decide +kernel
theorem dJ5_appendNull_278bc_20 : decode cJ5_appendNull_278bc 20 = .ok (.aload_n 0, 1) := by decide +kernel
theorem dJ5_appendNull_278bc_21 : decode cJ5_appendNull_278bc 21 = .ok (.invokevirtual 83, 3) := by decide +kernel
theorem dJ5_appendNull_278bc_24 : decode cJ5_appendNull_278bc 24 = .ok (.ifCond .eq 38, 3) := by decide +kernel
theorem dJ5_appendNull_278bc_27 : decode cJ5_appendNull_278bc 27 = .ok (.aload_n 2, 1) := by decide +kernel
theorem dJ5_appendNull_278bc_28 : decode cJ5_appendNull_278bc 28 = .ok (.iload_n 1, 1) := by decide +kernel
theorem dJ5_appendNull_278bc_29 : decode cJ5_appendNull_278bc 29 = .ok (.iinc 1 1, 3) := by decide +kernel
theorem dJ5_appendNull_278bc_32 : decode cJ5_appendNull_278bc 32 = .ok (.bipush 110, 2) := by decide +kernel
theorem dJ5_appendNull_278bc_34 : decode cJ5_appendNull_278bc 34 = .ok (.bastore, 1) := by decide +kernel
theorem dJ5_appendNull_278bc_35 : decode cJ5_appendNull_278bc 35 = .ok (.aload_n 2, 1) := by decide +kernel
theorem dJ5_appendNull_278bc_36 : decode cJ5_appendNull_278bc 36 = .ok (.iload_n 1, 1) := by decide +kernel
theorem dJ5_appendNull_278bc_37 : decode cJ5_appendNull_278bc 37 = .ok (.iinc 1 1, 3) := by decide +kernel
theorem dJ5_appendNull_278bc_40 : decode cJ5_appendNull_278bc 40 = .ok (.bipush 117, 2) := by decide +kernel
theorem dJ5_appendNull_278bc_42 : decode cJ5_appendNull_278bc 42 = .ok (.bastore, 1) := by decide +kernel
theorem dJ5_appendNull_278bc_43 : decode cJ5_appendNull_278bc 43 = .ok (.aload_n 2, 1) := by decide +kernel
theorem dJ5_appendNull_278bc_44 : decode cJ5_appendNull_278bc 44 = .ok (.iload_n 1, 1) := by decide +kernel
theorem dJ5_appendNull_278bc_45 : decode cJ5_appendNull_278bc 45 = .ok (.iinc 1 1, 3) := by decide +kernel
theorem dJ5_appendNull_278bc_48 : decode cJ5_appendNull_278bc 48 = .ok (.bipush 108, 2) := by decide +kernel
theorem dJ5_appendNull_278bc_50 : decode cJ5_appendNull_278bc 50 = .ok (.bastore, 1) := by decide +kernel
theorem dJ5_appendNull_278bc_51 : decode cJ5_appendNull_278bc 51 = .ok (.aload_n 2, 1) := by decide +kernel
theorem dJ5_appendNull_278bc_52 : decode cJ5_appendNull_278bc 52 = .ok (.iload_n 1, 1) := by decide +kernel
theorem dJ5_appendNull_278bc_53 : decode cJ5_appendNull_278bc 53 = .ok (.iinc 1 1, 3) := by decide +kernel
theorem dJ5_appendNull_278bc_56 : decode cJ5_appendNull_278bc 56 = .ok (.bipush 108, 2) := by decide +kernel
theorem dJ5_appendNull_278bc_58 : decode cJ5_appendNull_278bc 58 = .ok (.bastore, 1) := by decide +kernel
theorem dJ5_appendNull_278bc_59 : decode cJ5_appendNull_278bc 59 = .ok (.goto 17, 3) := by decide +kernel
theorem dJ5_appendNull_278bc_62 : decode cJ5_appendNull_278bc 62 = .ok (.aload_n 2, 1) := by decide +kernel
theorem dJ5_appendNull_278bc_63 : decode cJ5_appendNull_278bc 63 = .ok (.iload_n 1, 1) := by decide +kernel
theorem dJ5_appendNull_278bc_64 : decode cJ5_appendNull_278bc 64 = .ok (.bipush 110, 2) := by decide +kernel
theorem dJ5_appendNull_278bc_66 : decode cJ5_appendNull_278bc 66 = .ok (.bipush 117, 2) := by decide +kernel
theorem dJ5_appendNull_278bc_68 : decode cJ5_appendNull_278bc 68 = .ok (.bipush 108, 2) := by decide +kernel
theorem dJ5_appendNull_278bc_70 : decode cJ5_appendNull_278bc 70 = .ok (.bipush 108, 2) := by decide +kernel
theorem dJ5_appendNull_278bc_72 : decode cJ5_appendNull_278bc 72 = .ok (.invokestatic 226, 3) := by decide +kernel
theorem dJ5_appendNull_278bc_75 : decode cJ5_appendNull_278bc 75 = .ok (.istore_n 1, 1) := by decide +kernel
theorem dJ5_appendNull_278bc_76 : decode cJ5_appendNull_278bc 76 = .ok (.aload_n 0, 1) := by decide +kernel
theorem dJ5_appendNull_278bc_77 : decode cJ5_appendNull_278bc 77 = .ok (.iload_n 1, 1) := by decide +kernel
theorem dJ5_appendNull_278bc_78 : decode cJ5_appendNull_278bc 78 = .ok (.putfield 79, 3) := by decide +kernel
theorem dJ5_appendNull_278bc_81 : decode cJ5_appendNull_278bc 81 = .ok (.aload_n 0, 1) := by decide +kernel
theorem dJ5_appendNull_278bc_82 : decode cJ5_appendNull_278bc 82 = .ok (.areturn, 1) := by decide +kernel
theorem dJ5_append_3fe6f_0 : decode cJ5_append_3fe6f 0 = .ok (.aload_n 0, 1) := by decide +kernel
theorem dJ5_append_3fe6f_1 : decode cJ5_append_3fe6f 1 = .ok (.aload_n 0, 1) := by decide +kernel
theorem dJ5_append_3fe6f_2 : decode cJ5_append_3fe6f 2 = .ok (.getfield 79, 3) := by decide +kernel
theorem dJ5_append_3fe6f_5 : decode cJ5_append_3fe6f 5 = .ok (.iconst 1, 1) := by decide +kernel
theorem dJ5_append_3fe6f_6 : decode cJ5_append_3fe6f 6 = .ok (.iadd, 1) := by decide +kernel
theorem dJ5_append_3fe6f_7 : decode cJ5_append_3fe6f 7 = .ok (.invokevirtual 100, 3) := by decide +kernel
theorem dJ5_append_3fe6f_10 : decode cJ5_append_3fe6f 10 = .ok (.aload_n 0, 1) := by decide +kernel
theorem dJ5_append_3fe6f_11 : decode cJ5_append_3fe6f 11 = .ok (.invokevirtual 83, 3) := by decide +kernel
theorem dJ5_append_3fe6f_14 : decode cJ5_append_3fe6f 14 = .ok (.ifCond .eq 31, 3) := by decide +kernel
theorem dJ5_append_3fe6f_17 : decode cJ5_append_3fe6f 17 = .ok (.iload_n 1, 1) := by decide +kernel
theorem dJ5_append_3fe6f_18 : decode cJ5_append_3fe6f 18 = .ok (.invokestatic 191, 3) := by decide +kernel
theorem dJ5_append_3fe6f_21 : decode cJ5_append_3fe6f 21 = .ok (.ifCond .eq 24, 3) := by decide +kernel
theorem dJ5_append_3fe6f_24 : decode cJ5_append_3fe6f 24 = .ok (.aload_n 0, 1) := by decide +kernel
theorem dJ5_append_3fe6f_25 : decode cJ5_append_3fe6f 25 = .ok (.getfield 15, 3) := by decide +kernel
theorem dJ5_append_3fe6f_28 : decode cJ5_append_3fe6f 28 = .ok (.aload_n 0, 1) := by decide +kernel
theorem dJ5_append_3fe6f_29 : decode cJ5_append_3fe6f 29 = .ok (.dup, 1) := by decide +kernel
theorem dJ5_append_3fe6f_30 : decode cJ5_append_3fe6f 30 = .ok (.getfield 79, 3) := by decide +kernel
theorem dJ5_append_3fe6f_33 : decode cJ5_append_3fe6f 33 = .ok (.dup_x1, 1) := by decide +kernel
theorem dJ5_append_3fe6f_34 : decode cJ5_append_3fe6f 34 = .ok (.iconst 1, 1) := by decide +kernel
theorem dJ5_append_3fe6f_35 : decode cJ5_append_3fe6f 35 = .ok (.iadd, 1) := by decide +kernel
theorem dJ5_append_3fe6f_36 : decode cJ5_append_3fe6f 36 = .ok (.putfield 79, 3) := by decide +kernel
theorem dJ5_append_3fe6f_39 : decode cJ5_append_3fe6f 39 = .ok (.iload_n 1, 1) := by decide +kernel
theorem dJ5_append_3fe6f_40 : decode cJ5_append_3fe6f 40 = .ok (.i2b, 1) := by decide +kernel
theorem dJ5_append_3fe6f_41 : decode cJ5_append_3fe6f 41 = .ok (.bastore, 1) := by decide +kernel
theorem dJ5_append_3fe6f_42 : decode cJ5_append_3fe6f 42 = .ok (.goto 33, 3) := by decide +kernel
theorem dJ5_append_3fe6f_45 : decode cJ5_append_3fe6f 45 = .ok (.aload_n 0, 1) := by decide +kernel
theorem dJ5_append_3fe6f_46 : decode cJ5_append_3fe6f 46 = .ok (.invokevirtual 83, 3) := by decide +kernel
theorem dJ5_append_3fe6f_49 : decode cJ5_append_3fe6f 49 = .ok (.ifCond .eq 7, 3) := by decide +kernel
theorem dJ5_append_3fe6f_52 : decode cJ5_append_3fe6f 52 = .ok (.aload_n 0, 1) := by decide +kernel
theorem dJ5_append_3fe6f_53 : decode cJ5_append_3fe6f 53 = .ok (.invokevirtual 195, 3) := by decide +kernel
theorem dJ5_append_3fe6f_56 : decode cJ5_append_3fe6f 56 = .ok (.aload_n 0, 1) := by decide +kernel
theorem dJ5_append_3fe6f_57 : decode cJ5_append_3fe6f 57 = .ok (.getfield 15, 3) := by decide +kernel
theorem dJ5_append_3fe6f_60 : decode cJ5_append_3fe6f 60 = .ok (.aload_n 0, 1) := by decide +kernel
theorem dJ5_append_3fe6f_61 : decode cJ5_append_3fe6f 61 = .ok (.dup, 1) := by decide +kernel
theorem dJ5_append_3fe6f_62 : decode cJ5_append_3fe6f 62 = .ok (.getfield 79, 3) := by decide +kernel
theorem dJ5_append_3fe6f_65 : decode cJ5_append_3fe6f 65 = .ok (.dup_x1, 1) := by decide +kernel
theorem dJ5_append_3fe6f_66 : decode cJ5_append_3fe6f 66 = .ok (.iconst 1, 1) := by decide +kernel
theorem dJ5_append_3fe6f_67 : decode cJ5_append_3fe6f 67 = .ok (.iadd, 1) := by decide +kernel
theorem dJ5_append_3fe6f_68 : decode cJ5_append_3fe6f 68 = .ok (.putfield 79, 3) := by decide +kernel
theorem dJ5_append_3fe6f_71 : decode cJ5_append_3fe6f 71 = .ok (.iload_n 1, 1) := by decide +kernel
theorem dJ5_append_3fe6f_72 : decode cJ5_append_3fe6f 72 = .ok (.invokestatic 197, 3) := by decide +kernel
theorem dJ5_append_3fe6f_75 : decode cJ5_append_3fe6f 75 = .ok (.aload_n 0, 1) := by decide +kernel
theorem dJ5_append_3fe6f_76 : decode cJ5_append_3fe6f 76 = .ok (.areturn, 1) := by decide +kernel
theorem dJ5_append_c97b9_0 : decode cJ5_append_c97b9 0 = .ok (.aload_n 0, 1) := by decide +kernel
theorem dJ5_append_c97b9_1 : decode cJ5_append_c97b9 1 = .ok (.getfield 79, 3) := by decide +kernel
theorem dJ5_append_c97b9_4 : decode cJ5_append_c97b9 4 = .ok (.istore_n 2, 1) := by decide +kernel
theorem dJ5_append_c97b9_5 : decode cJ5_append_c97b9 5 = .ok (.iload_n 2, 1) := by decide +kernel
theorem dJ5_append_c97b9_6 : decode cJ5_append_c97b9 6 = .ok (.iload_n 1, 1) := by decide +kernel
theorem dJ5_append_c97b9_7 : decode cJ5_append_c97b9 7 = .ok (.invokestatic 245, 3) := by decide +kernel
theorem dJ5_append_c97b9_10 : decode cJ5_append_c97b9 10 = .ok (.iadd, 1) := by decide +kernel
theorem dJ5_append_c97b9_11 : decode cJ5_append_c97b9 11 = .ok (.istore_n 3, 1) := by decide +kernel
theorem dJ5_append_c97b9_12 : decode cJ5_append_c97b9 12 = .ok (.aload_n 0, 1) := by decide +kernel
theorem dJ5_append_c97b9_13 : decode cJ5_append_c97b9 13 = .ok (.iload_n 3, 1) := by decide +kernel
theorem dJ5_append_c97b9_14 : decode cJ5_append_c97b9 14 = .ok (.invokevirtual 100, 3) := by decide +kernel
theorem dJ5_append_c97b9_17 : decode cJ5_append_c97b9 17 = .ok (.aload_n 0, 1) := by decide +kernel
theorem dJ5_append_c97b9_18 : decode cJ5_append_c97b9 18 = .ok (.invokevirtual 83, 3) := by decide +kernel
theorem dJ5_append_c97b9_21 : decode cJ5_append_c97b9 21 = .ok (.ifCond .eq 16, 3) := by decide +kernel
theorem dJ5_append_c97b9_24 : decode cJ5_append_c97b9 24 = .ok (.iload_n 1, 1) := by decide +kernel
theorem dJ5_append_c97b9_25 : decode cJ5_append_c97b9 25 = .ok (.iload_n 3, 1) := by decide +kernel
theorem dJ5_append_c97b9_26 : decode cJ5_append_c97b9 26 = .ok (.aload_n 0, 1) := by decide +kernel
theorem dJ5_append_c97b9_27 : decode cJ5_append_c97b9 27 = .ok (.getfield 15, 3) := by decide +kernel
theorem dJ5_append_c97b9_30 : decode cJ5_append_c97b9 30 = .ok (.invokestatic 248, 3) := by decide +kernel
theorem dJ5_append_c97b9_33 : decode cJ5_append_c97b9 33 = .ok (.pop, 1) := by decide +kernel
theorem dJ5_append_c97b9_34 : decode cJ5_append_c97b9 34 = .ok (.goto 14, 3) := by decide +kernel
theorem dJ5_append_c97b9_37 : decode cJ5_append_c97b9 37 = .ok (.iload_n 1, 1) := by decide +kernel
theorem dJ5_append_c97b9_38 : decode cJ5_append_c97b9 38 = .ok (.iload_n 2, 1) := by decide +kernel
theorem dJ5_append_c97b9_39 : decode cJ5_append_c97b9 39 = .ok (.iload_n 3, 1) := by decide +kernel
theorem dJ5_append_c97b9_40 : decode cJ5_append_c97b9 40 = .ok (.aload_n 0, 1) := by decide +kernel
theorem dJ5_append_c97b9_41 : decode cJ5_append_c97b9 41 = .ok (.getfield 15, 3) := by decide +kernel
theorem dJ5_append_c97b9_44 : decode cJ5_append_c97b9 44 = .ok (.invokestatic 251, 3) := by decide +kernel
theorem dJ5_append_c97b9_47 : decode cJ5_append_c97b9 47 = .ok (.pop, 1) := by decide +kernel
theorem dJ5_append_c97b9_48 : decode cJ5_append_c97b9 48 = .ok (.aload_n 0, 1) := by decide +kernel
theorem dJ5_append_c97b9_49 : decode cJ5_append_c97b9 49 = .ok (.iload_n 3, 1) := by decide +kernel
theorem dJ5_append_c97b9_50 : decode cJ5_append_c97b9 50 = .ok (.putfield 79, 3) := by decide +kernel
theorem dJ5_append_c97b9_53 : decode cJ5_append_c97b9 53 = .ok (.aload_n 0, 1) := by decide +kernel
theorem dJ5_append_c97b9_54 : decode cJ5_append_c97b9 54 = .ok (.areturn, 1) := by decide +kernel
theorem dJ5_getValue_6d5f1_0 : decode cJ5_getValue_6d5f1 0 = .ok (.aload_n 0, 1) := by decide +kernel
theorem dJ5_getValue_6d5f1_1 : decode cJ5_getValue_6d5f1 1 = .ok (.getfield 15, 3) := by decide +kernel
theorem dJ5_getValue_6d5f1_4 : decode cJ5_getValue_6d5f1 4 = .ok (.areturn, 1) := by decide +kernel
theorem dJ5_isLatin1_aae02_0 : decode cJ5_isLatin1_aae02 0 = .ok (.getstatic 18, 3) := by decide +kernel
theorem dJ5_isLatin1_aae02_3 : decode cJ5_isLatin1_aae02 3 = .ok (.ifCond .eq 14, 3) := by decide +kernel
theorem dJ5_isLatin1_aae02_6 : decode cJ5_isLatin1_aae02 6 = .ok (.aload_n 0, 1) := by decide +kernel
theorem dJ5_isLatin1_aae02_7 : decode cJ5_isLatin1_aae02 7 = .ok (.getfield 22, 3) := by decide +kernel
theorem dJ5_isLatin1_aae02_10 : decode cJ5_isLatin1_aae02 10 = .ok (.ifCond .ne 7, 3) := by decide +kernel
theorem dJ5_isLatin1_aae02_13 : decode cJ5_isLatin1_aae02 13 = .ok (.iconst 1, 1) := by decide +kernel
theorem dJ5_isLatin1_aae02_14 : decode cJ5_isLatin1_aae02 14 = .ok (.goto 4, 3) := by decide +kernel
theorem dJ5_isLatin1_aae02_17 : decode cJ5_isLatin1_aae02 17 = .ok (.iconst 0, 1) := by decide +kernel
theorem dJ5_isLatin1_aae02_18 : decode cJ5_isLatin1_aae02 18 = .ok (.ireturn, 1) := by decide +kernel
theorem dJ5_inflateIfNeededFor_a7421_0 : decode cJ5_inflateIfNeededFor_a7421 0 = .ok (.getstatic 18, 3) := by decide +kernel
theorem dJ5_inflateIfNeededFor_a7421_3 : decode cJ5_inflateIfNeededFor_a7421 3 = .ok (.ifCond .eq 18, 3) := by decide +kernel
theorem dJ5_inflateIfNeededFor_a7421_6 : decode cJ5_inflateIfNeededFor_a7421 6 = .ok (.aload_n 0, 1) := by decide +kernel
theorem dJ5_inflateIfNeededFor_a7421_7 : decode cJ5_inflateIfNeededFor_a7421 7 = .ok (.getfield 22, 3) := by decide +kernel
theorem dJ5_inflateIfNeededFor_a7421_10 : decode cJ5_inflateIfNeededFor_a7421 10 = .ok (.aload_n 1, 1) := by decide +kernel
theorem dJ5_inflateIfNeededFor_a7421_11 : decode cJ5_inflateIfNeededFor_a7421 11 = .ok (.invokevirtual 40, 3) := by decide +kernel
theorem dJ5_inflateIfNeededFor_a7421_14 : decode cJ5_inflateIfNeededFor_a7421 14 = .ok (.if_icmp .eq 7, 3) := by decide +kernel
theorem dJ5_inflateIfNeededFor_a7421_17 : decode cJ5_inflateIfNeededFor_a7421 17 = .ok (.aload_n 0, 1) := by decide +kernel
theorem dJ5_inflateIfNeededFor_a7421_18 : decode cJ5_inflateIfNeededFor_a7421 18 = .ok (.invokevirtual 195, 3) := by decide +kernel
theorem dJ5_inflateIfNeededFor_a7421_21 : decode cJ5_inflateIfNeededFor_a7421 21 = .ok (.return_, 1) := by decide +kernel
theorem dJ5_putStringAt_47b60_0 : decode cJ5_putStringAt_47b60 0 = .ok (.aload_n 0, 1) := by decide +kernel
theorem dJ5_putStringAt_47b60_1 : decode cJ5_putStringAt_47b60 1 = .ok (.aload_n 2, 1) := by decide +kernel
theorem dJ5_putStringAt_47b60_2 : decode cJ5_putStringAt_47b60 2 = .ok (.invokevirtual 397, 3) := by decide +kernel
theorem dJ5_putStringAt_47b60_5 : decode cJ5_putStringAt_47b60 5 = .ok (.aload_n 2, 1) := by decide +kernel
theorem dJ5_putStringAt_47b60_6 : decode cJ5_putStringAt_47b60 6 = .ok (.aload_n 0, 1) := by decide +kernel
theorem dJ5_putStringAt_47b60_7 : decode cJ5_putStringAt_47b60 7 = .ok (.getfield 15, 3) := by decide +kernel
theorem dJ5_putStringAt_47b60_10 : decode cJ5_putStringAt_47b60 10 = .ok (.iload_n 1, 1) := by decide +kernel
theorem dJ5_putStringAt_47b60_11 : decode cJ5_putStringAt_47b60 11 = .ok (.aload_n 0, 1) := by decide +kernel
theorem dJ5_putStringAt_47b60_12 : decode cJ5_putStringAt_47b60 12 = .ok (.getfield 22, 3) := by decide +kernel
theorem dJ5_putStringAt_47b60_15 : decode cJ5_putStringAt_47b60 15 = .ok (.invokevirtual 399, 3) := by decide +kernel
theorem dJ5_putStringAt_47b60_18 : decode cJ5_putStringAt_47b60 18 = .ok (.return_, 1) := by decide +kernel
theorem dJx00060_init_a7421_0 : decode cJx00060_init_a7421 0 = .ok (.aload_n 0, 1) := by decide +kernel
theorem dJx00060_init_a7421_1 : decode cJx00060_init_a7421 1 = .ok (.aload_n 1, 1) := by decide +kernel
theorem dJx00060_init_a7421_2 : decode cJx00060_init_a7421 2 = .ok (.invokespecial 7, 3) := by decide +kernel
theorem dJx00060_init_a7421_5 : decode cJx00060_init_a7421 5 = .ok (.return_, 1) := by decide +kernel
theorem dJx00060_init_d00df_0 : decode cJx00060_init_d00df 0 = .ok (.aload_n 0, 1) := by decide +kernel
theorem dJx00060_init_d00df_1 : decode cJx00060_init_d00df 1 = .ok (.new 10, 3) := by decide +kernel
theorem dJx00060_init_d00df_4 : decode cJx00060_init_d00df 4 = .ok (.dup, 1) := by decide +kernel
theorem dJx00060_init_d00df_5 : decode cJx00060_init_d00df 5 = .ok (.invokespecial 12, 3) := by decide +kernel
theorem dJx00060_init_d00df_8 : decode cJx00060_init_d00df 8 = .ok (.ldc 13, 2) := by decide +kernel
theorem dJx00060_init_d00df_10 : decode cJx00060_init_d00df 10 = .ok (.invokevirtual 15, 3) := by decide +kernel
theorem dJx00060_init_d00df_13 : decode cJx00060_init_d00df 13 = .ok (.iload_n 1, 1) := by decide +kernel
theorem dJx00060_init_d00df_14 : decode cJx00060_init_d00df 14 = .ok (.invokevirtual 19, 3) := by decide +kernel
theorem dJx00060_init_d00df_17 : decode cJx00060_init_d00df 17 = .ok (.invokevirtual 22, 3) := by decide +kernel
theorem dJx00060_init_d00df_20 : decode cJx00060_init_d00df 20 = .ok (.invokespecial 7, 3) := by decide +kernel
theorem dJx00060_init_d00df_23 : decode cJx00060_init_d00df 23 = .ok (.return_, 1) := by decide +kernel
theorem dJx29ce0_ordinal_8abf5_0 : decode cJx29ce0_ordinal_8abf5 0 = .ok (.aload_n 0, 1) := by decide +kernel
theorem dJx29ce0_ordinal_8abf5_1 : decode cJx29ce0_ordinal_8abf5 1 = .ok (.getfield 7, 3) := by decide +kernel
theorem dJx29ce0_ordinal_8abf5_4 : decode cJx29ce0_ordinal_8abf5 4 = .ok (.ireturn, 1) := by decide +kernel
theorem dJx29ce0_toString_0e30d_0 : decode cJx29ce0_toString_0e30d 0 = .ok (.aload_n 0, 1) := by decide +kernel
theorem dJx29ce0_toString_0e30d_1 : decode cJx29ce0_toString_0e30d 1 = .ok (.getfield 1, 3) := by decide +kernel
theorem dJx29ce0_toString_0e30d_4 : decode cJx29ce0_toString_0e30d 4 = .ok (.areturn, 1) := by decide +kernel
theorem dJ6_getChars_ba4f3_0 : decode cJ6_getChars_ba4f3 0 = .ok (.iload_n 1, 1) := by decide +kernel
theorem dJ6_getChars_ba4f3_1 : decode cJ6_getChars_ba4f3 1 = .ok (.istore 5, 2) := by decide +kernel
theorem dJ6_getChars_ba4f3_3 : decode cJ6_getChars_ba4f3 3 = .ok (.iload_n 0, 1) := by decide +kernel
theorem dJ6_getChars_ba4f3_4 : decode cJ6_getChars_ba4f3 4 = .ok (.ifCond .ge 7, 3) := by decide +kernel
theorem dJ6_getChars_ba4f3_7 : decode cJ6_getChars_ba4f3 7 = .ok (.iconst 1, 1) := by decide +kernel
theorem dJ6_getChars_ba4f3_8 : decode cJ6_getChars_ba4f3 8 = .ok (.goto 4, 3) := by decide +kernel
theorem dJ6_getChars_ba4f3_11 : decode cJ6_getChars_ba4f3 11 = .ok (.iconst 0, 1) := by decide +kernel
theorem dJ6_getChars_ba4f3_12 : decode cJ6_getChars_ba4f3 12 = .ok (.istore 6, 2) := by decide +kernel
theorem dJ6_getChars_ba4f3_14 : decode cJ6_getChars_ba4f3 14 = .ok (.iload 6, 2) := by decide +kernel
theorem dJ6_getChars_ba4f3_16 : decode cJ6_getChars_ba4f3 16 = .ok (.ifCond .ne 6, 3) := by decide +kernel
theorem dJ6_getChars_ba4f3_19 : decode cJ6_getChars_ba4f3 19 = .ok (.iload_n 0, 1) := by decide +kernel
theorem dJ6_getChars_ba4f3_20 : decode cJ6_getChars_ba4f3 20 = .ok (.ineg, 1) := by decide +kernel
theorem dJ6_getChars_ba4f3_21 : decode cJ6_getChars_ba4f3 21 = .ok (.istore_n 0, 1) := by decide +kernel
theorem dJ6_getChars_ba4f3_22 : decode cJ6_getChars_ba4f3 22 = .ok (.iload_n 0, 1) := by decide +kernel
theorem dJ6_getChars_ba4f3_23 : decode cJ6_getChars_ba4f3 23 = .ok (.bipush (-100), 2) := by decide +kernel
theorem dJ6_getChars_ba4f3_25 : decode cJ6_getChars_ba4f3 25 = .ok (.if_icmp .gt 47, 3) := by decide +kernel
theorem dJ6_getChars_ba4f3_28 : decode cJ6_getChars_ba4f3 28 = .ok (.iload_n 0, 1) := by decide +kernel
theorem dJ6_getChars_ba4f3_29 : decode cJ6_getChars_ba4f3 29 = .ok (.bipush 100, 2) := by decide +kernel
theorem dJ6_getChars_ba4f3_31 : decode cJ6_getChars_ba4f3 31 = .ok (.idiv, 1) := by decide +kernel
theorem dJ6_getChars_ba4f3_32 : decode cJ6_getChars_ba4f3 32 = .ok (.istore_n 3, 1) := by decide +kernel
theorem dJ6_getChars_ba4f3_33 : decode cJ6_getChars_ba4f3 33 = .ok (.iload_n 3, 1) := by decide +kernel
theorem dJ6_getChars_ba4f3_34 : decode cJ6_getChars_ba4f3 34 = .ok (.bipush 100, 2) := by decide +kernel
theorem dJ6_getChars_ba4f3_36 : decode cJ6_getChars_ba4f3 36 = .ok (.imul, 1) := by decide +kernel
theorem dJ6_getChars_ba4f3_37 : decode cJ6_getChars_ba4f3 37 = .ok (.iload_n 0, 1) := by decide +kernel
theorem dJ6_getChars_ba4f3_38 : decode cJ6_getChars_ba4f3 38 = .ok (.isub, 1) := by decide +kernel
theorem dJ6_getChars_ba4f3_39 : decode cJ6_getChars_ba4f3 39 = .ok (.istore 4, 2) := by decide +kernel
theorem dJ6_getChars_ba4f3_41 : decode cJ6_getChars_ba4f3 41 = .ok (.iload_n 3, 1) := by decide +kernel
theorem dJ6_getChars_ba4f3_42 : decode cJ6_getChars_ba4f3 42 = .ok (.istore_n 0, 1) := by decide +kernel
theorem dJ6_getChars_ba4f3_43 : decode cJ6_getChars_ba4f3 43 = .ok (.aload_n 2, 1) := by decide +kernel
theorem dJ6_getChars_ba4f3_44 : decode cJ6_getChars_ba4f3 44 = .ok (.iinc 5 (-1), 3) := by decide +kernel
theorem dJ6_getChars_ba4f3_47 : decode cJ6_getChars_ba4f3 47 = .ok (.iload 5, 2) := by decide +kernel
theorem dJ6_getChars_ba4f3_49 : decode cJ6_getChars_ba4f3 49 = .ok (.getstatic 83, 3) := by decide +kernel
theorem dJ6_getChars_ba4f3_52 : decode cJ6_getChars_ba4f3 52 = .ok (.iload 4, 2) := by decide +kernel
theorem dJ6_getChars_ba4f3_54 : decode cJ6_getChars_ba4f3 54 = .ok (.baload, 1) := by decide +kernel
theorem dJ6_getChars_ba4f3_55 : decode cJ6_getChars_ba4f3 55 = .ok (.bastore, 1) := by decide +kernel
theorem dJ6_getChars_ba4f3_56 : decode cJ6_getChars_ba4f3 56 = .ok (.aload_n 2, 1) := by decide +kernel
theorem dJ6_getChars_ba4f3_57 : decode cJ6_getChars_ba4f3 57 = .ok (.iinc 5 (-1), 3) := by decide +kernel
theorem dJ6_getChars_ba4f3_60 : decode cJ6_getChars_ba4f3 60 = .ok (.iload 5, 2) := by decide +kernel
theorem dJ6_getChars_ba4f3_62 : decode cJ6_getChars_ba4f3 62 = .ok (.getstatic 87, 3) := by decide +kernel
theorem dJ6_getChars_ba4f3_65 : decode cJ6_getChars_ba4f3 65 = .ok (.iload 4, 2) := by decide +kernel
theorem dJ6_getChars_ba4f3_67 : decode cJ6_getChars_ba4f3 67 = .ok (.baload, 1) := by decide +kernel
theorem dJ6_getChars_ba4f3_68 : decode cJ6_getChars_ba4f3 68 = .ok (.bastore, 1) := by decide +kernel
theorem dJ6_getChars_ba4f3_69 : decode cJ6_getChars_ba4f3 69 = .ok (.goto (-47), 3) := by decide +kernel
theorem dJ6_getChars_ba4f3_72 : decode cJ6_getChars_ba4f3 72 = .ok (.aload_n 2, 1) := by decide +kernel
theorem dJ6_getChars_ba4f3_73 : decode cJ6_getChars_ba4f3 73 = .ok (.iinc 5 (-1), 3) := by decide +kernel
theorem dJ6_getChars_ba4f3_76 : decode cJ6_getChars_ba4f3 76 = .ok (.iload 5, 2) := by decide +kernel
theorem dJ6_getChars_ba4f3_78 : decode cJ6_getChars_ba4f3 78 = .ok (.getstatic 83, 3) := by decide +kernel
theorem dJ6_getChars_ba4f3_81 : decode cJ6_getChars_ba4f3 81 = .ok (.iload_n 0, 1) := by decide +kernel
theorem dJ6_getChars_ba4f3_82 : decode cJ6_getChars_ba4f3 82 = .ok (.ineg, 1) := by decide +kernel
theorem dJ6_getChars_ba4f3_83 : decode cJ6_getChars_ba4f3 83 = .ok (.baload, 1) := by decide +kernel
theorem dJ6_getChars_ba4f3_84 : decode cJ6_getChars_ba4f3 84 = .ok (.bastore, 1) := by decide +kernel
theorem dJ6_getChars_ba4f3_85 : decode cJ6_getChars_ba4f3 85 = .ok (.iload_n 0, 1) := by decide +kernel
theorem dJ6_getChars_ba4f3_86 : decode cJ6_getChars_ba4f3 86 = .ok (.bipush (-9), 2) := by decide +kernel
theorem dJ6_getChars_ba4f3_88 : decode cJ6_getChars_ba4f3 88 = .ok (.if_icmp .ge 16, 3) := by decide +kernel
theorem dJ6_getChars_ba4f3_91 : decode cJ6_getChars_ba4f3 91 = .ok (.aload_n 2, 1) := by decide +kernel
theorem dJ6_getChars_ba4f3_92 : decode cJ6_getChars_ba4f3 92 = .ok (.iinc 5 (-1), 3) := by decide +kernel
theorem dJ6_getChars_ba4f3_95 : decode cJ6_getChars_ba4f3 95 = .ok (.iload 5, 2) := by decide +kernel
theorem dJ6_getChars_ba4f3_97 : decode cJ6_getChars_ba4f3 97 = .ok (.getstatic 87, 3) := by decide +kernel
theorem dJ6_getChars_ba4f3_100 : decode cJ6_getChars_ba4f3 100 = .ok (.iload_n 0, 1) := by decide +kernel
theorem dJ6_getChars_ba4f3_101 : decode cJ6_getChars_ba4f3 101 = .ok (.ineg, 1) := by decide +kernel
theorem dJ6_getChars_ba4f3_102 : decode cJ6_getChars_ba4f3 102 = .ok (.baload, 1) := by decide +kernel
theorem dJ6_getChars_ba4f3_103 : decode cJ6_getChars_ba4f3 103 = .ok (.bastore, 1) := by decide +kernel
theorem dJ6_getChars_ba4f3_104 : decode cJ6_getChars_ba4f3 104 = .ok (.iload 6, 2) := by decide +kernel
theorem dJ6_getChars_ba4f3_106 : decode cJ6_getChars_ba4f3 106 = .ok (.ifCond .eq 12, 3) := by decide +kernel
theorem dJ6_getChars_ba4f3_109 : decode cJ6_getChars_ba4f3 109 = .ok (.aload_n 2, 1) := by decide +kernel
theorem dJ6_getChars_ba4f3_110 : decode cJ6_getChars_ba4f3 110 = .ok (.iinc 5 (-1), 3) := by decide +kernel
theorem dJ6_getChars_ba4f3_113 : decode cJ6_getChars_ba4f3 113 = .ok (.iload 5, 2) := by decide +kernel
theorem dJ6_getChars_ba4f3_115 : decode cJ6_getChars_ba4f3 115 = .ok (.bipush 45, 2) := by decide +kernel
theorem dJ6_getChars_ba4f3_117 : decode cJ6_getChars_ba4f3 117 = .ok (.bastore, 1) := by decide +kernel
theorem dJ6_getChars_ba4f3_118 : decode cJ6_getChars_ba4f3 118 = .ok (.iload 5, 2) := by decide +kernel
theorem dJ6_getChars_ba4f3_120 : decode cJ6_getChars_ba4f3 120 = .ok (.ireturn, 1) := by decide +kernel
theorem dJ6_stringSize_0f7a4_0 : decode cJ6_stringSize_0f7a4 0 = .ok (.iconst 1, 1) := by decide +kernel
theorem dJ6_stringSize_0f7a4_1 : decode cJ6_stringSize_0f7a4 1 = .ok (.istore_n 1, 1) := by decide +kernel
theorem dJ6_stringSize_0f7a4_2 : decode cJ6_stringSize_0f7a4 2 = .ok (.iload_n 0, 1) := by decide +kernel
theorem dJ6_stringSize_0f7a4_3 : decode cJ6_stringSize_0f7a4 3 = .ok (.ifCond .lt 8, 3) := by decide +kernel
theorem dJ6_stringSize_0f7a4_6 : decode cJ6_stringSize_0f7a4 6 = .ok (.iconst 0, 1) := by decide +kernel
theorem dJ6_stringSize_0f7a4_7 : decode cJ6_stringSize_0f7a4 7 = .ok (.istore_n 1, 1) := by decide +kernel
theorem dJ6_stringSize_0f7a4_8 : decode cJ6_stringSize_0f7a4 8 = .ok (.iload_n 0, 1) := by decide +kernel
theorem dJ6_stringSize_0f7a4_9 : decode cJ6_stringSize_0f7a4 9 = .ok (.ineg, 1) := by decide +kernel
theorem dJ6_stringSize_0f7a4_10 : decode cJ6_stringSize_0f7a4 10 = .ok (.istore_n 0, 1) := by decide +kernel
theorem dJ6_stringSize_0f7a4_11 : decode cJ6_stringSize_0f7a4 11 = .ok (.bipush (-10), 2) := by decide +kernel
theorem dJ6_stringSize_0f7a4_13 : decode cJ6_stringSize_0f7a4 13 = .ok (.istore_n 2, 1) := by decide +kernel
theorem dJ6_stringSize_0f7a4_14 : decode cJ6_stringSize_0f7a4 14 = .ok (.iconst 1, 1) := by decide +kernel
theorem dJ6_stringSize_0f7a4_15 : decode cJ6_stringSize_0f7a4 15 = .ok (.istore_n 3, 1) := by decide +kernel
theorem dJ6_stringSize_0f7a4_16 : decode cJ6_stringSize_0f7a4 16 = .ok (.iload_n 3, 1) := by decide +kernel
theorem dJ6_stringSize_0f7a4_17 : decode cJ6_stringSize_0f7a4 17 = .ok (.bipush 10, 2) := by decide +kernel
theorem dJ6_stringSize_0f7a4_19 : decode cJ6_stringSize_0f7a4 19 = .ok (.if_icmp .ge 23, 3) := by decide +kernel
theorem dJ6_stringSize_0f7a4_22 : decode cJ6_stringSize_0f7a4 22 = .ok (.iload_n 0, 1) := by decide +kernel
theorem dJ6_stringSize_0f7a4_23 : decode cJ6_stringSize_0f7a4 23 = .ok (.iload_n 2, 1) := by decide +kernel
theorem dJ6_stringSize_0f7a4_24 : decode cJ6_stringSize_0f7a4 24 = .ok (.if_icmp .le 7, 3) := by decide +kernel
theorem dJ6_stringSize_0f7a4_27 : decode cJ6_stringSize_0f7a4 27 = .ok (.iload_n 3, 1) := by decide +kernel
theorem dJ6_stringSize_0f7a4_28 : decode cJ6_stringSize_0f7a4 28 = .ok (.iload_n 1, 1) := by decide +kernel
theorem dJ6_stringSize_0f7a4_29 : decode cJ6_stringSize_0f7a4 29 = .ok (.iadd, 1) := by decide +kernel
theorem dJ6_stringSize_0f7a4_30 : decode cJ6_stringSize_0f7a4 30 = .ok (.ireturn, 1) := by decide +kernel
theorem dJ6_stringSize_0f7a4_31 : decode cJ6_stringSize_0f7a4 31 = .ok (.bipush 10, 2) := by decide +kernel
theorem dJ6_stringSize_0f7a4_33 : decode cJ6_stringSize_0f7a4 33 = .ok (.iload_n 2, 1) := by decide +kernel
theorem dJ6_stringSize_0f7a4_34 : decode cJ6_stringSize_0f7a4 34 = .ok (.imul, 1) := by decide +kernel
theorem dJ6_stringSize_0f7a4_35 : decode cJ6_stringSize_0f7a4 35 = .ok (.istore_n 2, 1) := by decide +kernel
theorem dJ6_stringSize_0f7a4_36 : decode cJ6_stringSize_0f7a4 36 = .ok (.iinc 3 1, 3) := by decide +kernel
theorem dJ6_stringSize_0f7a4_39 : decode cJ6_stringSize_0f7a4 39 = .ok (.goto (-23), 3) := by decide +kernel
theorem dJ6_stringSize_0f7a4_42 : decode cJ6_stringSize_0f7a4 42 = .ok (.bipush 10, 2) := by decide +kernel
theorem dJ6_stringSize_0f7a4_44 : decode cJ6_stringSize_0f7a4 44 = .ok (.iload_n 1, 1) := by decide +kernel
theorem dJ6_stringSize_0f7a4_45 : decode cJ6_stringSize_0f7a4 45 = .ok (.iadd, 1) := by decide +kernel
theorem dJ6_stringSize_0f7a4_46 : decode cJ6_stringSize_0f7a4 46 = .ok (.ireturn, 1) := by decide +kernel
theorem dJ6_bitCount_0f7a4_0 : decode cJ6_bitCount_0f7a4 0 = .ok (.iload_n 0, 1) := by decide +kernel
theorem dJ6_bitCount_0f7a4_1 : decode cJ6_bitCount_0f7a4 1 = .ok (.iload_n 0, 1) := by decide +kernel
theorem dJ6_bitCount_0f7a4_2 : decode cJ6_bitCount_0f7a4 2 = .ok (.iconst 1, 1) := by decide +kernel
theorem dJ6_bitCount_0f7a4_3 : decode cJ6_bitCount_0f7a4 3 = .ok (.iushr, 1) := by decide +kernel
theorem dJ6_bitCount_0f7a4_4 : decode cJ6_bitCount_0f7a4 4 = .ok (.ldc_w 265, 3) := by decide +kernel
theorem dJ6_bitCount_0f7a4_7 : decode cJ6_bitCount_0f7a4 7 = .ok (.iand, 1) := by decide +kernel
theorem dJ6_bitCount_0f7a4_8 : decode cJ6_bitCount_0f7a4 8 = .ok (.isub, 1) := by decide +kernel
theorem dJ6_bitCount_0f7a4_9 : decode cJ6_bitCount_0f7a4 9 = .ok (.istore_n 0, 1) := by decide +kernel
theorem dJ6_bitCount_0f7a4_10 : decode cJ6_bitCount_0f7a4 10 = .ok (.iload_n 0, 1) := by decide +kernel
theorem dJ6_bitCount_0f7a4_11 : decode cJ6_bitCount_0f7a4 11 = .ok (.ldc_w 266, 3) := by decide +kernel
theorem dJ6_bitCount_0f7a4_14 : decode cJ6_bitCount_0f7a4 14 = .ok (.iand, 1) := by decide +kernel
theorem dJ6_bitCount_0f7a4_15 : decode cJ6_bitCount_0f7a4 15 = .ok (.iload_n 0, 1) := by decide +kernel
theorem dJ6_bitCount_0f7a4_16 : decode cJ6_bitCount_0f7a4 16 = .ok (.iconst 2, 1) := by decide +kernel
theorem dJ6_bitCount_0f7a4_17 : decode cJ6_bitCount_0f7a4 17 = .ok (.iushr, 1) := by decide +kernel
theorem dJ6_bitCount_0f7a4_18 : decode cJ6_bitCount_0f7a4 18 = .ok (.ldc_w 266, 3) := by decide +kernel
theorem dJ6_bitCount_0f7a4_21 : decode cJ6_bitCount_0f7a4 21 = .ok (.iand, 1) := by decide +kernel
theorem dJ6_bitCount_0f7a4_22 : decode cJ6_bitCount_0f7a4 22 = .ok (.iadd, 1) := by decide +kernel
theorem dJ6_bitCount_0f7a4_23 : decode cJ6_bitCount_0f7a4 23 = .ok (.istore_n 0, 1) := by decide +kernel
theorem dJ6_bitCount_0f7a4_24 : decode cJ6_bitCount_0f7a4 24 = .ok (.iload_n 0, 1) := by decide +kernel
theorem dJ6_bitCount_0f7a4_25 : decode cJ6_bitCount_0f7a4 25 = .ok (.iload_n 0, 1) := by decide +kernel
theorem dJ6_bitCount_0f7a4_26 : decode cJ6_bitCount_0f7a4 26 = .ok (.iconst 4, 1) := by decide +kernel
theorem dJ6_bitCount_0f7a4_27 : decode cJ6_bitCount_0f7a4 27 = .ok (.iushr, 1) := by decide +kernel
theorem dJ6_bitCount_0f7a4_28 : decode cJ6_bitCount_0f7a4 28 = .ok (.iadd, 1) := by decide +kernel
theorem dJ6_bitCount_0f7a4_29 : decode cJ6_bitCount_0f7a4 29 = .ok (.ldc_w 267, 3) := by decide +kernel
theorem dJ6_bitCount_0f7a4_32 : decode cJ6_bitCount_0f7a4 32 = .ok (.iand, 1) := by decide +kernel
theorem dJ6_bitCount_0f7a4_33 : decode cJ6_bitCount_0f7a4 33 = .ok (.istore_n 0, 1) := by decide +kernel
theorem dJ6_bitCount_0f7a4_34 : decode cJ6_bitCount_0f7a4 34 = .ok (.iload_n 0, 1) := by decide +kernel
theorem dJ6_bitCount_0f7a4_35 : decode cJ6_bitCount_0f7a4 35 = .ok (.iload_n 0, 1) := by decide +kernel
theorem dJ6_bitCount_0f7a4_36 : decode cJ6_bitCount_0f7a4 36 = .ok (.bipush 8, 2) := by decide +kernel
theorem dJ6_bitCount_0f7a4_38 : decode cJ6_bitCount_0f7a4 38 = .ok (.iushr, 1) := by decide +kernel
theorem dJ6_bitCount_0f7a4_39 : decode cJ6_bitCount_0f7a4 39 = .ok (.iadd, 1) := by decide +kernel
theorem dJ6_bitCount_0f7a4_40 : decode cJ6_bitCount_0f7a4 40 = .ok (.istore_n 0, 1) := by decide +kernel
theorem dJ6_bitCount_0f7a4_41 : decode cJ6_bitCount_0f7a4 41 = .ok (.iload_n 0, 1) := by decide +kernel
theorem dJ6_bitCount_0f7a4_42 : decode cJ6_bitCount_0f7a4 42 = .ok (.iload_n 0, 1) := by decide +kernel
theorem dJ6_bitCount_0f7a4_43 : decode cJ6_bitCount_0f7a4 43 = .ok (.bipush 16, 2) := by decide +kernel
theorem dJ6_bitCount_0f7a4_45 : decode cJ6_bitCount_0f7a4 45 = .ok (.iushr, 1) := by decide +kernel
theorem dJ6_bitCount_0f7a4_46 : decode cJ6_bitCount_0f7a4 46 = .ok (.iadd, 1) := by decide +kernel
theorem dJ6_bitCount_0f7a4_47 : decode cJ6_bitCount_0f7a4 47 = .ok (.istore_n 0, 1) := by decide +kernel
theorem dJ6_bitCount_0f7a4_48 : decode cJ6_bitCount_0f7a4 48 = .ok (.iload_n 0, 1) := by decide +kernel
theorem dJ6_bitCount_0f7a4_49 : decode cJ6_bitCount_0f7a4 49 = .ok (.bipush 63, 2) := by decide +kernel
theorem dJ6_bitCount_0f7a4_51 : decode cJ6_bitCount_0f7a4 51 = .ok (.iand, 1) := by decide +kernel
theorem dJ6_bitCount_0f7a4_52 : decode cJ6_bitCount_0f7a4 52 = .ok (.ireturn, 1) := by decide +kernel
theorem dJ9_max_7cf53_0 : decode cJ9_max_7cf53 0 = .ok (.iload_n 0, 1) := by decide +kernel
theorem dJ9_max_7cf53_1 : decode cJ9_max_7cf53 1 = .ok (.iload_n 1, 1) := by decide +kernel
theorem dJ9_max_7cf53_2 : decode cJ9_max_7cf53 2 = .ok (.if_icmp .lt 7, 3) := by decide +kernel
theorem dJ9_max_7cf53_5 : decode cJ9_max_7cf53 5 = .ok (.iload_n 0, 1) := by decide +kernel
theorem dJ9_max_7cf53_6 : decode cJ9_max_7cf53 6 = .ok (.goto 4, 3) := by decide +kernel
theorem dJ9_max_7cf53_9 : decode cJ9_max_7cf53 9 = .ok (.iload_n 1, 1) := by decide +kernel
theorem dJ9_max_7cf53_10 : decode cJ9_max_7cf53 10 = .ok (.ireturn, 1) := by decide +kernel
theorem dJ9_min_7cf53_0 : decode cJ9_min_7cf53 0 = .ok (.iload_n 0, 1) := by decide +kernel
theorem dJ9_min_7cf53_1 : decode cJ9_min_7cf53 1 = .ok (.iload_n 1, 1) := by decide +kernel
theorem dJ9_min_7cf53_2 : decode cJ9_min_7cf53 2 = .ok (.if_icmp .gt 7, 3) := by decide +kernel
theorem dJ9_min_7cf53_5 : decode cJ9_min_7cf53 5 = .ok (.iload_n 0, 1) := by decide +kernel
theorem dJ9_min_7cf53_6 : decode cJ9_min_7cf53 6 = .ok (.goto 4, 3) := by decide +kernel
theorem dJ9_min_7cf53_9 : decode cJ9_min_7cf53 9 = .ok (.iload_n 1, 1) := by decide +kernel
theorem dJ9_min_7cf53_10 : decode cJ9_min_7cf53 10 = .ok (.ireturn, 1) := by decide +kernel
theorem dJ0_init_81219_0 : decode cJ0_init_81219 0 = .ok (.aload_n 0, 1) := by decide +kernel
theorem dJ0_init_81219_1 : decode cJ0_init_81219 1 = .ok (.aload_n 1, 1) := by decide +kernel
theorem dJ0_init_81219_2 : decode cJ0_init_81219 2 = .ok (.aconst_null, 1) := by decide +kernel
theorem dJ0_init_81219_3 : decode cJ0_init_81219 3 = .ok (.invokespecial 489, 3) := by decide +kernel
theorem dJ0_init_81219_6 : decode cJ0_init_81219 6 = .ok (.return_, 1) := by decide +kernel
theorem dJ0_length_8abf5_0 : decode cJ0_length_8abf5 0 = .ok (.aload_n 0, 1) := by decide +kernel
theorem dJ0_length_8abf5_1 : decode cJ0_length_8abf5 1 = .ok (.getfield 9, 3) := by decide +kernel
theorem dJ0_length_8abf5_4 : decode cJ0_length_8abf5 4 = .ok (.arraylength, 1) := by decide +kernel
theorem dJ0_length_8abf5_5 : decode cJ0_length_8abf5 5 = .ok (.aload_n 0, 1) := by decide +kernel
theorem dJ0_length_8abf5_6 : decode cJ0_length_8abf5 6 = .ok (.invokevirtual 335, 3) := by decide +kernel
theorem dJ0_length_8abf5_9 : decode cJ0_length_8abf5 9 = .ok (.ishr, 1) := by decide +kernel
theorem dJ0_length_8abf5_10 : decode cJ0_length_8abf5 10 = .ok (.ireturn, 1) := by decide +kernel
theorem dJ0_charAt_5068e_0 : decode cJ0_charAt_5068e 0 = .ok (.aload_n 0, 1) := by decide +kernel
theorem dJ0_charAt_5068e_1 : decode cJ0_charAt_5068e 1 = .ok (.invokevirtual 492, 3) := by decide +kernel
theorem dJ0_charAt_5068e_4 : decode cJ0_charAt_5068e 4 = .ok (.ifCond .eq 12, 3) := by decide +kernel
theorem dJ0_charAt_5068e_7 : decode cJ0_charAt_5068e 7 = .ok (.aload_n 0, 1) := by decide +kernel
theorem dJ0_charAt_5068e_8 : decode cJ0_charAt_5068e 8 = .ok (.getfield 9, 3) := by decide +kernel
theorem dJ0_charAt_5068e_11 : decode cJ0_charAt_5068e 11 = .ok (.iload_n 1, 1) := by decide +kernel
theorem dJ0_charAt_5068e_12 : decode cJ0_charAt_5068e 12 = .ok (.invokestatic 495, 3) := by decide +kernel
theorem dJ0_charAt_5068e_15 : decode cJ0_charAt_5068e 15 = .ok (.ireturn, 1) := by decide +kernel
theorem dJ0_charAt_5068e_16 : decode cJ0_charAt_5068e 16 = .ok (.aload_n 0, 1) := by decide +kernel
theorem dJ0_charAt_5068e_17 : decode cJ0_charAt_5068e 17 = .ok (.getfield 9, 3) := by decide +kernel
theorem dJ0_charAt_5068e_20 : decode cJ0_charAt_5068e 20 = .ok (.iload_n 1, 1) := by decide +kernel
theorem dJ0_charAt_5068e_21 : decode cJ0_charAt_5068e 21 = .ok (.invokestatic 498, 3) := by decide +kernel
theorem dJ0_charAt_5068e_24 : decode cJ0_charAt_5068e 24 = .ok (.ireturn, 1) := by decide +kernel
theorem dJ0_equals_9ea2d_0 : decode cJ0_equals_9ea2d 0 = .ok (.aload_n 0, 1) := by decide +kernel
theorem dJ0_equals_9ea2d_1 : decode cJ0_equals_9ea2d 1 = .ok (.aload_n 1, 1) := by decide +kernel
theorem dJ0_equals_9ea2d_2 : decode cJ0_equals_9ea2d 2 = .ok (.if_acmp .ne 5, 3) := by decide +kernel
theorem dJ0_equals_9ea2d_5 : decode cJ0_equals_9ea2d 5 = .ok (.iconst 1, 1) := by decide +kernel
theorem dJ0_equals_9ea2d_6 : decode cJ0_equals_9ea2d 6 = .ok (.ireturn, 1) := by decide +kernel
theorem dJ0_equals_9ea2d_7 : decode cJ0_equals_9ea2d 7 = .ok (.aload_n 1, 1) := by decide +kernel
theorem dJ0_equals_9ea2d_8 : decode cJ0_equals_9ea2d 8 = .ok (.instanceof 10, 3) := by decide +kernel
theorem dJ0_equals_9ea2d_11 : decode cJ0_equals_9ea2d 11 = .ok (.ifCond .eq 43, 3) := by decide +kernel
theorem dJ0_equals_9ea2d_14 : decode cJ0_equals_9ea2d 14 = .ok (.aload_n 1, 1) := by decide +kernel
theorem dJ0_equals_9ea2d_15 : decode cJ0_equals_9ea2d 15 = .ok (.checkcast 10, 3) := by decide +kernel
theorem dJ0_equals_9ea2d_18 : decode cJ0_equals_9ea2d 18 = .ok (.astore_n 2, 1) := by decide +kernel
theorem dJ0_equals_9ea2d_19 : decode cJ0_equals_9ea2d 19 = .ok (.getstatic 38, 3) := by decide +kernel
theorem dJ0_equals_9ea2d_22 : decode cJ0_equals_9ea2d 22 = .ok (.ifCond .eq 14, 3) := by decide +kernel
theorem dJ0_equals_9ea2d_25 : decode cJ0_equals_9ea2d 25 = .ok (.aload_n 0, 1) := by decide +kernel
theorem dJ0_equals_9ea2d_26 : decode cJ0_equals_9ea2d 26 = .ok (.getfield 15, 3) := by decide +kernel
theorem dJ0_equals_9ea2d_29 : decode cJ0_equals_9ea2d 29 = .ok (.aload_n 2, 1) := by decide +kernel
theorem dJ0_equals_9ea2d_30 : decode cJ0_equals_9ea2d 30 = .ok (.getfield 15, 3) := by decide +kernel
theorem dJ0_equals_9ea2d_33 : decode cJ0_equals_9ea2d 33 = .ok (.if_icmp .ne 21, 3) := by decide +kernel
theorem dJ0_equals_9ea2d_36 : decode cJ0_equals_9ea2d 36 = .ok (.aload_n 0, 1) := by decide +kernel
theorem dJ0_equals_9ea2d_37 : decode cJ0_equals_9ea2d 37 = .ok (.getfield 9, 3) := by decide +kernel
theorem dJ0_equals_9ea2d_40 : decode cJ0_equals_9ea2d 40 = .ok (.aload_n 2, 1) := by decide +kernel
theorem dJ0_equals_9ea2d_41 : decode cJ0_equals_9ea2d 41 = .ok (.getfield 9, 3) := by decide +kernel
theorem dJ0_equals_9ea2d_44 : decode cJ0_equals_9ea2d 44 = .ok (.invokestatic 541, 3) := by decide +kernel
theorem dJ0_equals_9ea2d_47 : decode cJ0_equals_9ea2d 47 = .ok (.ifCond .eq 7, 3) := by decide +kernel
theorem dJ0_equals_9ea2d_50 : decode cJ0_equals_9ea2d 50 = .ok (.iconst 1, 1) := by decide +kernel
theorem dJ0_equals_9ea2d_51 : decode cJ0_equals_9ea2d 51 = .ok (.goto 4, 3) := by decide +kernel
theorem dJ0_equals_9ea2d_54 : decode cJ0_equals_9ea2d 54 = .ok (.iconst 0, 1) := by decide +kernel
theorem dJ0_equals_9ea2d_55 : decode cJ0_equals_9ea2d 55 = .ok (.ireturn, 1) := by decide +kernel
theorem dJ0_toString_0e30d_0 : decode cJ0_toString_0e30d 0 = .ok (.aload_n 0, 1) := by decide +kernel
theorem dJ0_toString_0e30d_1 : decode cJ0_toString_0e30d 1 = .ok (.areturn, 1) := by decide +kernel
theorem dJ0_valueOf_8a030_0 : decode cJ0_valueOf_8a030 0 = .ok (.aload_n 0, 1) := by decide +kernel
theorem dJ0_valueOf_8a030_1 : decode cJ0_valueOf_8a030 1 = .ok (.ifnonnull 9, 3) := by decide +kernel
theorem dJ0_valueOf_8a030_4 : decode cJ0_valueOf_8a030 4 = .ok (.ldc_w 1005, 3) := by decide +kernel
theorem dJ0_valueOf_8a030_7 : decode cJ0_valueOf_8a030 7 = .ok (.goto 7, 3) := by decide +kernel
theorem dJ0_valueOf_8a030_10 : decode cJ0_valueOf_8a030 10 = .ok (.aload_n 0, 1) := by decide +kernel
theorem dJ0_valueOf_8a030_11 : decode cJ0_valueOf_8a030 11 = .ok (.invokevirtual 1007, 3) := by decide +kernel
theorem dJ0_valueOf_8a030_14 : decode cJ0_valueOf_8a030 14 = .ok (.areturn, 1) := by decide +kernel
theorem dJ0_getBytes_840e7_0 : decode cJ0_getBytes_840e7 0 = .ok (.aload_n 0, 1) := by decide +kernel
theorem dJ0_getBytes_840e7_1 : decode cJ0_getBytes_840e7 1 = .ok (.invokevirtual 335, 3) := by decide +kernel
theorem dJ0_getBytes_840e7_4 : decode cJ0_getBytes_840e7 4 = .ok (.iload_n 3, 1) := by decide +kernel
theorem dJ0_getBytes_840e7_5 : decode cJ0_getBytes_840e7 5 = .ok (.if_icmp .ne 23, 3) := by decide +kernel
theorem dJ0_getBytes_840e7_8 : decode cJ0_getBytes_840e7 8 = .ok (.aload_n 0, 1) := by decide +kernel
theorem dJ0_getBytes_840e7_9 : decode cJ0_getBytes_840e7 9 = .ok (.getfield 9, 3) := by decide +kernel
theorem dJ0_getBytes_840e7_12 : decode cJ0_getBytes_840e7 12 = .ok (.iconst 0, 1) := by decide +kernel
theorem dJ0_getBytes_840e7_13 : decode cJ0_getBytes_840e7 13 = .ok (.aload_n 1, 1) := by decide +kernel
theorem dJ0_getBytes_840e7_14 : decode cJ0_getBytes_840e7 14 = .ok (.iload_n 2, 1) := by decide +kernel
theorem dJ0_getBytes_840e7_15 : decode cJ0_getBytes_840e7 15 = .ok (.iload_n 3, 1) := by decide +kernel
theorem dJ0_getBytes_840e7_16 : decode cJ0_getBytes_840e7 16 = .ok (.ishl, 1) := by decide +kernel
theorem dJ0_getBytes_840e7_17 : decode cJ0_getBytes_840e7 17 = .ok (.aload_n 0, 1) := by decide +kernel
theorem dJ0_getBytes_840e7_18 : decode cJ0_getBytes_840e7 18 = .ok (.getfield 9, 3) := by decide +kernel
theorem dJ0_getBytes_840e7_21 : decode cJ0_getBytes_840e7 21 = .ok (.arraylength, 1) := by decide +kernel
theorem dJ0_getBytes_840e7_22 : decode cJ0_getBytes_840e7 22 = .ok (.invokestatic 212, 3) := by decide +kernel
theorem dJ0_getBytes_840e7_25 : decode cJ0_getBytes_840e7 25 = .ok (.goto 18, 3) := by decide +kernel
theorem dJ0_getBytes_840e7_28 : decode cJ0_getBytes_840e7 28 = .ok (.aload_n 0, 1) := by decide +kernel
theorem dJ0_getBytes_840e7_29 : decode cJ0_getBytes_840e7 29 = .ok (.getfield 9, 3) := by decide +kernel
theorem dJ0_getBytes_840e7_32 : decode cJ0_getBytes_840e7 32 = .ok (.iconst 0, 1) := by decide +kernel
theorem dJ0_getBytes_840e7_33 : decode cJ0_getBytes_840e7 33 = .ok (.aload_n 1, 1) := by decide +kernel
theorem dJ0_getBytes_840e7_34 : decode cJ0_getBytes_840e7 34 = .ok (.iload_n 2, 1) := by decide +kernel
theorem dJ0_getBytes_840e7_35 : decode cJ0_getBytes_840e7 35 = .ok (.aload_n 0, 1) := by decide +kernel
theorem dJ0_getBytes_840e7_36 : decode cJ0_getBytes_840e7 36 = .ok (.getfield 9, 3) := by decide +kernel
theorem dJ0_getBytes_840e7_39 : decode cJ0_getBytes_840e7 39 = .ok (.arraylength, 1) := by decide +kernel
theorem dJ0_getBytes_840e7_40 : decode cJ0_getBytes_840e7 40 = .ok (.invokestatic 106, 3) := by decide +kernel
theorem dJ0_getBytes_840e7_43 : decode cJ0_getBytes_840e7 43 = .ok (.return_, 1) := by decide +kernel
theorem dJ0_init_db425_0 : decode cJ0_init_db425 0 = .ok (.aload_n 0, 1) := by decide +kernel
theorem dJ0_init_db425_1 : decode cJ0_init_db425 1 = .ok (.invokespecial 1, 3) := by decide +kernel
theorem dJ0_init_db425_4 : decode cJ0_init_db425 4 = .ok (.aload_n 1, 1) := by decide +kernel
theorem dJ0_init_db425_5 : decode cJ0_init_db425 5 = .ok (.invokevirtual 552, 3) := by decide +kernel
theorem dJ0_init_db425_8 : decode cJ0_init_db425 8 = .ok (.astore_n 3, 1) := by decide +kernel
theorem dJ0_init_db425_9 : decode cJ0_init_db425 9 = .ok (.aload_n 1, 1) := by decide +kernel
theorem dJ0_init_db425_10 : decode cJ0_init_db425 10 = .ok (.invokevirtual 549, 3) := by decide +kernel
theorem dJ0_init_db425_13 : decode cJ0_init_db425 13 = .ok (.istore 4, 2) := by decide +kernel
theorem dJ0_init_db425_15 : decode cJ0_init_db425 15 = .ok (.aload_n 1, 1) := by decide +kernel
theorem dJ0_init_db425_16 : decode cJ0_init_db425 16 = .ok (.invokevirtual 1047, 3) := by decide +kernel
theorem dJ0_init_db425_19 : decode cJ0_init_db425 19 = .ok (.ifCond .eq 22, 3) := by decide +kernel
theorem dJ0_init_db425_22 : decode cJ0_init_db425 22 = .ok (.aload_n 0, 1) := by decide +kernel
theorem dJ0_init_db425_23 : decode cJ0_init_db425 23 = .ok (.iconst 0, 1) := by decide +kernel
theorem dJ0_init_db425_24 : decode cJ0_init_db425 24 = .ok (.putfield 15, 3) := by decide +kernel
theorem dJ0_init_db425_27 : decode cJ0_init_db425 27 = .ok (.aload_n 0, 1) := by decide +kernel
theorem dJ0_init_db425_28 : decode cJ0_init_db425 28 = .ok (.aload_n 3, 1) := by decide +kernel
theorem dJ0_init_db425_29 : decode cJ0_init_db425 29 = .ok (.iconst 0, 1) := by decide +kernel
theorem dJ0_init_db425_30 : decode cJ0_init_db425 30 = .ok (.iload 4, 2) := by decide +kernel
theorem dJ0_init_db425_32 : decode cJ0_init_db425 32 = .ok (.invokestatic 54, 3) := by decide +kernel
theorem dJ0_init_db425_35 : decode cJ0_init_db425 35 = .ok (.putfield 9, 3) := by decide +kernel
theorem dJ0_init_db425_38 : decode cJ0_init_db425 38 = .ok (.goto 59, 3) := by decide +kernel
theorem dJ0_init_db425_41 : decode cJ0_init_db425 41 = .ok (.getstatic 38, 3) := by decide +kernel
theorem dJ0_init_db425_44 : decode cJ0_init_db425 44 = .ok (.ifCond .eq 35, 3) := by decide +kernel
theorem dJ0_init_db425_47 : decode cJ0_init_db425 47 = .ok (.aload_n 1, 1) := by decide +kernel
theorem dJ0_init_db425_48 : decode cJ0_init_db425 48 = .ok (.getfield 1048, 3) := by decide +kernel
theorem dJ0_init_db425_51 : decode cJ0_init_db425 51 = .ok (.ifCond .eq 28, 3) := by decide +kernel
theorem dJ0_init_db425_54 : decode cJ0_init_db425 54 = .ok (.aload_n 0, 1) := by decide +kernel
theorem dJ0_init_db425_55 : decode cJ0_init_db425 55 = .ok (.aload_n 3, 1) := by decide +kernel
theorem dJ0_init_db425_56 : decode cJ0_init_db425 56 = .ok (.iconst 0, 1) := by decide +kernel
theorem dJ0_init_db425_57 : decode cJ0_init_db425 57 = .ok (.iload 4, 2) := by decide +kernel
theorem dJ0_init_db425_59 : decode cJ0_init_db425 59 = .ok (.invokestatic 1051, 3) := by decide +kernel
theorem dJ0_init_db425_62 : decode cJ0_init_db425 62 = .ok (.putfield 9, 3) := by decide +kernel
theorem dJ0_init_db425_65 : decode cJ0_init_db425 65 = .ok (.aload_n 0, 1) := by decide +kernel
theorem dJ0_init_db425_66 : decode cJ0_init_db425 66 = .ok (.aload_n 0, 1) := by decide +kernel
theorem dJ0_init_db425_67 : decode cJ0_init_db425 67 = .ok (.getfield 9, 3) := by decide +kernel
theorem dJ0_init_db425_70 : decode cJ0_init_db425 70 = .ok (.iload 4, 2) := by decide +kernel
theorem dJ0_init_db425_72 : decode cJ0_init_db425 72 = .ok (.invokestatic 47, 3) := by decide +kernel
theorem dJ0_init_db425_75 : decode cJ0_init_db425 75 = .ok (.putfield 15, 3) := by decide +kernel
theorem dJ0_init_db425_78 : decode cJ0_init_db425 78 = .ok (.return_, 1) := by decide +kernel
theorem dJ0_init_db425_79 : decode cJ0_init_db425 79 = .ok (.aload_n 0, 1) := by decide +kernel
theorem dJ0_init_db425_80 : decode cJ0_init_db425 80 = .ok (.iconst 1, 1) := by decide +kernel
theorem dJ0_init_db425_81 : decode cJ0_init_db425 81 = .ok (.putfield 15, 3) := by decide +kernel
theorem dJ0_init_db425_84 : decode cJ0_init_db425 84 = .ok (.aload_n 0, 1) := by decide +kernel
theorem dJ0_init_db425_85 : decode cJ0_init_db425 85 = .ok (.aload_n 3, 1) := by decide +kernel
theorem dJ0_init_db425_86 : decode cJ0_init_db425 86 = .ok (.iconst 0, 1) := by decide +kernel
theorem dJ0_init_db425_87 : decode cJ0_init_db425 87 = .ok (.iload 4, 2) := by decide +kernel
theorem dJ0_init_db425_89 : decode cJ0_init_db425 89 = .ok (.iconst 1, 1) := by decide +kernel
theorem dJ0_init_db425_90 : decode cJ0_init_db425 90 = .ok (.ishl, 1) := by decide +kernel
theorem dJ0_init_db425_91 : decode cJ0_init_db425 91 = .ok (.invokestatic 54, 3) := by decide +kernel
theorem dJ0_init_db425_94 : decode cJ0_init_db425 94 = .ok (.putfield 9, 3) := by decide +kernel
theorem dJ0_init_db425_97 : decode cJ0_init_db425 97 = .ok (.return_, 1) := by decide +kernel
theorem dJ0_coder_7d493_0 : decode cJ0_coder_7d493 0 = .ok (.getstatic 38, 3) := by decide +kernel
theorem dJ0_coder_7d493_3 : decode cJ0_coder_7d493 3 = .ok (.ifCond .eq 10, 3) := by decide +kernel
theorem dJ0_coder_7d493_6 : decode cJ0_coder_7d493 6 = .ok (.aload_n 0, 1) := by decide +kernel
theorem dJ0_coder_7d493_7 : decode cJ0_coder_7d493 7 = .ok (.getfield 15, 3) := by decide +kernel
theorem dJ0_coder_7d493_10 : decode cJ0_coder_7d493 10 = .ok (.goto 4, 3) := by decide +kernel
theorem dJ0_coder_7d493_13 : decode cJ0_coder_7d493 13 = .ok (.iconst 1, 1) := by decide +kernel
theorem dJ0_coder_7d493_14 : decode cJ0_coder_7d493 14 = .ok (.ireturn, 1) := by decide +kernel
theorem dJ0_isLatin1_aae02_0 : decode cJ0_isLatin1_aae02 0 = .ok (.getstatic 38, 3) := by decide +kernel
theorem dJ0_isLatin1_aae02_3 : decode cJ0_isLatin1_aae02 3 = .ok (.ifCond .eq 14, 3) := by decide +kernel
theorem dJ0_isLatin1_aae02_6 : decode cJ0_isLatin1_aae02 6 = .ok (.aload_n 0, 1) := by decide +kernel
theorem dJ0_isLatin1_aae02_7 : decode cJ0_isLatin1_aae02 7 = .ok (.getfield 15, 3) := by decide +kernel
theorem dJ0_isLatin1_aae02_10 : decode cJ0_isLatin1_aae02 10 = .ok (.ifCond .ne 7, 3) := by decide +kernel
theorem dJ0_isLatin1_aae02_13 : decode cJ0_isLatin1_aae02 13 = .ok (.iconst 1, 1) := by decide +kernel
theorem dJ0_isLatin1_aae02_14 : decode cJ0_isLatin1_aae02 14 = .ok (.goto 4, 3) := by decide +kernel
theorem dJ0_isLatin1_aae02_17 : decode cJ0_isLatin1_aae02 17 = .ok (.iconst 0, 1) := by decide +kernel
theorem dJ0_isLatin1_aae02_18 : decode cJ0_isLatin1_aae02 18 = .ok (.ireturn, 1) := by decide +kernel
theorem dJ0_checkIndex_df160_0 : decode cJ0_checkIndex_df160 0 = .ok (.iload_n 0, 1) := by decide +kernel
theorem dJ0_checkIndex_df160_1 : decode cJ0_checkIndex_df160 1 = .ok (.iload_n 1, 1) := by decide +kernel
theorem dJ0_checkIndex_df160_2 : decode cJ0_checkIndex_df160 2 = .ok (.getstatic 1053, 3) := by decide +kernel
theorem dJ0_checkIndex_df160_5 : decode cJ0_checkIndex_df160 5 = .ok (.invokestatic 1059, 3) := by decide +kernel
theorem dJ0_checkIndex_df160_8 : decode cJ0_checkIndex_df160 8 = .ok (.pop, 1) := by decide +kernel
theorem dJ0_checkIndex_df160_9 : decode cJ0_checkIndex_df160 9 = .ok (.return_, 1) := by decide +kernel
theorem dJ0_checkBoundsOffCount_cabcc_0 : decode cJ0_checkBoundsOffCount_cabcc 0 = .ok (.iload_n 0, 1) := by decide +kernel
theorem dJ0_checkBoundsOffCount_cabcc_1 : decode cJ0_checkBoundsOffCount_cabcc 1 = .ok (.iload_n 1, 1) := by decide +kernel
theorem dJ0_checkBoundsOffCount_cabcc_2 : decode cJ0_checkBoundsOffCount_cabcc 2 = .ok (.iload_n 2, 1) := by decide +kernel
theorem dJ0_checkBoundsOffCount_cabcc_3 : decode cJ0_checkBoundsOffCount_cabcc 3 = .ok (.getstatic 1053, 3) := by decide +kernel
theorem dJ0_checkBoundsOffCount_cabcc_6 : decode cJ0_checkBoundsOffCount_cabcc 6 = .ok (.invokestatic 1065, 3) := by decide +kernel
theorem dJ0_checkBoundsOffCount_cabcc_9 : decode cJ0_checkBoundsOffCount_cabcc 9 = .ok (.ireturn, 1) := by decide +kernel
theorem dJ0_checkBoundsBeginEnd_23922_0 : decode cJ0_checkBoundsBeginEnd_23922 0 = .ok (.iload_n 0, 1) := by decide +kernel
theorem dJ0_checkBoundsBeginEnd_23922_1 : decode cJ0_checkBoundsBeginEnd_23922 1 = .ok (.iload_n 1, 1) := by decide +kernel
theorem dJ0_checkBoundsBeginEnd_23922_2 : decode cJ0_checkBoundsBeginEnd_23922 2 = .ok (.iload_n 2, 1) := by decide +kernel
theorem dJ0_checkBoundsBeginEnd_23922_3 : decode cJ0_checkBoundsBeginEnd_23922 3 = .ok (.getstatic 1053, 3) := by decide +kernel
theorem dJ0_checkBoundsBeginEnd_23922_6 : decode cJ0_checkBoundsBeginEnd_23922 6 = .ok (.invokestatic 1062, 3) := by decide +kernel
theorem dJ0_checkBoundsBeginEnd_23922_9 : decode cJ0_checkBoundsBeginEnd_23922 9 = .ok (.pop, 1) := by decide +kernel
theorem dJ0_checkBoundsBeginEnd_23922_10 : decode cJ0_checkBoundsBeginEnd_23922 10 = .ok (.return_, 1) := by decide +kernel
theorem dJ4_init_da8c8_0 : decode cJ4_init_da8c8 0 = .ok (.aload_n 0, 1) := by decide +kernel
theorem dJ4_init_da8c8_1 : decode cJ4_init_da8c8 1 = .ok (.bipush 16, 2) := by decide +kernel
theorem dJ4_init_da8c8_3 : decode cJ4_init_da8c8 3 = .ok (.invokespecial 1, 3) := by decide +kernel
theorem dJ4_init_da8c8_6 : decode cJ4_init_da8c8 6 = .ok (.return_, 1) := by decide +kernel
theorem dJ4_append_533cd_0 : decode cJ4_append_533cd 0 = .ok (.aload_n 0, 1) := by decide +kernel
theorem dJ4_append_533cd_1 : decode cJ4_append_533cd 1 = .ok (.aload_n 1, 1) := by decide +kernel
theorem dJ4_append_533cd_2 : decode cJ4_append_533cd 2 = .ok (.invokestatic 17, 3) := by decide +kernel
theorem dJ4_append_533cd_5 : decode cJ4_append_533cd 5 = .ok (.invokevirtual 23, 3) := by decide +kernel
theorem dJ4_append_533cd_8 : decode cJ4_append_533cd 8 = .ok (.areturn, 1) := by decide +kernel
theorem dJ4_append_15ec4_0 : decode cJ4_append_15ec4 0 = .ok (.aload_n 0, 1) := by decide +kernel
theorem dJ4_append_15ec4_1 : decode cJ4_append_15ec4 1 = .ok (.aload_n 1, 1) := by decide +kernel
theorem dJ4_append_15ec4_2 : decode cJ4_append_15ec4 2 = .ok (.invokespecial 29, 3) := by decide +kernel
theorem dJ4_append_15ec4_5 : decode cJ4_append_15ec4 5 = .ok (.pop, 1) := by decide +kernel
theorem dJ4_append_15ec4_6 : decode cJ4_append_15ec4 6 = .ok (.aload_n 0, 1) := by decide +kernel
theorem dJ4_append_15ec4_7 : decode cJ4_append_15ec4 7 = .ok (.areturn, 1) := by decide +kernel
theorem dJ4_append_cf468_0 : decode cJ4_append_cf468 0 = .ok (.aload_n 0, 1) := by decide +kernel
theorem dJ4_append_cf468_1 : decode cJ4_append_cf468 1 = .ok (.iload_n 1, 1) := by decide +kernel
theorem dJ4_append_cf468_2 : decode cJ4_append_cf468 2 = .ok (.invokespecial 50, 3) := by decide +kernel
theorem dJ4_append_cf468_5 : decode cJ4_append_cf468 5 = .ok (.pop, 1) := by decide +kernel
theorem dJ4_append_cf468_6 : decode cJ4_append_cf468 6 = .ok (.aload_n 0, 1) := by decide +kernel
theorem dJ4_append_cf468_7 : decode cJ4_append_cf468 7 = .ok (.areturn, 1) := by decide +kernel
theorem dJ4_append_bf812_0 : decode cJ4_append_bf812 0 = .ok (.aload_n 0, 1) := by decide +kernel
theorem dJ4_append_bf812_1 : decode cJ4_append_bf812 1 = .ok (.iload_n 1, 1) := by decide +kernel
theorem dJ4_append_bf812_2 : decode cJ4_append_bf812 2 = .ok (.invokespecial 53, 3) := by decide +kernel
theorem dJ4_append_bf812_5 : decode cJ4_append_bf812 5 = .ok (.pop, 1) := by decide +kernel
theorem dJ4_append_bf812_6 : decode cJ4_append_bf812 6 = .ok (.aload_n 0, 1) := by decide +kernel
theorem dJ4_append_bf812_7 : decode cJ4_append_bf812 7 = .ok (.areturn, 1) := by decide +kernel
theorem dJ4_toString_0e30d_0 : decode cJ4_toString_0e30d 0 = .ok (.new 18, 3) := by decide +kernel
theorem dJ4_toString_0e30d_3 : decode cJ4_toString_0e30d 3 = .ok (.dup, 1) := by decide +kernel
theorem dJ4_toString_0e30d_4 : decode cJ4_toString_0e30d 4 = .ok (.aload_n 0, 1) := by decide +kernel
theorem dJ4_toString_0e30d_5 : decode cJ4_toString_0e30d 5 = .ok (.invokespecial 137, 3) := by decide +kernel
theorem dJ4_toString_0e30d_8 : decode cJ4_toString_0e30d 8 = .ok (.areturn, 1) := by decide +kernel
theorem dJ4_charAt_5068e_0 : decode cJ4_charAt_5068e 0 = .ok (.aload_n 0, 1) := by decide +kernel
theorem dJ4_charAt_5068e_1 : decode cJ4_charAt_5068e 1 = .ok (.iload_n 1, 1) := by decide +kernel
theorem dJ4_charAt_5068e_2 : decode cJ4_charAt_5068e 2 = .ok (.invokespecial 329, 3) := by decide +kernel
theorem dJ4_charAt_5068e_5 : decode cJ4_charAt_5068e 5 = .ok (.ireturn, 1) := by decide +kernel
theorem dJ4_setLength_d00df_0 : decode cJ4_setLength_d00df 0 = .ok (.aload_n 0, 1) := by decide +kernel
theorem dJ4_setLength_d00df_1 : decode cJ4_setLength_d00df 1 = .ok (.iload_n 1, 1) := by decide +kernel
theorem dJ4_setLength_d00df_2 : decode cJ4_setLength_d00df 2 = .ok (.invokespecial 333, 3) := by decide +kernel
theorem dJ4_setLength_d00df_5 : decode cJ4_setLength_d00df 5 = .ok (.return_, 1) := by decide +kernel
theorem dJ4_length_8abf5_0 : decode cJ4_length_8abf5 0 = .ok (.aload_n 0, 1) := by decide +kernel
theorem dJ4_length_8abf5_1 : decode cJ4_length_8abf5 1 = .ok (.invokespecial 343, 3) := by decide +kernel
theorem dJ4_length_8abf5_4 : decode cJ4_length_8abf5 4 = .ok (.ireturn, 1) := by decide +kernel
theorem dJx7c733_init_d00df_0 : decode cJx7c733_init_d00df 0 = .ok (.aload_n 0, 1) := by decide +kernel
theorem dJx7c733_init_d00df_1 : decode cJx7c733_init_d00df 1 = .ok (.new 10, 3) := by decide +kernel
theorem dJx7c733_init_d00df_4 : decode cJx7c733_init_d00df 4 = .ok (.dup, 1) := by decide +kernel
theorem dJx7c733_init_d00df_5 : decode cJx7c733_init_d00df 5 = .ok (.invokespecial 12, 3) := by decide +kernel
theorem dJx7c733_init_d00df_8 : decode cJx7c733_init_d00df 8 = .ok (.ldc 13, 2) := by decide +kernel
theorem dJx7c733_init_d00df_10 : decode cJx7c733_init_d00df 10 = .ok (.invokevirtual 15, 3) := by decide +kernel
theorem dJx7c733_init_d00df_13 : decode cJx7c733_init_d00df 13 = .ok (.iload_n 1, 1) := by decide +kernel
theorem dJx7c733_init_d00df_14 : decode cJx7c733_init_d00df 14 = .ok (.invokevirtual 19, 3) := by decide +kernel
theorem dJx7c733_init_d00df_17 : decode cJx7c733_init_d00df 17 = .ok (.invokevirtual 22, 3) := by decide +kernel
theorem dJx7c733_init_d00df_20 : decode cJx7c733_init_d00df 20 = .ok (.invokespecial 7, 3) := by decide +kernel
theorem dJx7c733_init_d00df_23 : decode cJx7c733_init_d00df 23 = .ok (.return_, 1) := by decide +kernel
theorem dJ1_charAt_3b067_0 : decode cJ1_charAt_3b067 0 = .ok (.iload_n 1, 1) := by decide +kernel
theorem dJ1_charAt_3b067_1 : decode cJ1_charAt_3b067 1 = .ok (.aload_n 0, 1) := by decide +kernel
theorem dJ1_charAt_3b067_2 : decode cJ1_charAt_3b067 2 = .ok (.arraylength, 1) := by decide +kernel
theorem dJ1_charAt_3b067_3 : decode cJ1_charAt_3b067 3 = .ok (.invokestatic 9, 3) := by decide +kernel
theorem dJ1_charAt_3b067_6 : decode cJ1_charAt_3b067 6 = .ok (.aload_n 0, 1) := by decide +kernel
theorem dJ1_charAt_3b067_7 : decode cJ1_charAt_3b067 7 = .ok (.iload_n 1, 1) := by decide +kernel
theorem dJ1_charAt_3b067_8 : decode cJ1_charAt_3b067 8 = .ok (.baload, 1) := by decide +kernel
theorem dJ1_charAt_3b067_9 : decode cJ1_charAt_3b067 9 = .ok (.sipush 255, 3) := by decide +kernel
theorem dJ1_charAt_3b067_12 : decode cJ1_charAt_3b067 12 = .ok (.iand, 1) := by decide +kernel
theorem dJ1_charAt_3b067_13 : decode cJ1_charAt_3b067 13 = .ok (.i2c, 1) := by decide +kernel
theorem dJ1_charAt_3b067_14 : decode cJ1_charAt_3b067 14 = .ok (.ireturn, 1) := by decide +kernel
theorem dJ1_canEncode_fc78d_0 : decode cJ1_canEncode_fc78d 0 = .ok (.iload_n 0, 1) := by decide +kernel
theorem dJ1_canEncode_fc78d_1 : decode cJ1_canEncode_fc78d 1 = .ok (.sipush 255, 3) := by decide +kernel
theorem dJ1_canEncode_fc78d_4 : decode cJ1_canEncode_fc78d 4 = .ok (.if_icmp .gt 7, 3) := by decide +kernel
theorem dJ1_canEncode_fc78d_7 : decode cJ1_canEncode_fc78d 7 = .ok (.iconst 1, 1) := by decide +kernel
theorem dJ1_canEncode_fc78d_8 : decode cJ1_canEncode_fc78d 8 = .ok (.goto 4, 3) := by decide +kernel
theorem dJ1_canEncode_fc78d_11 : decode cJ1_canEncode_fc78d 11 = .ok (.iconst 0, 1) := by decide +kernel
theorem dJ1_canEncode_fc78d_12 : decode cJ1_canEncode_fc78d 12 = .ok (.ireturn, 1) := by decide +kernel
theorem dJ1_equals_b5fdf_0 : decode cJ1_equals_b5fdf 0 = .ok (.aload_n 0, 1) := by decide +kernel
theorem dJ1_equals_b5fdf_1 : decode cJ1_equals_b5fdf 1 = .ok (.arraylength, 1) := by decide +kernel
theorem dJ1_equals_b5fdf_2 : decode cJ1_equals_b5fdf 2 = .ok (.aload_n 1, 1) := by decide +kernel
theorem dJ1_equals_b5fdf_3 : decode cJ1_equals_b5fdf 3 = .ok (.arraylength, 1) := by decide +kernel
theorem dJ1_equals_b5fdf_4 : decode cJ1_equals_b5fdf 4 = .ok (.if_icmp .ne 30, 3) := by decide +kernel
theorem dJ1_equals_b5fdf_7 : decode cJ1_equals_b5fdf 7 = .ok (.iconst 0, 1) := by decide +kernel
theorem dJ1_equals_b5fdf_8 : decode cJ1_equals_b5fdf 8 = .ok (.istore_n 2, 1) := by decide +kernel
theorem dJ1_equals_b5fdf_9 : decode cJ1_equals_b5fdf 9 = .ok (.iload_n 2, 1) := by decide +kernel
theorem dJ1_equals_b5fdf_10 : decode cJ1_equals_b5fdf 10 = .ok (.aload_n 0, 1) := by decide +kernel
theorem dJ1_equals_b5fdf_11 : decode cJ1_equals_b5fdf 11 = .ok (.arraylength, 1) := by decide +kernel
theorem dJ1_equals_b5fdf_12 : decode cJ1_equals_b5fdf 12 = .ok (.if_icmp .ge 20, 3) := by decide +kernel
theorem dJ1_equals_b5fdf_15 : decode cJ1_equals_b5fdf 15 = .ok (.aload_n 0, 1) := by decide +kernel
theorem dJ1_equals_b5fdf_16 : decode cJ1_equals_b5fdf 16 = .ok (.iload_n 2, 1) := by decide +kernel
theorem dJ1_equals_b5fdf_17 : decode cJ1_equals_b5fdf 17 = .ok (.baload, 1) := by decide +kernel
theorem dJ1_equals_b5fdf_18 : decode cJ1_equals_b5fdf 18 = .ok (.aload_n 1, 1) := by decide +kernel
theorem dJ1_equals_b5fdf_19 : decode cJ1_equals_b5fdf 19 = .ok (.iload_n 2, 1) := by decide +kernel
theorem dJ1_equals_b5fdf_20 : decode cJ1_equals_b5fdf 20 = .ok (.baload, 1) := by decide +kernel
theorem dJ1_equals_b5fdf_21 : decode cJ1_equals_b5fdf 21 = .ok (.if_icmp .eq 5, 3) := by decide +kernel
theorem dJ1_equals_b5fdf_24 : decode cJ1_equals_b5fdf 24 = .ok (.iconst 0, 1) := by decide +kernel
theorem dJ1_equals_b5fdf_25 : decode cJ1_equals_b5fdf 25 = .ok (.ireturn, 1) := by decide +kernel
theorem dJ1_equals_b5fdf_26 : decode cJ1_equals_b5fdf 26 = .ok (.iinc 2 1, 3) := by decide +kernel
theorem dJ1_equals_b5fdf_29 : decode cJ1_equals_b5fdf 29 = .ok (.goto (-20), 3) := by decide +kernel
theorem dJ1_equals_b5fdf_32 : decode cJ1_equals_b5fdf 32 = .ok (.iconst 1, 1) := by decide +kernel
theorem dJ1_equals_b5fdf_33 : decode cJ1_equals_b5fdf 33 = .ok (.ireturn, 1) := by decide +kernel
theorem dJ1_equals_b5fdf_34 : decode cJ1_equals_b5fdf 34 = .ok (.iconst 0, 1) := by decide +kernel
theorem dJ1_equals_b5fdf_35 : decode cJ1_equals_b5fdf 35 = .ok (.ireturn, 1) := by decide +kernel
theorem dJ1_fillNull_b72d1_0 : decode cJ1_fillNull_b72d1 0 = .ok (.aload_n 0, 1) := by decide +kernel
theorem dJ1_fillNull_b72d1_1 : decode cJ1_fillNull_b72d1 1 = .ok (.iload_n 1, 1) := by decide +kernel
theorem dJ1_fillNull_b72d1_2 : decode cJ1_fillNull_b72d1 2 = .ok (.iload_n 2, 1) := by decide +kernel
theorem dJ1_fillNull_b72d1_3 : decode cJ1_fillNull_b72d1 3 = .ok (.iconst 0, 1) := by decide +kernel
theorem dJ1_fillNull_b72d1_4 : decode cJ1_fillNull_b72d1 4 = .ok (.invokestatic 236, 3) := by decide +kernel
theorem dJ1_fillNull_b72d1_7 : decode cJ1_fillNull_b72d1 7 = .ok (.return_, 1) := by decide +kernel
theorem dJ1_inflate_0e8fd_0 : decode cJ1_inflate_0e8fd 0 = .ok (.aload_n 0, 1) := by decide +kernel
theorem dJ1_inflate_0e8fd_1 : decode cJ1_inflate_0e8fd 1 = .ok (.iload_n 1, 1) := by decide +kernel
theorem dJ1_inflate_0e8fd_2 : decode cJ1_inflate_0e8fd 2 = .ok (.aload_n 2, 1) := by decide +kernel
theorem dJ1_inflate_0e8fd_3 : decode cJ1_inflate_0e8fd 3 = .ok (.iload_n 3, 1) := by decide +kernel
theorem dJ1_inflate_0e8fd_4 : decode cJ1_inflate_0e8fd 4 = .ok (.iload 4, 2) := by decide +kernel
theorem dJ1_inflate_0e8fd_6 : decode cJ1_inflate_0e8fd 6 = .ok (.invokestatic 240, 3) := by decide +kernel
theorem dJ1_inflate_0e8fd_9 : decode cJ1_inflate_0e8fd 9 = .ok (.return_, 1) := by decide +kernel
theorem dJ2_newBytesFor_77867_0 : decode cJ2_newBytesFor_77867 0 = .ok (.iload_n 0, 1) := by decide +kernel
theorem dJ2_newBytesFor_77867_1 : decode cJ2_newBytesFor_77867 1 = .ok (.invokestatic 11, 3) := by decide +kernel
theorem dJ2_newBytesFor_77867_4 : decode cJ2_newBytesFor_77867 4 = .ok (.newarray .byte, 2) := by decide +kernel
theorem dJ2_newBytesFor_77867_6 : decode cJ2_newBytesFor_77867 6 = .ok (.areturn, 1) := by decide +kernel
theorem dJ2_newBytesLength_0f7a4_0 : decode cJ2_newBytesLength_0f7a4 0 = .ok (.iload_n 0, 1) := by decide +kernel
theorem dJ2_newBytesLength_0f7a4_1 : decode cJ2_newBytesLength_0f7a4 1 = .ok (.ifCond .ge 11, 3) := by decide +kernel
theorem dJ2_newBytesLength_0f7a4_4 : decode cJ2_newBytesLength_0f7a4 4 = .ok (.new 17, 3) := by decide +kernel
theorem dJ2_newBytesLength_0f7a4_7 : decode cJ2_newBytesLength_0f7a4 7 = .ok (.dup, 1) := by decide +kernel
theorem dJ2_newBytesLength_0f7a4_8 : decode cJ2_newBytesLength_0f7a4 8 = .ok (.invokespecial 19, 3) := by decide +kernel
theorem dJ2_newBytesLength_0f7a4_11 : decode cJ2_newBytesLength_0f7a4 11 = .ok (.athrow, 1) := by decide +kernel
theorem dJ2_newBytesLength_0f7a4_12 : decode cJ2_newBytesLength_0f7a4 12 = .ok (.iload_n 0, 1) := by decide +kernel
theorem dJ2_newBytesLength_0f7a4_13 : decode cJ2_newBytesLength_0f7a4 13 = .ok (.ldc 20, 2) := by decide +kernel
theorem dJ2_newBytesLength_0f7a4_15 : decode cJ2_newBytesLength_0f7a4 15 = .ok (.if_icmp .lt 40, 3) := by decide +kernel
theorem dJ2_newBytesLength_0f7a4_18 : decode cJ2_newBytesLength_0f7a4 18 = .ok (.new 21, 3) := by decide +kernel
theorem dJ2_newBytesLength_0f7a4_21 : decode cJ2_newBytesLength_0f7a4 21 = .ok (.dup, 1) := by decide +kernel
theorem dJ2_newBytesLength_0f7a4_22 : decode cJ2_newBytesLength_0f7a4 22 = .ok (.new 23, 3) := by decide +kernel
theorem dJ2_newBytesLength_0f7a4_25 : decode cJ2_newBytesLength_0f7a4 25 = .ok (.dup, 1) := by decide +kernel
theorem dJ2_newBytesLength_0f7a4_26 : decode cJ2_newBytesLength_0f7a4 26 = .ok (.invokespecial 25, 3) := by decide +kernel
theorem dJ2_newBytesLength_0f7a4_29 : decode cJ2_newBytesLength_0f7a4 29 = .ok (.ldc 26, 2) := by decide +kernel
theorem dJ2_newBytesLength_0f7a4_31 : decode cJ2_newBytesLength_0f7a4 31 = .ok (.invokevirtual 28, 3) := by decide +kernel
theorem dJ2_newBytesLength_0f7a4_34 : decode cJ2_newBytesLength_0f7a4 34 = .ok (.iload_n 0, 1) := by decide +kernel
theorem dJ2_newBytesLength_0f7a4_35 : decode cJ2_newBytesLength_0f7a4 35 = .ok (.invokevirtual 32, 3) := by decide +kernel
theorem dJ2_newBytesLength_0f7a4_38 : decode cJ2_newBytesLength_0f7a4 38 = .ok (.ldc 35, 2) := by decide +kernel
theorem dJ2_newBytesLength_0f7a4_40 : decode cJ2_newBytesLength_0f7a4 40 = .ok (.invokevirtual 28, 3) := by decide +kernel
theorem dJ2_newBytesLength_0f7a4_43 : decode cJ2_newBytesLength_0f7a4 43 = .ok (.ldc 20, 2) := by decide +kernel
theorem dJ2_newBytesLength_0f7a4_45 : decode cJ2_newBytesLength_0f7a4 45 = .ok (.invokevirtual 32, 3) := by decide +kernel
theorem dJ2_newBytesLength_0f7a4_48 : decode cJ2_newBytesLength_0f7a4 48 = .ok (.invokevirtual 37, 3) := by decide +kernel
theorem dJ2_newBytesLength_0f7a4_51 : decode cJ2_newBytesLength_0f7a4 51 = .ok (.invokespecial 41, 3) := by decide +kernel
theorem dJ2_newBytesLength_0f7a4_54 : decode cJ2_newBytesLength_0f7a4 54 = .ok (.athrow, 1) := by decide +kernel
theorem dJ2_newBytesLength_0f7a4_55 : decode cJ2_newBytesLength_0f7a4 55 = .ok (.iload_n 0, 1) := by decide +kernel
theorem dJ2_newBytesLength_0f7a4_56 : decode cJ2_newBytesLength_0f7a4 56 = .ok (.iconst 1, 1) := by decide +kernel
theorem dJ2_newBytesLength_0f7a4_57 : decode cJ2_newBytesLength_0f7a4 57 = .ok (.ishl, 1) := by decide +kernel
theorem dJ2_newBytesLength_0f7a4_58 : decode cJ2_newBytesLength_0f7a4 58 = .ok (.ireturn, 1) := by decide +kernel
theorem dJ2_putChar_b72d1_0 : decode cJ2_putChar_b72d1 0 = .ok (.getstatic 44, 3) := by decide +kernel
theorem dJ2_putChar_b72d1_3 : decode cJ2_putChar_b72d1 3 = .ok (.ifCond .ne 25, 3) := by decide +kernel
theorem dJ2_putChar_b72d1_6 : decode cJ2_putChar_b72d1 6 = .ok (.iload_n 1, 1) := by decide +kernel
theorem dJ2_putChar_b72d1_7 : decode cJ2_putChar_b72d1 7 = .ok (.ifCond .lt 11, 3) := by decide +kernel
theorem dJ2_putChar_b72d1_10 : decode cJ2_putChar_b72d1 10 = .ok (.iload_n 1, 1) := by decide +kernel
theorem dJ2_putChar_b72d1_11 : decode cJ2_putChar_b72d1 11 = .ok (.aload_n 0, 1) := by decide +kernel
theorem dJ2_putChar_b72d1_12 : decode cJ2_putChar_b72d1 12 = .ok (.invokestatic 48, 3) := by decide +kernel
theorem dJ2_putChar_b72d1_15 : decode cJ2_putChar_b72d1 15 = .ok (.if_icmp .lt 13, 3) := by decide +kernel
theorem dJ2_putChar_b72d1_18 : decode cJ2_putChar_b72d1 18 = .ok (.new 52, 3) := by decide +kernel
theorem dJ2_putChar_b72d1_21 : decode cJ2_putChar_b72d1 21 = .ok (.dup, 1) := by decide +kernel
theorem dJ2_putChar_b72d1_22 : decode cJ2_putChar_b72d1 22 = .ok (.ldc 54, 2) := by decide +kernel
theorem dJ2_putChar_b72d1_24 : decode cJ2_putChar_b72d1 24 = .ok (.invokespecial 56, 3) := by decide +kernel
theorem dJ2_putChar_b72d1_27 : decode cJ2_putChar_b72d1 27 = .ok (.athrow, 1) := by decide +kernel
theorem dJ2_putChar_b72d1_28 : decode cJ2_putChar_b72d1 28 = .ok (.iload_n 1, 1) := by decide +kernel
theorem dJ2_putChar_b72d1_29 : decode cJ2_putChar_b72d1 29 = .ok (.iconst 1, 1) := by decide +kernel
theorem dJ2_putChar_b72d1_30 : decode cJ2_putChar_b72d1 30 = .ok (.ishl, 1) := by decide +kernel
theorem dJ2_putChar_b72d1_31 : decode cJ2_putChar_b72d1 31 = .ok (.istore_n 1, 1) := by decide +kernel
theorem dJ2_putChar_b72d1_32 : decode cJ2_putChar_b72d1 32 = .ok (.aload_n 0, 1) := by decide +kernel
theorem dJ2_putChar_b72d1_33 : decode cJ2_putChar_b72d1 33 = .ok (.iload_n 1, 1) := by decide +kernel
theorem dJ2_putChar_b72d1_34 : decode cJ2_putChar_b72d1 34 = .ok (.iinc 1 1, 3) := by decide +kernel
theorem dJ2_putChar_b72d1_37 : decode cJ2_putChar_b72d1 37 = .ok (.iload_n 2, 1) := by decide +kernel
theorem dJ2_putChar_b72d1_38 : decode cJ2_putChar_b72d1 38 = .ok (.getstatic 59, 3) := by decide +kernel
theorem dJ2_putChar_b72d1_41 : decode cJ2_putChar_b72d1 41 = .ok (.ishr, 1) := by decide +kernel
theorem dJ2_putChar_b72d1_42 : decode cJ2_putChar_b72d1 42 = .ok (.i2b, 1) := by decide +kernel
theorem dJ2_putChar_b72d1_43 : decode cJ2_putChar_b72d1 43 = .ok (.bastore, 1) := by decide +kernel
theorem dJ2_putChar_b72d1_44 : decode cJ2_putChar_b72d1 44 = .ok (.aload_n 0, 1) := by decide +kernel
theorem dJ2_putChar_b72d1_45 : decode cJ2_putChar_b72d1 45 = .ok (.iload_n 1, 1) := by decide +kernel
theorem dJ2_putChar_b72d1_46 : decode cJ2_putChar_b72d1 46 = .ok (.iload_n 2, 1) := by decide +kernel
theorem dJ2_putChar_b72d1_47 : decode cJ2_putChar_b72d1 47 = .ok (.getstatic 63, 3) := by decide +kernel
theorem dJ2_putChar_b72d1_50 : decode cJ2_putChar_b72d1 50 = .ok (.ishr, 1) := by decide +kernel
theorem dJ2_putChar_b72d1_51 : decode cJ2_putChar_b72d1 51 = .ok (.i2b, 1) := by decide +kernel
theorem dJ2_putChar_b72d1_52 : decode cJ2_putChar_b72d1 52 = .ok (.bastore, 1) := by decide +kernel
theorem dJ2_putChar_b72d1_53 : decode cJ2_putChar_b72d1 53 = .ok (.return_, 1) := by decide +kernel
theorem dJ2_getChar_3b067_0 : decode cJ2_getChar_3b067 0 = .ok (.getstatic 44, 3) := by decide +kernel
theorem dJ2_getChar_3b067_3 : decode cJ2_getChar_3b067 3 = .ok (.ifCond .ne 25, 3) := by decide +kernel
theorem dJ2_getChar_3b067_6 : decode cJ2_getChar_3b067 6 = .ok (.iload_n 1, 1) := by decide +kernel
theorem dJ2_getChar_3b067_7 : decode cJ2_getChar_3b067 7 = .ok (.ifCond .lt 11, 3) := by decide +kernel
theorem dJ2_getChar_3b067_10 : decode cJ2_getChar_3b067 10 = .ok (.iload_n 1, 1) := by decide +kernel
theorem dJ2_getChar_3b067_11 : decode cJ2_getChar_3b067 11 = .ok (.aload_n 0, 1) := by decide +kernel
theorem dJ2_getChar_3b067_12 : decode cJ2_getChar_3b067 12 = .ok (.invokestatic 48, 3) := by decide +kernel
theorem dJ2_getChar_3b067_15 : decode cJ2_getChar_3b067 15 = .ok (.if_icmp .lt 13, 3) := by decide +kernel
theorem dJ2_getChar_3b067_18 : decode cJ2_getChar_3b067 18 = .ok (.new 52, 3) := by decide +kernel
theorem dJ2_getChar_3b067_21 : decode cJ2_getChar_3b067 21 = .ok (.dup, 1) := by decide +kernel
theorem dJ2_getChar_3b067_22 : decode cJ2_getChar_3b067 22 = .ok (.ldc 54, 2) := by decide +kernel
theorem dJ2_getChar_3b067_24 : decode cJ2_getChar_3b067 24 = .ok (.invokespecial 56, 3) := by decide +kernel
theorem dJ2_getChar_3b067_27 : decode cJ2_getChar_3b067 27 = .ok (.athrow, 1) := by decide +kernel
theorem dJ2_getChar_3b067_28 : decode cJ2_getChar_3b067 28 = .ok (.iload_n 1, 1) := by decide +kernel
theorem dJ2_getChar_3b067_29 : decode cJ2_getChar_3b067 29 = .ok (.iconst 1, 1) := by decide +kernel
theorem dJ2_getChar_3b067_30 : decode cJ2_getChar_3b067 30 = .ok (.ishl, 1) := by decide +kernel
theorem dJ2_getChar_3b067_31 : decode cJ2_getChar_3b067 31 = .ok (.istore_n 1, 1) := by decide +kernel
theorem dJ2_getChar_3b067_32 : decode cJ2_getChar_3b067 32 = .ok (.aload_n 0, 1) := by decide +kernel
theorem dJ2_getChar_3b067_33 : decode cJ2_getChar_3b067 33 = .ok (.iload_n 1, 1) := by decide +kernel
theorem dJ2_getChar_3b067_34 : decode cJ2_getChar_3b067 34 = .ok (.iinc 1 1, 3) := by decide +kernel
theorem dJ2_getChar_3b067_37 : decode cJ2_getChar_3b067 37 = .ok (.baload, 1) := by decide +kernel
theorem dJ2_getChar_3b067_38 : decode cJ2_getChar_3b067 38 = .ok (.sipush 255, 3) := by decide +kernel
theorem dJ2_getChar_3b067_41 : decode cJ2_getChar_3b067 41 = .ok (.iand, 1) := by decide +kernel
theorem dJ2_getChar_3b067_42 : decode cJ2_getChar_3b067 42 = .ok (.getstatic 59, 3) := by decide +kernel
theorem dJ2_getChar_3b067_45 : decode cJ2_getChar_3b067 45 = .ok (.ishl, 1) := by decide +kernel
theorem dJ2_getChar_3b067_46 : decode cJ2_getChar_3b067 46 = .ok (.aload_n 0, 1) := by decide +kernel
theorem dJ2_getChar_3b067_47 : decode cJ2_getChar_3b067 47 = .ok (.iload_n 1, 1) := by decide +kernel
theorem dJ2_getChar_3b067_48 : decode cJ2_getChar_3b067 48 = .ok (.baload, 1) := by decide +kernel
theorem dJ2_getChar_3b067_49 : decode cJ2_getChar_3b067 49 = .ok (.sipush 255, 3) := by decide +kernel
theorem dJ2_getChar_3b067_52 : decode cJ2_getChar_3b067 52 = .ok (.iand, 1) := by decide +kernel
theorem dJ2_getChar_3b067_53 : decode cJ2_getChar_3b067 53 = .ok (.getstatic 63, 3) := by decide +kernel
theorem dJ2_getChar_3b067_56 : decode cJ2_getChar_3b067 56 = .ok (.ishl, 1) := by decide +kernel
theorem dJ2_getChar_3b067_57 : decode cJ2_getChar_3b067 57 = .ok (.ior, 1) := by decide +kernel
theorem dJ2_getChar_3b067_58 : decode cJ2_getChar_3b067 58 = .ok (.i2c, 1) := by decide +kernel
theorem dJ2_getChar_3b067_59 : decode cJ2_getChar_3b067 59 = .ok (.ireturn, 1) := by decide +kernel
theorem dJ2_length_9d52b_0 : decode cJ2_length_9d52b 0 = .ok (.aload_n 0, 1) := by decide +kernel
theorem dJ2_length_9d52b_1 : decode cJ2_length_9d52b 1 = .ok (.arraylength, 1) := by decide +kernel
theorem dJ2_length_9d52b_2 : decode cJ2_length_9d52b 2 = .ok (.iconst 1, 1) := by decide +kernel
theorem dJ2_length_9d52b_3 : decode cJ2_length_9d52b 3 = .ok (.ishr, 1) := by decide +kernel
theorem dJ2_length_9d52b_4 : decode cJ2_length_9d52b 4 = .ok (.ireturn, 1) := by decide +kernel
theorem dJ2_coderFromArrayLen_85cad_0 : decode cJ2_coderFromArrayLen_85cad 0 = .ok (.iload_n 1, 1) := by decide +kernel
theorem dJ2_coderFromArrayLen_85cad_1 : decode cJ2_coderFromArrayLen_85cad 1 = .ok (.aload_n 0, 1) := by decide +kernel
theorem dJ2_coderFromArrayLen_85cad_2 : decode cJ2_coderFromArrayLen_85cad 2 = .ok (.arraylength, 1) := by decide +kernel
theorem dJ2_coderFromArrayLen_85cad_3 : decode cJ2_coderFromArrayLen_85cad 3 = .ok (.isub, 1) := by decide +kernel
theorem dJ2_coderFromArrayLen_85cad_4 : decode cJ2_coderFromArrayLen_85cad 4 = .ok (.bipush 31, 2) := by decide +kernel
theorem dJ2_coderFromArrayLen_85cad_6 : decode cJ2_coderFromArrayLen_85cad 6 = .ok (.iushr, 1) := by decide +kernel
theorem dJ2_coderFromArrayLen_85cad_7 : decode cJ2_coderFromArrayLen_85cad 7 = .ok (.i2b, 1) := by decide +kernel
theorem dJ2_coderFromArrayLen_85cad_8 : decode cJ2_coderFromArrayLen_85cad 8 = .ok (.ireturn, 1) := by decide +kernel
theorem dJ2_compress_39247_0 : decode cJ2_compress_39247 0 = .ok (.iload_n 2, 1) := by decide +kernel
theorem dJ2_compress_39247_1 : decode cJ2_compress_39247 1 = .ok (.newarray .byte, 2) := by decide +kernel
theorem dJ2_compress_39247_3 : decode cJ2_compress_39247 3 = .ok (.astore_n 3, 1) := by decide +kernel
theorem dJ2_compress_39247_4 : decode cJ2_compress_39247 4 = .ok (.aload_n 0, 1) := by decide +kernel
theorem dJ2_compress_39247_5 : decode cJ2_compress_39247 5 = .ok (.iload_n 1, 1) := by decide +kernel
theorem dJ2_compress_39247_6 : decode cJ2_compress_39247 6 = .ok (.aload_n 3, 1) := by decide +kernel
theorem dJ2_compress_39247_7 : decode cJ2_compress_39247 7 = .ok (.iconst 0, 1) := by decide +kernel
theorem dJ2_compress_39247_8 : decode cJ2_compress_39247 8 = .ok (.iload_n 2, 1) := by decide +kernel
theorem dJ2_compress_39247_9 : decode cJ2_compress_39247 9 = .ok (.invokestatic 123, 3) := by decide +kernel
theorem dJ2_compress_39247_12 : decode cJ2_compress_39247 12 = .ok (.istore 4, 2) := by decide +kernel
theorem dJ2_compress_39247_14 : decode cJ2_compress_39247 14 = .ok (.iload 4, 2) := by decide +kernel
theorem dJ2_compress_39247_16 : decode cJ2_compress_39247 16 = .ok (.iload_n 2, 1) := by decide +kernel
theorem dJ2_compress_39247_17 : decode cJ2_compress_39247 17 = .ok (.if_icmp .eq 47, 3) := by decide +kernel
theorem dJ2_compress_39247_20 : decode cJ2_compress_39247 20 = .ok (.aload_n 0, 1) := by decide +kernel
theorem dJ2_compress_39247_21 : decode cJ2_compress_39247 21 = .ok (.iload_n 1, 1) := by decide +kernel
theorem dJ2_compress_39247_22 : decode cJ2_compress_39247 22 = .ok (.iconst 1, 1) := by decide +kernel
theorem dJ2_compress_39247_23 : decode cJ2_compress_39247 23 = .ok (.ishl, 1) := by decide +kernel
theorem dJ2_compress_39247_24 : decode cJ2_compress_39247 24 = .ok (.iload_n 1, 1) := by decide +kernel
theorem dJ2_compress_39247_25 : decode cJ2_compress_39247 25 = .ok (.iload_n 2, 1) := by decide +kernel
theorem dJ2_compress_39247_26 : decode cJ2_compress_39247 26 = .ok (.iadd, 1) := by decide +kernel
theorem dJ2_compress_39247_27 : decode cJ2_compress_39247 27 = .ok (.invokestatic 11, 3) := by decide +kernel
theorem dJ2_compress_39247_30 : decode cJ2_compress_39247 30 = .ok (.invokestatic 126, 3) := by decide +kernel
theorem dJ2_compress_39247_33 : decode cJ2_compress_39247 33 = .ok (.astore 5, 2) := by decide +kernel
theorem dJ2_compress_39247_35 : decode cJ2_compress_39247 35 = .ok (.aload 5, 2) := by decide +kernel
theorem dJ2_compress_39247_37 : decode cJ2_compress_39247 37 = .ok (.iload 4, 2) := by decide +kernel
theorem dJ2_compress_39247_39 : decode cJ2_compress_39247 39 = .ok (.invokestatic 71, 3) := by decide +kernel
theorem dJ2_compress_39247_42 : decode cJ2_compress_39247 42 = .ok (.sipush 255, 3) := by decide +kernel
theorem dJ2_compress_39247_45 : decode cJ2_compress_39247 45 = .ok (.if_icmp .gt 16, 3) := by decide +kernel
theorem dJ2_compress_39247_48 : decode cJ2_compress_39247 48 = .ok (.aload 5, 2) := by decide +kernel
theorem dJ2_compress_39247_50 : decode cJ2_compress_39247 50 = .ok (.iconst 0, 1) := by decide +kernel
theorem dJ2_compress_39247_51 : decode cJ2_compress_39247 51 = .ok (.aload_n 3, 1) := by decide +kernel
theorem dJ2_compress_39247_52 : decode cJ2_compress_39247 52 = .ok (.iconst 0, 1) := by decide +kernel
theorem dJ2_compress_39247_53 : decode cJ2_compress_39247 53 = .ok (.iload_n 2, 1) := by decide +kernel
theorem dJ2_compress_39247_54 : decode cJ2_compress_39247 54 = .ok (.invokestatic 123, 3) := by decide +kernel
theorem dJ2_compress_39247_57 : decode cJ2_compress_39247 57 = .ok (.iload_n 2, 1) := by decide +kernel
theorem dJ2_compress_39247_58 : decode cJ2_compress_39247 58 = .ok (.if_icmp .eq 6, 3) := by decide +kernel
theorem dJ2_compress_39247_61 : decode cJ2_compress_39247 61 = .ok (.aload 5, 2) := by decide +kernel
theorem dJ2_compress_39247_63 : decode cJ2_compress_39247 63 = .ok (.areturn, 1) := by decide +kernel
theorem dJ2_compress_39247_64 : decode cJ2_compress_39247 64 = .ok (.aload_n 3, 1) := by decide +kernel
theorem dJ2_compress_39247_65 : decode cJ2_compress_39247 65 = .ok (.areturn, 1) := by decide +kernel
theorem dJ2_compress_5af95_0 : decode cJ2_compress_5af95 0 = .ok (.iload_n 1, 1) := by decide +kernel
theorem dJ2_compress_5af95_1 : decode cJ2_compress_5af95 1 = .ok (.iload 4, 2) := by decide +kernel
theorem dJ2_compress_5af95_3 : decode cJ2_compress_5af95 3 = .ok (.aload_n 0, 1) := by decide +kernel
theorem dJ2_compress_5af95_4 : decode cJ2_compress_5af95 4 = .ok (.invokestatic 173, 3) := by decide +kernel
theorem dJ2_compress_5af95_7 : decode cJ2_compress_5af95 7 = .ok (.iconst 0, 1) := by decide +kernel
theorem dJ2_compress_5af95_8 : decode cJ2_compress_5af95 8 = .ok (.istore 5, 2) := by decide +kernel
theorem dJ2_compress_5af95_10 : decode cJ2_compress_5af95 10 = .ok (.iload 5, 2) := by decide +kernel
theorem dJ2_compress_5af95_12 : decode cJ2_compress_5af95 12 = .ok (.iload 4, 2) := by decide +kernel
theorem dJ2_compress_5af95_14 : decode cJ2_compress_5af95 14 = .ok (.if_icmp .ge 39, 3) := by decide +kernel
theorem dJ2_compress_5af95_17 : decode cJ2_compress_5af95 17 = .ok (.aload_n 0, 1) := by decide +kernel
theorem dJ2_compress_5af95_18 : decode cJ2_compress_5af95 18 = .ok (.iload_n 1, 1) := by decide +kernel
theorem dJ2_compress_5af95_19 : decode cJ2_compress_5af95 19 = .ok (.invokestatic 71, 3) := by decide +kernel
theorem dJ2_compress_5af95_22 : decode cJ2_compress_5af95 22 = .ok (.istore 6, 2) := by decide +kernel
theorem dJ2_compress_5af95_24 : decode cJ2_compress_5af95 24 = .ok (.iload 6, 2) := by decide +kernel
theorem dJ2_compress_5af95_26 : decode cJ2_compress_5af95 26 = .ok (.sipush 255, 3) := by decide +kernel
theorem dJ2_compress_5af95_29 : decode cJ2_compress_5af95 29 = .ok (.if_icmp .le 6, 3) := by decide +kernel
theorem dJ2_compress_5af95_32 : decode cJ2_compress_5af95 32 = .ok (.iload 5, 2) := by decide +kernel
theorem dJ2_compress_5af95_34 : decode cJ2_compress_5af95 34 = .ok (.ireturn, 1) := by decide +kernel
theorem dJ2_compress_5af95_35 : decode cJ2_compress_5af95 35 = .ok (.aload_n 2, 1) := by decide +kernel
theorem dJ2_compress_5af95_36 : decode cJ2_compress_5af95 36 = .ok (.iload_n 3, 1) := by decide +kernel
theorem dJ2_compress_5af95_37 : decode cJ2_compress_5af95 37 = .ok (.iload 6, 2) := by decide +kernel
theorem dJ2_compress_5af95_39 : decode cJ2_compress_5af95 39 = .ok (.i2b, 1) := by decide +kernel
theorem dJ2_compress_5af95_40 : decode cJ2_compress_5af95 40 = .ok (.bastore, 1) := by decide +kernel
theorem dJ2_compress_5af95_41 : decode cJ2_compress_5af95 41 = .ok (.iinc 1 1, 3) := by decide +kernel
theorem dJ2_compress_5af95_44 : decode cJ2_compress_5af95 44 = .ok (.iinc 3 1, 3) := by decide +kernel
theorem dJ2_compress_5af95_47 : decode cJ2_compress_5af95 47 = .ok (.iinc 5 1, 3) := by decide +kernel
theorem dJ2_compress_5af95_50 : decode cJ2_compress_5af95 50 = .ok (.goto (-40), 3) := by decide +kernel
theorem dJ2_compress_5af95_53 : decode cJ2_compress_5af95 53 = .ok (.iload 4, 2) := by decide +kernel
theorem dJ2_compress_5af95_55 : decode cJ2_compress_5af95 55 = .ok (.ireturn, 1) := by decide +kernel
theorem dJ2_fillNull_b72d1_0 : decode cJ2_fillNull_b72d1 0 = .ok (.aload_n 0, 1) := by decide +kernel
theorem dJ2_fillNull_b72d1_1 : decode cJ2_fillNull_b72d1 1 = .ok (.iload_n 1, 1) := by decide +kernel
theorem dJ2_fillNull_b72d1_2 : decode cJ2_fillNull_b72d1 2 = .ok (.iconst 1, 1) := by decide +kernel
theorem dJ2_fillNull_b72d1_3 : decode cJ2_fillNull_b72d1 3 = .ok (.ishl, 1) := by decide +kernel
theorem dJ2_fillNull_b72d1_4 : decode cJ2_fillNull_b72d1 4 = .ok (.iload_n 2, 1) := by decide +kernel
theorem dJ2_fillNull_b72d1_5 : decode cJ2_fillNull_b72d1 5 = .ok (.iconst 1, 1) := by decide +kernel
theorem dJ2_fillNull_b72d1_6 : decode cJ2_fillNull_b72d1 6 = .ok (.ishl, 1) := by decide +kernel
theorem dJ2_fillNull_b72d1_7 : decode cJ2_fillNull_b72d1 7 = .ok (.iconst 0, 1) := by decide +kernel
theorem dJ2_fillNull_b72d1_8 : decode cJ2_fillNull_b72d1 8 = .ok (.invokestatic 380, 3) := by decide +kernel
theorem dJ2_fillNull_b72d1_11 : decode cJ2_fillNull_b72d1 11 = .ok (.return_, 1) := by decide +kernel
theorem dJ2_putCharSB_b72d1_0 : decode cJ2_putCharSB_b72d1 0 = .ok (.iload_n 1, 1) := by decide +kernel
theorem dJ2_putCharSB_b72d1_1 : decode cJ2_putCharSB_b72d1 1 = .ok (.aload_n 0, 1) := by decide +kernel
theorem dJ2_putCharSB_b72d1_2 : decode cJ2_putCharSB_b72d1 2 = .ok (.invokestatic 67, 3) := by decide +kernel
theorem dJ2_putCharSB_b72d1_5 : decode cJ2_putCharSB_b72d1 5 = .ok (.aload_n 0, 1) := by decide +kernel
theorem dJ2_putCharSB_b72d1_6 : decode cJ2_putCharSB_b72d1 6 = .ok (.iload_n 1, 1) := by decide +kernel
theorem dJ2_putCharSB_b72d1_7 : decode cJ2_putCharSB_b72d1 7 = .ok (.iload_n 2, 1) := by decide +kernel
theorem dJ2_putCharSB_b72d1_8 : decode cJ2_putCharSB_b72d1 8 = .ok (.invokestatic 111, 3) := by decide +kernel
theorem dJ2_putCharSB_b72d1_11 : decode cJ2_putCharSB_b72d1 11 = .ok (.return_, 1) := by decide +kernel
theorem dJ2_getChars_46870_0 : decode cJ2_getChars_46870 0 = .ok (.iload_n 1, 1) := by decide +kernel
theorem dJ2_getChars_46870_1 : decode cJ2_getChars_46870 1 = .ok (.iload_n 2, 1) := by decide +kernel
theorem dJ2_getChars_46870_2 : decode cJ2_getChars_46870 2 = .ok (.aload_n 3, 1) := by decide +kernel
theorem dJ2_getChars_46870_3 : decode cJ2_getChars_46870 3 = .ok (.invokestatic 96, 3) := by decide +kernel
theorem dJ2_getChars_46870_6 : decode cJ2_getChars_46870 6 = .ok (.iload_n 0, 1) := by decide +kernel
theorem dJ2_getChars_46870_7 : decode cJ2_getChars_46870 7 = .ok (.iload_n 2, 1) := by decide +kernel
theorem dJ2_getChars_46870_8 : decode cJ2_getChars_46870 8 = .ok (.aload_n 3, 1) := by decide +kernel
theorem dJ2_getChars_46870_9 : decode cJ2_getChars_46870 9 = .ok (.invokestatic 393, 3) := by decide +kernel
theorem dJ2_getChars_46870_12 : decode cJ2_getChars_46870 12 = .ok (.istore 4, 2) := by decide +kernel
theorem dJ2_getChars_46870_14 : decode cJ2_getChars_46870 14 = .ok (.getstatic 44, 3) := by decide +kernel
theorem dJ2_getChars_46870_17 : decode cJ2_getChars_46870 17 = .ok (.ifCond .ne 17, 3) := by decide +kernel
theorem dJ2_getChars_46870_20 : decode cJ2_getChars_46870 20 = .ok (.iload_n 1, 1) := by decide +kernel
theorem dJ2_getChars_46870_21 : decode cJ2_getChars_46870 21 = .ok (.iload 4, 2) := by decide +kernel
theorem dJ2_getChars_46870_23 : decode cJ2_getChars_46870 23 = .ok (.if_icmp .eq 11, 3) := by decide +kernel
theorem dJ2_getChars_46870_26 : decode cJ2_getChars_46870 26 = .ok (.new 52, 3) := by decide +kernel
theorem dJ2_getChars_46870_29 : decode cJ2_getChars_46870 29 = .ok (.dup, 1) := by decide +kernel
theorem dJ2_getChars_46870_30 : decode cJ2_getChars_46870 30 = .ok (.invokespecial 66, 3) := by decide +kernel
theorem dJ2_getChars_46870_33 : decode cJ2_getChars_46870 33 = .ok (.athrow, 1) := by decide +kernel
theorem dJ2_getChars_46870_34 : decode cJ2_getChars_46870 34 = .ok (.iload 4, 2) := by decide +kernel
theorem dJ2_getChars_46870_36 : decode cJ2_getChars_46870 36 = .ok (.ireturn, 1) := by decide +kernel
theorem dJ2_putCharsAt_cd4e5_0 : decode cJ2_putCharsAt_cd4e5 0 = .ok (.iload_n 1, 1) := by decide +kernel
theorem dJ2_putCharsAt_cd4e5_1 : decode cJ2_putCharsAt_cd4e5 1 = .ok (.iconst 4, 1) := by decide +kernel
theorem dJ2_putCharsAt_cd4e5_2 : decode cJ2_putCharsAt_cd4e5 2 = .ok (.iadd, 1) := by decide +kernel
theorem dJ2_putCharsAt_cd4e5_3 : decode cJ2_putCharsAt_cd4e5 3 = .ok (.istore 6, 2) := by decide +kernel
theorem dJ2_putCharsAt_cd4e5_5 : decode cJ2_putCharsAt_cd4e5 5 = .ok (.iload_n 1, 1) := by decide +kernel
theorem dJ2_putCharsAt_cd4e5_6 : decode cJ2_putCharsAt_cd4e5 6 = .ok (.iload 6, 2) := by decide +kernel
theorem dJ2_putCharsAt_cd4e5_8 : decode cJ2_putCharsAt_cd4e5 8 = .ok (.aload_n 0, 1) := by decide +kernel
theorem dJ2_putCharsAt_cd4e5_9 : decode cJ2_putCharsAt_cd4e5 9 = .ok (.invokestatic 96, 3) := by decide +kernel
theorem dJ2_putCharsAt_cd4e5_12 : decode cJ2_putCharsAt_cd4e5 12 = .ok (.aload_n 0, 1) := by decide +kernel
theorem dJ2_putCharsAt_cd4e5_13 : decode cJ2_putCharsAt_cd4e5 13 = .ok (.iload_n 1, 1) := by decide +kernel
theorem dJ2_putCharsAt_cd4e5_14 : decode cJ2_putCharsAt_cd4e5 14 = .ok (.iinc 1 1, 3) := by decide +kernel
theorem dJ2_putCharsAt_cd4e5_17 : decode cJ2_putCharsAt_cd4e5 17 = .ok (.iload_n 2, 1) := by decide +kernel
theorem dJ2_putCharsAt_cd4e5_18 : decode cJ2_putCharsAt_cd4e5 18 = .ok (.invokestatic 111, 3) := by decide +kernel
theorem dJ2_putCharsAt_cd4e5_21 : decode cJ2_putCharsAt_cd4e5 21 = .ok (.aload_n 0, 1) := by decide +kernel
theorem dJ2_putCharsAt_cd4e5_22 : decode cJ2_putCharsAt_cd4e5 22 = .ok (.iload_n 1, 1) := by decide +kernel
theorem dJ2_putCharsAt_cd4e5_23 : decode cJ2_putCharsAt_cd4e5 23 = .ok (.iinc 1 1, 3) := by decide +kernel
theorem dJ2_putCharsAt_cd4e5_26 : decode cJ2_putCharsAt_cd4e5 26 = .ok (.iload_n 3, 1) := by decide +kernel
theorem dJ2_putCharsAt_cd4e5_27 : decode cJ2_putCharsAt_cd4e5 27 = .ok (.invokestatic 111, 3) := by decide +kernel
theorem dJ2_putCharsAt_cd4e5_30 : decode cJ2_putCharsAt_cd4e5 30 = .ok (.aload_n 0, 1) := by decide +kernel
theorem dJ2_putCharsAt_cd4e5_31 : decode cJ2_putCharsAt_cd4e5 31 = .ok (.iload_n 1, 1) := by decide +kernel
theorem dJ2_putCharsAt_cd4e5_32 : decode cJ2_putCharsAt_cd4e5 32 = .ok (.iinc 1 1, 3) := by decide +kernel
theorem dJ2_putCharsAt_cd4e5_35 : decode cJ2_putCharsAt_cd4e5 35 = .ok (.iload 4, 2) := by decide +kernel
theorem dJ2_putCharsAt_cd4e5_37 : decode cJ2_putCharsAt_cd4e5 37 = .ok (.invokestatic 111, 3) := by decide +kernel
theorem dJ2_putCharsAt_cd4e5_40 : decode cJ2_putCharsAt_cd4e5 40 = .ok (.aload_n 0, 1) := by decide +kernel
theorem dJ2_putCharsAt_cd4e5_41 : decode cJ2_putCharsAt_cd4e5 41 = .ok (.iload_n 1, 1) := by decide +kernel
theorem dJ2_putCharsAt_cd4e5_42 : decode cJ2_putCharsAt_cd4e5 42 = .ok (.iinc 1 1, 3) := by decide +kernel
theorem dJ2_putCharsAt_cd4e5_45 : decode cJ2_putCharsAt_cd4e5 45 = .ok (.iload 5, 2) := by decide +kernel
theorem dJ2_putCharsAt_cd4e5_47 : decode cJ2_putCharsAt_cd4e5 47 = .ok (.invokestatic 111, 3) := by decide +kernel
theorem dJ2_putCharsAt_cd4e5_50 : decode cJ2_putCharsAt_cd4e5 50 = .ok (.getstatic 44, 3) := by decide +kernel
theorem dJ2_putCharsAt_cd4e5_53 : decode cJ2_putCharsAt_cd4e5 53 = .ok (.ifCond .ne 17, 3) := by decide +kernel
theorem dJ2_putCharsAt_cd4e5_56 : decode cJ2_putCharsAt_cd4e5 56 = .ok (.iload_n 1, 1) := by decide +kernel
theorem dJ2_putCharsAt_cd4e5_57 : decode cJ2_putCharsAt_cd4e5 57 = .ok (.iload 6, 2) := by decide +kernel
theorem dJ2_putCharsAt_cd4e5_59 : decode cJ2_putCharsAt_cd4e5 59 = .ok (.if_icmp .eq 11, 3) := by decide +kernel
theorem dJ2_putCharsAt_cd4e5_62 : decode cJ2_putCharsAt_cd4e5 62 = .ok (.new 52, 3) := by decide +kernel
theorem dJ2_putCharsAt_cd4e5_65 : decode cJ2_putCharsAt_cd4e5 65 = .ok (.dup, 1) := by decide +kernel
theorem dJ2_putCharsAt_cd4e5_66 : decode cJ2_putCharsAt_cd4e5 66 = .ok (.invokespecial 66, 3) := by decide +kernel
theorem dJ2_putCharsAt_cd4e5_69 : decode cJ2_putCharsAt_cd4e5 69 = .ok (.athrow, 1) := by decide +kernel
theorem dJ2_putCharsAt_cd4e5_70 : decode cJ2_putCharsAt_cd4e5 70 = .ok (.iload 6, 2) := by decide +kernel
theorem dJ2_putCharsAt_cd4e5_72 : decode cJ2_putCharsAt_cd4e5 72 = .ok (.ireturn, 1) := by decide +kernel
theorem dJ2_charAt_3b067_0 : decode cJ2_charAt_3b067 0 = .ok (.iload_n 1, 1) := by decide +kernel
theorem dJ2_charAt_3b067_1 : decode cJ2_charAt_3b067 1 = .ok (.aload_n 0, 1) := by decide +kernel
theorem dJ2_charAt_3b067_2 : decode cJ2_charAt_3b067 2 = .ok (.invokestatic 67, 3) := by decide +kernel
theorem dJ2_charAt_3b067_5 : decode cJ2_charAt_3b067 5 = .ok (.aload_n 0, 1) := by decide +kernel
theorem dJ2_charAt_3b067_6 : decode cJ2_charAt_3b067 6 = .ok (.iload_n 1, 1) := by decide +kernel
theorem dJ2_charAt_3b067_7 : decode cJ2_charAt_3b067 7 = .ok (.invokestatic 71, 3) := by decide +kernel
theorem dJ2_charAt_3b067_10 : decode cJ2_charAt_3b067 10 = .ok (.ireturn, 1) := by decide +kernel
theorem dJ2_inflate_0e8fd_0 : decode cJ2_inflate_0e8fd 0 = .ok (.iload_n 3, 1) := by decide +kernel
theorem dJ2_inflate_0e8fd_1 : decode cJ2_inflate_0e8fd 1 = .ok (.iload 4, 2) := by decide +kernel
theorem dJ2_inflate_0e8fd_3 : decode cJ2_inflate_0e8fd 3 = .ok (.aload_n 2, 1) := by decide +kernel
theorem dJ2_inflate_0e8fd_4 : decode cJ2_inflate_0e8fd 4 = .ok (.invokestatic 173, 3) := by decide +kernel
theorem dJ2_inflate_0e8fd_7 : decode cJ2_inflate_0e8fd 7 = .ok (.iconst 0, 1) := by decide +kernel
theorem dJ2_inflate_0e8fd_8 : decode cJ2_inflate_0e8fd 8 = .ok (.istore 5, 2) := by decide +kernel
theorem dJ2_inflate_0e8fd_10 : decode cJ2_inflate_0e8fd 10 = .ok (.iload 5, 2) := by decide +kernel
theorem dJ2_inflate_0e8fd_12 : decode cJ2_inflate_0e8fd 12 = .ok (.iload 4, 2) := by decide +kernel
theorem dJ2_inflate_0e8fd_14 : decode cJ2_inflate_0e8fd 14 = .ok (.if_icmp .ge 27, 3) := by decide +kernel
theorem dJ2_inflate_0e8fd_17 : decode cJ2_inflate_0e8fd 17 = .ok (.aload_n 2, 1) := by decide +kernel
theorem dJ2_inflate_0e8fd_18 : decode cJ2_inflate_0e8fd 18 = .ok (.iload_n 3, 1) := by decide +kernel
theorem dJ2_inflate_0e8fd_19 : decode cJ2_inflate_0e8fd 19 = .ok (.iinc 3 1, 3) := by decide +kernel
theorem dJ2_inflate_0e8fd_22 : decode cJ2_inflate_0e8fd 22 = .ok (.aload_n 0, 1) := by decide +kernel
theorem dJ2_inflate_0e8fd_23 : decode cJ2_inflate_0e8fd 23 = .ok (.iload_n 1, 1) := by decide +kernel
theorem dJ2_inflate_0e8fd_24 : decode cJ2_inflate_0e8fd 24 = .ok (.iinc 1 1, 3) := by decide +kernel
theorem dJ2_inflate_0e8fd_27 : decode cJ2_inflate_0e8fd 27 = .ok (.baload, 1) := by decide +kernel
theorem dJ2_inflate_0e8fd_28 : decode cJ2_inflate_0e8fd 28 = .ok (.sipush 255, 3) := by decide +kernel
theorem dJ2_inflate_0e8fd_31 : decode cJ2_inflate_0e8fd 31 = .ok (.iand, 1) := by decide +kernel
theorem dJ2_inflate_0e8fd_32 : decode cJ2_inflate_0e8fd 32 = .ok (.invokestatic 111, 3) := by decide +kernel
theorem dJ2_inflate_0e8fd_35 : decode cJ2_inflate_0e8fd 35 = .ok (.iinc 5 1, 3) := by decide +kernel
theorem dJ2_inflate_0e8fd_38 : decode cJ2_inflate_0e8fd 38 = .ok (.goto (-28), 3) := by decide +kernel
theorem dJ2_inflate_0e8fd_41 : decode cJ2_inflate_0e8fd 41 = .ok (.return_, 1) := by decide +kernel
theorem dJ2_getChars_ba4f3_0 : decode cJ2_getChars_ba4f3 0 = .ok (.iload_n 1, 1) := by decide +kernel
theorem dJ2_getChars_ba4f3_1 : decode cJ2_getChars_ba4f3 1 = .ok (.istore 5, 2) := by decide +kernel
theorem dJ2_getChars_ba4f3_3 : decode cJ2_getChars_ba4f3 3 = .ok (.iload_n 0, 1) := by decide +kernel
theorem dJ2_getChars_ba4f3_4 : decode cJ2_getChars_ba4f3 4 = .ok (.ifCond .ge 7, 3) := by decide +kernel
theorem dJ2_getChars_ba4f3_7 : decode cJ2_getChars_ba4f3 7 = .ok (.iconst 1, 1) := by decide +kernel
theorem dJ2_getChars_ba4f3_8 : decode cJ2_getChars_ba4f3 8 = .ok (.goto 4, 3) := by decide +kernel
theorem dJ2_getChars_ba4f3_11 : decode cJ2_getChars_ba4f3 11 = .ok (.iconst 0, 1) := by decide +kernel
theorem dJ2_getChars_ba4f3_12 : decode cJ2_getChars_ba4f3 12 = .ok (.istore 6, 2) := by decide +kernel
theorem dJ2_getChars_ba4f3_14 : decode cJ2_getChars_ba4f3 14 = .ok (.iload 6, 2) := by decide +kernel
theorem dJ2_getChars_ba4f3_16 : decode cJ2_getChars_ba4f3 16 = .ok (.ifCond .ne 6, 3) := by decide +kernel
theorem dJ2_getChars_ba4f3_19 : decode cJ2_getChars_ba4f3 19 = .ok (.iload_n 0, 1) := by decide +kernel
theorem dJ2_getChars_ba4f3_20 : decode cJ2_getChars_ba4f3 20 = .ok (.ineg, 1) := by decide +kernel
theorem dJ2_getChars_ba4f3_21 : decode cJ2_getChars_ba4f3 21 = .ok (.istore_n 0, 1) := by decide +kernel
theorem dJ2_getChars_ba4f3_22 : decode cJ2_getChars_ba4f3 22 = .ok (.iload_n 0, 1) := by decide +kernel
theorem dJ2_getChars_ba4f3_23 : decode cJ2_getChars_ba4f3 23 = .ok (.bipush (-100), 2) := by decide +kernel
theorem dJ2_getChars_ba4f3_25 : decode cJ2_getChars_ba4f3 25 = .ok (.if_icmp .gt 51, 3) := by decide +kernel
theorem dJ2_getChars_ba4f3_28 : decode cJ2_getChars_ba4f3 28 = .ok (.iload_n 0, 1) := by decide +kernel
theorem dJ2_getChars_ba4f3_29 : decode cJ2_getChars_ba4f3 29 = .ok (.bipush 100, 2) := by decide +kernel
theorem dJ2_getChars_ba4f3_31 : decode cJ2_getChars_ba4f3 31 = .ok (.idiv, 1) := by decide +kernel
theorem dJ2_getChars_ba4f3_32 : decode cJ2_getChars_ba4f3 32 = .ok (.istore_n 3, 1) := by decide +kernel
theorem dJ2_getChars_ba4f3_33 : decode cJ2_getChars_ba4f3 33 = .ok (.iload_n 3, 1) := by decide +kernel
theorem dJ2_getChars_ba4f3_34 : decode cJ2_getChars_ba4f3 34 = .ok (.bipush 100, 2) := by decide +kernel
theorem dJ2_getChars_ba4f3_36 : decode cJ2_getChars_ba4f3 36 = .ok (.imul, 1) := by decide +kernel
theorem dJ2_getChars_ba4f3_37 : decode cJ2_getChars_ba4f3 37 = .ok (.iload_n 0, 1) := by decide +kernel
theorem dJ2_getChars_ba4f3_38 : decode cJ2_getChars_ba4f3 38 = .ok (.isub, 1) := by decide +kernel
theorem dJ2_getChars_ba4f3_39 : decode cJ2_getChars_ba4f3 39 = .ok (.istore 4, 2) := by decide +kernel
theorem dJ2_getChars_ba4f3_41 : decode cJ2_getChars_ba4f3 41 = .ok (.iload_n 3, 1) := by decide +kernel
theorem dJ2_getChars_ba4f3_42 : decode cJ2_getChars_ba4f3 42 = .ok (.istore_n 0, 1) := by decide +kernel
theorem dJ2_getChars_ba4f3_43 : decode cJ2_getChars_ba4f3 43 = .ok (.aload_n 2, 1) := by decide +kernel
theorem dJ2_getChars_ba4f3_44 : decode cJ2_getChars_ba4f3 44 = .ok (.iinc 5 (-1), 3) := by decide +kernel
theorem dJ2_getChars_ba4f3_47 : decode cJ2_getChars_ba4f3 47 = .ok (.iload 5, 2) := by decide +kernel
theorem dJ2_getChars_ba4f3_49 : decode cJ2_getChars_ba4f3 49 = .ok (.getstatic 403, 3) := by decide +kernel
theorem dJ2_getChars_ba4f3_52 : decode cJ2_getChars_ba4f3 52 = .ok (.iload 4, 2) := by decide +kernel
theorem dJ2_getChars_ba4f3_54 : decode cJ2_getChars_ba4f3 54 = .ok (.baload, 1) := by decide +kernel
theorem dJ2_getChars_ba4f3_55 : decode cJ2_getChars_ba4f3 55 = .ok (.invokestatic 111, 3) := by decide +kernel
theorem dJ2_getChars_ba4f3_58 : decode cJ2_getChars_ba4f3 58 = .ok (.aload_n 2, 1) := by decide +kernel
theorem dJ2_getChars_ba4f3_59 : decode cJ2_getChars_ba4f3 59 = .ok (.iinc 5 (-1), 3) := by decide +kernel
theorem dJ2_getChars_ba4f3_62 : decode cJ2_getChars_ba4f3 62 = .ok (.iload 5, 2) := by decide +kernel
theorem dJ2_getChars_ba4f3_64 : decode cJ2_getChars_ba4f3 64 = .ok (.getstatic 407, 3) := by decide +kernel
theorem dJ2_getChars_ba4f3_67 : decode cJ2_getChars_ba4f3 67 = .ok (.iload 4, 2) := by decide +kernel
theorem dJ2_getChars_ba4f3_69 : decode cJ2_getChars_ba4f3 69 = .ok (.baload, 1) := by decide +kernel
theorem dJ2_getChars_ba4f3_70 : decode cJ2_getChars_ba4f3 70 = .ok (.invokestatic 111, 3) := by decide +kernel
theorem dJ2_getChars_ba4f3_73 : decode cJ2_getChars_ba4f3 73 = .ok (.goto (-51), 3) := by decide +kernel
theorem dJ2_getChars_ba4f3_76 : decode cJ2_getChars_ba4f3 76 = .ok (.aload_n 2, 1) := by decide +kernel
theorem dJ2_getChars_ba4f3_77 : decode cJ2_getChars_ba4f3 77 = .ok (.iinc 5 (-1), 3) := by decide +kernel
theorem dJ2_getChars_ba4f3_80 : decode cJ2_getChars_ba4f3 80 = .ok (.iload 5, 2) := by decide +kernel
theorem dJ2_getChars_ba4f3_82 : decode cJ2_getChars_ba4f3 82 = .ok (.getstatic 403, 3) := by decide +kernel
theorem dJ2_getChars_ba4f3_85 : decode cJ2_getChars_ba4f3 85 = .ok (.iload_n 0, 1) := by decide +kernel
theorem dJ2_getChars_ba4f3_86 : decode cJ2_getChars_ba4f3 86 = .ok (.ineg, 1) := by decide +kernel
theorem dJ2_getChars_ba4f3_87 : decode cJ2_getChars_ba4f3 87 = .ok (.baload, 1) := by decide +kernel
theorem dJ2_getChars_ba4f3_88 : decode cJ2_getChars_ba4f3 88 = .ok (.invokestatic 111, 3) := by decide +kernel
theorem dJ2_getChars_ba4f3_91 : decode cJ2_getChars_ba4f3 91 = .ok (.iload_n 0, 1) := by decide +kernel
theorem dJ2_getChars_ba4f3_92 : decode cJ2_getChars_ba4f3 92 = .ok (.bipush (-9), 2) := by decide +kernel
theorem dJ2_getChars_ba4f3_94 : decode cJ2_getChars_ba4f3 94 = .ok (.if_icmp .ge 18, 3) := by decide +kernel
theorem dJ2_getChars_ba4f3_97 : decode cJ2_getChars_ba4f3 97 = .ok (.aload_n 2, 1) := by decide +kernel
theorem dJ2_getChars_ba4f3_98 : decode cJ2_getChars_ba4f3 98 = .ok (.iinc 5 (-1), 3) := by decide +kernel
theorem dJ2_getChars_ba4f3_101 : decode cJ2_getChars_ba4f3 101 = .ok (.iload 5, 2) := by decide +kernel
theorem dJ2_getChars_ba4f3_103 : decode cJ2_getChars_ba4f3 103 = .ok (.getstatic 407, 3) := by decide +kernel
theorem dJ2_getChars_ba4f3_106 : decode cJ2_getChars_ba4f3 106 = .ok (.iload_n 0, 1) := by decide +kernel
theorem dJ2_getChars_ba4f3_107 : decode cJ2_getChars_ba4f3 107 = .ok (.ineg, 1) := by decide +kernel
theorem dJ2_getChars_ba4f3_108 : decode cJ2_getChars_ba4f3 108 = .ok (.baload, 1) := by decide +kernel
theorem dJ2_getChars_ba4f3_109 : decode cJ2_getChars_ba4f3 109 = .ok (.invokestatic 111, 3) := by decide +kernel
theorem dJ2_getChars_ba4f3_112 : decode cJ2_getChars_ba4f3 112 = .ok (.iload 6, 2) := by decide +kernel
theorem dJ2_getChars_ba4f3_114 : decode cJ2_getChars_ba4f3 114 = .ok (.ifCond .eq 14, 3) := by decide +kernel
theorem dJ2_getChars_ba4f3_117 : decode cJ2_getChars_ba4f3 117 = .ok (.aload_n 2, 1) := by decide +kernel
theorem dJ2_getChars_ba4f3_118 : decode cJ2_getChars_ba4f3 118 = .ok (.iinc 5 (-1), 3) := by decide +kernel
theorem dJ2_getChars_ba4f3_121 : decode cJ2_getChars_ba4f3 121 = .ok (.iload 5, 2) := by decide +kernel
theorem dJ2_getChars_ba4f3_123 : decode cJ2_getChars_ba4f3 123 = .ok (.bipush 45, 2) := by decide +kernel
theorem dJ2_getChars_ba4f3_125 : decode cJ2_getChars_ba4f3 125 = .ok (.invokestatic 111, 3) := by decide +kernel
theorem dJ2_getChars_ba4f3_128 : decode cJ2_getChars_ba4f3 128 = .ok (.iload 5, 2) := by decide +kernel
theorem dJ2_getChars_ba4f3_130 : decode cJ2_getChars_ba4f3 130 = .ok (.ireturn, 1) := by decide +kernel
theorem dJ2_checkIndex_2214a_0 : decode cJ2_checkIndex_2214a 0 = .ok (.iload_n 0, 1) := by decide +kernel
theorem dJ2_checkIndex_2214a_1 : decode cJ2_checkIndex_2214a 1 = .ok (.aload_n 1, 1) := by decide +kernel
theorem dJ2_checkIndex_2214a_2 : decode cJ2_checkIndex_2214a 2 = .ok (.invokestatic 48, 3) := by decide +kernel
theorem dJ2_checkIndex_2214a_5 : decode cJ2_checkIndex_2214a 5 = .ok (.invokestatic 414, 3) := by decide +kernel
theorem dJ2_checkIndex_2214a_8 : decode cJ2_checkIndex_2214a 8 = .ok (.return_, 1) := by decide +kernel
theorem dJ2_checkBoundsBeginEnd_d044e_0 : decode cJ2_checkBoundsBeginEnd_d044e 0 = .ok (.iload_n 0, 1) := by decide +kernel
theorem dJ2_checkBoundsBeginEnd_d044e_1 : decode cJ2_checkBoundsBeginEnd_d044e 1 = .ok (.iload_n 1, 1) := by decide +kernel
theorem dJ2_checkBoundsBeginEnd_d044e_2 : decode cJ2_checkBoundsBeginEnd_d044e 2 = .ok (.aload_n 2, 1) := by decide +kernel
theorem dJ2_checkBoundsBeginEnd_d044e_3 : decode cJ2_checkBoundsBeginEnd_d044e 3 = .ok (.invokestatic 48, 3) := by decide +kernel
theorem dJ2_checkBoundsBeginEnd_d044e_6 : decode cJ2_checkBoundsBeginEnd_d044e 6 = .ok (.invokestatic 241, 3) := by decide +kernel
theorem dJ2_checkBoundsBeginEnd_d044e_9 : decode cJ2_checkBoundsBeginEnd_d044e 9 = .ok (.return_, 1) := by decide +kernel
theorem dJ2_checkBoundsOffCount_d044e_0 : decode cJ2_checkBoundsOffCount_d044e 0 = .ok (.iload_n 0, 1) := by decide +kernel
theorem dJ2_checkBoundsOffCount_d044e_1 : decode cJ2_checkBoundsOffCount_d044e 1 = .ok (.iload_n 1, 1) := by decide +kernel
theorem dJ2_checkBoundsOffCount_d044e_2 : decode cJ2_checkBoundsOffCount_d044e 2 = .ok (.aload_n 2, 1) := by decide +kernel
theorem dJ2_checkBoundsOffCount_d044e_3 : decode cJ2_checkBoundsOffCount_d044e 3 = .ok (.invokestatic 48, 3) := by decide +kernel
theorem dJ2_checkBoundsOffCount_d044e_6 : decode cJ2_checkBoundsOffCount_d044e 6 = .ok (.invokestatic 419, 3) := by decide +kernel
theorem dJ2_checkBoundsOffCount_d044e_9 : decode cJ2_checkBoundsOffCount_d044e 9 = .ok (.pop, 1) := by decide +kernel
theorem dJ2_checkBoundsOffCount_d044e_10 : decode cJ2_checkBoundsOffCount_d044e 10 = .ok (.return_, 1) := by decide +kernel
theorem dJ7_rangeCheck_23922_0 : decode cJ7_rangeCheck_23922 0 = .ok (.iload_n 1, 1) := by decide +kernel
theorem dJ7_rangeCheck_23922_1 : decode cJ7_rangeCheck_23922 1 = .ok (.iload_n 2, 1) := by decide +kernel
theorem dJ7_rangeCheck_23922_2 : decode cJ7_rangeCheck_23922 2 = .ok (.if_icmp .le 44, 3) := by decide +kernel
theorem dJ7_rangeCheck_23922_5 : decode cJ7_rangeCheck_23922 5 = .ok (.new 43, 3) := by decide +kernel
theorem dJ7_rangeCheck_23922_8 : decode cJ7_rangeCheck_23922 8 = .ok (.dup, 1) := by decide +kernel
theorem dJ7_rangeCheck_23922_9 : decode cJ7_rangeCheck_23922 9 = .ok (.new 45, 3) := by decide +kernel
theorem dJ7_rangeCheck_23922_12 : decode cJ7_rangeCheck_23922 12 = .ok (.dup, 1) := by decide +kernel
theorem dJ7_rangeCheck_23922_13 : decode cJ7_rangeCheck_23922 13 = .ok (.invokespecial 47, 3) := by decide +kernel
theorem dJ7_rangeCheck_23922_16 : decode cJ7_rangeCheck_23922 16 = .ok (.ldc 48, 2) := by decide +kernel
theorem dJ7_rangeCheck_23922_18 : decode cJ7_rangeCheck_23922 18 = .ok (.invokevirtual 50, 3) := by decide +kernel
theorem dJ7_rangeCheck_23922_21 : decode cJ7_rangeCheck_23922 21 = .ok (.iload_n 1, 1) := by decide +kernel
theorem dJ7_rangeCheck_23922_22 : decode cJ7_rangeCheck_23922 22 = .ok (.invokevirtual 54, 3) := by decide +kernel
theorem dJ7_rangeCheck_23922_25 : decode cJ7_rangeCheck_23922 25 = .ok (.ldc 57, 2) := by decide +kernel
theorem dJ7_rangeCheck_23922_27 : decode cJ7_rangeCheck_23922 27 = .ok (.invokevirtual 50, 3) := by decide +kernel
theorem dJ7_rangeCheck_23922_30 : decode cJ7_rangeCheck_23922 30 = .ok (.iload_n 2, 1) := by decide +kernel
theorem dJ7_rangeCheck_23922_31 : decode cJ7_rangeCheck_23922 31 = .ok (.invokevirtual 54, 3) := by decide +kernel
theorem dJ7_rangeCheck_23922_34 : decode cJ7_rangeCheck_23922 34 = .ok (.ldc 59, 2) := by decide +kernel
theorem dJ7_rangeCheck_23922_36 : decode cJ7_rangeCheck_23922 36 = .ok (.invokevirtual 50, 3) := by decide +kernel
theorem dJ7_rangeCheck_23922_39 : decode cJ7_rangeCheck_23922 39 = .ok (.invokevirtual 61, 3) := by decide +kernel
theorem dJ7_rangeCheck_23922_42 : decode cJ7_rangeCheck_23922 42 = .ok (.invokespecial 65, 3) := by decide +kernel
theorem dJ7_rangeCheck_23922_45 : decode cJ7_rangeCheck_23922 45 = .ok (.athrow, 1) := by decide +kernel
theorem dJ7_rangeCheck_23922_46 : decode cJ7_rangeCheck_23922 46 = .ok (.iload_n 1, 1) := by decide +kernel
theorem dJ7_rangeCheck_23922_47 : decode cJ7_rangeCheck_23922 47 = .ok (.ifCond .ge 12, 3) := by decide +kernel
theorem dJ7_rangeCheck_23922_50 : decode cJ7_rangeCheck_23922 50 = .ok (.new 68, 3) := by decide +kernel
theorem dJ7_rangeCheck_23922_53 : decode cJ7_rangeCheck_23922 53 = .ok (.dup, 1) := by decide +kernel
theorem dJ7_rangeCheck_23922_54 : decode cJ7_rangeCheck_23922 54 = .ok (.iload_n 1, 1) := by decide +kernel
theorem dJ7_rangeCheck_23922_55 : decode cJ7_rangeCheck_23922 55 = .ok (.invokespecial 70, 3) := by decide +kernel
theorem dJ7_rangeCheck_23922_58 : decode cJ7_rangeCheck_23922 58 = .ok (.athrow, 1) := by decide +kernel
theorem dJ7_rangeCheck_23922_59 : decode cJ7_rangeCheck_23922 59 = .ok (.iload_n 2, 1) := by decide +kernel
theorem dJ7_rangeCheck_23922_60 : decode cJ7_rangeCheck_23922 60 = .ok (.iload_n 0, 1) := by decide +kernel
theorem dJ7_rangeCheck_23922_61 : decode cJ7_rangeCheck_23922 61 = .ok (.if_icmp .le 12, 3) := by decide +kernel
theorem dJ7_rangeCheck_23922_64 : decode cJ7_rangeCheck_23922 64 = .ok (.new 68, 3) := by decide +kernel
theorem dJ7_rangeCheck_23922_67 : decode cJ7_rangeCheck_23922 67 = .ok (.dup, 1) := by decide +kernel
theorem dJ7_rangeCheck_23922_68 : decode cJ7_rangeCheck_23922 68 = .ok (.iload_n 2, 1) := by decide +kernel
theorem dJ7_rangeCheck_23922_69 : decode cJ7_rangeCheck_23922 69 = .ok (.invokespecial 70, 3) := by decide +kernel
theorem dJ7_rangeCheck_23922_72 : decode cJ7_rangeCheck_23922 72 = .ok (.athrow, 1) := by decide +kernel
theorem dJ7_rangeCheck_23922_73 : decode cJ7_rangeCheck_23922 73 = .ok (.return_, 1) := by decide +kernel
theorem dJ7_fill_eb02e_0 : decode cJ7_fill_eb02e 0 = .ok (.aload_n 0, 1) := by decide +kernel
theorem dJ7_fill_eb02e_1 : decode cJ7_fill_eb02e 1 = .ok (.arraylength, 1) := by decide +kernel
theorem dJ7_fill_eb02e_2 : decode cJ7_fill_eb02e 2 = .ok (.iload_n 1, 1) := by decide +kernel
theorem dJ7_fill_eb02e_3 : decode cJ7_fill_eb02e 3 = .ok (.iload_n 2, 1) := by decide +kernel
theorem dJ7_fill_eb02e_4 : decode cJ7_fill_eb02e 4 = .ok (.invokestatic 13, 3) := by decide +kernel
theorem dJ7_fill_eb02e_7 : decode cJ7_fill_eb02e 7 = .ok (.iload_n 1, 1) := by decide +kernel
theorem dJ7_fill_eb02e_8 : decode cJ7_fill_eb02e 8 = .ok (.istore 4, 2) := by decide +kernel
theorem dJ7_fill_eb02e_10 : decode cJ7_fill_eb02e 10 = .ok (.iload 4, 2) := by decide +kernel
theorem dJ7_fill_eb02e_12 : decode cJ7_fill_eb02e 12 = .ok (.iload_n 2, 1) := by decide +kernel
theorem dJ7_fill_eb02e_13 : decode cJ7_fill_eb02e 13 = .ok (.if_icmp .ge 14, 3) := by decide +kernel
theorem dJ7_fill_eb02e_16 : decode cJ7_fill_eb02e 16 = .ok (.aload_n 0, 1) := by decide +kernel
theorem dJ7_fill_eb02e_17 : decode cJ7_fill_eb02e 17 = .ok (.iload 4, 2) := by decide +kernel
theorem dJ7_fill_eb02e_19 : decode cJ7_fill_eb02e 19 = .ok (.iload_n 3, 1) := by decide +kernel
theorem dJ7_fill_eb02e_20 : decode cJ7_fill_eb02e 20 = .ok (.bastore, 1) := by decide +kernel
theorem dJ7_fill_eb02e_21 : decode cJ7_fill_eb02e 21 = .ok (.iinc 4 1, 3) := by decide +kernel
theorem dJ7_fill_eb02e_24 : decode cJ7_fill_eb02e 24 = .ok (.goto (-14), 3) := by decide +kernel
theorem dJ7_fill_eb02e_27 : decode cJ7_fill_eb02e 27 = .ok (.return_, 1) := by decide +kernel
theorem dJ7_copyOf_9075b_0 : decode cJ7_copyOf_9075b 0 = .ok (.iload_n 1, 1) := by decide +kernel
theorem dJ7_copyOf_9075b_1 : decode cJ7_copyOf_9075b 1 = .ok (.aload_n 0, 1) := by decide +kernel
theorem dJ7_copyOf_9075b_2 : decode cJ7_copyOf_9075b 2 = .ok (.arraylength, 1) := by decide +kernel
theorem dJ7_copyOf_9075b_3 : decode cJ7_copyOf_9075b 3 = .ok (.if_icmp .ne 11, 3) := by decide +kernel
theorem dJ7_copyOf_9075b_6 : decode cJ7_copyOf_9075b 6 = .ok (.aload_n 0, 1) := by decide +kernel
theorem dJ7_copyOf_9075b_7 : decode cJ7_copyOf_9075b 7 = .ok (.invokevirtual 310, 3) := by decide +kernel
theorem dJ7_copyOf_9075b_10 : decode cJ7_copyOf_9075b 10 = .ok (.checkcast 311, 3) := by decide +kernel
theorem dJ7_copyOf_9075b_13 : decode cJ7_copyOf_9075b 13 = .ok (.areturn, 1) := by decide +kernel
theorem dJ7_copyOf_9075b_14 : decode cJ7_copyOf_9075b 14 = .ok (.iload_n 1, 1) := by decide +kernel
theorem dJ7_copyOf_9075b_15 : decode cJ7_copyOf_9075b 15 = .ok (.newarray .byte, 2) := by decide +kernel
theorem dJ7_copyOf_9075b_17 : decode cJ7_copyOf_9075b 17 = .ok (.astore_n 2, 1) := by decide +kernel
theorem dJ7_copyOf_9075b_18 : decode cJ7_copyOf_9075b 18 = .ok (.aload_n 0, 1) := by decide +kernel
theorem dJ7_copyOf_9075b_19 : decode cJ7_copyOf_9075b 19 = .ok (.iconst 0, 1) := by decide +kernel
theorem dJ7_copyOf_9075b_20 : decode cJ7_copyOf_9075b 20 = .ok (.aload_n 2, 1) := by decide +kernel
theorem dJ7_copyOf_9075b_21 : decode cJ7_copyOf_9075b 21 = .ok (.iconst 0, 1) := by decide +kernel
theorem dJ7_copyOf_9075b_22 : decode cJ7_copyOf_9075b 22 = .ok (.aload_n 0, 1) := by decide +kernel
theorem dJ7_copyOf_9075b_23 : decode cJ7_copyOf_9075b 23 = .ok (.arraylength, 1) := by decide +kernel
theorem dJ7_copyOf_9075b_24 : decode cJ7_copyOf_9075b 24 = .ok (.iload_n 1, 1) := by decide +kernel
theorem dJ7_copyOf_9075b_25 : decode cJ7_copyOf_9075b 25 = .ok (.invokestatic 304, 3) := by decide +kernel
theorem dJ7_copyOf_9075b_28 : decode cJ7_copyOf_9075b 28 = .ok (.invokestatic 150, 3) := by decide +kernel
theorem dJ7_copyOf_9075b_31 : decode cJ7_copyOf_9075b 31 = .ok (.aload_n 2, 1) := by decide +kernel
theorem dJ7_copyOf_9075b_32 : decode cJ7_copyOf_9075b 32 = .ok (.areturn, 1) := by decide +kernel
theorem dJ7_checkLength_df160_0 : decode cJ7_checkLength_df160 0 = .ok (.iload_n 1, 1) := by decide +kernel
theorem dJ7_checkLength_df160_1 : decode cJ7_checkLength_df160 1 = .ok (.iload_n 0, 1) := by decide +kernel
theorem dJ7_checkLength_df160_2 : decode cJ7_checkLength_df160 2 = .ok (.if_icmp .ge 35, 3) := by decide +kernel
theorem dJ7_checkLength_df160_5 : decode cJ7_checkLength_df160 5 = .ok (.new 43, 3) := by decide +kernel
theorem dJ7_checkLength_df160_8 : decode cJ7_checkLength_df160 8 = .ok (.dup, 1) := by decide +kernel
theorem dJ7_checkLength_df160_9 : decode cJ7_checkLength_df160 9 = .ok (.new 45, 3) := by decide +kernel
theorem dJ7_checkLength_df160_12 : decode cJ7_checkLength_df160 12 = .ok (.dup, 1) := by decide +kernel
theorem dJ7_checkLength_df160_13 : decode cJ7_checkLength_df160 13 = .ok (.invokespecial 47, 3) := by decide +kernel
theorem dJ7_checkLength_df160_16 : decode cJ7_checkLength_df160 16 = .ok (.iload_n 0, 1) := by decide +kernel
theorem dJ7_checkLength_df160_17 : decode cJ7_checkLength_df160 17 = .ok (.invokevirtual 54, 3) := by decide +kernel
theorem dJ7_checkLength_df160_20 : decode cJ7_checkLength_df160 20 = .ok (.ldc_w 337, 3) := by decide +kernel
theorem dJ7_checkLength_df160_23 : decode cJ7_checkLength_df160 23 = .ok (.invokevirtual 50, 3) := by decide +kernel
theorem dJ7_checkLength_df160_26 : decode cJ7_checkLength_df160 26 = .ok (.iload_n 1, 1) := by decide +kernel
theorem dJ7_checkLength_df160_27 : decode cJ7_checkLength_df160 27 = .ok (.invokevirtual 54, 3) := by decide +kernel
theorem dJ7_checkLength_df160_30 : decode cJ7_checkLength_df160 30 = .ok (.invokevirtual 61, 3) := by decide +kernel
theorem dJ7_checkLength_df160_33 : decode cJ7_checkLength_df160 33 = .ok (.invokespecial 65, 3) := by decide +kernel
theorem dJ7_checkLength_df160_36 : decode cJ7_checkLength_df160 36 = .ok (.athrow, 1) := by decide +kernel
theorem dJ7_checkLength_df160_37 : decode cJ7_checkLength_df160 37 = .ok (.return_, 1) := by decide +kernel
theorem dJ7_copyOfRange_39247_0 : decode cJ7_copyOfRange_39247 0 = .ok (.iload_n 1, 1) := by decide +kernel
theorem dJ7_copyOfRange_39247_1 : decode cJ7_copyOfRange_39247 1 = .ok (.ifCond .ne 9, 3) := by decide +kernel
theorem dJ7_copyOfRange_39247_4 : decode cJ7_copyOfRange_39247 4 = .ok (.iload_n 2, 1) := by decide +kernel
theorem dJ7_copyOfRange_39247_5 : decode cJ7_copyOfRange_39247 5 = .ok (.aload_n 0, 1) := by decide +kernel
theorem dJ7_copyOfRange_39247_6 : decode cJ7_copyOfRange_39247 6 = .ok (.arraylength, 1) := by decide +kernel
theorem dJ7_copyOfRange_39247_7 : decode cJ7_copyOfRange_39247 7 = .ok (.if_icmp .eq 10, 3) := by decide +kernel
theorem dJ7_copyOfRange_39247_10 : decode cJ7_copyOfRange_39247 10 = .ok (.aload_n 0, 1) := by decide +kernel
theorem dJ7_copyOfRange_39247_11 : decode cJ7_copyOfRange_39247 11 = .ok (.iload_n 1, 1) := by decide +kernel
theorem dJ7_copyOfRange_39247_12 : decode cJ7_copyOfRange_39247 12 = .ok (.iload_n 2, 1) := by decide +kernel
theorem dJ7_copyOfRange_39247_13 : decode cJ7_copyOfRange_39247 13 = .ok (.invokestatic 339, 3) := by decide +kernel
theorem dJ7_copyOfRange_39247_16 : decode cJ7_copyOfRange_39247 16 = .ok (.areturn, 1) := by decide +kernel
theorem dJ7_copyOfRange_39247_17 : decode cJ7_copyOfRange_39247 17 = .ok (.aload_n 0, 1) := by decide +kernel
theorem dJ7_copyOfRange_39247_18 : decode cJ7_copyOfRange_39247 18 = .ok (.invokevirtual 310, 3) := by decide +kernel
theorem dJ7_copyOfRange_39247_21 : decode cJ7_copyOfRange_39247 21 = .ok (.checkcast 311, 3) := by decide +kernel
theorem dJ7_copyOfRange_39247_24 : decode cJ7_copyOfRange_39247 24 = .ok (.areturn, 1) := by decide +kernel
theorem dJ7_copyOfRangeByte_39247_0 : decode cJ7_copyOfRangeByte_39247 0 = .ok (.iload_n 1, 1) := by decide +kernel
theorem dJ7_copyOfRangeByte_39247_1 : decode cJ7_copyOfRangeByte_39247 1 = .ok (.iload_n 2, 1) := by decide +kernel
theorem dJ7_copyOfRangeByte_39247_2 : decode cJ7_copyOfRangeByte_39247 2 = .ok (.invokestatic 343, 3) := by decide +kernel
theorem dJ7_copyOfRangeByte_39247_5 : decode cJ7_copyOfRangeByte_39247 5 = .ok (.iload_n 2, 1) := by decide +kernel
theorem dJ7_copyOfRangeByte_39247_6 : decode cJ7_copyOfRangeByte_39247 6 = .ok (.iload_n 1, 1) := by decide +kernel
theorem dJ7_copyOfRangeByte_39247_7 : decode cJ7_copyOfRangeByte_39247 7 = .ok (.isub, 1) := by decide +kernel
theorem dJ7_copyOfRangeByte_39247_8 : decode cJ7_copyOfRangeByte_39247 8 = .ok (.istore_n 3, 1) := by decide +kernel
theorem dJ7_copyOfRangeByte_39247_9 : decode cJ7_copyOfRangeByte_39247 9 = .ok (.iload_n 3, 1) := by decide +kernel
theorem dJ7_copyOfRangeByte_39247_10 : decode cJ7_copyOfRangeByte_39247 10 = .ok (.newarray .byte, 2) := by decide +kernel
theorem dJ7_copyOfRangeByte_39247_12 : decode cJ7_copyOfRangeByte_39247 12 = .ok (.astore 4, 2) := by decide +kernel
theorem dJ7_copyOfRangeByte_39247_14 : decode cJ7_copyOfRangeByte_39247 14 = .ok (.aload_n 0, 1) := by decide +kernel
theorem dJ7_copyOfRangeByte_39247_15 : decode cJ7_copyOfRangeByte_39247 15 = .ok (.iload_n 1, 1) := by decide +kernel
theorem dJ7_copyOfRangeByte_39247_16 : decode cJ7_copyOfRangeByte_39247 16 = .ok (.aload 4, 2) := by decide +kernel
theorem dJ7_copyOfRangeByte_39247_18 : decode cJ7_copyOfRangeByte_39247 18 = .ok (.iconst 0, 1) := by decide +kernel
theorem dJ7_copyOfRangeByte_39247_19 : decode cJ7_copyOfRangeByte_39247 19 = .ok (.aload_n 0, 1) := by decide +kernel
theorem dJ7_copyOfRangeByte_39247_20 : decode cJ7_copyOfRangeByte_39247 20 = .ok (.arraylength, 1) := by decide +kernel
theorem dJ7_copyOfRangeByte_39247_21 : decode cJ7_copyOfRangeByte_39247 21 = .ok (.iload_n 1, 1) := by decide +kernel
theorem dJ7_copyOfRangeByte_39247_22 : decode cJ7_copyOfRangeByte_39247 22 = .ok (.isub, 1) := by decide +kernel
theorem dJ7_copyOfRangeByte_39247_23 : decode cJ7_copyOfRangeByte_39247 23 = .ok (.iload_n 3, 1) := by decide +kernel
theorem dJ7_copyOfRangeByte_39247_24 : decode cJ7_copyOfRangeByte_39247 24 = .ok (.invokestatic 304, 3) := by decide +kernel
theorem dJ7_copyOfRangeByte_39247_27 : decode cJ7_copyOfRangeByte_39247 27 = .ok (.invokestatic 150, 3) := by decide +kernel
theorem dJ7_copyOfRangeByte_39247_30 : decode cJ7_copyOfRangeByte_39247 30 = .ok (.aload 4, 2) := by decide +kernel
theorem dJ7_copyOfRangeByte_39247_32 : decode cJ7_copyOfRangeByte_39247 32 = .ok (.areturn, 1) := by decide +kernel
theorem dJ8_newLength_cabcc_0 : decode cJ8_newLength_cabcc 0 = .ok (.iload_n 0, 1) := by decide +kernel
theorem dJ8_newLength_cabcc_1 : decode cJ8_newLength_cabcc 1 = .ok (.iload_n 1, 1) := by decide +kernel
theorem dJ8_newLength_cabcc_2 : decode cJ8_newLength_cabcc 2 = .ok (.iload_n 2, 1) := by decide +kernel
theorem dJ8_newLength_cabcc_3 : decode cJ8_newLength_cabcc 3 = .ok (.invokestatic 194, 3) := by decide +kernel
theorem dJ8_newLength_cabcc_6 : decode cJ8_newLength_cabcc 6 = .ok (.iadd, 1) := by decide +kernel
theorem dJ8_newLength_cabcc_7 : decode cJ8_newLength_cabcc 7 = .ok (.istore_n 3, 1) := by decide +kernel
theorem dJ8_newLength_cabcc_8 : decode cJ8_newLength_cabcc 8 = .ok (.iconst 0, 1) := by decide +kernel
theorem dJ8_newLength_cabcc_9 : decode cJ8_newLength_cabcc 9 = .ok (.iload_n 3, 1) := by decide +kernel
theorem dJ8_newLength_cabcc_10 : decode cJ8_newLength_cabcc 10 = .ok (.if_icmp .ge 11, 3) := by decide +kernel
theorem dJ8_newLength_cabcc_13 : decode cJ8_newLength_cabcc 13 = .ok (.iload_n 3, 1) := by decide +kernel
theorem dJ8_newLength_cabcc_14 : decode cJ8_newLength_cabcc 14 = .ok (.ldc 200, 2) := by decide +kernel
theorem dJ8_newLength_cabcc_16 : decode cJ8_newLength_cabcc 16 = .ok (.if_icmp .gt 5, 3) := by decide +kernel
theorem dJ8_newLength_cabcc_19 : decode cJ8_newLength_cabcc 19 = .ok (.iload_n 3, 1) := by decide +kernel
theorem dJ8_newLength_cabcc_20 : decode cJ8_newLength_cabcc 20 = .ok (.ireturn, 1) := by decide +kernel
theorem dJ8_newLength_cabcc_21 : decode cJ8_newLength_cabcc 21 = .ok (.iload_n 0, 1) := by decide +kernel
theorem dJ8_newLength_cabcc_22 : decode cJ8_newLength_cabcc 22 = .ok (.iload_n 1, 1) := by decide +kernel
theorem dJ8_newLength_cabcc_23 : decode cJ8_newLength_cabcc 23 = .ok (.invokestatic 201, 3) := by decide +kernel
theorem dJ8_newLength_cabcc_26 : decode cJ8_newLength_cabcc 26 = .ok (.ireturn, 1) := by decide +kernel
theorem dJ8_hugeLength_7cf53_0 : decode cJ8_hugeLength_7cf53 0 = .ok (.iload_n 0, 1) := by decide +kernel
theorem dJ8_hugeLength_7cf53_1 : decode cJ8_hugeLength_7cf53 1 = .ok (.iload_n 1, 1) := by decide +kernel
theorem dJ8_hugeLength_7cf53_2 : decode cJ8_hugeLength_7cf53 2 = .ok (.iadd, 1) := by decide +kernel
theorem dJ8_hugeLength_7cf53_3 : decode cJ8_hugeLength_7cf53 3 = .ok (.istore_n 2, 1) := by decide +kernel
theorem dJ8_hugeLength_7cf53_4 : decode cJ8_hugeLength_7cf53 4 = .ok (.iload_n 2, 1) := by decide +kernel
theorem dJ8_hugeLength_7cf53_5 : decode cJ8_hugeLength_7cf53 5 = .ok (.ifCond .ge 44, 3) := by decide +kernel
theorem dJ8_hugeLength_7cf53_8 : decode cJ8_hugeLength_7cf53 8 = .ok (.new 204, 3) := by decide +kernel
theorem dJ8_hugeLength_7cf53_11 : decode cJ8_hugeLength_7cf53 11 = .ok (.dup, 1) := by decide +kernel
theorem dJ8_hugeLength_7cf53_12 : decode cJ8_hugeLength_7cf53 12 = .ok (.new 89, 3) := by decide +kernel
theorem dJ8_hugeLength_7cf53_15 : decode cJ8_hugeLength_7cf53 15 = .ok (.dup, 1) := by decide +kernel
theorem dJ8_hugeLength_7cf53_16 : decode cJ8_hugeLength_7cf53 16 = .ok (.invokespecial 91, 3) := by decide +kernel
theorem dJ8_hugeLength_7cf53_19 : decode cJ8_hugeLength_7cf53 19 = .ok (.ldc 206, 2) := by decide +kernel
theorem dJ8_hugeLength_7cf53_21 : decode cJ8_hugeLength_7cf53 21 = .ok (.invokevirtual 94, 3) := by decide +kernel
theorem dJ8_hugeLength_7cf53_24 : decode cJ8_hugeLength_7cf53 24 = .ok (.iload_n 0, 1) := by decide +kernel
theorem dJ8_hugeLength_7cf53_25 : decode cJ8_hugeLength_7cf53 25 = .ok (.invokevirtual 98, 3) := by decide +kernel
theorem dJ8_hugeLength_7cf53_28 : decode cJ8_hugeLength_7cf53 28 = .ok (.ldc 208, 2) := by decide +kernel
theorem dJ8_hugeLength_7cf53_30 : decode cJ8_hugeLength_7cf53 30 = .ok (.invokevirtual 94, 3) := by decide +kernel
theorem dJ8_hugeLength_7cf53_33 : decode cJ8_hugeLength_7cf53 33 = .ok (.iload_n 1, 1) := by decide +kernel
theorem dJ8_hugeLength_7cf53_34 : decode cJ8_hugeLength_7cf53 34 = .ok (.invokevirtual 98, 3) := by decide +kernel
theorem dJ8_hugeLength_7cf53_37 : decode cJ8_hugeLength_7cf53 37 = .ok (.ldc 210, 2) := by decide +kernel
theorem dJ8_hugeLength_7cf53_39 : decode cJ8_hugeLength_7cf53 39 = .ok (.invokevirtual 94, 3) := by decide +kernel
theorem dJ8_hugeLength_7cf53_42 : decode cJ8_hugeLength_7cf53 42 = .ok (.invokevirtual 101, 3) := by decide +kernel
theorem dJ8_hugeLength_7cf53_45 : decode cJ8_hugeLength_7cf53 45 = .ok (.invokespecial 212, 3) := by decide +kernel
theorem dJ8_hugeLength_7cf53_48 : decode cJ8_hugeLength_7cf53 48 = .ok (.athrow, 1) := by decide +kernel
theorem dJ8_hugeLength_7cf53_49 : decode cJ8_hugeLength_7cf53 49 = .ok (.iload_n 2, 1) := by decide +kernel
theorem dJ8_hugeLength_7cf53_50 : decode cJ8_hugeLength_7cf53 50 = .ok (.ldc 200, 2) := by decide +kernel
theorem dJ8_hugeLength_7cf53_52 : decode cJ8_hugeLength_7cf53 52 = .ok (.if_icmp .gt 6, 3) := by decide +kernel
theorem dJ8_hugeLength_7cf53_55 : decode cJ8_hugeLength_7cf53 55 = .ok (.ldc 200, 2) := by decide +kernel
theorem dJ8_hugeLength_7cf53_57 : decode cJ8_hugeLength_7cf53 57 = .ok (.ireturn, 1) := by decide +kernel
theorem dJ8_hugeLength_7cf53_58 : decode cJ8_hugeLength_7cf53 58 = .ok (.iload_n 2, 1) := by decide +kernel
theorem dJ8_hugeLength_7cf53_59 : decode cJ8_hugeLength_7cf53 59 = .ok (.ireturn, 1) := by decide +kernel
theorem dJ3_checkIndex_8e157_0 : decode cJ3_checkIndex_8e157 0 = .ok (.iload_n 0, 1) := by decide +kernel
theorem dJ3_checkIndex_8e157_1 : decode cJ3_checkIndex_8e157 1 = .ok (.ifCond .lt 8, 3) := by decide +kernel
theorem dJ3_checkIndex_8e157_4 : decode cJ3_checkIndex_8e157 4 = .ok (.iload_n 0, 1) := by decide +kernel
theorem dJ3_checkIndex_8e157_5 : decode cJ3_checkIndex_8e157 5 = .ok (.iload_n 1, 1) := by decide +kernel
theorem dJ3_checkIndex_8e157_6 : decode cJ3_checkIndex_8e157 6 = .ok (.if_icmp .lt 10, 3) := by decide +kernel
theorem dJ3_checkIndex_8e157_9 : decode cJ3_checkIndex_8e157 9 = .ok (.aload_n 2, 1) := by decide +kernel
theorem dJ3_checkIndex_8e157_10 : decode cJ3_checkIndex_8e157 10 = .ok (.iload_n 0, 1) := by decide +kernel
theorem dJ3_checkIndex_8e157_11 : decode cJ3_checkIndex_8e157 11 = .ok (.iload_n 1, 1) := by decide +kernel
theorem dJ3_checkIndex_8e157_12 : decode cJ3_checkIndex_8e157 12 = .ok (.invokestatic 95, 3) := by decide +kernel
theorem dJ3_checkIndex_8e157_15 : decode cJ3_checkIndex_8e157 15 = .ok (.athrow, 1) := by decide +kernel
theorem dJ3_checkIndex_8e157_16 : decode cJ3_checkIndex_8e157 16 = .ok (.iload_n 0, 1) := by decide +kernel
theorem dJ3_checkIndex_8e157_17 : decode cJ3_checkIndex_8e157 17 = .ok (.ireturn, 1) := by decide +kernel
theorem dJ3_checkFromToIndex_8c36e_0 : decode cJ3_checkFromToIndex_8c36e 0 = .ok (.iload_n 0, 1) := by decide +kernel
theorem dJ3_checkFromToIndex_8c36e_1 : decode cJ3_checkFromToIndex_8c36e 1 = .ok (.ifCond .lt 13, 3) := by decide +kernel
theorem dJ3_checkFromToIndex_8c36e_4 : decode cJ3_checkFromToIndex_8c36e 4 = .ok (.iload_n 0, 1) := by decide +kernel
theorem dJ3_checkFromToIndex_8c36e_5 : decode cJ3_checkFromToIndex_8c36e 5 = .ok (.iload_n 1, 1) := by decide +kernel
theorem dJ3_checkFromToIndex_8c36e_6 : decode cJ3_checkFromToIndex_8c36e 6 = .ok (.if_icmp .gt 8, 3) := by decide +kernel
theorem dJ3_checkFromToIndex_8c36e_9 : decode cJ3_checkFromToIndex_8c36e 9 = .ok (.iload_n 1, 1) := by decide +kernel
theorem dJ3_checkFromToIndex_8c36e_10 : decode cJ3_checkFromToIndex_8c36e 10 = .ok (.iload_n 2, 1) := by decide +kernel
theorem dJ3_checkFromToIndex_8c36e_11 : decode cJ3_checkFromToIndex_8c36e 11 = .ok (.if_icmp .le 11, 3) := by decide +kernel
theorem dJ3_checkFromToIndex_8c36e_14 : decode cJ3_checkFromToIndex_8c36e 14 = .ok (.aload_n 3, 1) := by decide +kernel
theorem dJ3_checkFromToIndex_8c36e_15 : decode cJ3_checkFromToIndex_8c36e 15 = .ok (.iload_n 0, 1) := by decide +kernel
theorem dJ3_checkFromToIndex_8c36e_16 : decode cJ3_checkFromToIndex_8c36e 16 = .ok (.iload_n 1, 1) := by decide +kernel
theorem dJ3_checkFromToIndex_8c36e_17 : decode cJ3_checkFromToIndex_8c36e 17 = .ok (.iload_n 2, 1) := by decide +kernel
theorem dJ3_checkFromToIndex_8c36e_18 : decode cJ3_checkFromToIndex_8c36e 18 = .ok (.invokestatic 99, 3) := by decide +kernel
theorem dJ3_checkFromToIndex_8c36e_21 : decode cJ3_checkFromToIndex_8c36e 21 = .ok (.athrow, 1) := by decide +kernel
theorem dJ3_checkFromToIndex_8c36e_22 : decode cJ3_checkFromToIndex_8c36e 22 = .ok (.iload_n 0, 1) := by decide +kernel
theorem dJ3_checkFromToIndex_8c36e_23 : decode cJ3_checkFromToIndex_8c36e 23 = .ok (.ireturn, 1) := by decide +kernel
theorem dJ3_checkFromIndexSize_8c36e_0 : decode cJ3_checkFromIndexSize_8c36e 0 = .ok (.iload_n 2, 1) := by decide +kernel
theorem dJ3_checkFromIndexSize_8c36e_1 : decode cJ3_checkFromIndexSize_8c36e 1 = .ok (.iload_n 0, 1) := by decide +kernel
theorem dJ3_checkFromIndexSize_8c36e_2 : decode cJ3_checkFromIndexSize_8c36e 2 = .ok (.ior, 1) := by decide +kernel
theorem dJ3_checkFromIndexSize_8c36e_3 : decode cJ3_checkFromIndexSize_8c36e 3 = .ok (.iload_n 1, 1) := by decide +kernel
theorem dJ3_checkFromIndexSize_8c36e_4 : decode cJ3_checkFromIndexSize_8c36e 4 = .ok (.ior, 1) := by decide +kernel
theorem dJ3_checkFromIndexSize_8c36e_5 : decode cJ3_checkFromIndexSize_8c36e 5 = .ok (.ifCond .lt 10, 3) := by decide +kernel
theorem dJ3_checkFromIndexSize_8c36e_8 : decode cJ3_checkFromIndexSize_8c36e 8 = .ok (.iload_n 1, 1) := by decide +kernel
theorem dJ3_checkFromIndexSize_8c36e_9 : decode cJ3_checkFromIndexSize_8c36e 9 = .ok (.iload_n 2, 1) := by decide +kernel
theorem dJ3_checkFromIndexSize_8c36e_10 : decode cJ3_checkFromIndexSize_8c36e 10 = .ok (.iload_n 0, 1) := by decide +kernel
theorem dJ3_checkFromIndexSize_8c36e_11 : decode cJ3_checkFromIndexSize_8c36e 11 = .ok (.isub, 1) := by decide +kernel
theorem dJ3_checkFromIndexSize_8c36e_12 : decode cJ3_checkFromIndexSize_8c36e 12 = .ok (.if_icmp .le 11, 3) := by decide +kernel
theorem dJ3_checkFromIndexSize_8c36e_15 : decode cJ3_checkFromIndexSize_8c36e 15 = .ok (.aload_n 3, 1) := by decide +kernel
theorem dJ3_checkFromIndexSize_8c36e_16 : decode cJ3_checkFromIndexSize_8c36e 16 = .ok (.iload_n 0, 1) := by decide +kernel
theorem dJ3_checkFromIndexSize_8c36e_17 : decode cJ3_checkFromIndexSize_8c36e 17 = .ok (.iload_n 1, 1) := by decide +kernel
theorem dJ3_checkFromIndexSize_8c36e_18 : decode cJ3_checkFromIndexSize_8c36e 18 = .ok (.iload_n 2, 1) := by decide +kernel
theorem dJ3_checkFromIndexSize_8c36e_19 : decode cJ3_checkFromIndexSize_8c36e 19 = .ok (.invokestatic 103, 3) := by decide +kernel
theorem dJ3_checkFromIndexSize_8c36e_22 : decode cJ3_checkFromIndexSize_8c36e 22 = .ok (.athrow, 1) := by decide +kernel
theorem dJ3_checkFromIndexSize_8c36e_23 : decode cJ3_checkFromIndexSize_8c36e 23 = .ok (.iload_n 0, 1) := by decide +kernel
theorem dJ3_checkFromIndexSize_8c36e_24 : decode cJ3_checkFromIndexSize_8c36e 24 = .ok (.ireturn, 1) := by decide +kernel
theorem dL_cell_0 : decode cL_cell 0 = .ok (.aload_n 0, 1) := by decide +kernel
theorem dL_cell_1 : decode cL_cell 1 = .ok (.arraylength, 1) := by decide +kernel
theorem dL_cell_2 : decode cL_cell 2 = .ok (.ifCond .ne 13, 3) := by decide +kernel
theorem dL_cell_5 : decode cL_cell 5 = .ok (.bipush 71, 2) := by decide +kernel
theorem dL_cell_7 : decode cL_cell 7 = .ok (.iload_n 1, 1) := by decide +kernel
theorem dL_cell_8 : decode cL_cell 8 = .ok (.imul, 1) := by decide +kernel
theorem dL_cell_9 : decode cL_cell 9 = .ok (.bipush 13, 2) := by decide +kernel
theorem dL_cell_11 : decode cL_cell 11 = .ok (.iadd, 1) := by decide +kernel
theorem dL_cell_12 : decode cL_cell 12 = .ok (.goto 19, 3) := by decide +kernel
theorem dL_cell_15 : decode cL_cell 15 = .ok (.aload_n 0, 1) := by decide +kernel
theorem dL_cell_16 : decode cL_cell 16 = .ok (.iload_n 1, 1) := by decide +kernel
theorem dL_cell_17 : decode cL_cell 17 = .ok (.aload_n 0, 1) := by decide +kernel
theorem dL_cell_18 : decode cL_cell 18 = .ok (.arraylength, 1) := by decide +kernel
theorem dL_cell_19 : decode cL_cell 19 = .ok (.irem, 1) := by decide +kernel
theorem dL_cell_20 : decode cL_cell 20 = .ok (.iaload, 1) := by decide +kernel
theorem dL_cell_21 : decode cL_cell 21 = .ok (.iconst 5, 1) := by decide +kernel
theorem dL_cell_22 : decode cL_cell 22 = .ok (.iload_n 1, 1) := by decide +kernel
theorem dL_cell_23 : decode cL_cell 23 = .ok (.aload_n 0, 1) := by decide +kernel
theorem dL_cell_24 : decode cL_cell 24 = .ok (.arraylength, 1) := by decide +kernel
theorem dL_cell_25 : decode cL_cell 25 = .ok (.idiv, 1) := by decide +kernel
theorem dL_cell_26 : decode cL_cell 26 = .ok (.imul, 1) := by decide +kernel
theorem dL_cell_27 : decode cL_cell 27 = .ok (.bipush 17, 2) := by decide +kernel
theorem dL_cell_29 : decode cL_cell 29 = .ok (.irem, 1) := by decide +kernel
theorem dL_cell_30 : decode cL_cell 30 = .ok (.iushr, 1) := by decide +kernel
theorem dL_cell_31 : decode cL_cell 31 = .ok (.ireturn, 1) := by decide +kernel
theorem dL_addFrog_0 : decode cL_addFrog 0 = .ok (.aload_n 0, 1) := by decide +kernel
theorem dL_addFrog_1 : decode cL_addFrog 1 = .ok (.iload_n 1, 1) := by decide +kernel
theorem dL_addFrog_2 : decode cL_addFrog 2 = .ok (.iload_n 2, 1) := by decide +kernel
theorem dL_addFrog_3 : decode cL_addFrog 3 = .ok (.invokevirtual 7, 3) := by decide +kernel
theorem dL_addFrog_6 : decode cL_addFrog 6 = .ok (.ireturn, 1) := by decide +kernel
theorem dL_addFrog_7 : decode cL_addFrog 7 = .ok (.astore_n 3, 1) := by decide +kernel
theorem dL_addFrog_8 : decode cL_addFrog 8 = .ok (.iconst (-1), 1) := by decide +kernel
theorem dL_addFrog_9 : decode cL_addFrog 9 = .ok (.ireturn, 1) := by decide +kernel
theorem dL_addFrog_10 : decode cL_addFrog 10 = .ok (.astore_n 3, 1) := by decide +kernel
theorem dL_addFrog_11 : decode cL_addFrog 11 = .ok (.bipush (-2), 2) := by decide +kernel
theorem dL_addFrog_13 : decode cL_addFrog 13 = .ok (.ireturn, 1) := by decide +kernel
theorem dL_addFrog_14 : decode cL_addFrog 14 = .ok (.astore_n 3, 1) := by decide +kernel
theorem dL_addFrog_15 : decode cL_addFrog 15 = .ok (.bipush (-3), 2) := by decide +kernel
theorem dL_addFrog_17 : decode cL_addFrog 17 = .ok (.ireturn, 1) := by decide +kernel
theorem dL_addPad_0 : decode cL_addPad 0 = .ok (.aload_n 0, 1) := by decide +kernel
theorem dL_addPad_1 : decode cL_addPad 1 = .ok (.iload_n 1, 1) := by decide +kernel
theorem dL_addPad_2 : decode cL_addPad 2 = .ok (.invokevirtual 19, 3) := by decide +kernel
theorem dL_addPad_5 : decode cL_addPad 5 = .ok (.ireturn, 1) := by decide +kernel
theorem dL_addPad_6 : decode cL_addPad 6 = .ok (.astore_n 2, 1) := by decide +kernel
theorem dL_addPad_7 : decode cL_addPad 7 = .ok (.iconst (-1), 1) := by decide +kernel
theorem dL_addPad_8 : decode cL_addPad 8 = .ok (.ireturn, 1) := by decide +kernel
theorem dL_addPad_9 : decode cL_addPad 9 = .ok (.astore_n 2, 1) := by decide +kernel
theorem dL_addPad_10 : decode cL_addPad 10 = .ok (.bipush (-2), 2) := by decide +kernel
theorem dL_addPad_12 : decode cL_addPad 12 = .ok (.ireturn, 1) := by decide +kernel
theorem dL_hop_0 : decode cL_hop 0 = .ok (.aload_n 0, 1) := by decide +kernel
theorem dL_hop_1 : decode cL_hop 1 = .ok (.iload_n 1, 1) := by decide +kernel
theorem dL_hop_2 : decode cL_hop 2 = .ok (.iload_n 2, 1) := by decide +kernel
theorem dL_hop_3 : decode cL_hop 3 = .ok (.invokevirtual 23, 3) := by decide +kernel
theorem dL_hop_6 : decode cL_hop 6 = .ok (.ireturn, 1) := by decide +kernel
theorem dL_hop_7 : decode cL_hop 7 = .ok (.astore_n 3, 1) := by decide +kernel
theorem dL_hop_8 : decode cL_hop 8 = .ok (.iconst (-1), 1) := by decide +kernel
theorem dL_hop_9 : decode cL_hop 9 = .ok (.ireturn, 1) := by decide +kernel
theorem dL_hop_10 : decode cL_hop 10 = .ok (.astore_n 3, 1) := by decide +kernel
theorem dL_hop_11 : decode cL_hop 11 = .ok (.bipush (-2), 2) := by decide +kernel
theorem dL_hop_13 : decode cL_hop 13 = .ok (.ireturn, 1) := by decide +kernel
theorem dL_dive_0 : decode cL_dive 0 = .ok (.aload_n 0, 1) := by decide +kernel
theorem dL_dive_1 : decode cL_dive 1 = .ok (.iload_n 1, 1) := by decide +kernel
theorem dL_dive_2 : decode cL_dive 2 = .ok (.invokevirtual 26, 3) := by decide +kernel
theorem dL_dive_5 : decode cL_dive 5 = .ok (.ireturn, 1) := by decide +kernel
theorem dL_dive_6 : decode cL_dive 6 = .ok (.astore_n 2, 1) := by decide +kernel
theorem dL_dive_7 : decode cL_dive 7 = .ok (.iconst (-1), 1) := by decide +kernel
theorem dL_dive_8 : decode cL_dive 8 = .ok (.ireturn, 1) := by decide +kernel
theorem dL_dive_9 : decode cL_dive 9 = .ok (.astore_n 2, 1) := by decide +kernel
theorem dL_dive_10 : decode cL_dive 10 = .ok (.bipush (-2), 2) := by decide +kernel
theorem dL_dive_12 : decode cL_dive 12 = .ok (.ireturn, 1) := by decide +kernel
theorem dL_pondOf_0 : decode cL_pondOf 0 = .ok (.aload_n 0, 1) := by decide +kernel
theorem dL_pondOf_1 : decode cL_pondOf 1 = .ok (.iload_n 1, 1) := by decide +kernel
theorem dL_pondOf_2 : decode cL_pondOf 2 = .ok (.invokevirtual 29, 3) := by decide +kernel
theorem dL_pondOf_5 : decode cL_pondOf 5 = .ok (.ireturn, 1) := by decide +kernel
theorem dL_pondOf_6 : decode cL_pondOf 6 = .ok (.astore_n 2, 1) := by decide +kernel
theorem dL_pondOf_7 : decode cL_pondOf 7 = .ok (.iconst (-1), 1) := by decide +kernel
theorem dL_pondOf_8 : decode cL_pondOf 8 = .ok (.ireturn, 1) := by decide +kernel
theorem dL_weightOf_0 : decode cL_weightOf 0 = .ok (.aload_n 0, 1) := by decide +kernel
theorem dL_weightOf_1 : decode cL_weightOf 1 = .ok (.iload_n 1, 1) := by decide +kernel
theorem dL_weightOf_2 : decode cL_weightOf 2 = .ok (.invokevirtual 32, 3) := by decide +kernel
theorem dL_weightOf_5 : decode cL_weightOf 5 = .ok (.ireturn, 1) := by decide +kernel
theorem dL_weightOf_6 : decode cL_weightOf 6 = .ok (.astore_n 2, 1) := by decide +kernel
theorem dL_weightOf_7 : decode cL_weightOf 7 = .ok (.iconst (-1), 1) := by decide +kernel
theorem dL_weightOf_8 : decode cL_weightOf 8 = .ok (.ireturn, 1) := by decide +kernel
theorem dL_padOf_0 : decode cL_padOf 0 = .ok (.aload_n 0, 1) := by decide +kernel
theorem dL_padOf_1 : decode cL_padOf 1 = .ok (.iload_n 1, 1) := by decide +kernel
theorem dL_padOf_2 : decode cL_padOf 2 = .ok (.invokevirtual 35, 3) := by decide +kernel
theorem dL_padOf_5 : decode cL_padOf 5 = .ok (.ireturn, 1) := by decide +kernel
theorem dL_padOf_6 : decode cL_padOf 6 = .ok (.astore_n 2, 1) := by decide +kernel
theorem dL_padOf_7 : decode cL_padOf 7 = .ok (.iconst (-1), 1) := by decide +kernel
theorem dL_padOf_8 : decode cL_padOf 8 = .ok (.ireturn, 1) := by decide +kernel
theorem dL_padOf_9 : decode cL_padOf 9 = .ok (.astore_n 2, 1) := by decide +kernel
theorem dL_padOf_10 : decode cL_padOf 10 = .ok (.bipush (-2), 2) := by decide +kernel
theorem dL_padOf_12 : decode cL_padOf 12 = .ok (.ireturn, 1) := by decide +kernel
theorem dL_frogsOn_0 : decode cL_frogsOn 0 = .ok (.aload_n 0, 1) := by decide +kernel
theorem dL_frogsOn_1 : decode cL_frogsOn 1 = .ok (.iload_n 1, 1) := by decide +kernel
theorem dL_frogsOn_2 : decode cL_frogsOn 2 = .ok (.invokevirtual 40, 3) := by decide +kernel
theorem dL_frogsOn_5 : decode cL_frogsOn 5 = .ok (.ireturn, 1) := by decide +kernel
theorem dL_frogsOn_6 : decode cL_frogsOn 6 = .ok (.astore_n 2, 1) := by decide +kernel
theorem dL_frogsOn_7 : decode cL_frogsOn 7 = .ok (.iconst (-1), 1) := by decide +kernel
theorem dL_frogsOn_8 : decode cL_frogsOn 8 = .ok (.ireturn, 1) := by decide +kernel
theorem dL_padWeight_0 : decode cL_padWeight 0 = .ok (.aload_n 0, 1) := by decide +kernel
theorem dL_padWeight_1 : decode cL_padWeight 1 = .ok (.iload_n 1, 1) := by decide +kernel
theorem dL_padWeight_2 : decode cL_padWeight 2 = .ok (.invokevirtual 43, 3) := by decide +kernel
theorem dL_padWeight_5 : decode cL_padWeight 5 = .ok (.ireturn, 1) := by decide +kernel
theorem dL_padWeight_6 : decode cL_padWeight 6 = .ok (.astore_n 2, 1) := by decide +kernel
theorem dL_padWeight_7 : decode cL_padWeight 7 = .ok (.iconst (-1), 1) := by decide +kernel
theorem dL_padWeight_8 : decode cL_padWeight 8 = .ok (.ireturn, 1) := by decide +kernel
theorem dL_addMotion_0 : decode cL_addMotion 0 = .ok (.aload_n 0, 1) := by decide +kernel
theorem dL_addMotion_1 : decode cL_addMotion 1 = .ok (.iload_n 1, 1) := by decide +kernel
theorem dL_addMotion_2 : decode cL_addMotion 2 = .ok (.invokevirtual 46, 3) := by decide +kernel
theorem dL_addMotion_5 : decode cL_addMotion 5 = .ok (.ireturn, 1) := by decide +kernel
theorem dL_addMotion_6 : decode cL_addMotion 6 = .ok (.astore_n 2, 1) := by decide +kernel
theorem dL_addMotion_7 : decode cL_addMotion 7 = .ok (.iconst (-1), 1) := by decide +kernel
theorem dL_addMotion_8 : decode cL_addMotion 8 = .ok (.ireturn, 1) := by decide +kernel
theorem dL_addMotion_9 : decode cL_addMotion 9 = .ok (.astore_n 2, 1) := by decide +kernel
theorem dL_addMotion_10 : decode cL_addMotion 10 = .ok (.bipush (-2), 2) := by decide +kernel
theorem dL_addMotion_12 : decode cL_addMotion 12 = .ok (.ireturn, 1) := by decide +kernel
theorem dL_isEntitled_0 : decode cL_isEntitled 0 = .ok (.aload_n 0, 1) := by decide +kernel
theorem dL_isEntitled_1 : decode cL_isEntitled 1 = .ok (.iload_n 1, 1) := by decide +kernel
theorem dL_isEntitled_2 : decode cL_isEntitled 2 = .ok (.iload_n 2, 1) := by decide +kernel
theorem dL_isEntitled_3 : decode cL_isEntitled 3 = .ok (.invokevirtual 49, 3) := by decide +kernel
theorem dL_isEntitled_6 : decode cL_isEntitled 6 = .ok (.ifCond .eq 7, 3) := by decide +kernel
theorem dL_isEntitled_9 : decode cL_isEntitled 9 = .ok (.iconst 1, 1) := by decide +kernel
theorem dL_isEntitled_10 : decode cL_isEntitled 10 = .ok (.goto 4, 3) := by decide +kernel
theorem dL_isEntitled_13 : decode cL_isEntitled 13 = .ok (.iconst 0, 1) := by decide +kernel
theorem dL_isEntitled_14 : decode cL_isEntitled 14 = .ok (.ireturn, 1) := by decide +kernel
theorem dL_isEntitled_15 : decode cL_isEntitled 15 = .ok (.astore_n 3, 1) := by decide +kernel
theorem dL_isEntitled_16 : decode cL_isEntitled 16 = .ok (.iconst (-1), 1) := by decide +kernel
theorem dL_isEntitled_17 : decode cL_isEntitled 17 = .ok (.ireturn, 1) := by decide +kernel
theorem dL_signUp_0 : decode cL_signUp 0 = .ok (.aload_n 0, 1) := by decide +kernel
theorem dL_signUp_1 : decode cL_signUp 1 = .ok (.iload_n 1, 1) := by decide +kernel
theorem dL_signUp_2 : decode cL_signUp 2 = .ok (.iload_n 2, 1) := by decide +kernel
theorem dL_signUp_3 : decode cL_signUp 3 = .ok (.invokevirtual 53, 3) := by decide +kernel
theorem dL_signUp_6 : decode cL_signUp 6 = .ok (.ireturn, 1) := by decide +kernel
theorem dL_signUp_7 : decode cL_signUp 7 = .ok (.astore_n 3, 1) := by decide +kernel
theorem dL_signUp_8 : decode cL_signUp 8 = .ok (.iconst (-1), 1) := by decide +kernel
theorem dL_signUp_9 : decode cL_signUp 9 = .ok (.ireturn, 1) := by decide +kernel
theorem dL_signUp_10 : decode cL_signUp 10 = .ok (.astore_n 3, 1) := by decide +kernel
theorem dL_signUp_11 : decode cL_signUp 11 = .ok (.bipush (-2), 2) := by decide +kernel
theorem dL_signUp_13 : decode cL_signUp 13 = .ok (.ireturn, 1) := by decide +kernel
theorem dL_signUp_14 : decode cL_signUp 14 = .ok (.astore_n 3, 1) := by decide +kernel
theorem dL_signUp_15 : decode cL_signUp 15 = .ok (.bipush (-3), 2) := by decide +kernel
theorem dL_signUp_17 : decode cL_signUp 17 = .ok (.ireturn, 1) := by decide +kernel
theorem dL_signUp_18 : decode cL_signUp 18 = .ok (.astore_n 3, 1) := by decide +kernel
theorem dL_signUp_19 : decode cL_signUp 19 = .ok (.bipush (-4), 2) := by decide +kernel
theorem dL_signUp_21 : decode cL_signUp 21 = .ok (.ireturn, 1) := by decide +kernel
theorem dL_strike_0 : decode cL_strike 0 = .ok (.aload_n 0, 1) := by decide +kernel
theorem dL_strike_1 : decode cL_strike 1 = .ok (.iload_n 1, 1) := by decide +kernel
theorem dL_strike_2 : decode cL_strike 2 = .ok (.iload_n 2, 1) := by decide +kernel
theorem dL_strike_3 : decode cL_strike 3 = .ok (.invokevirtual 58, 3) := by decide +kernel
theorem dL_strike_6 : decode cL_strike 6 = .ok (.ireturn, 1) := by decide +kernel
theorem dL_strike_7 : decode cL_strike 7 = .ok (.astore_n 3, 1) := by decide +kernel
theorem dL_strike_8 : decode cL_strike 8 = .ok (.iconst (-1), 1) := by decide +kernel
theorem dL_strike_9 : decode cL_strike 9 = .ok (.ireturn, 1) := by decide +kernel
theorem dL_strike_10 : decode cL_strike 10 = .ok (.astore_n 3, 1) := by decide +kernel
theorem dL_strike_11 : decode cL_strike 11 = .ok (.bipush (-2), 2) := by decide +kernel
theorem dL_strike_13 : decode cL_strike 13 = .ok (.ireturn, 1) := by decide +kernel
theorem dL_callNext_0 : decode cL_callNext 0 = .ok (.aload_n 0, 1) := by decide +kernel
theorem dL_callNext_1 : decode cL_callNext 1 = .ok (.iload_n 1, 1) := by decide +kernel
theorem dL_callNext_2 : decode cL_callNext 2 = .ok (.invokevirtual 61, 3) := by decide +kernel
theorem dL_callNext_5 : decode cL_callNext 5 = .ok (.ifCond .eq 7, 3) := by decide +kernel
theorem dL_callNext_8 : decode cL_callNext 8 = .ok (.iconst 1, 1) := by decide +kernel
theorem dL_callNext_9 : decode cL_callNext 9 = .ok (.goto 4, 3) := by decide +kernel
theorem dL_callNext_12 : decode cL_callNext 12 = .ok (.iconst 0, 1) := by decide +kernel
theorem dL_callNext_13 : decode cL_callNext 13 = .ok (.ireturn, 1) := by decide +kernel
theorem dL_callNext_14 : decode cL_callNext 14 = .ok (.astore_n 2, 1) := by decide +kernel
theorem dL_callNext_15 : decode cL_callNext 15 = .ok (.iconst (-1), 1) := by decide +kernel
theorem dL_callNext_16 : decode cL_callNext 16 = .ok (.ireturn, 1) := by decide +kernel
theorem dL_callNext_17 : decode cL_callNext 17 = .ok (.astore_n 2, 1) := by decide +kernel
theorem dL_callNext_18 : decode cL_callNext 18 = .ok (.bipush (-2), 2) := by decide +kernel
theorem dL_callNext_20 : decode cL_callNext 20 = .ok (.ireturn, 1) := by decide +kernel
theorem dL_listLength_0 : decode cL_listLength 0 = .ok (.aload_n 0, 1) := by decide +kernel
theorem dL_listLength_1 : decode cL_listLength 1 = .ok (.iload_n 1, 1) := by decide +kernel
theorem dL_listLength_2 : decode cL_listLength 2 = .ok (.invokevirtual 65, 3) := by decide +kernel
theorem dL_listLength_5 : decode cL_listLength 5 = .ok (.ireturn, 1) := by decide +kernel
theorem dL_listLength_6 : decode cL_listLength 6 = .ok (.astore_n 2, 1) := by decide +kernel
theorem dL_listLength_7 : decode cL_listLength 7 = .ok (.iconst (-1), 1) := by decide +kernel
theorem dL_listLength_8 : decode cL_listLength 8 = .ok (.ireturn, 1) := by decide +kernel
theorem dL_nextFrog_0 : decode cL_nextFrog 0 = .ok (.aload_n 0, 1) := by decide +kernel
theorem dL_nextFrog_1 : decode cL_nextFrog 1 = .ok (.iload_n 1, 1) := by decide +kernel
theorem dL_nextFrog_2 : decode cL_nextFrog 2 = .ok (.invokevirtual 68, 3) := by decide +kernel
theorem dL_nextFrog_5 : decode cL_nextFrog 5 = .ok (.ireturn, 1) := by decide +kernel
theorem dL_nextFrog_6 : decode cL_nextFrog 6 = .ok (.astore_n 2, 1) := by decide +kernel
theorem dL_nextFrog_7 : decode cL_nextFrog 7 = .ok (.iconst (-1), 1) := by decide +kernel
theorem dL_nextFrog_8 : decode cL_nextFrog 8 = .ok (.ireturn, 1) := by decide +kernel
theorem dL_nextFrog_9 : decode cL_nextFrog 9 = .ok (.astore_n 2, 1) := by decide +kernel
theorem dL_nextFrog_10 : decode cL_nextFrog 10 = .ok (.bipush (-2), 2) := by decide +kernel
theorem dL_nextFrog_12 : decode cL_nextFrog 12 = .ok (.ireturn, 1) := by decide +kernel
theorem dL_nextFrogByScan_0 : decode cL_nextFrogByScan 0 = .ok (.aload_n 0, 1) := by decide +kernel
theorem dL_nextFrogByScan_1 : decode cL_nextFrogByScan 1 = .ok (.iload_n 1, 1) := by decide +kernel
theorem dL_nextFrogByScan_2 : decode cL_nextFrogByScan 2 = .ok (.invokevirtual 71, 3) := by decide +kernel
theorem dL_nextFrogByScan_5 : decode cL_nextFrogByScan 5 = .ok (.ireturn, 1) := by decide +kernel
theorem dL_nextFrogByScan_6 : decode cL_nextFrogByScan 6 = .ok (.astore_n 2, 1) := by decide +kernel
theorem dL_nextFrogByScan_7 : decode cL_nextFrogByScan 7 = .ok (.iconst (-1), 1) := by decide +kernel
theorem dL_nextFrogByScan_8 : decode cL_nextFrogByScan 8 = .ok (.ireturn, 1) := by decide +kernel
theorem dL_nextFrogByScan_9 : decode cL_nextFrogByScan 9 = .ok (.astore_n 2, 1) := by decide +kernel
theorem dL_nextFrogByScan_10 : decode cL_nextFrogByScan 10 = .ok (.bipush (-2), 2) := by decide +kernel
theorem dL_nextFrogByScan_12 : decode cL_nextFrogByScan 12 = .ok (.ireturn, 1) := by decide +kernel
theorem dL_frogsBefore_0 : decode cL_frogsBefore 0 = .ok (.aload_n 0, 1) := by decide +kernel
theorem dL_frogsBefore_1 : decode cL_frogsBefore 1 = .ok (.iload_n 1, 1) := by decide +kernel
theorem dL_frogsBefore_2 : decode cL_frogsBefore 2 = .ok (.iload_n 2, 1) := by decide +kernel
theorem dL_frogsBefore_3 : decode cL_frogsBefore 3 = .ok (.invokevirtual 74, 3) := by decide +kernel
theorem dL_frogsBefore_6 : decode cL_frogsBefore 6 = .ok (.ireturn, 1) := by decide +kernel
theorem dL_frogsBefore_7 : decode cL_frogsBefore 7 = .ok (.astore_n 3, 1) := by decide +kernel
theorem dL_frogsBefore_8 : decode cL_frogsBefore 8 = .ok (.iconst (-1), 1) := by decide +kernel
theorem dL_frogsBefore_9 : decode cL_frogsBefore 9 = .ok (.ireturn, 1) := by decide +kernel
theorem dL_frogsBefore_10 : decode cL_frogsBefore 10 = .ok (.astore_n 3, 1) := by decide +kernel
theorem dL_frogsBefore_11 : decode cL_frogsBefore 11 = .ok (.bipush (-2), 2) := by decide +kernel
theorem dL_frogsBefore_13 : decode cL_frogsBefore 13 = .ok (.ireturn, 1) := by decide +kernel
theorem dL_speeches_0 : decode cL_speeches 0 = .ok (.aload_n 0, 1) := by decide +kernel
theorem dL_speeches_1 : decode cL_speeches 1 = .ok (.iload_n 1, 1) := by decide +kernel
theorem dL_speeches_2 : decode cL_speeches 2 = .ok (.invokevirtual 77, 3) := by decide +kernel
theorem dL_speeches_5 : decode cL_speeches 5 = .ok (.ireturn, 1) := by decide +kernel
theorem dL_speeches_6 : decode cL_speeches 6 = .ok (.astore_n 2, 1) := by decide +kernel
theorem dL_speeches_7 : decode cL_speeches 7 = .ok (.iconst (-1), 1) := by decide +kernel
theorem dL_speeches_8 : decode cL_speeches 8 = .ok (.ireturn, 1) := by decide +kernel
theorem dL_speechesOn_0 : decode cL_speechesOn 0 = .ok (.aload_n 0, 1) := by decide +kernel
theorem dL_speechesOn_1 : decode cL_speechesOn 1 = .ok (.iload_n 1, 1) := by decide +kernel
theorem dL_speechesOn_2 : decode cL_speechesOn 2 = .ok (.invokevirtual 80, 3) := by decide +kernel
theorem dL_speechesOn_5 : decode cL_speechesOn 5 = .ok (.ireturn, 1) := by decide +kernel
theorem dL_speechesOn_6 : decode cL_speechesOn 6 = .ok (.astore_n 2, 1) := by decide +kernel
theorem dL_speechesOn_7 : decode cL_speechesOn 7 = .ok (.iconst (-1), 1) := by decide +kernel
theorem dL_speechesOn_8 : decode cL_speechesOn 8 = .ok (.ireturn, 1) := by decide +kernel
theorem dL_frogAtRank_0 : decode cL_frogAtRank 0 = .ok (.aload_n 0, 1) := by decide +kernel
theorem dL_frogAtRank_1 : decode cL_frogAtRank 1 = .ok (.iload_n 1, 1) := by decide +kernel
theorem dL_frogAtRank_2 : decode cL_frogAtRank 2 = .ok (.invokevirtual 83, 3) := by decide +kernel
theorem dL_frogAtRank_5 : decode cL_frogAtRank 5 = .ok (.ireturn, 1) := by decide +kernel
theorem dL_frogAtRank_6 : decode cL_frogAtRank 6 = .ok (.astore_n 2, 1) := by decide +kernel
theorem dL_frogAtRank_7 : decode cL_frogAtRank 7 = .ok (.iconst (-1), 1) := by decide +kernel
theorem dL_frogAtRank_8 : decode cL_frogAtRank 8 = .ok (.ireturn, 1) := by decide +kernel
theorem dL_supportClosure_0 : decode cL_supportClosure 0 = .ok (.aload_n 0, 1) := by decide +kernel
theorem dL_supportClosure_1 : decode cL_supportClosure 1 = .ok (.iload_n 1, 1) := by decide +kernel
theorem dL_supportClosure_2 : decode cL_supportClosure 2 = .ok (.iload_n 2, 1) := by decide +kernel
theorem dL_supportClosure_3 : decode cL_supportClosure 3 = .ok (.invokevirtual 86, 3) := by decide +kernel
theorem dL_supportClosure_6 : decode cL_supportClosure 6 = .ok (.ifCond .eq 7, 3) := by decide +kernel
theorem dL_supportClosure_9 : decode cL_supportClosure 9 = .ok (.iconst 1, 1) := by decide +kernel
theorem dL_supportClosure_10 : decode cL_supportClosure 10 = .ok (.goto 4, 3) := by decide +kernel
theorem dL_supportClosure_13 : decode cL_supportClosure 13 = .ok (.iconst 0, 1) := by decide +kernel
theorem dL_supportClosure_14 : decode cL_supportClosure 14 = .ok (.ireturn, 1) := by decide +kernel
theorem dL_supportClosure_15 : decode cL_supportClosure 15 = .ok (.astore_n 3, 1) := by decide +kernel
theorem dL_supportClosure_16 : decode cL_supportClosure 16 = .ok (.iconst (-1), 1) := by decide +kernel
theorem dL_supportClosure_17 : decode cL_supportClosure 17 = .ok (.ireturn, 1) := by decide +kernel
theorem dL_supportClosure_18 : decode cL_supportClosure 18 = .ok (.astore_n 3, 1) := by decide +kernel
theorem dL_supportClosure_19 : decode cL_supportClosure 19 = .ok (.bipush (-2), 2) := by decide +kernel
theorem dL_supportClosure_21 : decode cL_supportClosure 21 = .ok (.ireturn, 1) := by decide +kernel
theorem dL_supportClosure_22 : decode cL_supportClosure 22 = .ok (.astore_n 3, 1) := by decide +kernel
theorem dL_supportClosure_23 : decode cL_supportClosure 23 = .ok (.bipush (-3), 2) := by decide +kernel
theorem dL_supportClosure_25 : decode cL_supportClosure 25 = .ok (.ireturn, 1) := by decide +kernel
theorem dL_supportClosure_26 : decode cL_supportClosure 26 = .ok (.astore_n 3, 1) := by decide +kernel
theorem dL_supportClosure_27 : decode cL_supportClosure 27 = .ok (.bipush (-4), 2) := by decide +kernel
theorem dL_supportClosure_29 : decode cL_supportClosure 29 = .ok (.ireturn, 1) := by decide +kernel
theorem dL_isListClosed_0 : decode cL_isListClosed 0 = .ok (.aload_n 0, 1) := by decide +kernel
theorem dL_isListClosed_1 : decode cL_isListClosed 1 = .ok (.iload_n 1, 1) := by decide +kernel
theorem dL_isListClosed_2 : decode cL_isListClosed 2 = .ok (.invokevirtual 89, 3) := by decide +kernel
theorem dL_isListClosed_5 : decode cL_isListClosed 5 = .ok (.ifCond .eq 7, 3) := by decide +kernel
theorem dL_isListClosed_8 : decode cL_isListClosed 8 = .ok (.iconst 1, 1) := by decide +kernel
theorem dL_isListClosed_9 : decode cL_isListClosed 9 = .ok (.goto 4, 3) := by decide +kernel
theorem dL_isListClosed_12 : decode cL_isListClosed 12 = .ok (.iconst 0, 1) := by decide +kernel
theorem dL_isListClosed_13 : decode cL_isListClosed 13 = .ok (.ireturn, 1) := by decide +kernel
theorem dL_isListClosed_14 : decode cL_isListClosed 14 = .ok (.astore_n 2, 1) := by decide +kernel
theorem dL_isListClosed_15 : decode cL_isListClosed 15 = .ok (.iconst (-1), 1) := by decide +kernel
theorem dL_isListClosed_16 : decode cL_isListClosed 16 = .ok (.ireturn, 1) := by decide +kernel
theorem dL_closureWeight_0 : decode cL_closureWeight 0 = .ok (.aload_n 0, 1) := by decide +kernel
theorem dL_closureWeight_1 : decode cL_closureWeight 1 = .ok (.iload_n 1, 1) := by decide +kernel
theorem dL_closureWeight_2 : decode cL_closureWeight 2 = .ok (.invokevirtual 92, 3) := by decide +kernel
theorem dL_closureWeight_5 : decode cL_closureWeight 5 = .ok (.ireturn, 1) := by decide +kernel
theorem dL_closureWeight_6 : decode cL_closureWeight 6 = .ok (.astore_n 2, 1) := by decide +kernel
theorem dL_closureWeight_7 : decode cL_closureWeight 7 = .ok (.iconst (-1), 1) := by decide +kernel
theorem dL_closureWeight_8 : decode cL_closureWeight 8 = .ok (.ireturn, 1) := by decide +kernel
theorem dL_entitledWeight_0 : decode cL_entitledWeight 0 = .ok (.aload_n 0, 1) := by decide +kernel
theorem dL_entitledWeight_1 : decode cL_entitledWeight 1 = .ok (.iload_n 1, 1) := by decide +kernel
theorem dL_entitledWeight_2 : decode cL_entitledWeight 2 = .ok (.invokevirtual 95, 3) := by decide +kernel
theorem dL_entitledWeight_5 : decode cL_entitledWeight 5 = .ok (.ireturn, 1) := by decide +kernel
theorem dL_entitledWeight_6 : decode cL_entitledWeight 6 = .ok (.astore_n 2, 1) := by decide +kernel
theorem dL_entitledWeight_7 : decode cL_entitledWeight 7 = .ok (.iconst (-1), 1) := by decide +kernel
theorem dL_entitledWeight_8 : decode cL_entitledWeight 8 = .ok (.ireturn, 1) := by decide +kernel
theorem dL_croak_0 : decode cL_croak 0 = .ok (.aload_n 0, 1) := by decide +kernel
theorem dL_croak_1 : decode cL_croak 1 = .ok (.iload_n 1, 1) := by decide +kernel
theorem dL_croak_2 : decode cL_croak 2 = .ok (.iload_n 2, 1) := by decide +kernel
theorem dL_croak_3 : decode cL_croak 3 = .ok (.iload_n 3, 1) := by decide +kernel
theorem dL_croak_4 : decode cL_croak 4 = .ok (.iload 4, 2) := by decide +kernel
theorem dL_croak_6 : decode cL_croak 6 = .ok (.invokevirtual 98, 3) := by decide +kernel
theorem dL_croak_9 : decode cL_croak 9 = .ok (.ireturn, 1) := by decide +kernel
theorem dL_croak_10 : decode cL_croak 10 = .ok (.astore 5, 2) := by decide +kernel
theorem dL_croak_12 : decode cL_croak 12 = .ok (.iconst (-1), 1) := by decide +kernel
theorem dL_croak_13 : decode cL_croak 13 = .ok (.ireturn, 1) := by decide +kernel
theorem dL_croak_14 : decode cL_croak 14 = .ok (.astore 5, 2) := by decide +kernel
theorem dL_croak_16 : decode cL_croak 16 = .ok (.bipush (-2), 2) := by decide +kernel
theorem dL_croak_18 : decode cL_croak 18 = .ok (.ireturn, 1) := by decide +kernel
theorem dL_croak_19 : decode cL_croak 19 = .ok (.astore 5, 2) := by decide +kernel
theorem dL_croak_21 : decode cL_croak 21 = .ok (.bipush (-3), 2) := by decide +kernel
theorem dL_croak_23 : decode cL_croak 23 = .ok (.ireturn, 1) := by decide +kernel
theorem dL_croak_24 : decode cL_croak 24 = .ok (.astore 5, 2) := by decide +kernel
theorem dL_croak_26 : decode cL_croak 26 = .ok (.bipush (-4), 2) := by decide +kernel
theorem dL_croak_28 : decode cL_croak 28 = .ok (.ireturn, 1) := by decide +kernel
theorem dL_decide_0 : decode cL_decide 0 = .ok (.aload_n 0, 1) := by decide +kernel
theorem dL_decide_1 : decode cL_decide 1 = .ok (.iload_n 1, 1) := by decide +kernel
theorem dL_decide_2 : decode cL_decide 2 = .ok (.invokevirtual 102, 3) := by decide +kernel
theorem dL_decide_5 : decode cL_decide 5 = .ok (.ifCond .eq 7, 3) := by decide +kernel
theorem dL_decide_8 : decode cL_decide 8 = .ok (.iconst 1, 1) := by decide +kernel
theorem dL_decide_9 : decode cL_decide 9 = .ok (.goto 4, 3) := by decide +kernel
theorem dL_decide_12 : decode cL_decide 12 = .ok (.iconst 0, 1) := by decide +kernel
theorem dL_decide_13 : decode cL_decide 13 = .ok (.ireturn, 1) := by decide +kernel
theorem dL_decide_14 : decode cL_decide 14 = .ok (.astore_n 2, 1) := by decide +kernel
theorem dL_decide_15 : decode cL_decide 15 = .ok (.iconst (-1), 1) := by decide +kernel
theorem dL_decide_16 : decode cL_decide 16 = .ok (.ireturn, 1) := by decide +kernel
theorem dL_decide_17 : decode cL_decide 17 = .ok (.astore_n 2, 1) := by decide +kernel
theorem dL_decide_18 : decode cL_decide 18 = .ok (.bipush (-2), 2) := by decide +kernel
theorem dL_decide_20 : decode cL_decide 20 = .ok (.ireturn, 1) := by decide +kernel
theorem dL_isDecided_0 : decode cL_isDecided 0 = .ok (.aload_n 0, 1) := by decide +kernel
theorem dL_isDecided_1 : decode cL_isDecided 1 = .ok (.iload_n 1, 1) := by decide +kernel
theorem dL_isDecided_2 : decode cL_isDecided 2 = .ok (.invokevirtual 105, 3) := by decide +kernel
theorem dL_isDecided_5 : decode cL_isDecided 5 = .ok (.ifCond .eq 7, 3) := by decide +kernel
theorem dL_isDecided_8 : decode cL_isDecided 8 = .ok (.iconst 1, 1) := by decide +kernel
theorem dL_isDecided_9 : decode cL_isDecided 9 = .ok (.goto 4, 3) := by decide +kernel
theorem dL_isDecided_12 : decode cL_isDecided 12 = .ok (.iconst 0, 1) := by decide +kernel
theorem dL_isDecided_13 : decode cL_isDecided 13 = .ok (.ireturn, 1) := by decide +kernel
theorem dL_isDecided_14 : decode cL_isDecided 14 = .ok (.astore_n 2, 1) := by decide +kernel
theorem dL_isDecided_15 : decode cL_isDecided 15 = .ok (.iconst (-1), 1) := by decide +kernel
theorem dL_isDecided_16 : decode cL_isDecided 16 = .ok (.ireturn, 1) := by decide +kernel
theorem dL_isAdopted_0 : decode cL_isAdopted 0 = .ok (.aload_n 0, 1) := by decide +kernel
theorem dL_isAdopted_1 : decode cL_isAdopted 1 = .ok (.iload_n 1, 1) := by decide +kernel
theorem dL_isAdopted_2 : decode cL_isAdopted 2 = .ok (.invokevirtual 108, 3) := by decide +kernel
theorem dL_isAdopted_5 : decode cL_isAdopted 5 = .ok (.ifCond .eq 7, 3) := by decide +kernel
theorem dL_isAdopted_8 : decode cL_isAdopted 8 = .ok (.iconst 1, 1) := by decide +kernel
theorem dL_isAdopted_9 : decode cL_isAdopted 9 = .ok (.goto 4, 3) := by decide +kernel
theorem dL_isAdopted_12 : decode cL_isAdopted 12 = .ok (.iconst 0, 1) := by decide +kernel
theorem dL_isAdopted_13 : decode cL_isAdopted 13 = .ok (.ireturn, 1) := by decide +kernel
theorem dL_isAdopted_14 : decode cL_isAdopted 14 = .ok (.astore_n 2, 1) := by decide +kernel
theorem dL_isAdopted_15 : decode cL_isAdopted 15 = .ok (.iconst (-1), 1) := by decide +kernel
theorem dL_isAdopted_16 : decode cL_isAdopted 16 = .ok (.ireturn, 1) := by decide +kernel
theorem dL_croaksFor_0 : decode cL_croaksFor 0 = .ok (.aload_n 0, 1) := by decide +kernel
theorem dL_croaksFor_1 : decode cL_croaksFor 1 = .ok (.iload_n 1, 1) := by decide +kernel
theorem dL_croaksFor_2 : decode cL_croaksFor 2 = .ok (.invokevirtual 111, 3) := by decide +kernel
theorem dL_croaksFor_5 : decode cL_croaksFor 5 = .ok (.ireturn, 1) := by decide +kernel
theorem dL_croaksFor_6 : decode cL_croaksFor 6 = .ok (.astore_n 2, 1) := by decide +kernel
theorem dL_croaksFor_7 : decode cL_croaksFor 7 = .ok (.iconst (-1), 1) := by decide +kernel
theorem dL_croaksFor_8 : decode cL_croaksFor 8 = .ok (.ireturn, 1) := by decide +kernel
theorem dL_croaksForByPonds_0 : decode cL_croaksForByPonds 0 = .ok (.aload_n 0, 1) := by decide +kernel
theorem dL_croaksForByPonds_1 : decode cL_croaksForByPonds 1 = .ok (.iload_n 1, 1) := by decide +kernel
theorem dL_croaksForByPonds_2 : decode cL_croaksForByPonds 2 = .ok (.invokevirtual 114, 3) := by decide +kernel
theorem dL_croaksForByPonds_5 : decode cL_croaksForByPonds 5 = .ok (.ireturn, 1) := by decide +kernel
theorem dL_croaksForByPonds_6 : decode cL_croaksForByPonds 6 = .ok (.astore_n 2, 1) := by decide +kernel
theorem dL_croaksForByPonds_7 : decode cL_croaksForByPonds 7 = .ok (.iconst (-1), 1) := by decide +kernel
theorem dL_croaksForByPonds_8 : decode cL_croaksForByPonds 8 = .ok (.ireturn, 1) := by decide +kernel
theorem dL_croaksAgainst_0 : decode cL_croaksAgainst 0 = .ok (.aload_n 0, 1) := by decide +kernel
theorem dL_croaksAgainst_1 : decode cL_croaksAgainst 1 = .ok (.iload_n 1, 1) := by decide +kernel
theorem dL_croaksAgainst_2 : decode cL_croaksAgainst 2 = .ok (.invokevirtual 117, 3) := by decide +kernel
theorem dL_croaksAgainst_5 : decode cL_croaksAgainst 5 = .ok (.ireturn, 1) := by decide +kernel
theorem dL_croaksAgainst_6 : decode cL_croaksAgainst 6 = .ok (.astore_n 2, 1) := by decide +kernel
theorem dL_croaksAgainst_7 : decode cL_croaksAgainst 7 = .ok (.iconst (-1), 1) := by decide +kernel
theorem dL_croaksAgainst_8 : decode cL_croaksAgainst 8 = .ok (.ireturn, 1) := by decide +kernel
theorem dL_strongestFrog_0 : decode cL_strongestFrog 0 = .ok (.aload_n 0, 1) := by decide +kernel
theorem dL_strongestFrog_1 : decode cL_strongestFrog 1 = .ok (.iload_n 1, 1) := by decide +kernel
theorem dL_strongestFrog_2 : decode cL_strongestFrog 2 = .ok (.invokevirtual 120, 3) := by decide +kernel
theorem dL_strongestFrog_5 : decode cL_strongestFrog 5 = .ok (.ireturn, 1) := by decide +kernel
theorem dL_strongestFrog_6 : decode cL_strongestFrog 6 = .ok (.astore_n 2, 1) := by decide +kernel
theorem dL_strongestFrog_7 : decode cL_strongestFrog 7 = .ok (.iconst (-1), 1) := by decide +kernel
theorem dL_strongestFrog_8 : decode cL_strongestFrog 8 = .ok (.ireturn, 1) := by decide +kernel
theorem dL_strongestFrog_9 : decode cL_strongestFrog 9 = .ok (.astore_n 2, 1) := by decide +kernel
theorem dL_strongestFrog_10 : decode cL_strongestFrog 10 = .ok (.bipush (-2), 2) := by decide +kernel
theorem dL_strongestFrog_12 : decode cL_strongestFrog 12 = .ok (.ireturn, 1) := by decide +kernel
theorem dL_shareFor_0 : decode cL_shareFor 0 = .ok (.aload_n 0, 1) := by decide +kernel
theorem dL_shareFor_1 : decode cL_shareFor 1 = .ok (.iload_n 1, 1) := by decide +kernel
theorem dL_shareFor_2 : decode cL_shareFor 2 = .ok (.invokevirtual 123, 3) := by decide +kernel
theorem dL_shareFor_5 : decode cL_shareFor 5 = .ok (.freturn, 1) := by decide +kernel
theorem dL_shareFor_6 : decode cL_shareFor 6 = .ok (.astore_n 2, 1) := by decide +kernel
theorem dL_shareFor_7 : decode cL_shareFor 7 = .ok (.ldc 127, 2) := by decide +kernel
theorem dL_shareFor_9 : decode cL_shareFor 9 = .ok (.freturn, 1) := by decide +kernel
theorem dL_shareFor_10 : decode cL_shareFor 10 = .ok (.astore_n 2, 1) := by decide +kernel
theorem dL_shareFor_11 : decode cL_shareFor 11 = .ok (.ldc 130, 2) := by decide +kernel
theorem dL_shareFor_13 : decode cL_shareFor 13 = .ok (.freturn, 1) := by decide +kernel
theorem dL_append_0 : decode cL_append 0 = .ok (.aload_n 0, 1) := by decide +kernel
theorem dL_append_1 : decode cL_append 1 = .ok (.iload_n 1, 1) := by decide +kernel
theorem dL_append_2 : decode cL_append 2 = .ok (.invokevirtual 131, 3) := by decide +kernel
theorem dL_append_5 : decode cL_append 5 = .ok (.ireturn, 1) := by decide +kernel
theorem dL_append_6 : decode cL_append 6 = .ok (.astore_n 2, 1) := by decide +kernel
theorem dL_append_7 : decode cL_append 7 = .ok (.iconst (-1), 1) := by decide +kernel
theorem dL_append_8 : decode cL_append 8 = .ok (.ireturn, 1) := by decide +kernel
theorem dL_append_9 : decode cL_append 9 = .ok (.astore_n 2, 1) := by decide +kernel
theorem dL_append_10 : decode cL_append 10 = .ok (.bipush (-2), 2) := by decide +kernel
theorem dL_append_12 : decode cL_append 12 = .ok (.ireturn, 1) := by decide +kernel
theorem dL_run_0 : decode cL_run 0 = .ok (.aload_n 0, 1) := by decide +kernel
theorem dL_run_1 : decode cL_run 1 = .ok (.invokevirtual 135, 3) := by decide +kernel
theorem dL_run_4 : decode cL_run 4 = .ok (.ireturn, 1) := by decide +kernel
theorem dL_run_5 : decode cL_run 5 = .ok (.astore_n 1, 1) := by decide +kernel
theorem dL_run_6 : decode cL_run 6 = .ok (.iconst (-1), 1) := by decide +kernel
theorem dL_run_7 : decode cL_run 7 = .ok (.ireturn, 1) := by decide +kernel
theorem dL_run_8 : decode cL_run 8 = .ok (.astore_n 1, 1) := by decide +kernel
theorem dL_run_9 : decode cL_run 9 = .ok (.bipush (-2), 2) := by decide +kernel
theorem dL_run_11 : decode cL_run 11 = .ok (.ireturn, 1) := by decide +kernel
theorem dL_errorPosition_0 : decode cL_errorPosition 0 = .ok (.aload_n 0, 1) := by decide +kernel
theorem dL_errorPosition_1 : decode cL_errorPosition 1 = .ok (.invokevirtual 139, 3) := by decide +kernel
theorem dL_errorPosition_4 : decode cL_errorPosition 4 = .ok (.ireturn, 1) := by decide +kernel
theorem dL_errorPosition_5 : decode cL_errorPosition 5 = .ok (.astore_n 1, 1) := by decide +kernel
theorem dL_errorPosition_6 : decode cL_errorPosition 6 = .ok (.iconst (-1), 1) := by decide +kernel
theorem dL_errorPosition_7 : decode cL_errorPosition 7 = .ok (.ireturn, 1) := by decide +kernel
theorem dL_failedCommand_0 : decode cL_failedCommand 0 = .ok (.aload_n 0, 1) := by decide +kernel
theorem dL_failedCommand_1 : decode cL_failedCommand 1 = .ok (.invokevirtual 142, 3) := by decide +kernel
theorem dL_failedCommand_4 : decode cL_failedCommand 4 = .ok (.ireturn, 1) := by decide +kernel
theorem dL_failedCommand_5 : decode cL_failedCommand 5 = .ok (.astore_n 1, 1) := by decide +kernel
theorem dL_failedCommand_6 : decode cL_failedCommand 6 = .ok (.iconst (-1), 1) := by decide +kernel
theorem dL_failedCommand_7 : decode cL_failedCommand 7 = .ok (.ireturn, 1) := by decide +kernel
theorem dL_describeList_0 : decode cL_describeList 0 = .ok (.aload_n 0, 1) := by decide +kernel
theorem dL_describeList_1 : decode cL_describeList 1 = .ok (.iload_n 1, 1) := by decide +kernel
theorem dL_describeList_2 : decode cL_describeList 2 = .ok (.invokevirtual 145, 3) := by decide +kernel
theorem dL_describeList_5 : decode cL_describeList 5 = .ok (.ireturn, 1) := by decide +kernel
theorem dL_describeList_6 : decode cL_describeList 6 = .ok (.astore_n 2, 1) := by decide +kernel
theorem dL_describeList_7 : decode cL_describeList 7 = .ok (.iconst (-1), 1) := by decide +kernel
theorem dL_describeList_8 : decode cL_describeList 8 = .ok (.ireturn, 1) := by decide +kernel
theorem dL_lineAt_0 : decode cL_lineAt 0 = .ok (.aload_n 0, 1) := by decide +kernel
theorem dL_lineAt_1 : decode cL_lineAt 1 = .ok (.iload_n 1, 1) := by decide +kernel
theorem dL_lineAt_2 : decode cL_lineAt 2 = .ok (.invokevirtual 148, 3) := by decide +kernel
theorem dL_lineAt_5 : decode cL_lineAt 5 = .ok (.ireturn, 1) := by decide +kernel
theorem dL_lineAt_6 : decode cL_lineAt 6 = .ok (.astore_n 2, 1) := by decide +kernel
theorem dL_lineAt_7 : decode cL_lineAt 7 = .ok (.iconst (-1), 1) := by decide +kernel
theorem dL_lineAt_8 : decode cL_lineAt 8 = .ok (.ireturn, 1) := by decide +kernel
theorem dL_meanSittingWeight_0 : decode cL_meanSittingWeight 0 = .ok (.aload_n 0, 1) := by decide +kernel
theorem dL_meanSittingWeight_1 : decode cL_meanSittingWeight 1 = .ok (.invokevirtual 152, 3) := by decide +kernel
theorem dL_meanSittingWeight_4 : decode cL_meanSittingWeight 4 = .ok (.dreturn, 1) := by decide +kernel
theorem dL_meanSittingWeight_5 : decode cL_meanSittingWeight 5 = .ok (.astore_n 1, 1) := by decide +kernel
theorem dL_meanSittingWeight_6 : decode cL_meanSittingWeight 6 = .ok (.ldc2_w 156, 3) := by decide +kernel
theorem dL_meanSittingWeight_9 : decode cL_meanSittingWeight 9 = .ok (.dreturn, 1) := by decide +kernel
theorem dL_undo_0 : decode cL_undo 0 = .ok (.aload_n 0, 1) := by decide +kernel
theorem dL_undo_1 : decode cL_undo 1 = .ok (.invokevirtual 158, 3) := by decide +kernel
theorem dL_undo_4 : decode cL_undo 4 = .ok (.ireturn, 1) := by decide +kernel
theorem dL_undo_5 : decode cL_undo 5 = .ok (.astore_n 1, 1) := by decide +kernel
theorem dL_undo_6 : decode cL_undo 6 = .ok (.iconst (-1), 1) := by decide +kernel
theorem dL_undo_7 : decode cL_undo 7 = .ok (.ireturn, 1) := by decide +kernel
theorem dL_restore_0 : decode cL_restore 0 = .ok (.aload_n 0, 1) := by decide +kernel
theorem dL_restore_1 : decode cL_restore 1 = .ok (.invokevirtual 161, 3) := by decide +kernel
theorem dL_restore_4 : decode cL_restore 4 = .ok (.ireturn, 1) := by decide +kernel
theorem dL_restore_5 : decode cL_restore 5 = .ok (.astore_n 1, 1) := by decide +kernel
theorem dL_restore_6 : decode cL_restore 6 = .ok (.iconst (-1), 1) := by decide +kernel
theorem dL_restore_7 : decode cL_restore 7 = .ok (.ireturn, 1) := by decide +kernel
theorem dL_said_0 : decode cL_said 0 = .ok (.new 164, 3) := by decide +kernel
theorem dL_said_3 : decode cL_said 3 = .ok (.dup, 1) := by decide +kernel
theorem dL_said_4 : decode cL_said 4 = .ok (.invokespecial 166, 3) := by decide +kernel
theorem dL_said_7 : decode cL_said 7 = .ok (.astore_n 2, 1) := by decide +kernel
theorem dL_said_8 : decode cL_said 8 = .ok (.iconst 0, 1) := by decide +kernel
theorem dL_said_9 : decode cL_said 9 = .ok (.istore_n 3, 1) := by decide +kernel
theorem dL_said_10 : decode cL_said 10 = .ok (.iload_n 3, 1) := by decide +kernel
theorem dL_said_11 : decode cL_said 11 = .ok (.iload_n 1, 1) := by decide +kernel
theorem dL_said_12 : decode cL_said 12 = .ok (.if_icmp .ge 20, 3) := by decide +kernel
theorem dL_said_15 : decode cL_said 15 = .ok (.aload_n 2, 1) := by decide +kernel
theorem dL_said_16 : decode cL_said 16 = .ok (.aload_n 0, 1) := by decide +kernel
theorem dL_said_17 : decode cL_said 17 = .ok (.iload_n 3, 1) := by decide +kernel
theorem dL_said_18 : decode cL_said 18 = .ok (.invokestatic 167, 3) := by decide +kernel
theorem dL_said_21 : decode cL_said 21 = .ok (.i2c, 1) := by decide +kernel
theorem dL_said_22 : decode cL_said 22 = .ok (.invokevirtual 172, 3) := by decide +kernel
theorem dL_said_25 : decode cL_said 25 = .ok (.pop, 1) := by decide +kernel
theorem dL_said_26 : decode cL_said 26 = .ok (.iinc 3 1, 3) := by decide +kernel
theorem dL_said_29 : decode cL_said 29 = .ok (.goto (-19), 3) := by decide +kernel
theorem dL_said_32 : decode cL_said 32 = .ok (.aload_n 2, 1) := by decide +kernel
theorem dL_said_33 : decode cL_said 33 = .ok (.invokevirtual 175, 3) := by decide +kernel
theorem dL_said_36 : decode cL_said 36 = .ok (.areturn, 1) := by decide +kernel
theorem dL_some_0 : decode cL_some 0 = .ok (.aload_n 0, 1) := by decide +kernel
theorem dL_some_1 : decode cL_some 1 = .ok (.bipush 25, 2) := by decide +kernel
theorem dL_some_3 : decode cL_some 3 = .ok (.invokevirtual 190, 3) := by decide +kernel
theorem dL_some_6 : decode cL_some 6 = .ok (.ifCond .ne 7, 3) := by decide +kernel
theorem dL_some_9 : decode cL_some 9 = .ok (.iload_n 1, 1) := by decide +kernel
theorem dL_some_10 : decode cL_some 10 = .ok (.goto 12, 3) := by decide +kernel
theorem dL_some_13 : decode cL_some 13 = .ok (.aload_n 0, 1) := by decide +kernel
theorem dL_some_14 : decode cL_some 14 = .ok (.iconst 1, 1) := by decide +kernel
theorem dL_some_15 : decode cL_some 15 = .ok (.iload_n 1, 1) := by decide +kernel
theorem dL_some_16 : decode cL_some 16 = .ok (.invokestatic 195, 3) := by decide +kernel
theorem dL_some_19 : decode cL_some 19 = .ok (.invokevirtual 190, 3) := by decide +kernel
theorem dL_some_22 : decode cL_some 22 = .ok (.ireturn, 1) := by decide +kernel
theorem dL_acts_0 : decode cL_acts 0 = .ok (.aload_n 2, 1) := by decide +kernel
theorem dL_acts_1 : decode cL_acts 1 = .ok (.aload_n 0, 1) := by decide +kernel
theorem dL_acts_2 : decode cL_acts 2 = .ok (.invokevirtual 200, 3) := by decide +kernel
theorem dL_acts_5 : decode cL_acts 5 = .ok (.invokestatic 203, 3) := by decide +kernel
theorem dL_acts_8 : decode cL_acts 8 = .ok (.istore_n 3, 1) := by decide +kernel
theorem dL_acts_9 : decode cL_acts 9 = .ok (.aload_n 2, 1) := by decide +kernel
theorem dL_acts_10 : decode cL_acts 10 = .ok (.aload_n 0, 1) := by decide +kernel
theorem dL_acts_11 : decode cL_acts 11 = .ok (.invokevirtual 207, 3) := by decide +kernel
theorem dL_acts_14 : decode cL_acts 14 = .ok (.invokestatic 203, 3) := by decide +kernel
theorem dL_acts_17 : decode cL_acts 17 = .ok (.istore 4, 2) := by decide +kernel
theorem dL_acts_19 : decode cL_acts 19 = .ok (.aload_n 2, 1) := by decide +kernel
theorem dL_acts_20 : decode cL_acts 20 = .ok (.iconst 3, 1) := by decide +kernel
theorem dL_acts_21 : decode cL_acts 21 = .ok (.aload_n 0, 1) := by decide +kernel
theorem dL_acts_22 : decode cL_acts 22 = .ok (.invokevirtual 210, 3) := by decide +kernel
theorem dL_acts_25 : decode cL_acts 25 = .ok (.invokestatic 213, 3) := by decide +kernel
theorem dL_acts_28 : decode cL_acts 28 = .ok (.invokestatic 203, 3) := by decide +kernel
theorem dL_acts_31 : decode cL_acts 31 = .ok (.istore 5, 2) := by decide +kernel
theorem dL_acts_33 : decode cL_acts 33 = .ok (.iload_n 1, 1) := by decide +kernel
theorem dL_acts_34 : decode cL_acts 34 = .ok (.bipush 40, 2) := by decide +kernel
theorem dL_acts_36 : decode cL_acts 36 = .ok (.irem, 1) := by decide +kernel
theorem dL_acts_37 : decode cL_acts 37 = .ok (.tableswitch 283 0 32 #[147, 147, 179, 204, 204, 204, 204, 204, 212, 212, 218, 218, 245, 245, 245, 245, 245, 245, 253, 253, 261, 261, 261, 261, 261, 261, 268, 268, 268, 268, 268, 276, 276], 147) := by decide +kernel
theorem dL_acts_184 : decode cL_acts 184 = .ok (.aload_n 0, 1) := by decide +kernel
theorem dL_acts_185 : decode cL_acts 185 = .ok (.aload_n 2, 1) := by decide +kernel
theorem dL_acts_186 : decode cL_acts 186 = .ok (.iconst 4, 1) := by decide +kernel
theorem dL_acts_187 : decode cL_acts 187 = .ok (.invokestatic 203, 3) := by decide +kernel
theorem dL_acts_190 : decode cL_acts 190 = .ok (.aload_n 2, 1) := by decide +kernel
theorem dL_acts_191 : decode cL_acts 191 = .ok (.bipush 30, 2) := by decide +kernel
theorem dL_acts_193 : decode cL_acts 193 = .ok (.invokevirtual 190, 3) := by decide +kernel
theorem dL_acts_196 : decode cL_acts 196 = .ok (.ifCond .ne 8, 3) := by decide +kernel
theorem dL_acts_199 : decode cL_acts 199 = .ok (.bipush 10, 2) := by decide +kernel
theorem dL_acts_201 : decode cL_acts 201 = .ok (.goto 11, 3) := by decide +kernel
theorem dL_acts_204 : decode cL_acts 204 = .ok (.iconst 1, 1) := by decide +kernel
theorem dL_acts_205 : decode cL_acts 205 = .ok (.aload_n 2, 1) := by decide +kernel
theorem dL_acts_206 : decode cL_acts 206 = .ok (.bipush 9, 2) := by decide +kernel
theorem dL_acts_208 : decode cL_acts 208 = .ok (.invokevirtual 190, 3) := by decide +kernel
theorem dL_acts_211 : decode cL_acts 211 = .ok (.iadd, 1) := by decide +kernel
theorem dL_acts_212 : decode cL_acts 212 = .ok (.invokestatic 216, 3) := by decide +kernel
theorem dL_acts_215 : decode cL_acts 215 = .ok (.ireturn, 1) := by decide +kernel
theorem dL_acts_216 : decode cL_acts 216 = .ok (.aload_n 0, 1) := by decide +kernel
theorem dL_acts_217 : decode cL_acts 217 = .ok (.aload_n 2, 1) := by decide +kernel
theorem dL_acts_218 : decode cL_acts 218 = .ok (.bipush 30, 2) := by decide +kernel
theorem dL_acts_220 : decode cL_acts 220 = .ok (.invokevirtual 190, 3) := by decide +kernel
theorem dL_acts_223 : decode cL_acts 223 = .ok (.ifCond .ne 7, 3) := by decide +kernel
theorem dL_acts_226 : decode cL_acts 226 = .ok (.iconst 5, 1) := by decide +kernel
theorem dL_acts_227 : decode cL_acts 227 = .ok (.goto 10, 3) := by decide +kernel
theorem dL_acts_230 : decode cL_acts 230 = .ok (.iconst 1, 1) := by decide +kernel
theorem dL_acts_231 : decode cL_acts 231 = .ok (.aload_n 2, 1) := by decide +kernel
theorem dL_acts_232 : decode cL_acts 232 = .ok (.iconst 4, 1) := by decide +kernel
theorem dL_acts_233 : decode cL_acts 233 = .ok (.invokevirtual 190, 3) := by decide +kernel
theorem dL_acts_236 : decode cL_acts 236 = .ok (.iadd, 1) := by decide +kernel
theorem dL_acts_237 : decode cL_acts 237 = .ok (.invokestatic 219, 3) := by decide +kernel
theorem dL_acts_240 : decode cL_acts 240 = .ok (.ireturn, 1) := by decide +kernel
theorem dL_acts_241 : decode cL_acts 241 = .ok (.aload_n 0, 1) := by decide +kernel
theorem dL_acts_242 : decode cL_acts 242 = .ok (.iload_n 3, 1) := by decide +kernel
theorem dL_acts_243 : decode cL_acts 243 = .ok (.iload 4, 2) := by decide +kernel
theorem dL_acts_245 : decode cL_acts 245 = .ok (.invokestatic 221, 3) := by decide +kernel
theorem dL_acts_248 : decode cL_acts 248 = .ok (.ireturn, 1) := by decide +kernel
theorem dL_acts_249 : decode cL_acts 249 = .ok (.aload_n 0, 1) := by decide +kernel
theorem dL_acts_250 : decode cL_acts 250 = .ok (.iload_n 3, 1) := by decide +kernel
theorem dL_acts_251 : decode cL_acts 251 = .ok (.invokestatic 223, 3) := by decide +kernel
theorem dL_acts_254 : decode cL_acts 254 = .ok (.ireturn, 1) := by decide +kernel
theorem dL_acts_255 : decode cL_acts 255 = .ok (.aload_n 0, 1) := by decide +kernel
theorem dL_acts_256 : decode cL_acts 256 = .ok (.aload_n 2, 1) := by decide +kernel
theorem dL_acts_257 : decode cL_acts 257 = .ok (.bipush 30, 2) := by decide +kernel
theorem dL_acts_259 : decode cL_acts 259 = .ok (.invokevirtual 190, 3) := by decide +kernel
theorem dL_acts_262 : decode cL_acts 262 = .ok (.ifCond .ne 8, 3) := by decide +kernel
theorem dL_acts_265 : decode cL_acts 265 = .ok (.bipush 16, 2) := by decide +kernel
theorem dL_acts_267 : decode cL_acts 267 = .ok (.goto 11, 3) := by decide +kernel
theorem dL_acts_270 : decode cL_acts 270 = .ok (.iconst 1, 1) := by decide +kernel
theorem dL_acts_271 : decode cL_acts 271 = .ok (.aload_n 2, 1) := by decide +kernel
theorem dL_acts_272 : decode cL_acts 272 = .ok (.bipush 15, 2) := by decide +kernel
theorem dL_acts_274 : decode cL_acts 274 = .ok (.invokevirtual 190, 3) := by decide +kernel
theorem dL_acts_277 : decode cL_acts 277 = .ok (.iadd, 1) := by decide +kernel
theorem dL_acts_278 : decode cL_acts 278 = .ok (.invokestatic 225, 3) := by decide +kernel
theorem dL_acts_281 : decode cL_acts 281 = .ok (.ireturn, 1) := by decide +kernel
theorem dL_acts_282 : decode cL_acts 282 = .ok (.aload_n 0, 1) := by decide +kernel
theorem dL_acts_283 : decode cL_acts 283 = .ok (.iload 5, 2) := by decide +kernel
theorem dL_acts_285 : decode cL_acts 285 = .ok (.iload_n 3, 1) := by decide +kernel
theorem dL_acts_286 : decode cL_acts 286 = .ok (.invokestatic 227, 3) := by decide +kernel
theorem dL_acts_289 : decode cL_acts 289 = .ok (.ireturn, 1) := by decide +kernel
theorem dL_acts_290 : decode cL_acts 290 = .ok (.aload_n 0, 1) := by decide +kernel
theorem dL_acts_291 : decode cL_acts 291 = .ok (.iload 5, 2) := by decide +kernel
theorem dL_acts_293 : decode cL_acts 293 = .ok (.iload_n 3, 1) := by decide +kernel
theorem dL_acts_294 : decode cL_acts 294 = .ok (.invokestatic 229, 3) := by decide +kernel
theorem dL_acts_297 : decode cL_acts 297 = .ok (.ireturn, 1) := by decide +kernel
theorem dL_acts_298 : decode cL_acts 298 = .ok (.aload_n 0, 1) := by decide +kernel
theorem dL_acts_299 : decode cL_acts 299 = .ok (.iload 5, 2) := by decide +kernel
theorem dL_acts_301 : decode cL_acts 301 = .ok (.invokestatic 231, 3) := by decide +kernel
theorem dL_acts_304 : decode cL_acts 304 = .ok (.ireturn, 1) := by decide +kernel
theorem dL_acts_305 : decode cL_acts 305 = .ok (.aload_n 0, 1) := by decide +kernel
theorem dL_acts_306 : decode cL_acts 306 = .ok (.iload 5, 2) := by decide +kernel
theorem dL_acts_308 : decode cL_acts 308 = .ok (.iload_n 3, 1) := by decide +kernel
theorem dL_acts_309 : decode cL_acts 309 = .ok (.invokestatic 233, 3) := by decide +kernel
theorem dL_acts_312 : decode cL_acts 312 = .ok (.ireturn, 1) := by decide +kernel
theorem dL_acts_313 : decode cL_acts 313 = .ok (.aload_n 0, 1) := by decide +kernel
theorem dL_acts_314 : decode cL_acts 314 = .ok (.iload 5, 2) := by decide +kernel
theorem dL_acts_316 : decode cL_acts 316 = .ok (.invokestatic 235, 3) := by decide +kernel
theorem dL_acts_319 : decode cL_acts 319 = .ok (.ireturn, 1) := by decide +kernel
theorem dL_acts_320 : decode cL_acts 320 = .ok (.aload_n 0, 1) := by decide +kernel
theorem dL_acts_321 : decode cL_acts 321 = .ok (.iload 5, 2) := by decide +kernel
theorem dL_acts_323 : decode cL_acts 323 = .ok (.iload_n 3, 1) := by decide +kernel
theorem dL_acts_324 : decode cL_acts 324 = .ok (.aload_n 2, 1) := by decide +kernel
theorem dL_acts_325 : decode cL_acts 325 = .ok (.bipush 30, 2) := by decide +kernel
theorem dL_acts_327 : decode cL_acts 327 = .ok (.invokevirtual 190, 3) := by decide +kernel
theorem dL_acts_330 : decode cL_acts 330 = .ok (.ifCond .ne 8, 3) := by decide +kernel
theorem dL_acts_333 : decode cL_acts 333 = .ok (.bipush 10, 2) := by decide +kernel
theorem dL_acts_335 : decode cL_acts 335 = .ok (.goto 11, 3) := by decide +kernel
theorem dL_acts_338 : decode cL_acts 338 = .ok (.iconst 1, 1) := by decide +kernel
theorem dL_acts_339 : decode cL_acts 339 = .ok (.aload_n 2, 1) := by decide +kernel
theorem dL_acts_340 : decode cL_acts 340 = .ok (.bipush 9, 2) := by decide +kernel
theorem dL_acts_342 : decode cL_acts 342 = .ok (.invokevirtual 190, 3) := by decide +kernel
theorem dL_acts_345 : decode cL_acts 345 = .ok (.iadd, 1) := by decide +kernel
theorem dL_acts_346 : decode cL_acts 346 = .ok (.aload_n 2, 1) := by decide +kernel
theorem dL_acts_347 : decode cL_acts 347 = .ok (.iconst 2, 1) := by decide +kernel
theorem dL_acts_348 : decode cL_acts 348 = .ok (.invokevirtual 190, 3) := by decide +kernel
theorem dL_acts_351 : decode cL_acts 351 = .ok (.ifCond .ne 7, 3) := by decide +kernel
theorem dL_acts_354 : decode cL_acts 354 = .ok (.iconst 1, 1) := by decide +kernel
theorem dL_acts_355 : decode cL_acts 355 = .ok (.goto 4, 3) := by decide +kernel
theorem dL_acts_358 : decode cL_acts 358 = .ok (.iconst 0, 1) := by decide +kernel
theorem dL_acts_359 : decode cL_acts 359 = .ok (.invokestatic 237, 3) := by decide +kernel
theorem dL_acts_362 : decode cL_acts 362 = .ok (.ireturn, 1) := by decide +kernel
theorem dL_told_0 : decode cL_told 0 = .ok (.new 164, 3) := by decide +kernel
theorem dL_told_3 : decode cL_told 3 = .ok (.dup, 1) := by decide +kernel
theorem dL_told_4 : decode cL_told 4 = .ok (.invokespecial 166, 3) := by decide +kernel
theorem dL_told_7 : decode cL_told 7 = .ok (.astore_n 1, 1) := by decide +kernel
theorem dL_told_8 : decode cL_told 8 = .ok (.iconst 0, 1) := by decide +kernel
theorem dL_told_9 : decode cL_told 9 = .ok (.istore_n 2, 1) := by decide +kernel
theorem dL_told_10 : decode cL_told 10 = .ok (.iload_n 2, 1) := by decide +kernel
theorem dL_told_11 : decode cL_told 11 = .ok (.aload_n 0, 1) := by decide +kernel
theorem dL_told_12 : decode cL_told 12 = .ok (.invokevirtual 200, 3) := by decide +kernel
theorem dL_told_15 : decode cL_told 15 = .ok (.if_icmp .ge 53, 3) := by decide +kernel
theorem dL_told_18 : decode cL_told 18 = .ok (.aload_n 1, 1) := by decide +kernel
theorem dL_told_19 : decode cL_told 19 = .ok (.aload_n 0, 1) := by decide +kernel
theorem dL_told_20 : decode cL_told 20 = .ok (.iload_n 2, 1) := by decide +kernel
theorem dL_told_21 : decode cL_told 21 = .ok (.invokestatic 240, 3) := by decide +kernel
theorem dL_told_24 : decode cL_told 24 = .ok (.invokevirtual 242, 3) := by decide +kernel
theorem dL_told_27 : decode cL_told 27 = .ok (.aload_n 0, 1) := by decide +kernel
theorem dL_told_28 : decode cL_told 28 = .ok (.iload_n 2, 1) := by decide +kernel
theorem dL_told_29 : decode cL_told 29 = .ok (.invokestatic 245, 3) := by decide +kernel
theorem dL_told_32 : decode cL_told 32 = .ok (.invokevirtual 242, 3) := by decide +kernel
theorem dL_told_35 : decode cL_told 35 = .ok (.aload_n 0, 1) := by decide +kernel
theorem dL_told_36 : decode cL_told 36 = .ok (.iload_n 2, 1) := by decide +kernel
theorem dL_told_37 : decode cL_told 37 = .ok (.invokestatic 247, 3) := by decide +kernel
theorem dL_told_40 : decode cL_told 40 = .ok (.invokevirtual 242, 3) := by decide +kernel
theorem dL_told_43 : decode cL_told 43 = .ok (.bipush 46, 2) := by decide +kernel
theorem dL_told_45 : decode cL_told 45 = .ok (.invokevirtual 172, 3) := by decide +kernel
theorem dL_told_48 : decode cL_told 48 = .ok (.aload_n 0, 1) := by decide +kernel
theorem dL_told_49 : decode cL_told 49 = .ok (.iload_n 2, 1) := by decide +kernel
theorem dL_told_50 : decode cL_told 50 = .ok (.invokestatic 249, 3) := by decide +kernel
theorem dL_told_53 : decode cL_told 53 = .ok (.invokevirtual 242, 3) := by decide +kernel
theorem dL_told_56 : decode cL_told 56 = .ok (.bipush 59, 2) := by decide +kernel
theorem dL_told_58 : decode cL_told 58 = .ok (.invokevirtual 172, 3) := by decide +kernel
theorem dL_told_61 : decode cL_told 61 = .ok (.pop, 1) := by decide +kernel
theorem dL_told_62 : decode cL_told 62 = .ok (.iinc 2 1, 3) := by decide +kernel
theorem dL_told_65 : decode cL_told 65 = .ok (.goto (-55), 3) := by decide +kernel
theorem dL_told_68 : decode cL_told 68 = .ok (.iconst 0, 1) := by decide +kernel
theorem dL_told_69 : decode cL_told 69 = .ok (.istore_n 2, 1) := by decide +kernel
theorem dL_told_70 : decode cL_told 70 = .ok (.iload_n 2, 1) := by decide +kernel
theorem dL_told_71 : decode cL_told 71 = .ok (.aload_n 0, 1) := by decide +kernel
theorem dL_told_72 : decode cL_told 72 = .ok (.invokevirtual 210, 3) := by decide +kernel
theorem dL_told_75 : decode cL_told 75 = .ok (.if_icmp .ge 91, 3) := by decide +kernel
theorem dL_told_78 : decode cL_told 78 = .ok (.aload_n 1, 1) := by decide +kernel
theorem dL_told_79 : decode cL_told 79 = .ok (.bipush 47, 2) := by decide +kernel
theorem dL_told_81 : decode cL_told 81 = .ok (.invokevirtual 172, 3) := by decide +kernel
theorem dL_told_84 : decode cL_told 84 = .ok (.aload_n 0, 1) := by decide +kernel
theorem dL_told_85 : decode cL_told 85 = .ok (.aload_n 0, 1) := by decide +kernel
theorem dL_told_86 : decode cL_told 86 = .ok (.iload_n 2, 1) := by decide +kernel
theorem dL_told_87 : decode cL_told 87 = .ok (.invokestatic 251, 3) := by decide +kernel
theorem dL_told_90 : decode cL_told 90 = .ok (.invokestatic 253, 3) := by decide +kernel
theorem dL_told_93 : decode cL_told 93 = .ok (.invokevirtual 257, 3) := by decide +kernel
theorem dL_told_96 : decode cL_told 96 = .ok (.aload_n 0, 1) := by decide +kernel
theorem dL_told_97 : decode cL_told 97 = .ok (.iload_n 2, 1) := by decide +kernel
theorem dL_told_98 : decode cL_told 98 = .ok (.invokestatic 260, 3) := by decide +kernel
theorem dL_told_101 : decode cL_told 101 = .ok (.invokevirtual 242, 3) := by decide +kernel
theorem dL_told_104 : decode cL_told 104 = .ok (.aload_n 0, 1) := by decide +kernel
theorem dL_told_105 : decode cL_told 105 = .ok (.iload_n 2, 1) := by decide +kernel
theorem dL_told_106 : decode cL_told 106 = .ok (.invokestatic 262, 3) := by decide +kernel
theorem dL_told_109 : decode cL_told 109 = .ok (.invokevirtual 242, 3) := by decide +kernel
theorem dL_told_112 : decode cL_told 112 = .ok (.aload_n 0, 1) := by decide +kernel
theorem dL_told_113 : decode cL_told 113 = .ok (.iload_n 2, 1) := by decide +kernel
theorem dL_told_114 : decode cL_told 114 = .ok (.invokestatic 264, 3) := by decide +kernel
theorem dL_told_117 : decode cL_told 117 = .ok (.invokevirtual 242, 3) := by decide +kernel
theorem dL_told_120 : decode cL_told 120 = .ok (.bipush 44, 2) := by decide +kernel
theorem dL_told_122 : decode cL_told 122 = .ok (.invokevirtual 172, 3) := by decide +kernel
theorem dL_told_125 : decode cL_told 125 = .ok (.aload_n 0, 1) := by decide +kernel
theorem dL_told_126 : decode cL_told 126 = .ok (.iload_n 2, 1) := by decide +kernel
theorem dL_told_127 : decode cL_told 127 = .ok (.invokestatic 266, 3) := by decide +kernel
theorem dL_told_130 : decode cL_told 130 = .ok (.invokevirtual 242, 3) := by decide +kernel
theorem dL_told_133 : decode cL_told 133 = .ok (.bipush 44, 2) := by decide +kernel
theorem dL_told_135 : decode cL_told 135 = .ok (.invokevirtual 172, 3) := by decide +kernel
theorem dL_told_138 : decode cL_told 138 = .ok (.aload_n 0, 1) := by decide +kernel
theorem dL_told_139 : decode cL_told 139 = .ok (.iload_n 2, 1) := by decide +kernel
theorem dL_told_140 : decode cL_told 140 = .ok (.invokestatic 268, 3) := by decide +kernel
theorem dL_told_143 : decode cL_told 143 = .ok (.invokevirtual 242, 3) := by decide +kernel
theorem dL_told_146 : decode cL_told 146 = .ok (.bipush 44, 2) := by decide +kernel
theorem dL_told_148 : decode cL_told 148 = .ok (.invokevirtual 172, 3) := by decide +kernel
theorem dL_told_151 : decode cL_told 151 = .ok (.aload_n 0, 1) := by decide +kernel
theorem dL_told_152 : decode cL_told 152 = .ok (.iload_n 2, 1) := by decide +kernel
theorem dL_told_153 : decode cL_told 153 = .ok (.invokestatic 270, 3) := by decide +kernel
theorem dL_told_156 : decode cL_told 156 = .ok (.invokevirtual 242, 3) := by decide +kernel
theorem dL_told_159 : decode cL_told 159 = .ok (.pop, 1) := by decide +kernel
theorem dL_told_160 : decode cL_told 160 = .ok (.iinc 2 1, 3) := by decide +kernel
theorem dL_told_163 : decode cL_told 163 = .ok (.goto (-93), 3) := by decide +kernel
theorem dL_told_166 : decode cL_told 166 = .ok (.aload_n 1, 1) := by decide +kernel
theorem dL_told_167 : decode cL_told 167 = .ok (.bipush 124, 2) := by decide +kernel
theorem dL_told_169 : decode cL_told 169 = .ok (.invokevirtual 172, 3) := by decide +kernel
theorem dL_told_172 : decode cL_told 172 = .ok (.aload_n 0, 1) := by decide +kernel
theorem dL_told_173 : decode cL_told 173 = .ok (.invokevirtual 207, 3) := by decide +kernel
theorem dL_told_176 : decode cL_told 176 = .ok (.invokevirtual 242, 3) := by decide +kernel
theorem dL_told_179 : decode cL_told 179 = .ok (.bipush 44, 2) := by decide +kernel
theorem dL_told_181 : decode cL_told 181 = .ok (.invokevirtual 172, 3) := by decide +kernel
theorem dL_told_184 : decode cL_told 184 = .ok (.aload_n 0, 1) := by decide +kernel
theorem dL_told_185 : decode cL_told 185 = .ok (.invokevirtual 272, 3) := by decide +kernel
theorem dL_told_188 : decode cL_told 188 = .ok (.invokevirtual 242, 3) := by decide +kernel
theorem dL_told_191 : decode cL_told 191 = .ok (.bipush 44, 2) := by decide +kernel
theorem dL_told_193 : decode cL_told 193 = .ok (.invokevirtual 172, 3) := by decide +kernel
theorem dL_told_196 : decode cL_told 196 = .ok (.aload_n 0, 1) := by decide +kernel
theorem dL_told_197 : decode cL_told 197 = .ok (.invokevirtual 275, 3) := by decide +kernel
theorem dL_told_200 : decode cL_told 200 = .ok (.invokevirtual 242, 3) := by decide +kernel
theorem dL_told_203 : decode cL_told 203 = .ok (.bipush 44, 2) := by decide +kernel
theorem dL_told_205 : decode cL_told 205 = .ok (.invokevirtual 172, 3) := by decide +kernel
theorem dL_told_208 : decode cL_told 208 = .ok (.aload_n 0, 1) := by decide +kernel
theorem dL_told_209 : decode cL_told 209 = .ok (.invokevirtual 278, 3) := by decide +kernel
theorem dL_told_212 : decode cL_told 212 = .ok (.invokevirtual 242, 3) := by decide +kernel
theorem dL_told_215 : decode cL_told 215 = .ok (.invokevirtual 175, 3) := by decide +kernel
theorem dL_told_218 : decode cL_told 218 = .ok (.areturn, 1) := by decide +kernel
theorem dL_stock_0 : decode cL_stock 0 = .ok (.aload_n 0, 1) := by decide +kernel
theorem dL_stock_1 : decode cL_stock 1 = .ok (.iconst 0, 1) := by decide +kernel
theorem dL_stock_2 : decode cL_stock 2 = .ok (.iconst 5, 1) := by decide +kernel
theorem dL_stock_3 : decode cL_stock 3 = .ok (.invokestatic 216, 3) := by decide +kernel
theorem dL_stock_6 : decode cL_stock 6 = .ok (.aload_n 0, 1) := by decide +kernel
theorem dL_stock_7 : decode cL_stock 7 = .ok (.iconst 1, 1) := by decide +kernel
theorem dL_stock_8 : decode cL_stock 8 = .ok (.iconst 3, 1) := by decide +kernel
theorem dL_stock_9 : decode cL_stock 9 = .ok (.invokestatic 216, 3) := by decide +kernel
theorem dL_stock_12 : decode cL_stock 12 = .ok (.iadd, 1) := by decide +kernel
theorem dL_stock_13 : decode cL_stock 13 = .ok (.aload_n 0, 1) := by decide +kernel
theorem dL_stock_14 : decode cL_stock 14 = .ok (.iconst 0, 1) := by decide +kernel
theorem dL_stock_15 : decode cL_stock 15 = .ok (.iconst 2, 1) := by decide +kernel
theorem dL_stock_16 : decode cL_stock 16 = .ok (.invokestatic 216, 3) := by decide +kernel
theorem dL_stock_19 : decode cL_stock 19 = .ok (.iadd, 1) := by decide +kernel
theorem dL_stock_20 : decode cL_stock 20 = .ok (.aload_n 0, 1) := by decide +kernel
theorem dL_stock_21 : decode cL_stock 21 = .ok (.iconst 2, 1) := by decide +kernel
theorem dL_stock_22 : decode cL_stock 22 = .ok (.bipush 9, 2) := by decide +kernel
theorem dL_stock_24 : decode cL_stock 24 = .ok (.invokestatic 216, 3) := by decide +kernel
theorem dL_stock_27 : decode cL_stock 27 = .ok (.iadd, 1) := by decide +kernel
theorem dL_stock_28 : decode cL_stock 28 = .ok (.aload_n 0, 1) := by decide +kernel
theorem dL_stock_29 : decode cL_stock 29 = .ok (.iconst 2, 1) := by decide +kernel
theorem dL_stock_30 : decode cL_stock 30 = .ok (.invokestatic 219, 3) := by decide +kernel
theorem dL_stock_33 : decode cL_stock 33 = .ok (.iadd, 1) := by decide +kernel
theorem dL_stock_34 : decode cL_stock 34 = .ok (.aload_n 0, 1) := by decide +kernel
theorem dL_stock_35 : decode cL_stock 35 = .ok (.iconst 3, 1) := by decide +kernel
theorem dL_stock_36 : decode cL_stock 36 = .ok (.invokestatic 219, 3) := by decide +kernel
theorem dL_stock_39 : decode cL_stock 39 = .ok (.iadd, 1) := by decide +kernel
theorem dL_stock_40 : decode cL_stock 40 = .ok (.aload_n 0, 1) := by decide +kernel
theorem dL_stock_41 : decode cL_stock 41 = .ok (.iconst 0, 1) := by decide +kernel
theorem dL_stock_42 : decode cL_stock 42 = .ok (.iconst 0, 1) := by decide +kernel
theorem dL_stock_43 : decode cL_stock 43 = .ok (.invokestatic 221, 3) := by decide +kernel
theorem dL_stock_46 : decode cL_stock 46 = .ok (.iadd, 1) := by decide +kernel
theorem dL_stock_47 : decode cL_stock 47 = .ok (.aload_n 0, 1) := by decide +kernel
theorem dL_stock_48 : decode cL_stock 48 = .ok (.iconst 1, 1) := by decide +kernel
theorem dL_stock_49 : decode cL_stock 49 = .ok (.iconst 0, 1) := by decide +kernel
theorem dL_stock_50 : decode cL_stock 50 = .ok (.invokestatic 221, 3) := by decide +kernel
theorem dL_stock_53 : decode cL_stock 53 = .ok (.iadd, 1) := by decide +kernel
theorem dL_stock_54 : decode cL_stock 54 = .ok (.aload_n 0, 1) := by decide +kernel
theorem dL_stock_55 : decode cL_stock 55 = .ok (.iconst 2, 1) := by decide +kernel
theorem dL_stock_56 : decode cL_stock 56 = .ok (.iconst 1, 1) := by decide +kernel
theorem dL_stock_57 : decode cL_stock 57 = .ok (.invokestatic 221, 3) := by decide +kernel
theorem dL_stock_60 : decode cL_stock 60 = .ok (.iadd, 1) := by decide +kernel
theorem dL_stock_61 : decode cL_stock 61 = .ok (.istore_n 1, 1) := by decide +kernel
theorem dL_stock_62 : decode cL_stock 62 = .ok (.iload_n 1, 1) := by decide +kernel
theorem dL_stock_63 : decode cL_stock 63 = .ok (.aload_n 0, 1) := by decide +kernel
theorem dL_stock_64 : decode cL_stock 64 = .ok (.iconst 3, 1) := by decide +kernel
theorem dL_stock_65 : decode cL_stock 65 = .ok (.invokestatic 225, 3) := by decide +kernel
theorem dL_stock_68 : decode cL_stock 68 = .ok (.aload_n 0, 1) := by decide +kernel
theorem dL_stock_69 : decode cL_stock 69 = .ok (.bipush 15, 2) := by decide +kernel
theorem dL_stock_71 : decode cL_stock 71 = .ok (.invokestatic 225, 3) := by decide +kernel
theorem dL_stock_74 : decode cL_stock 74 = .ok (.iadd, 1) := by decide +kernel
theorem dL_stock_75 : decode cL_stock 75 = .ok (.aload_n 0, 1) := by decide +kernel
theorem dL_stock_76 : decode cL_stock 76 = .ok (.iconst 0, 1) := by decide +kernel
theorem dL_stock_77 : decode cL_stock 77 = .ok (.iconst 1, 1) := by decide +kernel
theorem dL_stock_78 : decode cL_stock 78 = .ok (.invokestatic 227, 3) := by decide +kernel
theorem dL_stock_81 : decode cL_stock 81 = .ok (.iadd, 1) := by decide +kernel
theorem dL_stock_82 : decode cL_stock 82 = .ok (.aload_n 0, 1) := by decide +kernel
theorem dL_stock_83 : decode cL_stock 83 = .ok (.iconst 0, 1) := by decide +kernel
theorem dL_stock_84 : decode cL_stock 84 = .ok (.iconst 0, 1) := by decide +kernel
theorem dL_stock_85 : decode cL_stock 85 = .ok (.invokestatic 227, 3) := by decide +kernel
theorem dL_stock_88 : decode cL_stock 88 = .ok (.iadd, 1) := by decide +kernel
theorem dL_stock_89 : decode cL_stock 89 = .ok (.aload_n 0, 1) := by decide +kernel
theorem dL_stock_90 : decode cL_stock 90 = .ok (.iconst 1, 1) := by decide +kernel
theorem dL_stock_91 : decode cL_stock 91 = .ok (.iconst 3, 1) := by decide +kernel
theorem dL_stock_92 : decode cL_stock 92 = .ok (.invokestatic 227, 3) := by decide +kernel
theorem dL_stock_95 : decode cL_stock 95 = .ok (.iadd, 1) := by decide +kernel
theorem dL_stock_96 : decode cL_stock 96 = .ok (.aload_n 0, 1) := by decide +kernel
theorem dL_stock_97 : decode cL_stock 97 = .ok (.iconst 0, 1) := by decide +kernel
theorem dL_stock_98 : decode cL_stock 98 = .ok (.invokestatic 231, 3) := by decide +kernel
theorem dL_stock_101 : decode cL_stock 101 = .ok (.iadd, 1) := by decide +kernel
theorem dL_stock_102 : decode cL_stock 102 = .ok (.aload_n 0, 1) := by decide +kernel
theorem dL_stock_103 : decode cL_stock 103 = .ok (.iconst 0, 1) := by decide +kernel
theorem dL_stock_104 : decode cL_stock 104 = .ok (.iconst 0, 1) := by decide +kernel
theorem dL_stock_105 : decode cL_stock 105 = .ok (.invokestatic 233, 3) := by decide +kernel
theorem dL_stock_108 : decode cL_stock 108 = .ok (.iadd, 1) := by decide +kernel
theorem dL_stock_109 : decode cL_stock 109 = .ok (.aload_n 0, 1) := by decide +kernel
theorem dL_stock_110 : decode cL_stock 110 = .ok (.iconst 0, 1) := by decide +kernel
theorem dL_stock_111 : decode cL_stock 111 = .ok (.iconst 2, 1) := by decide +kernel
theorem dL_stock_112 : decode cL_stock 112 = .ok (.invokestatic 233, 3) := by decide +kernel
theorem dL_stock_115 : decode cL_stock 115 = .ok (.iadd, 1) := by decide +kernel
theorem dL_stock_116 : decode cL_stock 116 = .ok (.aload_n 0, 1) := by decide +kernel
theorem dL_stock_117 : decode cL_stock 117 = .ok (.iconst 0, 1) := by decide +kernel
theorem dL_stock_118 : decode cL_stock 118 = .ok (.invokestatic 231, 3) := by decide +kernel
theorem dL_stock_121 : decode cL_stock 121 = .ok (.iadd, 1) := by decide +kernel
theorem dL_stock_122 : decode cL_stock 122 = .ok (.iadd, 1) := by decide +kernel
theorem dL_stock_123 : decode cL_stock 123 = .ok (.istore_n 1, 1) := by decide +kernel
theorem dL_stock_124 : decode cL_stock 124 = .ok (.iload_n 1, 1) := by decide +kernel
theorem dL_stock_125 : decode cL_stock 125 = .ok (.aload_n 0, 1) := by decide +kernel
theorem dL_stock_126 : decode cL_stock 126 = .ok (.iconst 0, 1) := by decide +kernel
theorem dL_stock_127 : decode cL_stock 127 = .ok (.iconst 0, 1) := by decide +kernel
theorem dL_stock_128 : decode cL_stock 128 = .ok (.iconst 4, 1) := by decide +kernel
theorem dL_stock_129 : decode cL_stock 129 = .ok (.iconst 1, 1) := by decide +kernel
theorem dL_stock_130 : decode cL_stock 130 = .ok (.invokestatic 237, 3) := by decide +kernel
theorem dL_stock_133 : decode cL_stock 133 = .ok (.iadd, 1) := by decide +kernel
theorem dL_stock_134 : decode cL_stock 134 = .ok (.aload_n 0, 1) := by decide +kernel
theorem dL_stock_135 : decode cL_stock 135 = .ok (.iconst 0, 1) := by decide +kernel
theorem dL_stock_136 : decode cL_stock 136 = .ok (.iconst 1, 1) := by decide +kernel
theorem dL_stock_137 : decode cL_stock 137 = .ok (.iconst 2, 1) := by decide +kernel
theorem dL_stock_138 : decode cL_stock 138 = .ok (.iconst 0, 1) := by decide +kernel
theorem dL_stock_139 : decode cL_stock 139 = .ok (.invokestatic 237, 3) := by decide +kernel
theorem dL_stock_142 : decode cL_stock 142 = .ok (.iadd, 1) := by decide +kernel
theorem dL_stock_143 : decode cL_stock 143 = .ok (.ireturn, 1) := by decide +kernel
theorem dL_frogs_0 : decode cL_frogs 0 = .ok (.aload_n 0, 1) := by decide +kernel
theorem dL_frogs_1 : decode cL_frogs 1 = .ok (.invokevirtual 200, 3) := by decide +kernel
theorem dL_frogs_4 : decode cL_frogs 4 = .ok (.istore_n 1, 1) := by decide +kernel
theorem dL_frogs_5 : decode cL_frogs 5 = .ok (.bipush 6, 2) := by decide +kernel
theorem dL_frogs_7 : decode cL_frogs 7 = .ok (.newarray .int, 2) := by decide +kernel
theorem dL_frogs_9 : decode cL_frogs 9 = .ok (.astore_n 2, 1) := by decide +kernel
theorem dL_frogs_10 : decode cL_frogs 10 = .ok (.bipush 6, 2) := by decide +kernel
theorem dL_frogs_12 : decode cL_frogs 12 = .ok (.newarray .int, 2) := by decide +kernel
theorem dL_frogs_14 : decode cL_frogs 14 = .ok (.astore_n 3, 1) := by decide +kernel
theorem dL_frogs_15 : decode cL_frogs 15 = .ok (.iconst 0, 1) := by decide +kernel
theorem dL_frogs_16 : decode cL_frogs 16 = .ok (.istore 4, 2) := by decide +kernel
theorem dL_frogs_18 : decode cL_frogs 18 = .ok (.iconst 0, 1) := by decide +kernel
theorem dL_frogs_19 : decode cL_frogs 19 = .ok (.istore 5, 2) := by decide +kernel
theorem dL_frogs_21 : decode cL_frogs 21 = .ok (.iconst 0, 1) := by decide +kernel
theorem dL_frogs_22 : decode cL_frogs 22 = .ok (.istore 6, 2) := by decide +kernel
theorem dL_frogs_24 : decode cL_frogs 24 = .ok (.iconst (-1), 1) := by decide +kernel
theorem dL_frogs_25 : decode cL_frogs 25 = .ok (.istore 7, 2) := by decide +kernel
theorem dL_frogs_27 : decode cL_frogs 27 = .ok (.iconst 0, 1) := by decide +kernel
theorem dL_frogs_28 : decode cL_frogs 28 = .ok (.istore 8, 2) := by decide +kernel
theorem dL_frogs_30 : decode cL_frogs 30 = .ok (.iload 8, 2) := by decide +kernel
theorem dL_frogs_32 : decode cL_frogs 32 = .ok (.iload_n 1, 1) := by decide +kernel
theorem dL_frogs_33 : decode cL_frogs 33 = .ok (.if_icmp .ge 162, 3) := by decide +kernel
theorem dL_frogs_36 : decode cL_frogs 36 = .ok (.aload_n 0, 1) := by decide +kernel
theorem dL_frogs_37 : decode cL_frogs 37 = .ok (.iload 8, 2) := by decide +kernel
theorem dL_frogs_39 : decode cL_frogs 39 = .ok (.invokestatic 247, 3) := by decide +kernel
theorem dL_frogs_42 : decode cL_frogs 42 = .ok (.istore 9, 2) := by decide +kernel
theorem dL_frogs_44 : decode cL_frogs 44 = .ok (.iload 9, 2) := by decide +kernel
theorem dL_frogs_46 : decode cL_frogs 46 = .ok (.ifCond .lt 38, 3) := by decide +kernel
theorem dL_frogs_49 : decode cL_frogs 49 = .ok (.aload_n 2, 1) := by decide +kernel
theorem dL_frogs_50 : decode cL_frogs 50 = .ok (.iload 9, 2) := by decide +kernel
theorem dL_frogs_52 : decode cL_frogs 52 = .ok (.dup2, 1) := by decide +kernel
theorem dL_frogs_53 : decode cL_frogs 53 = .ok (.iaload, 1) := by decide +kernel
theorem dL_frogs_54 : decode cL_frogs 54 = .ok (.iconst 1, 1) := by decide +kernel
theorem dL_frogs_55 : decode cL_frogs 55 = .ok (.iadd, 1) := by decide +kernel
theorem dL_frogs_56 : decode cL_frogs 56 = .ok (.iastore, 1) := by decide +kernel
theorem dL_frogs_57 : decode cL_frogs 57 = .ok (.aload_n 3, 1) := by decide +kernel
theorem dL_frogs_58 : decode cL_frogs 58 = .ok (.iload 9, 2) := by decide +kernel
theorem dL_frogs_60 : decode cL_frogs 60 = .ok (.dup2, 1) := by decide +kernel
theorem dL_frogs_61 : decode cL_frogs 61 = .ok (.iaload, 1) := by decide +kernel
theorem dL_frogs_62 : decode cL_frogs 62 = .ok (.aload_n 0, 1) := by decide +kernel
theorem dL_frogs_63 : decode cL_frogs 63 = .ok (.iload 8, 2) := by decide +kernel
theorem dL_frogs_65 : decode cL_frogs 65 = .ok (.invokestatic 245, 3) := by decide +kernel
theorem dL_frogs_68 : decode cL_frogs 68 = .ok (.iadd, 1) := by decide +kernel
theorem dL_frogs_69 : decode cL_frogs 69 = .ok (.iastore, 1) := by decide +kernel
theorem dL_frogs_70 : decode cL_frogs 70 = .ok (.iinc 4 1, 3) := by decide +kernel
theorem dL_frogs_73 : decode cL_frogs 73 = .ok (.iload 5, 2) := by decide +kernel
theorem dL_frogs_75 : decode cL_frogs 75 = .ok (.aload_n 0, 1) := by decide +kernel
theorem dL_frogs_76 : decode cL_frogs 76 = .ok (.iload 8, 2) := by decide +kernel
theorem dL_frogs_78 : decode cL_frogs 78 = .ok (.invokestatic 245, 3) := by decide +kernel
theorem dL_frogs_81 : decode cL_frogs 81 = .ok (.iadd, 1) := by decide +kernel
theorem dL_frogs_82 : decode cL_frogs 82 = .ok (.istore 5, 2) := by decide +kernel
theorem dL_frogs_84 : decode cL_frogs 84 = .ok (.iload 6, 2) := by decide +kernel
theorem dL_frogs_86 : decode cL_frogs 86 = .ok (.aload_n 0, 1) := by decide +kernel
theorem dL_frogs_87 : decode cL_frogs 87 = .ok (.iload 8, 2) := by decide +kernel
theorem dL_frogs_89 : decode cL_frogs 89 = .ok (.invokestatic 249, 3) := by decide +kernel
theorem dL_frogs_92 : decode cL_frogs 92 = .ok (.iadd, 1) := by decide +kernel
theorem dL_frogs_93 : decode cL_frogs 93 = .ok (.istore 6, 2) := by decide +kernel
theorem dL_frogs_95 : decode cL_frogs 95 = .ok (.aload_n 0, 1) := by decide +kernel
theorem dL_frogs_96 : decode cL_frogs 96 = .ok (.iload 8, 2) := by decide +kernel
theorem dL_frogs_98 : decode cL_frogs 98 = .ok (.invokestatic 281, 3) := by decide +kernel
theorem dL_frogs_101 : decode cL_frogs 101 = .ok (.istore 10, 2) := by decide +kernel
theorem dL_frogs_103 : decode cL_frogs 103 = .ok (.iload 7, 2) := by decide +kernel
theorem dL_frogs_105 : decode cL_frogs 105 = .ok (.ifCond .ge 7, 3) := by decide +kernel
theorem dL_frogs_108 : decode cL_frogs 108 = .ok (.iconst 1, 1) := by decide +kernel
theorem dL_frogs_109 : decode cL_frogs 109 = .ok (.goto 16, 3) := by decide +kernel
theorem dL_frogs_112 : decode cL_frogs 112 = .ok (.aload_n 0, 1) := by decide +kernel
theorem dL_frogs_113 : decode cL_frogs 113 = .ok (.iload 7, 2) := by decide +kernel
theorem dL_frogs_115 : decode cL_frogs 115 = .ok (.invokestatic 249, 3) := by decide +kernel
theorem dL_frogs_118 : decode cL_frogs 118 = .ok (.aload_n 0, 1) := by decide +kernel
theorem dL_frogs_119 : decode cL_frogs 119 = .ok (.iload 10, 2) := by decide +kernel
theorem dL_frogs_121 : decode cL_frogs 121 = .ok (.invokestatic 249, 3) := by decide +kernel
theorem dL_frogs_124 : decode cL_frogs 124 = .ok (.isub, 1) := by decide +kernel
theorem dL_frogs_125 : decode cL_frogs 125 = .ok (.istore 11, 2) := by decide +kernel
theorem dL_frogs_127 : decode cL_frogs 127 = .ok (.iload 11, 2) := by decide +kernel
theorem dL_frogs_129 : decode cL_frogs 129 = .ok (.ifCond .eq 8, 3) := by decide +kernel
theorem dL_frogs_132 : decode cL_frogs 132 = .ok (.iload 11, 2) := by decide +kernel
theorem dL_frogs_134 : decode cL_frogs 134 = .ok (.goto 16, 3) := by decide +kernel
theorem dL_frogs_137 : decode cL_frogs 137 = .ok (.aload_n 0, 1) := by decide +kernel
theorem dL_frogs_138 : decode cL_frogs 138 = .ok (.iload 7, 2) := by decide +kernel
theorem dL_frogs_140 : decode cL_frogs 140 = .ok (.invokestatic 245, 3) := by decide +kernel
theorem dL_frogs_143 : decode cL_frogs 143 = .ok (.aload_n 0, 1) := by decide +kernel
theorem dL_frogs_144 : decode cL_frogs 144 = .ok (.iload 10, 2) := by decide +kernel
theorem dL_frogs_146 : decode cL_frogs 146 = .ok (.invokestatic 245, 3) := by decide +kernel
theorem dL_frogs_149 : decode cL_frogs 149 = .ok (.isub, 1) := by decide +kernel
theorem dL_frogs_150 : decode cL_frogs 150 = .ok (.istore 11, 2) := by decide +kernel
theorem dL_frogs_152 : decode cL_frogs 152 = .ok (.iload 10, 2) := by decide +kernel
theorem dL_frogs_154 : decode cL_frogs 154 = .ok (.ifCond .lt 29, 3) := by decide +kernel
theorem dL_frogs_157 : decode cL_frogs 157 = .ok (.iload 11, 2) := by decide +kernel
theorem dL_frogs_159 : decode cL_frogs 159 = .ok (.ifCond .lt 24, 3) := by decide +kernel
theorem dL_frogs_162 : decode cL_frogs 162 = .ok (.iload 11, 2) := by decide +kernel
theorem dL_frogs_164 : decode cL_frogs 164 = .ok (.ifCond .ne 10, 3) := by decide +kernel
theorem dL_frogs_167 : decode cL_frogs 167 = .ok (.iload 10, 2) := by decide +kernel
theorem dL_frogs_169 : decode cL_frogs 169 = .ok (.iload 7, 2) := by decide +kernel
theorem dL_frogs_171 : decode cL_frogs 171 = .ok (.if_icmp .lt 12, 3) := by decide +kernel
theorem dL_frogs_174 : decode cL_frogs 174 = .ok (.iload 9, 2) := by decide +kernel
theorem dL_frogs_176 : decode cL_frogs 176 = .ok (.aload_n 0, 1) := by decide +kernel
theorem dL_frogs_177 : decode cL_frogs 177 = .ok (.invokevirtual 207, 3) := by decide +kernel
theorem dL_frogs_180 : decode cL_frogs 180 = .ok (.if_icmp .lt 5, 3) := by decide +kernel
theorem dL_frogs_183 : decode cL_frogs 183 = .ok (.iconst 0, 1) := by decide +kernel
theorem dL_frogs_184 : decode cL_frogs 184 = .ok (.ireturn, 1) := by decide +kernel
theorem dL_frogs_185 : decode cL_frogs 185 = .ok (.iload 10, 2) := by decide +kernel
theorem dL_frogs_187 : decode cL_frogs 187 = .ok (.istore 7, 2) := by decide +kernel
theorem dL_frogs_189 : decode cL_frogs 189 = .ok (.iinc 8 1, 3) := by decide +kernel
theorem dL_frogs_192 : decode cL_frogs 192 = .ok (.goto (-162), 3) := by decide +kernel
theorem dL_frogs_195 : decode cL_frogs 195 = .ok (.iconst 0, 1) := by decide +kernel
theorem dL_frogs_196 : decode cL_frogs 196 = .ok (.istore 8, 2) := by decide +kernel
theorem dL_frogs_198 : decode cL_frogs 198 = .ok (.iload 8, 2) := by decide +kernel
theorem dL_frogs_200 : decode cL_frogs 200 = .ok (.aload_n 0, 1) := by decide +kernel
theorem dL_frogs_201 : decode cL_frogs 201 = .ok (.invokevirtual 207, 3) := by decide +kernel
theorem dL_frogs_204 : decode cL_frogs 204 = .ok (.if_icmp .ge 45, 3) := by decide +kernel
theorem dL_frogs_207 : decode cL_frogs 207 = .ok (.aload_n 0, 1) := by decide +kernel
theorem dL_frogs_208 : decode cL_frogs 208 = .ok (.iload 8, 2) := by decide +kernel
theorem dL_frogs_210 : decode cL_frogs 210 = .ok (.invokestatic 283, 3) := by decide +kernel
theorem dL_frogs_213 : decode cL_frogs 213 = .ok (.aload_n 2, 1) := by decide +kernel
theorem dL_frogs_214 : decode cL_frogs 214 = .ok (.iload 8, 2) := by decide +kernel
theorem dL_frogs_216 : decode cL_frogs 216 = .ok (.iaload, 1) := by decide +kernel
theorem dL_frogs_217 : decode cL_frogs 217 = .ok (.if_icmp .ne 24, 3) := by decide +kernel
theorem dL_frogs_220 : decode cL_frogs 220 = .ok (.aload_n 0, 1) := by decide +kernel
theorem dL_frogs_221 : decode cL_frogs 221 = .ok (.iload 8, 2) := by decide +kernel
theorem dL_frogs_223 : decode cL_frogs 223 = .ok (.invokestatic 285, 3) := by decide +kernel
theorem dL_frogs_226 : decode cL_frogs 226 = .ok (.aload_n 3, 1) := by decide +kernel
theorem dL_frogs_227 : decode cL_frogs 227 = .ok (.iload 8, 2) := by decide +kernel
theorem dL_frogs_229 : decode cL_frogs 229 = .ok (.iaload, 1) := by decide +kernel
theorem dL_frogs_230 : decode cL_frogs 230 = .ok (.if_icmp .ne 11, 3) := by decide +kernel
theorem dL_frogs_233 : decode cL_frogs 233 = .ok (.aload_n 2, 1) := by decide +kernel
theorem dL_frogs_234 : decode cL_frogs 234 = .ok (.iload 8, 2) := by decide +kernel
theorem dL_frogs_236 : decode cL_frogs 236 = .ok (.iaload, 1) := by decide +kernel
theorem dL_frogs_237 : decode cL_frogs 237 = .ok (.iconst 4, 1) := by decide +kernel
theorem dL_frogs_238 : decode cL_frogs 238 = .ok (.if_icmp .le 5, 3) := by decide +kernel
theorem dL_frogs_241 : decode cL_frogs 241 = .ok (.iconst 0, 1) := by decide +kernel
theorem dL_frogs_242 : decode cL_frogs 242 = .ok (.ireturn, 1) := by decide +kernel
theorem dL_frogs_243 : decode cL_frogs 243 = .ok (.iinc 8 1, 3) := by decide +kernel
theorem dL_frogs_246 : decode cL_frogs 246 = .ok (.goto (-48), 3) := by decide +kernel
theorem dL_frogs_249 : decode cL_frogs 249 = .ok (.iload 4, 2) := by decide +kernel
theorem dL_frogs_251 : decode cL_frogs 251 = .ok (.ifCond .ne 9, 3) := by decide +kernel
theorem dL_frogs_254 : decode cL_frogs 254 = .ok (.ldc2_w 156, 3) := by decide +kernel
theorem dL_frogs_257 : decode cL_frogs 257 = .ok (.goto 10, 3) := by decide +kernel
theorem dL_frogs_260 : decode cL_frogs 260 = .ok (.iload 5, 2) := by decide +kernel
theorem dL_frogs_262 : decode cL_frogs 262 = .ok (.i2d, 1) := by decide +kernel
theorem dL_frogs_263 : decode cL_frogs 263 = .ok (.iload 4, 2) := by decide +kernel
theorem dL_frogs_265 : decode cL_frogs 265 = .ok (.i2d, 1) := by decide +kernel
theorem dL_frogs_266 : decode cL_frogs 266 = .ok (.ddiv, 1) := by decide +kernel
theorem dL_frogs_267 : decode cL_frogs 267 = .ok (.dstore 8, 2) := by decide +kernel
theorem dL_frogs_269 : decode cL_frogs 269 = .ok (.aload_n 0, 1) := by decide +kernel
theorem dL_frogs_270 : decode cL_frogs 270 = .ok (.invokevirtual 287, 3) := by decide +kernel
theorem dL_frogs_273 : decode cL_frogs 273 = .ok (.iload 4, 2) := by decide +kernel
theorem dL_frogs_275 : decode cL_frogs 275 = .ok (.if_icmp .ne 72, 3) := by decide +kernel
theorem dL_frogs_278 : decode cL_frogs 278 = .ok (.aload_n 0, 1) := by decide +kernel
theorem dL_frogs_279 : decode cL_frogs 279 = .ok (.invokevirtual 290, 3) := by decide +kernel
theorem dL_frogs_282 : decode cL_frogs 282 = .ok (.iload 4, 2) := by decide +kernel
theorem dL_frogs_284 : decode cL_frogs 284 = .ok (.if_icmp .ne 63, 3) := by decide +kernel
theorem dL_frogs_287 : decode cL_frogs 287 = .ok (.aload_n 0, 1) := by decide +kernel
theorem dL_frogs_288 : decode cL_frogs 288 = .ok (.invokevirtual 272, 3) := by decide +kernel
theorem dL_frogs_291 : decode cL_frogs 291 = .ok (.iload 6, 2) := by decide +kernel
theorem dL_frogs_293 : decode cL_frogs 293 = .ok (.if_icmp .ne 54, 3) := by decide +kernel
theorem dL_frogs_296 : decode cL_frogs 296 = .ok (.aload_n 0, 1) := by decide +kernel
theorem dL_frogs_297 : decode cL_frogs 297 = .ok (.invokestatic 293, 3) := by decide +kernel
theorem dL_frogs_300 : decode cL_frogs 300 = .ok (.dload 8, 2) := by decide +kernel
theorem dL_frogs_302 : decode cL_frogs 302 = .ok (.dcmp .l, 1) := by decide +kernel
theorem dL_frogs_303 : decode cL_frogs 303 = .ok (.ifCond .ne 44, 3) := by decide +kernel
theorem dL_frogs_306 : decode cL_frogs 306 = .ok (.aload_n 0, 1) := by decide +kernel
theorem dL_frogs_307 : decode cL_frogs 307 = .ok (.iload_n 1, 1) := by decide +kernel
theorem dL_frogs_308 : decode cL_frogs 308 = .ok (.invokestatic 281, 3) := by decide +kernel
theorem dL_frogs_311 : decode cL_frogs 311 = .ok (.iconst (-1), 1) := by decide +kernel
theorem dL_frogs_312 : decode cL_frogs 312 = .ok (.if_icmp .ne 35, 3) := by decide +kernel
theorem dL_frogs_315 : decode cL_frogs 315 = .ok (.aload_n 0, 1) := by decide +kernel
theorem dL_frogs_316 : decode cL_frogs 316 = .ok (.iload_n 1, 1) := by decide +kernel
theorem dL_frogs_317 : decode cL_frogs 317 = .ok (.invokestatic 247, 3) := by decide +kernel
theorem dL_frogs_320 : decode cL_frogs 320 = .ok (.iconst (-1), 1) := by decide +kernel
theorem dL_frogs_321 : decode cL_frogs 321 = .ok (.if_icmp .ne 26, 3) := by decide +kernel
theorem dL_frogs_324 : decode cL_frogs 324 = .ok (.aload_n 0, 1) := by decide +kernel
theorem dL_frogs_325 : decode cL_frogs 325 = .ok (.aload_n 0, 1) := by decide +kernel
theorem dL_frogs_326 : decode cL_frogs 326 = .ok (.invokevirtual 207, 3) := by decide +kernel
theorem dL_frogs_329 : decode cL_frogs 329 = .ok (.invokestatic 283, 3) := by decide +kernel
theorem dL_frogs_332 : decode cL_frogs 332 = .ok (.iconst (-1), 1) := by decide +kernel
theorem dL_frogs_333 : decode cL_frogs 333 = .ok (.if_icmp .ne 14, 3) := by decide +kernel
theorem dL_frogs_336 : decode cL_frogs 336 = .ok (.aload_n 0, 1) := by decide +kernel
theorem dL_frogs_337 : decode cL_frogs 337 = .ok (.invokevirtual 296, 3) := by decide +kernel
theorem dL_frogs_340 : decode cL_frogs 340 = .ok (.ifCond .eq 7, 3) := by decide +kernel
theorem dL_frogs_343 : decode cL_frogs 343 = .ok (.iconst 1, 1) := by decide +kernel
theorem dL_frogs_344 : decode cL_frogs 344 = .ok (.goto 4, 3) := by decide +kernel
theorem dL_frogs_347 : decode cL_frogs 347 = .ok (.iconst 0, 1) := by decide +kernel
theorem dL_frogs_348 : decode cL_frogs 348 = .ok (.ireturn, 1) := by decide +kernel
theorem dL_motion_0 : decode cL_motion 0 = .ok (.aload_n 0, 1) := by decide +kernel
theorem dL_motion_1 : decode cL_motion 1 = .ok (.invokevirtual 200, 3) := by decide +kernel
theorem dL_motion_4 : decode cL_motion 4 = .ok (.istore_n 2, 1) := by decide +kernel
theorem dL_motion_5 : decode cL_motion 5 = .ok (.bipush 12, 2) := by decide +kernel
theorem dL_motion_7 : decode cL_motion 7 = .ok (.newarray .int, 2) := by decide +kernel
theorem dL_motion_9 : decode cL_motion 9 = .ok (.astore_n 3, 1) := by decide +kernel
theorem dL_motion_10 : decode cL_motion 10 = .ok (.iconst 0, 1) := by decide +kernel
theorem dL_motion_11 : decode cL_motion 11 = .ok (.istore 4, 2) := by decide +kernel
theorem dL_motion_13 : decode cL_motion 13 = .ok (.iconst 0, 1) := by decide +kernel
theorem dL_motion_14 : decode cL_motion 14 = .ok (.istore 5, 2) := by decide +kernel
theorem dL_motion_16 : decode cL_motion 16 = .ok (.iconst 0, 1) := by decide +kernel
theorem dL_motion_17 : decode cL_motion 17 = .ok (.istore 6, 2) := by decide +kernel
theorem dL_motion_19 : decode cL_motion 19 = .ok (.iload 6, 2) := by decide +kernel
theorem dL_motion_21 : decode cL_motion 21 = .ok (.iload_n 2, 1) := by decide +kernel
theorem dL_motion_22 : decode cL_motion 22 = .ok (.if_icmp .ge 70, 3) := by decide +kernel
theorem dL_motion_25 : decode cL_motion 25 = .ok (.aload_n 0, 1) := by decide +kernel
theorem dL_motion_26 : decode cL_motion 26 = .ok (.iload_n 1, 1) := by decide +kernel
theorem dL_motion_27 : decode cL_motion 27 = .ok (.iload 6, 2) := by decide +kernel
theorem dL_motion_29 : decode cL_motion 29 = .ok (.invokestatic 300, 3) := by decide +kernel
theorem dL_motion_32 : decode cL_motion 32 = .ok (.istore 7, 2) := by decide +kernel
theorem dL_motion_34 : decode cL_motion 34 = .ok (.iload 5, 2) := by decide +kernel
theorem dL_motion_36 : decode cL_motion 36 = .ok (.aload_n 0, 1) := by decide +kernel
theorem dL_motion_37 : decode cL_motion 37 = .ok (.iload_n 1, 1) := by decide +kernel
theorem dL_motion_38 : decode cL_motion 38 = .ok (.iload 6, 2) := by decide +kernel
theorem dL_motion_40 : decode cL_motion 40 = .ok (.invokestatic 302, 3) := by decide +kernel
theorem dL_motion_43 : decode cL_motion 43 = .ok (.iconst 1, 1) := by decide +kernel
theorem dL_motion_44 : decode cL_motion 44 = .ok (.if_icmp .ne 12, 3) := by decide +kernel
theorem dL_motion_47 : decode cL_motion 47 = .ok (.aload_n 0, 1) := by decide +kernel
theorem dL_motion_48 : decode cL_motion 48 = .ok (.iload 6, 2) := by decide +kernel
theorem dL_motion_50 : decode cL_motion 50 = .ok (.invokestatic 245, 3) := by decide +kernel
theorem dL_motion_53 : decode cL_motion 53 = .ok (.goto 4, 3) := by decide +kernel
theorem dL_motion_56 : decode cL_motion 56 = .ok (.iconst 0, 1) := by decide +kernel
theorem dL_motion_57 : decode cL_motion 57 = .ok (.iadd, 1) := by decide +kernel
theorem dL_motion_58 : decode cL_motion 58 = .ok (.istore 5, 2) := by decide +kernel
theorem dL_motion_60 : decode cL_motion 60 = .ok (.iload 7, 2) := by decide +kernel
theorem dL_motion_62 : decode cL_motion 62 = .ok (.ifCond .lt 15, 3) := by decide +kernel
theorem dL_motion_65 : decode cL_motion 65 = .ok (.aload_n 3, 1) := by decide +kernel
theorem dL_motion_66 : decode cL_motion 66 = .ok (.iload 7, 2) := by decide +kernel
theorem dL_motion_68 : decode cL_motion 68 = .ok (.iload 6, 2) := by decide +kernel
theorem dL_motion_70 : decode cL_motion 70 = .ok (.iastore, 1) := by decide +kernel
theorem dL_motion_71 : decode cL_motion 71 = .ok (.iinc 4 1, 3) := by decide +kernel
theorem dL_motion_74 : decode cL_motion 74 = .ok (.goto 12, 3) := by decide +kernel
theorem dL_motion_77 : decode cL_motion 77 = .ok (.iload 7, 2) := by decide +kernel
theorem dL_motion_79 : decode cL_motion 79 = .ok (.bipush (-2), 2) := by decide +kernel
theorem dL_motion_81 : decode cL_motion 81 = .ok (.if_icmp .eq 5, 3) := by decide +kernel
theorem dL_motion_84 : decode cL_motion 84 = .ok (.iconst 0, 1) := by decide +kernel
theorem dL_motion_85 : decode cL_motion 85 = .ok (.ireturn, 1) := by decide +kernel
theorem dL_motion_86 : decode cL_motion 86 = .ok (.iinc 6 1, 3) := by decide +kernel
theorem dL_motion_89 : decode cL_motion 89 = .ok (.goto (-70), 3) := by decide +kernel
theorem dL_motion_92 : decode cL_motion 92 = .ok (.new 164, 3) := by decide +kernel
theorem dL_motion_95 : decode cL_motion 95 = .ok (.dup, 1) := by decide +kernel
theorem dL_motion_96 : decode cL_motion 96 = .ok (.invokespecial 166, 3) := by decide +kernel
theorem dL_motion_99 : decode cL_motion 99 = .ok (.astore 6, 2) := by decide +kernel
theorem dL_motion_101 : decode cL_motion 101 = .ok (.iconst 0, 1) := by decide +kernel
theorem dL_motion_102 : decode cL_motion 102 = .ok (.istore 7, 2) := by decide +kernel
theorem dL_motion_104 : decode cL_motion 104 = .ok (.iload 7, 2) := by decide +kernel
theorem dL_motion_106 : decode cL_motion 106 = .ok (.iload 4, 2) := by decide +kernel
theorem dL_motion_108 : decode cL_motion 108 = .ok (.if_icmp .ge 114, 3) := by decide +kernel
theorem dL_motion_111 : decode cL_motion 111 = .ok (.aload 6, 2) := by decide +kernel
theorem dL_motion_113 : decode cL_motion 113 = .ok (.iload 7, 2) := by decide +kernel
theorem dL_motion_115 : decode cL_motion 115 = .ok (.ifCond .ne 9, 3) := by decide +kernel
theorem dL_motion_118 : decode cL_motion 118 = .ok (.ldc_w 304, 3) := by decide +kernel
theorem dL_motion_121 : decode cL_motion 121 = .ok (.goto 6, 3) := by decide +kernel
theorem dL_motion_124 : decode cL_motion 124 = .ok (.ldc_w 306, 3) := by decide +kernel
theorem dL_motion_127 : decode cL_motion 127 = .ok (.invokevirtual 257, 3) := by decide +kernel
theorem dL_motion_130 : decode cL_motion 130 = .ok (.aload_n 3, 1) := by decide +kernel
theorem dL_motion_131 : decode cL_motion 131 = .ok (.iload 7, 2) := by decide +kernel
theorem dL_motion_133 : decode cL_motion 133 = .ok (.iaload, 1) := by decide +kernel
theorem dL_motion_134 : decode cL_motion 134 = .ok (.invokevirtual 242, 3) := by decide +kernel
theorem dL_motion_137 : decode cL_motion 137 = .ok (.aload_n 0, 1) := by decide +kernel
theorem dL_motion_138 : decode cL_motion 138 = .ok (.aload_n 3, 1) := by decide +kernel
theorem dL_motion_139 : decode cL_motion 139 = .ok (.iload 7, 2) := by decide +kernel
theorem dL_motion_141 : decode cL_motion 141 = .ok (.iaload, 1) := by decide +kernel
theorem dL_motion_142 : decode cL_motion 142 = .ok (.invokestatic 247, 3) := by decide +kernel
theorem dL_motion_145 : decode cL_motion 145 = .ok (.ifCond .ge 9, 3) := by decide +kernel
theorem dL_motion_148 : decode cL_motion 148 = .ok (.ldc_w 308, 3) := by decide +kernel
theorem dL_motion_151 : decode cL_motion 151 = .ok (.goto 6, 3) := by decide +kernel
theorem dL_motion_154 : decode cL_motion 154 = .ok (.ldc_w 304, 3) := by decide +kernel
theorem dL_motion_157 : decode cL_motion 157 = .ok (.invokevirtual 257, 3) := by decide +kernel
theorem dL_motion_160 : decode cL_motion 160 = .ok (.pop, 1) := by decide +kernel
theorem dL_motion_161 : decode cL_motion 161 = .ok (.aload_n 0, 1) := by decide +kernel
theorem dL_motion_162 : decode cL_motion 162 = .ok (.iload_n 1, 1) := by decide +kernel
theorem dL_motion_163 : decode cL_motion 163 = .ok (.aload_n 3, 1) := by decide +kernel
theorem dL_motion_164 : decode cL_motion 164 = .ok (.iload 7, 2) := by decide +kernel
theorem dL_motion_166 : decode cL_motion 166 = .ok (.iaload, 1) := by decide +kernel
theorem dL_motion_167 : decode cL_motion 167 = .ok (.invokestatic 300, 3) := by decide +kernel
theorem dL_motion_170 : decode cL_motion 170 = .ok (.iload 7, 2) := by decide +kernel
theorem dL_motion_172 : decode cL_motion 172 = .ok (.if_icmp .ne 42, 3) := by decide +kernel
theorem dL_motion_175 : decode cL_motion 175 = .ok (.aload_n 0, 1) := by decide +kernel
theorem dL_motion_176 : decode cL_motion 176 = .ok (.iload_n 1, 1) := by decide +kernel
theorem dL_motion_177 : decode cL_motion 177 = .ok (.aload_n 3, 1) := by decide +kernel
theorem dL_motion_178 : decode cL_motion 178 = .ok (.iload 7, 2) := by decide +kernel
theorem dL_motion_180 : decode cL_motion 180 = .ok (.iaload, 1) := by decide +kernel
theorem dL_motion_181 : decode cL_motion 181 = .ok (.invokestatic 302, 3) := by decide +kernel
theorem dL_motion_184 : decode cL_motion 184 = .ok (.iconst 1, 1) := by decide +kernel
theorem dL_motion_185 : decode cL_motion 185 = .ok (.if_icmp .ne 29, 3) := by decide +kernel
theorem dL_motion_188 : decode cL_motion 188 = .ok (.iload 7, 2) := by decide +kernel
theorem dL_motion_190 : decode cL_motion 190 = .ok (.ifCond .le 26, 3) := by decide +kernel
theorem dL_motion_193 : decode cL_motion 193 = .ok (.aload_n 0, 1) := by decide +kernel
theorem dL_motion_194 : decode cL_motion 194 = .ok (.aload_n 3, 1) := by decide +kernel
theorem dL_motion_195 : decode cL_motion 195 = .ok (.iload 7, 2) := by decide +kernel
theorem dL_motion_197 : decode cL_motion 197 = .ok (.iconst 1, 1) := by decide +kernel
theorem dL_motion_198 : decode cL_motion 198 = .ok (.isub, 1) := by decide +kernel
theorem dL_motion_199 : decode cL_motion 199 = .ok (.iaload, 1) := by decide +kernel
theorem dL_motion_200 : decode cL_motion 200 = .ok (.invokestatic 249, 3) := by decide +kernel
theorem dL_motion_203 : decode cL_motion 203 = .ok (.aload_n 0, 1) := by decide +kernel
theorem dL_motion_204 : decode cL_motion 204 = .ok (.aload_n 3, 1) := by decide +kernel
theorem dL_motion_205 : decode cL_motion 205 = .ok (.iload 7, 2) := by decide +kernel
theorem dL_motion_207 : decode cL_motion 207 = .ok (.iaload, 1) := by decide +kernel
theorem dL_motion_208 : decode cL_motion 208 = .ok (.invokestatic 249, 3) := by decide +kernel
theorem dL_motion_211 : decode cL_motion 211 = .ok (.if_icmp .le 5, 3) := by decide +kernel
theorem dL_motion_214 : decode cL_motion 214 = .ok (.iconst 0, 1) := by decide +kernel
theorem dL_motion_215 : decode cL_motion 215 = .ok (.ireturn, 1) := by decide +kernel
theorem dL_motion_216 : decode cL_motion 216 = .ok (.iinc 7 1, 3) := by decide +kernel
theorem dL_motion_219 : decode cL_motion 219 = .ok (.goto (-115), 3) := by decide +kernel
theorem dL_motion_222 : decode cL_motion 222 = .ok (.aload_n 0, 1) := by decide +kernel
theorem dL_motion_223 : decode cL_motion 223 = .ok (.iload_n 1, 1) := by decide +kernel
theorem dL_motion_224 : decode cL_motion 224 = .ok (.invokestatic 310, 3) := by decide +kernel
theorem dL_motion_227 : decode cL_motion 227 = .ok (.iconst 1, 1) := by decide +kernel
theorem dL_motion_228 : decode cL_motion 228 = .ok (.if_icmp .ne 7, 3) := by decide +kernel
theorem dL_motion_231 : decode cL_motion 231 = .ok (.iconst 1, 1) := by decide +kernel
theorem dL_motion_232 : decode cL_motion 232 = .ok (.goto 4, 3) := by decide +kernel
theorem dL_motion_235 : decode cL_motion 235 = .ok (.iconst 0, 1) := by decide +kernel
theorem dL_motion_236 : decode cL_motion 236 = .ok (.istore 7, 2) := by decide +kernel
theorem dL_motion_238 : decode cL_motion 238 = .ok (.aload_n 0, 1) := by decide +kernel
theorem dL_motion_239 : decode cL_motion 239 = .ok (.iload_n 1, 1) := by decide +kernel
theorem dL_motion_240 : decode cL_motion 240 = .ok (.invokestatic 260, 3) := by decide +kernel
theorem dL_motion_243 : decode cL_motion 243 = .ok (.iconst 1, 1) := by decide +kernel
theorem dL_motion_244 : decode cL_motion 244 = .ok (.if_icmp .ne 7, 3) := by decide +kernel
theorem dL_motion_247 : decode cL_motion 247 = .ok (.iconst 1, 1) := by decide +kernel
theorem dL_motion_248 : decode cL_motion 248 = .ok (.goto 4, 3) := by decide +kernel
theorem dL_motion_251 : decode cL_motion 251 = .ok (.iconst 0, 1) := by decide +kernel
theorem dL_motion_252 : decode cL_motion 252 = .ok (.istore 8, 2) := by decide +kernel
theorem dL_motion_254 : decode cL_motion 254 = .ok (.aload_n 0, 1) := by decide +kernel
theorem dL_motion_255 : decode cL_motion 255 = .ok (.iload_n 1, 1) := by decide +kernel
theorem dL_motion_256 : decode cL_motion 256 = .ok (.invokestatic 266, 3) := by decide +kernel
theorem dL_motion_259 : decode cL_motion 259 = .ok (.istore 9, 2) := by decide +kernel
theorem dL_motion_261 : decode cL_motion 261 = .ok (.aload_n 0, 1) := by decide +kernel
theorem dL_motion_262 : decode cL_motion 262 = .ok (.iload_n 1, 1) := by decide +kernel
theorem dL_motion_263 : decode cL_motion 263 = .ok (.invokestatic 268, 3) := by decide +kernel
theorem dL_motion_266 : decode cL_motion 266 = .ok (.istore 10, 2) := by decide +kernel
theorem dL_motion_268 : decode cL_motion 268 = .ok (.iload 4, 2) := by decide +kernel
theorem dL_motion_270 : decode cL_motion 270 = .ok (.ifCond .ne 8, 3) := by decide +kernel
theorem dL_motion_273 : decode cL_motion 273 = .ok (.bipush (-2), 2) := by decide +kernel
theorem dL_motion_275 : decode cL_motion 275 = .ok (.goto 6, 3) := by decide +kernel
theorem dL_motion_278 : decode cL_motion 278 = .ok (.aload_n 3, 1) := by decide +kernel
theorem dL_motion_279 : decode cL_motion 279 = .ok (.iconst 0, 1) := by decide +kernel
theorem dL_motion_280 : decode cL_motion 280 = .ok (.iaload, 1) := by decide +kernel
theorem dL_motion_281 : decode cL_motion 281 = .ok (.istore 11, 2) := by decide +kernel
theorem dL_motion_283 : decode cL_motion 283 = .ok (.iload 9, 2) := by decide +kernel
theorem dL_motion_285 : decode cL_motion 285 = .ok (.iload 10, 2) := by decide +kernel
theorem dL_motion_287 : decode cL_motion 287 = .ok (.iadd, 1) := by decide +kernel
theorem dL_motion_288 : decode cL_motion 288 = .ok (.ifCond .ne 8, 3) := by decide +kernel
theorem dL_motion_291 : decode cL_motion 291 = .ok (.ldc 130, 2) := by decide +kernel
theorem dL_motion_293 : decode cL_motion 293 = .ok (.goto 13, 3) := by decide +kernel
theorem dL_motion_296 : decode cL_motion 296 = .ok (.iload 9, 2) := by decide +kernel
theorem dL_motion_298 : decode cL_motion 298 = .ok (.i2f, 1) := by decide +kernel
theorem dL_motion_299 : decode cL_motion 299 = .ok (.iload 9, 2) := by decide +kernel
theorem dL_motion_301 : decode cL_motion 301 = .ok (.iload 10, 2) := by decide +kernel
theorem dL_motion_303 : decode cL_motion 303 = .ok (.iadd, 1) := by decide +kernel
theorem dL_motion_304 : decode cL_motion 304 = .ok (.i2f, 1) := by decide +kernel
theorem dL_motion_305 : decode cL_motion 305 = .ok (.fdiv, 1) := by decide +kernel
theorem dL_motion_306 : decode cL_motion 306 = .ok (.fstore 12, 2) := by decide +kernel
theorem dL_motion_308 : decode cL_motion 308 = .ok (.aload_n 0, 1) := by decide +kernel
theorem dL_motion_309 : decode cL_motion 309 = .ok (.iload_n 1, 1) := by decide +kernel
theorem dL_motion_310 : decode cL_motion 310 = .ok (.invokestatic 312, 3) := by decide +kernel
theorem dL_motion_313 : decode cL_motion 313 = .ok (.iload 4, 2) := by decide +kernel
theorem dL_motion_315 : decode cL_motion 315 = .ok (.if_icmp .ne 74, 3) := by decide +kernel
theorem dL_motion_318 : decode cL_motion 318 = .ok (.aload_n 0, 1) := by decide +kernel
theorem dL_motion_319 : decode cL_motion 319 = .ok (.iload_n 1, 1) := by decide +kernel
theorem dL_motion_320 : decode cL_motion 320 = .ok (.invokestatic 314, 3) := by decide +kernel
theorem dL_motion_323 : decode cL_motion 323 = .ok (.iload 11, 2) := by decide +kernel
theorem dL_motion_325 : decode cL_motion 325 = .ok (.if_icmp .ne 64, 3) := by decide +kernel
theorem dL_motion_328 : decode cL_motion 328 = .ok (.aload_n 0, 1) := by decide +kernel
theorem dL_motion_329 : decode cL_motion 329 = .ok (.iload_n 1, 1) := by decide +kernel
theorem dL_motion_330 : decode cL_motion 330 = .ok (.invokestatic 316, 3) := by decide +kernel
theorem dL_motion_333 : decode cL_motion 333 = .ok (.iload 11, 2) := by decide +kernel
theorem dL_motion_335 : decode cL_motion 335 = .ok (.if_icmp .ne 54, 3) := by decide +kernel
theorem dL_motion_338 : decode cL_motion 338 = .ok (.aload_n 0, 1) := by decide +kernel
theorem dL_motion_339 : decode cL_motion 339 = .ok (.aload_n 0, 1) := by decide +kernel
theorem dL_motion_340 : decode cL_motion 340 = .ok (.iload_n 1, 1) := by decide +kernel
theorem dL_motion_341 : decode cL_motion 341 = .ok (.invokestatic 251, 3) := by decide +kernel
theorem dL_motion_344 : decode cL_motion 344 = .ok (.invokestatic 253, 3) := by decide +kernel
theorem dL_motion_347 : decode cL_motion 347 = .ok (.new 164, 3) := by decide +kernel
theorem dL_motion_350 : decode cL_motion 350 = .ok (.dup, 1) := by decide +kernel
theorem dL_motion_351 : decode cL_motion 351 = .ok (.invokespecial 166, 3) := by decide +kernel
theorem dL_motion_354 : decode cL_motion 354 = .ok (.aload 6, 2) := by decide +kernel
theorem dL_motion_356 : decode cL_motion 356 = .ok (.invokevirtual 318, 3) := by decide +kernel
theorem dL_motion_359 : decode cL_motion 359 = .ok (.iload 7, 2) := by decide +kernel
theorem dL_motion_361 : decode cL_motion 361 = .ok (.ifCond .eq 9, 3) := by decide +kernel
theorem dL_motion_364 : decode cL_motion 364 = .ok (.ldc_w 321, 3) := by decide +kernel
theorem dL_motion_367 : decode cL_motion 367 = .ok (.goto 6, 3) := by decide +kernel
theorem dL_motion_370 : decode cL_motion 370 = .ok (.ldc_w 304, 3) := by decide +kernel
theorem dL_motion_373 : decode cL_motion 373 = .ok (.invokevirtual 257, 3) := by decide +kernel
theorem dL_motion_376 : decode cL_motion 376 = .ok (.invokevirtual 175, 3) := by decide +kernel
theorem dL_motion_379 : decode cL_motion 379 = .ok (.invokevirtual 323, 3) := by decide +kernel
theorem dL_motion_382 : decode cL_motion 382 = .ok (.ifCond .eq 7, 3) := by decide +kernel
theorem dL_motion_385 : decode cL_motion 385 = .ok (.iconst 1, 1) := by decide +kernel
theorem dL_motion_386 : decode cL_motion 386 = .ok (.goto 4, 3) := by decide +kernel
theorem dL_motion_389 : decode cL_motion 389 = .ok (.iconst 0, 1) := by decide +kernel
theorem dL_motion_390 : decode cL_motion 390 = .ok (.istore 13, 2) := by decide +kernel
theorem dL_motion_392 : decode cL_motion 392 = .ok (.aload_n 0, 1) := by decide +kernel
theorem dL_motion_393 : decode cL_motion 393 = .ok (.iload_n 1, 1) := by decide +kernel
theorem dL_motion_394 : decode cL_motion 394 = .ok (.invokestatic 327, 3) := by decide +kernel
theorem dL_motion_397 : decode cL_motion 397 = .ok (.iload 9, 2) := by decide +kernel
theorem dL_motion_399 : decode cL_motion 399 = .ok (.if_icmp .ne 69, 3) := by decide +kernel
theorem dL_motion_402 : decode cL_motion 402 = .ok (.aload_n 0, 1) := by decide +kernel
theorem dL_motion_403 : decode cL_motion 403 = .ok (.iload_n 1, 1) := by decide +kernel
theorem dL_motion_404 : decode cL_motion 404 = .ok (.invokestatic 329, 3) := by decide +kernel
theorem dL_motion_407 : decode cL_motion 407 = .ok (.iload 5, 2) := by decide +kernel
theorem dL_motion_409 : decode cL_motion 409 = .ok (.if_icmp .ne 59, 3) := by decide +kernel
theorem dL_motion_412 : decode cL_motion 412 = .ok (.aload_n 0, 1) := by decide +kernel
theorem dL_motion_413 : decode cL_motion 413 = .ok (.iload_n 1, 1) := by decide +kernel
theorem dL_motion_414 : decode cL_motion 414 = .ok (.invokestatic 264, 3) := by decide +kernel
theorem dL_motion_417 : decode cL_motion 417 = .ok (.iload 5, 2) := by decide +kernel
theorem dL_motion_419 : decode cL_motion 419 = .ok (.if_icmp .gt 49, 3) := by decide +kernel
theorem dL_motion_422 : decode cL_motion 422 = .ok (.aload_n 0, 1) := by decide +kernel
theorem dL_motion_423 : decode cL_motion 423 = .ok (.iload_n 1, 1) := by decide +kernel
theorem dL_motion_424 : decode cL_motion 424 = .ok (.invokestatic 331, 3) := by decide +kernel
theorem dL_motion_427 : decode cL_motion 427 = .ok (.fload 12, 2) := by decide +kernel
theorem dL_motion_429 : decode cL_motion 429 = .ok (.fcmp .l, 1) := by decide +kernel
theorem dL_motion_430 : decode cL_motion 430 = .ok (.ifCond .ne 38, 3) := by decide +kernel
theorem dL_motion_433 : decode cL_motion 433 = .ok (.aload_n 0, 1) := by decide +kernel
theorem dL_motion_434 : decode cL_motion 434 = .ok (.iload_n 1, 1) := by decide +kernel
theorem dL_motion_435 : decode cL_motion 435 = .ok (.invokestatic 334, 3) := by decide +kernel
theorem dL_motion_438 : decode cL_motion 438 = .ok (.bipush (-2), 2) := by decide +kernel
theorem dL_motion_440 : decode cL_motion 440 = .ok (.if_icmp .ne 7, 3) := by decide +kernel
theorem dL_motion_443 : decode cL_motion 443 = .ok (.iconst 1, 1) := by decide +kernel
theorem dL_motion_444 : decode cL_motion 444 = .ok (.goto 4, 3) := by decide +kernel
theorem dL_motion_447 : decode cL_motion 447 = .ok (.iconst 0, 1) := by decide +kernel
theorem dL_motion_448 : decode cL_motion 448 = .ok (.iload 9, 2) := by decide +kernel
theorem dL_motion_450 : decode cL_motion 450 = .ok (.iload 10, 2) := by decide +kernel
theorem dL_motion_452 : decode cL_motion 452 = .ok (.iadd, 1) := by decide +kernel
theorem dL_motion_453 : decode cL_motion 453 = .ok (.ifCond .ne 7, 3) := by decide +kernel
theorem dL_motion_456 : decode cL_motion 456 = .ok (.iconst 1, 1) := by decide +kernel
theorem dL_motion_457 : decode cL_motion 457 = .ok (.goto 4, 3) := by decide +kernel
theorem dL_motion_460 : decode cL_motion 460 = .ok (.iconst 0, 1) := by decide +kernel
theorem dL_motion_461 : decode cL_motion 461 = .ok (.if_icmp .ne 7, 3) := by decide +kernel
theorem dL_motion_464 : decode cL_motion 464 = .ok (.iconst 1, 1) := by decide +kernel
theorem dL_motion_465 : decode cL_motion 465 = .ok (.goto 4, 3) := by decide +kernel
theorem dL_motion_468 : decode cL_motion 468 = .ok (.iconst 0, 1) := by decide +kernel
theorem dL_motion_469 : decode cL_motion 469 = .ok (.istore 14, 2) := by decide +kernel
theorem dL_motion_471 : decode cL_motion 471 = .ok (.iload 8, 2) := by decide +kernel
theorem dL_motion_473 : decode cL_motion 473 = .ok (.ifCond .eq 13, 3) := by decide +kernel
theorem dL_motion_476 : decode cL_motion 476 = .ok (.iload 7, 2) := by decide +kernel
theorem dL_motion_478 : decode cL_motion 478 = .ok (.ifCond .eq 71, 3) := by decide +kernel
theorem dL_motion_481 : decode cL_motion 481 = .ok (.iload 4, 2) := by decide +kernel
theorem dL_motion_483 : decode cL_motion 483 = .ok (.ifCond .ne 66, 3) := by decide +kernel
theorem dL_motion_486 : decode cL_motion 486 = .ok (.aload_n 0, 1) := by decide +kernel
theorem dL_motion_487 : decode cL_motion 487 = .ok (.iload_n 1, 1) := by decide +kernel
theorem dL_motion_488 : decode cL_motion 488 = .ok (.invokestatic 262, 3) := by decide +kernel
theorem dL_motion_491 : decode cL_motion 491 = .ok (.iconst 1, 1) := by decide +kernel
theorem dL_motion_492 : decode cL_motion 492 = .ok (.if_icmp .ne 7, 3) := by decide +kernel
theorem dL_motion_495 : decode cL_motion 495 = .ok (.iconst 1, 1) := by decide +kernel
theorem dL_motion_496 : decode cL_motion 496 = .ok (.goto 4, 3) := by decide +kernel
theorem dL_motion_499 : decode cL_motion 499 = .ok (.iconst 0, 1) := by decide +kernel
theorem dL_motion_500 : decode cL_motion 500 = .ok (.iload 8, 2) := by decide +kernel
theorem dL_motion_502 : decode cL_motion 502 = .ok (.ifCond .eq 14, 3) := by decide +kernel
theorem dL_motion_505 : decode cL_motion 505 = .ok (.iload 9, 2) := by decide +kernel
theorem dL_motion_507 : decode cL_motion 507 = .ok (.iload 10, 2) := by decide +kernel
theorem dL_motion_509 : decode cL_motion 509 = .ok (.if_icmp .le 7, 3) := by decide +kernel
theorem dL_motion_512 : decode cL_motion 512 = .ok (.iconst 1, 1) := by decide +kernel
theorem dL_motion_513 : decode cL_motion 513 = .ok (.goto 4, 3) := by decide +kernel
theorem dL_motion_516 : decode cL_motion 516 = .ok (.iconst 0, 1) := by decide +kernel
theorem dL_motion_517 : decode cL_motion 517 = .ok (.if_icmp .ne 32, 3) := by decide +kernel
theorem dL_motion_520 : decode cL_motion 520 = .ok (.iload 7, 2) := by decide +kernel
theorem dL_motion_522 : decode cL_motion 522 = .ok (.ifCond .ne 23, 3) := by decide +kernel
theorem dL_motion_525 : decode cL_motion 525 = .ok (.iload 9, 2) := by decide +kernel
theorem dL_motion_527 : decode cL_motion 527 = .ok (.iload 10, 2) := by decide +kernel
theorem dL_motion_529 : decode cL_motion 529 = .ok (.iadd, 1) := by decide +kernel
theorem dL_motion_530 : decode cL_motion 530 = .ok (.ifCond .ne 19, 3) := by decide +kernel
theorem dL_motion_533 : decode cL_motion 533 = .ok (.iconst 2, 1) := by decide +kernel
theorem dL_motion_534 : decode cL_motion 534 = .ok (.aload_n 0, 1) := by decide +kernel
theorem dL_motion_535 : decode cL_motion 535 = .ok (.iload_n 1, 1) := by decide +kernel
theorem dL_motion_536 : decode cL_motion 536 = .ok (.invokestatic 264, 3) := by decide +kernel
theorem dL_motion_539 : decode cL_motion 539 = .ok (.imul, 1) := by decide +kernel
theorem dL_motion_540 : decode cL_motion 540 = .ok (.iload 5, 2) := by decide +kernel
theorem dL_motion_542 : decode cL_motion 542 = .ok (.if_icmp .gt 7, 3) := by decide +kernel
theorem dL_motion_545 : decode cL_motion 545 = .ok (.iconst 1, 1) := by decide +kernel
theorem dL_motion_546 : decode cL_motion 546 = .ok (.goto 4, 3) := by decide +kernel
theorem dL_motion_549 : decode cL_motion 549 = .ok (.iconst 0, 1) := by decide +kernel
theorem dL_motion_550 : decode cL_motion 550 = .ok (.istore 15, 2) := by decide +kernel
theorem dL_motion_552 : decode cL_motion 552 = .ok (.iload 13, 2) := by decide +kernel
theorem dL_motion_554 : decode cL_motion 554 = .ok (.ifCond .eq 17, 3) := by decide +kernel
theorem dL_motion_557 : decode cL_motion 557 = .ok (.iload 14, 2) := by decide +kernel
theorem dL_motion_559 : decode cL_motion 559 = .ok (.ifCond .eq 12, 3) := by decide +kernel
theorem dL_motion_562 : decode cL_motion 562 = .ok (.iload 15, 2) := by decide +kernel
theorem dL_motion_564 : decode cL_motion 564 = .ok (.ifCond .eq 7, 3) := by decide +kernel
theorem dL_motion_567 : decode cL_motion 567 = .ok (.iconst 1, 1) := by decide +kernel
theorem dL_motion_568 : decode cL_motion 568 = .ok (.goto 4, 3) := by decide +kernel
theorem dL_motion_571 : decode cL_motion 571 = .ok (.iconst 0, 1) := by decide +kernel
theorem dL_motion_572 : decode cL_motion 572 = .ok (.ireturn, 1) := by decide +kernel
theorem dL_motions_0 : decode cL_motions 0 = .ok (.aload_n 0, 1) := by decide +kernel
theorem dL_motions_1 : decode cL_motions 1 = .ok (.invokevirtual 210, 3) := by decide +kernel
theorem dL_motions_4 : decode cL_motions 4 = .ok (.istore_n 1, 1) := by decide +kernel
theorem dL_motions_5 : decode cL_motions 5 = .ok (.iconst 0, 1) := by decide +kernel
theorem dL_motions_6 : decode cL_motions 6 = .ok (.istore_n 2, 1) := by decide +kernel
theorem dL_motions_7 : decode cL_motions 7 = .ok (.iconst 0, 1) := by decide +kernel
theorem dL_motions_8 : decode cL_motions 8 = .ok (.istore_n 3, 1) := by decide +kernel
theorem dL_motions_9 : decode cL_motions 9 = .ok (.iconst 0, 1) := by decide +kernel
theorem dL_motions_10 : decode cL_motions 10 = .ok (.istore 4, 2) := by decide +kernel
theorem dL_motions_12 : decode cL_motions 12 = .ok (.iload 4, 2) := by decide +kernel
theorem dL_motions_14 : decode cL_motions 14 = .ok (.iload_n 1, 1) := by decide +kernel
theorem dL_motions_15 : decode cL_motions 15 = .ok (.if_icmp .ge 38, 3) := by decide +kernel
theorem dL_motions_18 : decode cL_motions 18 = .ok (.iload_n 2, 1) := by decide +kernel
theorem dL_motions_19 : decode cL_motions 19 = .ok (.aload_n 0, 1) := by decide +kernel
theorem dL_motions_20 : decode cL_motions 20 = .ok (.iload 4, 2) := by decide +kernel
theorem dL_motions_22 : decode cL_motions 22 = .ok (.invokestatic 262, 3) := by decide +kernel
theorem dL_motions_25 : decode cL_motions 25 = .ok (.iadd, 1) := by decide +kernel
theorem dL_motions_26 : decode cL_motions 26 = .ok (.istore_n 2, 1) := by decide +kernel
theorem dL_motions_27 : decode cL_motions 27 = .ok (.iload_n 3, 1) := by decide +kernel
theorem dL_motions_28 : decode cL_motions 28 = .ok (.aload_n 0, 1) := by decide +kernel
theorem dL_motions_29 : decode cL_motions 29 = .ok (.iload 4, 2) := by decide +kernel
theorem dL_motions_31 : decode cL_motions 31 = .ok (.invokestatic 270, 3) := by decide +kernel
theorem dL_motions_34 : decode cL_motions 34 = .ok (.iadd, 1) := by decide +kernel
theorem dL_motions_35 : decode cL_motions 35 = .ok (.istore_n 3, 1) := by decide +kernel
theorem dL_motions_36 : decode cL_motions 36 = .ok (.aload_n 0, 1) := by decide +kernel
theorem dL_motions_37 : decode cL_motions 37 = .ok (.iload 4, 2) := by decide +kernel
theorem dL_motions_39 : decode cL_motions 39 = .ok (.invokestatic 336, 3) := by decide +kernel
theorem dL_motions_42 : decode cL_motions 42 = .ok (.ifCond .ne 5, 3) := by decide +kernel
theorem dL_motions_45 : decode cL_motions 45 = .ok (.iconst 0, 1) := by decide +kernel
theorem dL_motions_46 : decode cL_motions 46 = .ok (.ireturn, 1) := by decide +kernel
theorem dL_motions_47 : decode cL_motions 47 = .ok (.iinc 4 1, 3) := by decide +kernel
theorem dL_motions_50 : decode cL_motions 50 = .ok (.goto (-38), 3) := by decide +kernel
theorem dL_motions_53 : decode cL_motions 53 = .ok (.aload_n 0, 1) := by decide +kernel
theorem dL_motions_54 : decode cL_motions 54 = .ok (.invokevirtual 278, 3) := by decide +kernel
theorem dL_motions_57 : decode cL_motions 57 = .ok (.iload_n 2, 1) := by decide +kernel
theorem dL_motions_58 : decode cL_motions 58 = .ok (.if_icmp .ne 41, 3) := by decide +kernel
theorem dL_motions_61 : decode cL_motions 61 = .ok (.aload_n 0, 1) := by decide +kernel
theorem dL_motions_62 : decode cL_motions 62 = .ok (.invokevirtual 272, 3) := by decide +kernel
theorem dL_motions_65 : decode cL_motions 65 = .ok (.iload_n 3, 1) := by decide +kernel
theorem dL_motions_66 : decode cL_motions 66 = .ok (.if_icmp .ne 33, 3) := by decide +kernel
theorem dL_motions_69 : decode cL_motions 69 = .ok (.aload_n 0, 1) := by decide +kernel
theorem dL_motions_70 : decode cL_motions 70 = .ok (.iload_n 1, 1) := by decide +kernel
theorem dL_motions_71 : decode cL_motions 71 = .ok (.invokestatic 312, 3) := by decide +kernel
theorem dL_motions_74 : decode cL_motions 74 = .ok (.iconst (-1), 1) := by decide +kernel
theorem dL_motions_75 : decode cL_motions 75 = .ok (.if_icmp .ne 24, 3) := by decide +kernel
theorem dL_motions_78 : decode cL_motions 78 = .ok (.aload_n 0, 1) := by decide +kernel
theorem dL_motions_79 : decode cL_motions 79 = .ok (.iload_n 1, 1) := by decide +kernel
theorem dL_motions_80 : decode cL_motions 80 = .ok (.invokestatic 331, 3) := by decide +kernel
theorem dL_motions_83 : decode cL_motions 83 = .ok (.ldc 127, 2) := by decide +kernel
theorem dL_motions_85 : decode cL_motions 85 = .ok (.fcmp .l, 1) := by decide +kernel
theorem dL_motions_86 : decode cL_motions 86 = .ok (.ifCond .ne 13, 3) := by decide +kernel
theorem dL_motions_89 : decode cL_motions 89 = .ok (.iload_n 1, 1) := by decide +kernel
theorem dL_motions_90 : decode cL_motions 90 = .ok (.bipush 6, 2) := by decide +kernel
theorem dL_motions_92 : decode cL_motions 92 = .ok (.if_icmp .gt 7, 3) := by decide +kernel
theorem dL_motions_95 : decode cL_motions 95 = .ok (.iconst 1, 1) := by decide +kernel
theorem dL_motions_96 : decode cL_motions 96 = .ok (.goto 4, 3) := by decide +kernel
theorem dL_motions_99 : decode cL_motions 99 = .ok (.iconst 0, 1) := by decide +kernel
theorem dL_motions_100 : decode cL_motions 100 = .ok (.ireturn, 1) := by decide +kernel
theorem dL_foretold_0 : decode cL_foretold 0 = .ok (.aload_n 0, 1) := by decide +kernel
theorem dL_foretold_1 : decode cL_foretold 1 = .ok (.invokevirtual 340, 3) := by decide +kernel
theorem dL_foretold_4 : decode cL_foretold 4 = .ok (.istore_n 2, 1) := by decide +kernel
theorem dL_foretold_5 : decode cL_foretold 5 = .ok (.iconst 1, 1) := by decide +kernel
theorem dL_foretold_6 : decode cL_foretold 6 = .ok (.istore_n 3, 1) := by decide +kernel
theorem dL_foretold_7 : decode cL_foretold 7 = .ok (.iload_n 2, 1) := by decide +kernel
theorem dL_foretold_8 : decode cL_foretold 8 = .ok (.ifCond .le 405, 3) := by decide +kernel
theorem dL_foretold_11 : decode cL_foretold 11 = .ok (.aload_n 1, 1) := by decide +kernel
theorem dL_foretold_12 : decode cL_foretold 12 = .ok (.iload_n 2, 1) := by decide +kernel
theorem dL_foretold_13 : decode cL_foretold 13 = .ok (.invokevirtual 190, 3) := by decide +kernel
theorem dL_foretold_16 : decode cL_foretold 16 = .ok (.istore 4, 2) := by decide +kernel
theorem dL_foretold_18 : decode cL_foretold 18 = .ok (.aload_n 0, 1) := by decide +kernel
theorem dL_foretold_19 : decode cL_foretold 19 = .ok (.invokevirtual 272, 3) := by decide +kernel
theorem dL_foretold_22 : decode cL_foretold 22 = .ok (.istore 5, 2) := by decide +kernel
theorem dL_foretold_24 : decode cL_foretold 24 = .ok (.aload_n 0, 1) := by decide +kernel
theorem dL_foretold_25 : decode cL_foretold 25 = .ok (.invokevirtual 275, 3) := by decide +kernel
theorem dL_foretold_28 : decode cL_foretold 28 = .ok (.istore 6, 2) := by decide +kernel
theorem dL_foretold_30 : decode cL_foretold 30 = .ok (.aload_n 0, 1) := by decide +kernel
theorem dL_foretold_31 : decode cL_foretold 31 = .ok (.iload 4, 2) := by decide +kernel
theorem dL_foretold_33 : decode cL_foretold 33 = .ok (.invokestatic 312, 3) := by decide +kernel
theorem dL_foretold_36 : decode cL_foretold 36 = .ok (.istore 7, 2) := by decide +kernel
theorem dL_foretold_38 : decode cL_foretold 38 = .ok (.iconst 0, 1) := by decide +kernel
theorem dL_foretold_39 : decode cL_foretold 39 = .ok (.istore 8, 2) := by decide +kernel
theorem dL_foretold_41 : decode cL_foretold 41 = .ok (.iload 8, 2) := by decide +kernel
theorem dL_foretold_43 : decode cL_foretold 43 = .ok (.iload 7, 2) := by decide +kernel
theorem dL_foretold_45 : decode cL_foretold 45 = .ok (.if_icmp .ge 103, 3) := by decide +kernel
theorem dL_foretold_48 : decode cL_foretold 48 = .ok (.aload_n 0, 1) := by decide +kernel
theorem dL_foretold_49 : decode cL_foretold 49 = .ok (.iload 4, 2) := by decide +kernel
theorem dL_foretold_51 : decode cL_foretold 51 = .ok (.invokestatic 314, 3) := by decide +kernel
theorem dL_foretold_54 : decode cL_foretold 54 = .ok (.istore 9, 2) := by decide +kernel
theorem dL_foretold_56 : decode cL_foretold 56 = .ok (.aload_n 0, 1) := by decide +kernel
theorem dL_foretold_57 : decode cL_foretold 57 = .ok (.iload 9, 2) := by decide +kernel
theorem dL_foretold_59 : decode cL_foretold 59 = .ok (.invokestatic 249, 3) := by decide +kernel
theorem dL_foretold_62 : decode cL_foretold 62 = .ok (.istore 10, 2) := by decide +kernel
theorem dL_foretold_64 : decode cL_foretold 64 = .ok (.aload_n 0, 1) := by decide +kernel
theorem dL_foretold_65 : decode cL_foretold 65 = .ok (.iload 9, 2) := by decide +kernel
theorem dL_foretold_67 : decode cL_foretold 67 = .ok (.invokestatic 247, 3) := by decide +kernel
theorem dL_foretold_70 : decode cL_foretold 70 = .ok (.ifCond .lt 7, 3) := by decide +kernel
theorem dL_foretold_73 : decode cL_foretold 73 = .ok (.iconst 1, 1) := by decide +kernel
theorem dL_foretold_74 : decode cL_foretold 74 = .ok (.goto 4, 3) := by decide +kernel
theorem dL_foretold_77 : decode cL_foretold 77 = .ok (.iconst 0, 1) := by decide +kernel
theorem dL_foretold_78 : decode cL_foretold 78 = .ok (.istore 11, 2) := by decide +kernel
theorem dL_foretold_80 : decode cL_foretold 80 = .ok (.iload_n 3, 1) := by decide +kernel
theorem dL_foretold_81 : decode cL_foretold 81 = .ok (.aload_n 0, 1) := by decide +kernel
theorem dL_foretold_82 : decode cL_foretold 82 = .ok (.iload 4, 2) := by decide +kernel
theorem dL_foretold_84 : decode cL_foretold 84 = .ok (.invokestatic 231, 3) := by decide +kernel
theorem dL_foretold_87 : decode cL_foretold 87 = .ok (.iload 11, 2) := by decide +kernel
theorem dL_foretold_89 : decode cL_foretold 89 = .ok (.ifCond .eq 7, 3) := by decide +kernel
theorem dL_foretold_92 : decode cL_foretold 92 = .ok (.iconst 1, 1) := by decide +kernel
theorem dL_foretold_93 : decode cL_foretold 93 = .ok (.goto 4, 3) := by decide +kernel
theorem dL_foretold_96 : decode cL_foretold 96 = .ok (.iconst 0, 1) := by decide +kernel
theorem dL_foretold_97 : decode cL_foretold 97 = .ok (.if_icmp .ne 42, 3) := by decide +kernel
theorem dL_foretold_100 : decode cL_foretold 100 = .ok (.aload_n 0, 1) := by decide +kernel
theorem dL_foretold_101 : decode cL_foretold 101 = .ok (.iload 4, 2) := by decide +kernel
theorem dL_foretold_103 : decode cL_foretold 103 = .ok (.iload 9, 2) := by decide +kernel
theorem dL_foretold_105 : decode cL_foretold 105 = .ok (.invokestatic 300, 3) := by decide +kernel
theorem dL_foretold_108 : decode cL_foretold 108 = .ok (.bipush (-2), 2) := by decide +kernel
theorem dL_foretold_110 : decode cL_foretold 110 = .ok (.if_icmp .ne 29, 3) := by decide +kernel
theorem dL_foretold_113 : decode cL_foretold 113 = .ok (.aload_n 0, 1) := by decide +kernel
theorem dL_foretold_114 : decode cL_foretold 114 = .ok (.iload 9, 2) := by decide +kernel
theorem dL_foretold_116 : decode cL_foretold 116 = .ok (.invokestatic 249, 3) := by decide +kernel
theorem dL_foretold_119 : decode cL_foretold 119 = .ok (.iload 10, 2) := by decide +kernel
theorem dL_foretold_121 : decode cL_foretold 121 = .ok (.iload 11, 2) := by decide +kernel
theorem dL_foretold_123 : decode cL_foretold 123 = .ok (.ifCond .eq 7, 3) := by decide +kernel
theorem dL_foretold_126 : decode cL_foretold 126 = .ok (.iconst 1, 1) := by decide +kernel
theorem dL_foretold_127 : decode cL_foretold 127 = .ok (.goto 4, 3) := by decide +kernel
theorem dL_foretold_130 : decode cL_foretold 130 = .ok (.iconst 0, 1) := by decide +kernel
theorem dL_foretold_131 : decode cL_foretold 131 = .ok (.iadd, 1) := by decide +kernel
theorem dL_foretold_132 : decode cL_foretold 132 = .ok (.if_icmp .ne 7, 3) := by decide +kernel
theorem dL_foretold_135 : decode cL_foretold 135 = .ok (.iconst 1, 1) := by decide +kernel
theorem dL_foretold_136 : decode cL_foretold 136 = .ok (.goto 4, 3) := by decide +kernel
theorem dL_foretold_139 : decode cL_foretold 139 = .ok (.iconst 0, 1) := by decide +kernel
theorem dL_foretold_140 : decode cL_foretold 140 = .ok (.iand, 1) := by decide +kernel
theorem dL_foretold_141 : decode cL_foretold 141 = .ok (.istore_n 3, 1) := by decide +kernel
theorem dL_foretold_142 : decode cL_foretold 142 = .ok (.iinc 8 1, 3) := by decide +kernel
theorem dL_foretold_145 : decode cL_foretold 145 = .ok (.goto (-104), 3) := by decide +kernel
theorem dL_foretold_148 : decode cL_foretold 148 = .ok (.iload_n 3, 1) := by decide +kernel
theorem dL_foretold_149 : decode cL_foretold 149 = .ok (.aload_n 0, 1) := by decide +kernel
theorem dL_foretold_150 : decode cL_foretold 150 = .ok (.iload 4, 2) := by decide +kernel
theorem dL_foretold_152 : decode cL_foretold 152 = .ok (.invokestatic 231, 3) := by decide +kernel
theorem dL_foretold_155 : decode cL_foretold 155 = .ok (.bipush (-2), 2) := by decide +kernel
theorem dL_foretold_157 : decode cL_foretold 157 = .ok (.if_icmp .ne 27, 3) := by decide +kernel
theorem dL_foretold_160 : decode cL_foretold 160 = .ok (.aload_n 0, 1) := by decide +kernel
theorem dL_foretold_161 : decode cL_foretold 161 = .ok (.invokevirtual 272, 3) := by decide +kernel
theorem dL_foretold_164 : decode cL_foretold 164 = .ok (.aload_n 0, 1) := by decide +kernel
theorem dL_foretold_165 : decode cL_foretold 165 = .ok (.invokevirtual 275, 3) := by decide +kernel
theorem dL_foretold_168 : decode cL_foretold 168 = .ok (.iadd, 1) := by decide +kernel
theorem dL_foretold_169 : decode cL_foretold 169 = .ok (.iload 5, 2) := by decide +kernel
theorem dL_foretold_171 : decode cL_foretold 171 = .ok (.iload 6, 2) := by decide +kernel
theorem dL_foretold_173 : decode cL_foretold 173 = .ok (.iadd, 1) := by decide +kernel
theorem dL_foretold_174 : decode cL_foretold 174 = .ok (.iload 7, 2) := by decide +kernel
theorem dL_foretold_176 : decode cL_foretold 176 = .ok (.iadd, 1) := by decide +kernel
theorem dL_foretold_177 : decode cL_foretold 177 = .ok (.if_icmp .ne 7, 3) := by decide +kernel
theorem dL_foretold_180 : decode cL_foretold 180 = .ok (.iconst 1, 1) := by decide +kernel
theorem dL_foretold_181 : decode cL_foretold 181 = .ok (.goto 4, 3) := by decide +kernel
theorem dL_foretold_184 : decode cL_foretold 184 = .ok (.iconst 0, 1) := by decide +kernel
theorem dL_foretold_185 : decode cL_foretold 185 = .ok (.iand, 1) := by decide +kernel
theorem dL_foretold_186 : decode cL_foretold 186 = .ok (.istore_n 3, 1) := by decide +kernel
theorem dL_foretold_187 : decode cL_foretold 187 = .ok (.aload_n 0, 1) := by decide +kernel
theorem dL_foretold_188 : decode cL_foretold 188 = .ok (.iload 4, 2) := by decide +kernel
theorem dL_foretold_190 : decode cL_foretold 190 = .ok (.invokestatic 260, 3) := by decide +kernel
theorem dL_foretold_193 : decode cL_foretold 193 = .ok (.ifCond .ne 17, 3) := by decide +kernel
theorem dL_foretold_196 : decode cL_foretold 196 = .ok (.aload_n 0, 1) := by decide +kernel
theorem dL_foretold_197 : decode cL_foretold 197 = .ok (.iload 4, 2) := by decide +kernel
theorem dL_foretold_199 : decode cL_foretold 199 = .ok (.invokestatic 310, 3) := by decide +kernel
theorem dL_foretold_202 : decode cL_foretold 202 = .ok (.iconst 1, 1) := by decide +kernel
theorem dL_foretold_203 : decode cL_foretold 203 = .ok (.if_icmp .ne 7, 3) := by decide +kernel
theorem dL_foretold_206 : decode cL_foretold 206 = .ok (.iconst 1, 1) := by decide +kernel
theorem dL_foretold_207 : decode cL_foretold 207 = .ok (.goto 4, 3) := by decide +kernel
theorem dL_foretold_210 : decode cL_foretold 210 = .ok (.iconst 0, 1) := by decide +kernel
theorem dL_foretold_211 : decode cL_foretold 211 = .ok (.istore 8, 2) := by decide +kernel
theorem dL_foretold_213 : decode cL_foretold 213 = .ok (.aload_n 1, 1) := by decide +kernel
theorem dL_foretold_214 : decode cL_foretold 214 = .ok (.iconst 1, 1) := by decide +kernel
theorem dL_foretold_215 : decode cL_foretold 215 = .ok (.aload_n 0, 1) := by decide +kernel
theorem dL_foretold_216 : decode cL_foretold 216 = .ok (.invokevirtual 200, 3) := by decide +kernel
theorem dL_foretold_219 : decode cL_foretold 219 = .ok (.invokestatic 195, 3) := by decide +kernel
theorem dL_foretold_222 : decode cL_foretold 222 = .ok (.invokevirtual 190, 3) := by decide +kernel
theorem dL_foretold_225 : decode cL_foretold 225 = .ok (.istore 9, 2) := by decide +kernel
theorem dL_foretold_227 : decode cL_foretold 227 = .ok (.aload_n 0, 1) := by decide +kernel
theorem dL_foretold_228 : decode cL_foretold 228 = .ok (.iload 4, 2) := by decide +kernel
theorem dL_foretold_230 : decode cL_foretold 230 = .ok (.invokestatic 266, 3) := by decide +kernel
theorem dL_foretold_233 : decode cL_foretold 233 = .ok (.istore 10, 2) := by decide +kernel
theorem dL_foretold_235 : decode cL_foretold 235 = .ok (.iconst 1, 1) := by decide +kernel
theorem dL_foretold_236 : decode cL_foretold 236 = .ok (.aload_n 1, 1) := by decide +kernel
theorem dL_foretold_237 : decode cL_foretold 237 = .ok (.bipush 9, 2) := by decide +kernel
theorem dL_foretold_239 : decode cL_foretold 239 = .ok (.invokevirtual 190, 3) := by decide +kernel
theorem dL_foretold_242 : decode cL_foretold 242 = .ok (.iadd, 1) := by decide +kernel
theorem dL_foretold_243 : decode cL_foretold 243 = .ok (.istore 11, 2) := by decide +kernel
theorem dL_foretold_245 : decode cL_foretold 245 = .ok (.aload_n 0, 1) := by decide +kernel
theorem dL_foretold_246 : decode cL_foretold 246 = .ok (.iload 4, 2) := by decide +kernel
theorem dL_foretold_248 : decode cL_foretold 248 = .ok (.iload 9, 2) := by decide +kernel
theorem dL_foretold_250 : decode cL_foretold 250 = .ok (.iload 11, 2) := by decide +kernel
theorem dL_foretold_252 : decode cL_foretold 252 = .ok (.iconst 1, 1) := by decide +kernel
theorem dL_foretold_253 : decode cL_foretold 253 = .ok (.invokestatic 237, 3) := by decide +kernel
theorem dL_foretold_256 : decode cL_foretold 256 = .ok (.istore 12, 2) := by decide +kernel
theorem dL_foretold_258 : decode cL_foretold 258 = .ok (.iload_n 3, 1) := by decide +kernel
theorem dL_foretold_259 : decode cL_foretold 259 = .ok (.iload 12, 2) := by decide +kernel
theorem dL_foretold_261 : decode cL_foretold 261 = .ok (.ifCond .lt 51, 3) := by decide +kernel
theorem dL_foretold_264 : decode cL_foretold 264 = .ok (.iload 8, 2) := by decide +kernel
theorem dL_foretold_266 : decode cL_foretold 266 = .ok (.ifCond .eq 50, 3) := by decide +kernel
theorem dL_foretold_269 : decode cL_foretold 269 = .ok (.iload 12, 2) := by decide +kernel
theorem dL_foretold_271 : decode cL_foretold 271 = .ok (.iload 10, 2) := by decide +kernel
theorem dL_foretold_273 : decode cL_foretold 273 = .ok (.iload 11, 2) := by decide +kernel
theorem dL_foretold_275 : decode cL_foretold 275 = .ok (.aload_n 0, 1) := by decide +kernel
theorem dL_foretold_276 : decode cL_foretold 276 = .ok (.iload 9, 2) := by decide +kernel
theorem dL_foretold_278 : decode cL_foretold 278 = .ok (.invokestatic 245, 3) := by decide +kernel
theorem dL_foretold_281 : decode cL_foretold 281 = .ok (.imul, 1) := by decide +kernel
theorem dL_foretold_282 : decode cL_foretold 282 = .ok (.iadd, 1) := by decide +kernel
theorem dL_foretold_283 : decode cL_foretold 283 = .ok (.if_icmp .ne 33, 3) := by decide +kernel
theorem dL_foretold_286 : decode cL_foretold 286 = .ok (.aload_n 0, 1) := by decide +kernel
theorem dL_foretold_287 : decode cL_foretold 287 = .ok (.iload 4, 2) := by decide +kernel
theorem dL_foretold_289 : decode cL_foretold 289 = .ok (.invokestatic 266, 3) := by decide +kernel
theorem dL_foretold_292 : decode cL_foretold 292 = .ok (.iload 12, 2) := by decide +kernel
theorem dL_foretold_294 : decode cL_foretold 294 = .ok (.if_icmp .ne 22, 3) := by decide +kernel
theorem dL_foretold_297 : decode cL_foretold 297 = .ok (.aload_n 0, 1) := by decide +kernel
theorem dL_foretold_298 : decode cL_foretold 298 = .ok (.iload 4, 2) := by decide +kernel
theorem dL_foretold_300 : decode cL_foretold 300 = .ok (.iload 9, 2) := by decide +kernel
theorem dL_foretold_302 : decode cL_foretold 302 = .ok (.iconst 1, 1) := by decide +kernel
theorem dL_foretold_303 : decode cL_foretold 303 = .ok (.iconst 0, 1) := by decide +kernel
theorem dL_foretold_304 : decode cL_foretold 304 = .ok (.invokestatic 237, 3) := by decide +kernel
theorem dL_foretold_307 : decode cL_foretold 307 = .ok (.bipush (-4), 2) := by decide +kernel
theorem dL_foretold_309 : decode cL_foretold 309 = .ok (.if_icmp .ne 7, 3) := by decide +kernel
theorem dL_foretold_312 : decode cL_foretold 312 = .ok (.iconst 1, 1) := by decide +kernel
theorem dL_foretold_313 : decode cL_foretold 313 = .ok (.goto 4, 3) := by decide +kernel
theorem dL_foretold_316 : decode cL_foretold 316 = .ok (.iconst 0, 1) := by decide +kernel
theorem dL_foretold_317 : decode cL_foretold 317 = .ok (.iand, 1) := by decide +kernel
theorem dL_foretold_318 : decode cL_foretold 318 = .ok (.istore_n 3, 1) := by decide +kernel
theorem dL_foretold_319 : decode cL_foretold 319 = .ok (.aload_n 0, 1) := by decide +kernel
theorem dL_foretold_320 : decode cL_foretold 320 = .ok (.iload 4, 2) := by decide +kernel
theorem dL_foretold_322 : decode cL_foretold 322 = .ok (.invokestatic 266, 3) := by decide +kernel
theorem dL_foretold_325 : decode cL_foretold 325 = .ok (.aload_n 0, 1) := by decide +kernel
theorem dL_foretold_326 : decode cL_foretold 326 = .ok (.iload 4, 2) := by decide +kernel
theorem dL_foretold_328 : decode cL_foretold 328 = .ok (.invokestatic 268, 3) := by decide +kernel
theorem dL_foretold_331 : decode cL_foretold 331 = .ok (.if_icmp .le 7, 3) := by decide +kernel
theorem dL_foretold_334 : decode cL_foretold 334 = .ok (.iconst 1, 1) := by decide +kernel
theorem dL_foretold_335 : decode cL_foretold 335 = .ok (.goto 4, 3) := by decide +kernel
theorem dL_foretold_338 : decode cL_foretold 338 = .ok (.iconst 0, 1) := by decide +kernel
theorem dL_foretold_339 : decode cL_foretold 339 = .ok (.istore 13, 2) := by decide +kernel
theorem dL_foretold_341 : decode cL_foretold 341 = .ok (.iload_n 3, 1) := by decide +kernel
theorem dL_foretold_342 : decode cL_foretold 342 = .ok (.aload_n 0, 1) := by decide +kernel
theorem dL_foretold_343 : decode cL_foretold 343 = .ok (.iload 4, 2) := by decide +kernel
theorem dL_foretold_345 : decode cL_foretold 345 = .ok (.invokestatic 235, 3) := by decide +kernel
theorem dL_foretold_348 : decode cL_foretold 348 = .ok (.iload 8, 2) := by decide +kernel
theorem dL_foretold_350 : decode cL_foretold 350 = .ok (.ifCond .eq 16, 3) := by decide +kernel
theorem dL_foretold_353 : decode cL_foretold 353 = .ok (.iload 13, 2) := by decide +kernel
theorem dL_foretold_355 : decode cL_foretold 355 = .ok (.ifCond .eq 7, 3) := by decide +kernel
theorem dL_foretold_358 : decode cL_foretold 358 = .ok (.iconst 1, 1) := by decide +kernel
theorem dL_foretold_359 : decode cL_foretold 359 = .ok (.goto 9, 3) := by decide +kernel
theorem dL_foretold_362 : decode cL_foretold 362 = .ok (.iconst 0, 1) := by decide +kernel
theorem dL_foretold_363 : decode cL_foretold 363 = .ok (.goto 5, 3) := by decide +kernel
theorem dL_foretold_366 : decode cL_foretold 366 = .ok (.bipush (-2), 2) := by decide +kernel
theorem dL_foretold_368 : decode cL_foretold 368 = .ok (.if_icmp .ne 42, 3) := by decide +kernel
theorem dL_foretold_371 : decode cL_foretold 371 = .ok (.iload 8, 2) := by decide +kernel
theorem dL_foretold_373 : decode cL_foretold 373 = .ok (.ifCond .eq 33, 3) := by decide +kernel
theorem dL_foretold_376 : decode cL_foretold 376 = .ok (.aload_n 0, 1) := by decide +kernel
theorem dL_foretold_377 : decode cL_foretold 377 = .ok (.iload 4, 2) := by decide +kernel
theorem dL_foretold_379 : decode cL_foretold 379 = .ok (.invokestatic 262, 3) := by decide +kernel
theorem dL_foretold_382 : decode cL_foretold 382 = .ok (.iload 13, 2) := by decide +kernel
theorem dL_foretold_384 : decode cL_foretold 384 = .ok (.ifCond .eq 7, 3) := by decide +kernel
theorem dL_foretold_387 : decode cL_foretold 387 = .ok (.iconst 1, 1) := by decide +kernel
theorem dL_foretold_388 : decode cL_foretold 388 = .ok (.goto 4, 3) := by decide +kernel
theorem dL_foretold_391 : decode cL_foretold 391 = .ok (.iconst 0, 1) := by decide +kernel
theorem dL_foretold_392 : decode cL_foretold 392 = .ok (.if_icmp .ne 18, 3) := by decide +kernel
theorem dL_foretold_395 : decode cL_foretold 395 = .ok (.aload_n 0, 1) := by decide +kernel
theorem dL_foretold_396 : decode cL_foretold 396 = .ok (.iload 4, 2) := by decide +kernel
theorem dL_foretold_398 : decode cL_foretold 398 = .ok (.invokestatic 235, 3) := by decide +kernel
theorem dL_foretold_401 : decode cL_foretold 401 = .ok (.bipush (-2), 2) := by decide +kernel
theorem dL_foretold_403 : decode cL_foretold 403 = .ok (.if_icmp .ne 7, 3) := by decide +kernel
theorem dL_foretold_406 : decode cL_foretold 406 = .ok (.iconst 1, 1) := by decide +kernel
theorem dL_foretold_407 : decode cL_foretold 407 = .ok (.goto 4, 3) := by decide +kernel
theorem dL_foretold_410 : decode cL_foretold 410 = .ok (.iconst 0, 1) := by decide +kernel
theorem dL_foretold_411 : decode cL_foretold 411 = .ok (.iand, 1) := by decide +kernel
theorem dL_foretold_412 : decode cL_foretold 412 = .ok (.istore_n 3, 1) := by decide +kernel
theorem dL_foretold_413 : decode cL_foretold 413 = .ok (.aload_n 0, 1) := by decide +kernel
theorem dL_foretold_414 : decode cL_foretold 414 = .ok (.invokestatic 343, 3) := by decide +kernel
theorem dL_foretold_417 : decode cL_foretold 417 = .ok (.iload_n 2, 1) := by decide +kernel
theorem dL_foretold_418 : decode cL_foretold 418 = .ok (.if_icmp .ne 11, 3) := by decide +kernel
theorem dL_foretold_421 : decode cL_foretold 421 = .ok (.iload_n 3, 1) := by decide +kernel
theorem dL_foretold_422 : decode cL_foretold 422 = .ok (.ifCond .eq 7, 3) := by decide +kernel
theorem dL_foretold_425 : decode cL_foretold 425 = .ok (.iconst 1, 1) := by decide +kernel
theorem dL_foretold_426 : decode cL_foretold 426 = .ok (.goto 4, 3) := by decide +kernel
theorem dL_foretold_429 : decode cL_foretold 429 = .ok (.iconst 0, 1) := by decide +kernel
theorem dL_foretold_430 : decode cL_foretold 430 = .ok (.ireturn, 1) := by decide +kernel
